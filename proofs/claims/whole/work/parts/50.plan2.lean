/-! the class: the plan is made, and holds -/
theorem fe_and12 {s k : Nat} : (fe_z (s : Int) &&& fe_z ((2 ^ k : Nat) : Int) = fe_z ((s &&& 2 ^ k : Nat) : Int)) := fe_z_and s (2 ^ k)
theorem fe_shl6 : ∀ k, k < 6 → fe_z ((2 ^ k : Nat) : Int) <<< (fe_z 1 &&& 31) = fe_z ((2 ^ (k + 1) : Nat) : Int) := by decide +kernel
theorem fe_gd_n {Nd : Nat → Prop} {sh n s : Nat} {p : Bool} (hn : n ≤ 12) (hs : s < 2 ^ n) : fe_gd Nd sh 12 p s ↔ fe_gd Nd sh n p s := by
  unfold fe_gd
  constructor
  · rintro ⟨h1, h2⟩
    exact ⟨h1, fun hp c hc hb => h2 hp c (by omega) hb⟩
  · rintro ⟨h1, h2⟩
    refine ⟨h1, fun hp c hc hb => h2 hp c ?_ hb⟩
    by_cases hcn : c < n
    · exact hcn
    · rw [Nat.testBit_lt_two_pow (Nat.lt_of_lt_of_le hs (Nat.pow_le_pow_right (by omega) (by omega)))] at hb
      cases hb
section Fe50
variable {E : fe_E} {b : Nat} {N : Nat × Nat × Nat} {r : Nat → Option fe_C} {B : Nat → Int} {D : Nat → Int → Int} {M : Int → Int64} {V : Nat → Int} {A : Int → Int} {Z : Nat → Int → Bool} {T : fe_Et} {I : Nat → Nat → Int} {O : Nat → Int → Int} {L : Nat → Int → Bool} {C : Nat → Nat → Int → Int} {K : fe_R → fe_H → Prop}
theorem fe_m28 (hT : fe_wf b T) (htw : E.2.2.2 < b) (hK : ∀ M', (∀ s, s < 4096 → fe_mb M' s = fe_ztr (fe_mb M) 12 s) → K (.inl none) (fe_mk b N (fe_cc b B D M' V A Z T I O L C) r)) : fe_WP E 28 0 [some (.ref (b + 11)), none, none] [] (fe_mk b N (fe_cc b B D M V A Z T I O L C) r) K := by
  have hnone : ∀ M', fe_get (fe_mk b N (fe_cc b B D M' V A Z T I O L C) r) E.2.2.2 = none := fun M' => by
    rw [fe_mk_gc (by omega)]
    simp only [fe_cc]
    iterate 15 rw [if_neg (by omega)]
    unfold fe_eye
    cases hW : T.2.1 E.2.2.2 with
    | none => rfl
    | some q =>
      obtain ⟨e', k'⟩ := q
      obtain ⟨h5, h6, h7⟩ := hT.2.1 _ e' k' hW
      have := hT.2.2 e' h5
      omega
  have hst : ∀ M' (k : Nat), k < 6 → fe_ja E (fe_mk b N (fe_cc b B D M' V A Z T I O L C) r) E.2.2.2 (fe_z (k : Int)) = some (fe_wb k) := fun M' k hk => by
    have hi : fe_inb (fe_z (k : Int)) 6 = true := fe_z_inb (by omega) (by omega) (by omega)
    simp only [fe_ja, hnone M', hi, and_self, if_true, fe_z_nat (a := (k : Int)) (by omega) (by omega), Int.toNat_natCast]
  have LW2 : ∀ k : Nat, k < 6 → (∀ M' o2, (∀ s, s < 4096 → fe_mb M' s = fe_ztr (fe_mb M) (6 + (k + 1)) s) → fe_WP E 28 55 [some (.ref (b + 11)), some (.int (fe_z ((2 ^ (k + 1) : Nat) : Int))), o2] [] (fe_mk b N (fe_cc b B D M' V A Z T I O L C) r) K) →
      ∀ w, w ≤ 64 → ∀ M', (∀ s, s < 4096 → fe_mb M' s = if s / 64 < w then fe_ztr (fe_mb M) (6 + k + 1) s else fe_ztr (fe_mb M) (6 + k) s) → fe_WP E 28 63 [some (.ref (b + 11)), some (.int (fe_z ((2 ^ k : Nat) : Int))), some (.int (fe_z (w : Int)))] [] (fe_mk b N (fe_cc b B D M' V A Z T I O L C) r) K := by
    intro k hk hout
    have h2k : 2 ^ k ≤ 32 := Nat.pow_le_pow_right (n := 2) (i := k) (j := 5) (by omega) (by omega)
    have hpk := Nat.two_pow_pos k
    refine fe_down 64 ?_ ?_
    · intro M' g
      rw [fe_e28_63]
      simp (maxSteps := 4000000) (disch := omega) only [fe_e28_0, fe_e28_1, fe_e28_2, fe_e28_3, fe_e28_5, fe_e28_8, fe_e28_9, fe_e28_10, fe_e28_11, fe_e28_13, fe_e28_16, fe_e28_17, fe_e28_20, fe_e28_21, fe_e28_22, fe_e28_23, fe_e28_24, fe_e28_27, fe_e28_28, fe_e28_29, fe_e28_32, fe_e28_33, fe_e28_34, fe_e28_35, fe_e28_36, fe_e28_37, fe_e28_38, fe_e28_39, fe_e28_40, fe_e28_41, fe_e28_44, fe_e28_47, fe_e28_50, fe_e28_53, fe_e28_54, fe_e28_56, fe_e28_58, fe_e28_61, fe_e28_62, fe_e28_64, fe_e28_66, fe_e28_70, fe_e28_71, fe_e28_72, fe_e28_75, fe_e28_76, fe_e28_79, fe_e28_80, fe_e28_81, fe_e28_82, fe_e28_83, fe_e28_86, fe_e28_87, fe_e28_88, fe_e28_89, fe_e28_90, fe_e28_91, fe_e28_92, fe_e28_95, fe_e28_98, fe_e28_99, fe_e28_100, fe_e28_101, fe_e28_102, fe_e28_105, Option.some.injEq, exists_eq_left', fe_KB_r, fe_KB_v, fe_z_add, fe_z_sub, fe_z_mul, fe_z_neg, fe_bi0, fe_bi1, fe_bibi, fe_bi01, fe_z01, fe_z11, true_and, and_true, if_true, if_false, ite_not, not_true_eq_false, not_false_eq_true, Bool.false_eq_true, Bool.true_eq_false, fe_z_mod, fe_z_eq, fe_z_lt, fe_z_le, fe_z_div, Int.reduceEq, Int.reduceLT, Int.reduceLE, Int.reduceNeg, ↓reduceIte, eq_self, Nat.reduceAdd, fe_bor, fe_tb_bi, fe_tb_0, fe_tb_1, fe_un_at, Nat.reduceEqDiff, or_false, or_true, true_or, false_or, Int.le_refl, Int.cast_ofNat_Int, fe_shl6 k hk]
      refine hout M' _ (fun s hs => ?_)
      rw [g s hs, if_pos (by omega)]
      rfl
    · intro w hw ih M' g
      have step : ∀ M'', (∀ s, s < 4096 → s / 64 = w → fe_mb M'' s = fe_ztr (fe_mb M) (6 + k + 1) s) → (∀ s, s < 4096 → ¬ s / 64 = w → fe_mb M'' s = fe_mb M' s) → fe_WP E 28 63 [some (.ref (b + 11)), some (.int (fe_z ((2 ^ k : Nat) : Int))), some (.int (fe_z ((w : Int) + 1)))] [] (fe_mk b N (fe_cc b B D M'' V A Z T I O L C) r) K := fun M'' h1 h2 => ih M'' (fun s hs => by
        by_cases hsw : s / 64 = w
        · rw [if_pos (by omega)]
          exact h1 s hs hsw
        · rw [h2 s hs hsw, g s hs]
          by_cases h3 : s / 64 < w
          · rw [if_pos h3, if_pos (by omega)]
          · rw [if_neg h3, if_neg (by omega)])
      have hbit : ∀ s, s / 64 = w → s.testBit (6 + k) = w.testBit k := fun s h => by
        rw [← h, Nat.add_comm 6 k]
        exact (Nat.testBit_div_two_pow (n := 6) (i := k) s).symm
      rw [fe_e28_63]
      by_cases hb : w.testBit k = true
      · have hwk := fe_xs1 (s := w) (k := k) (by omega) (by omega) hb
        have e1 : (w : Int) - ((2 ^ k : Nat) : Int) = ((w - 2 ^ k : Nat) : Int) := by omega
        simp (maxSteps := 4000000) (disch := omega) only [fe_e28_0, fe_e28_1, fe_e28_2, fe_e28_3, fe_e28_5, fe_e28_8, fe_e28_9, fe_e28_10, fe_e28_11, fe_e28_13, fe_e28_16, fe_e28_17, fe_e28_20, fe_e28_21, fe_e28_22, fe_e28_23, fe_e28_24, fe_e28_27, fe_e28_28, fe_e28_29, fe_e28_32, fe_e28_33, fe_e28_34, fe_e28_35, fe_e28_36, fe_e28_37, fe_e28_38, fe_e28_39, fe_e28_40, fe_e28_41, fe_e28_44, fe_e28_47, fe_e28_50, fe_e28_53, fe_e28_54, fe_e28_55, fe_e28_56, fe_e28_58, fe_e28_61, fe_e28_62, fe_e28_64, fe_e28_66, fe_e28_69, fe_e28_70, fe_e28_71, fe_e28_72, fe_e28_75, fe_e28_76, fe_e28_79, fe_e28_80, fe_e28_81, fe_e28_82, fe_e28_83, fe_e28_86, fe_e28_87, fe_e28_88, fe_e28_89, fe_e28_90, fe_e28_91, fe_e28_92, fe_e28_95, fe_e28_99, fe_e28_100, fe_e28_101, fe_e28_102, fe_e28_105, Option.some.injEq, exists_eq_left', fe_KB_r, fe_KB_v, fe_z_add, fe_z_sub, fe_z_mul, fe_z_neg, fe_bi0, fe_bi1, fe_bibi, fe_bi01, fe_z01, fe_z11, true_and, and_true, if_true, if_false, ite_not, not_true_eq_false, not_false_eq_true, Bool.false_eq_true, Bool.true_eq_false, fe_z_mod, fe_z_eq, fe_z_lt, fe_z_le, fe_z_div, Int.reduceEq, Int.reduceLT, Int.reduceLE, Int.reduceNeg, ↓reduceIte, eq_self, Nat.reduceAdd, fe_bor, fe_tb_bi, fe_tb_0, fe_tb_1, fe_un_at, Nat.reduceEqDiff, or_false, or_true, true_or, false_or, Int.le_refl, fe_ob0, fe_g0_0, fe_g0_1, fe_g0_2, fe_p0_2, fe_g0_3, fe_g0_4, fe_g0_5, fe_p0_5, fe_g0_6, fe_ob1, fe_g1_0, fe_g1_1, fe_g1_2, fe_g1_3, fe_ob5, fe_g5_0, fe_p5_0, fe_g5_1, fe_p5_1, fe_g5_2, fe_p5_2, fe_g5_3, fe_p5_3, fe_g5_4, fe_p5_4, fe_g5_5, fe_p5_5, fe_g5_6, fe_p5_6, fe_g5_7, fe_p5_7, fe_g5_8, fe_p5_8, fe_g5_9, fe_p5_9, fe_ob7, fe_g7_0, fe_g7_1, fe_g7_2, fe_ob11, fe_g11_0, fe_g11_1, fe_p11_1, fe_ob13, fe_g13_0, fe_g13_1, fe_p13_1, fe_g13_2, fe_p13_2, fe_g13_3, fe_p13_3, fe_g13_4, fe_p13_4, fe_g13_5, fe_p13_5, fe_aa2, fe_sa2, fe_ll2, fe_aa3, fe_sa3, fe_ll3, fe_aa4, fe_sa4, fe_ll4, fe_aa8, fe_sa8, fe_ll8, fe_aa9, fe_sa9, fe_ll9, fe_aa10, fe_sa10, fe_ll10, fe_aa12, fe_sa12, fe_aa14, fe_sa14, fe_ll14, fe_aa6, fe_aa6n, fe_ll6, fe_obE, fe_gE_0, fe_gE_1, fe_gE_2, fe_gE_3, fe_gE_4, fe_gE_5, fe_gE_6, fe_gE_7, fe_gE_8, fe_gE_9, fe_gE_10, fe_gE_11, fe_pE_7, fe_pE_8, fe_aE1, fe_sE1, fe_lE1, fe_aE2, fe_sE2, fe_aE3, fe_sE3, fe_lE3, fe_aE4, fe_sE4, fe_lE4, fe_and2 (show k < 31 by omega), hb, e1]
        rw [if_neg (by omega)]
        refine step _ (fun s hs hsw => ?_) (fun s hs hsw => ?_)
        · rw [fe_mb_up, if_pos hsw, fe_lb_or]
          have hs2 := fe_xs1 (s := s) (k := 6 + k) hs (by omega) (by rw [hbit s hsw]; exact hb)
          have hp : 2 ^ (6 + k) = 64 * 2 ^ k := by rw [Nat.pow_add]
          have d1 : (s - 2 ^ (6 + k)) / 64 = w - 2 ^ k := by omega
          have d2 : (s - 2 ^ (6 + k)) % 64 = s % 64 := by omega
          have m1 : fe_lb (M' ((w : Nat) : Int)) (s % 64) = fe_mb M' s := by
            unfold fe_mb
            rw [hsw]
          have m2 : fe_lb (M' ((w - 2 ^ k : Nat) : Int)) (s % 64) = fe_mb M' (s - 2 ^ (6 + k)) := by
            unfold fe_mb
            rw [d1, d2]
          have hp2 := Nat.two_pow_pos k
          rw [m1, m2, g s hs, if_neg (by omega), g _ (by omega), if_pos (by omega)]
          have hclr : (s - 2 ^ (6 + k)).testBit (6 + k) = false := by
            rw [← hs2.2, Nat.testBit_xor, Nat.testBit_two_pow_self, hbit s hsw, hb]
            rfl
          have e2 : fe_ztr (fe_mb M) (6 + k + 1) (s - 2 ^ (6 + k)) = fe_ztr (fe_mb M) (6 + k) (s - 2 ^ (6 + k)) := by
            show (fe_ztr (fe_mb M) (6 + k) (s - 2 ^ (6 + k)) || ((s - 2 ^ (6 + k)).testBit (6 + k) && _)) = _
            rw [hclr, Bool.false_and, Bool.or_false]
          rw [e2]
          show _ = (fe_ztr (fe_mb M) (6 + k) s || (s.testBit (6 + k) && fe_ztr (fe_mb M) (6 + k) (s ^^^ 2 ^ (6 + k))))
          rw [hbit s hsw, hb, Bool.true_and, hs2.2]
        · rw [fe_mb_up, if_neg hsw]
      · rw [Bool.not_eq_true] at hb
        simp (maxSteps := 4000000) (disch := omega) only [fe_e28_0, fe_e28_1, fe_e28_2, fe_e28_3, fe_e28_5, fe_e28_8, fe_e28_9, fe_e28_10, fe_e28_11, fe_e28_13, fe_e28_16, fe_e28_17, fe_e28_20, fe_e28_21, fe_e28_22, fe_e28_23, fe_e28_24, fe_e28_27, fe_e28_28, fe_e28_29, fe_e28_32, fe_e28_33, fe_e28_34, fe_e28_35, fe_e28_36, fe_e28_37, fe_e28_38, fe_e28_39, fe_e28_40, fe_e28_41, fe_e28_44, fe_e28_47, fe_e28_50, fe_e28_53, fe_e28_54, fe_e28_55, fe_e28_56, fe_e28_58, fe_e28_61, fe_e28_62, fe_e28_64, fe_e28_66, fe_e28_69, fe_e28_70, fe_e28_71, fe_e28_72, fe_e28_75, fe_e28_76, fe_e28_79, fe_e28_80, fe_e28_81, fe_e28_82, fe_e28_83, fe_e28_86, fe_e28_87, fe_e28_88, fe_e28_89, fe_e28_90, fe_e28_91, fe_e28_92, fe_e28_95, fe_e28_99, fe_e28_100, fe_e28_101, fe_e28_102, fe_e28_105, Option.some.injEq, exists_eq_left', fe_KB_r, fe_KB_v, fe_z_add, fe_z_sub, fe_z_mul, fe_z_neg, fe_bi0, fe_bi1, fe_bibi, fe_bi01, fe_z01, fe_z11, true_and, and_true, if_true, if_false, ite_not, not_true_eq_false, not_false_eq_true, Bool.false_eq_true, Bool.true_eq_false, fe_z_mod, fe_z_eq, fe_z_lt, fe_z_le, fe_z_div, Int.reduceEq, Int.reduceLT, Int.reduceLE, Int.reduceNeg, ↓reduceIte, eq_self, Nat.reduceAdd, fe_bor, fe_tb_bi, fe_tb_0, fe_tb_1, fe_un_at, Nat.reduceEqDiff, or_false, or_true, true_or, false_or, Int.le_refl, fe_ob0, fe_g0_0, fe_g0_1, fe_g0_2, fe_p0_2, fe_g0_3, fe_g0_4, fe_g0_5, fe_p0_5, fe_g0_6, fe_ob1, fe_g1_0, fe_g1_1, fe_g1_2, fe_g1_3, fe_ob5, fe_g5_0, fe_p5_0, fe_g5_1, fe_p5_1, fe_g5_2, fe_p5_2, fe_g5_3, fe_p5_3, fe_g5_4, fe_p5_4, fe_g5_5, fe_p5_5, fe_g5_6, fe_p5_6, fe_g5_7, fe_p5_7, fe_g5_8, fe_p5_8, fe_g5_9, fe_p5_9, fe_ob7, fe_g7_0, fe_g7_1, fe_g7_2, fe_ob11, fe_g11_0, fe_g11_1, fe_p11_1, fe_ob13, fe_g13_0, fe_g13_1, fe_p13_1, fe_g13_2, fe_p13_2, fe_g13_3, fe_p13_3, fe_g13_4, fe_p13_4, fe_g13_5, fe_p13_5, fe_aa2, fe_sa2, fe_ll2, fe_aa3, fe_sa3, fe_ll3, fe_aa4, fe_sa4, fe_ll4, fe_aa8, fe_sa8, fe_ll8, fe_aa9, fe_sa9, fe_ll9, fe_aa10, fe_sa10, fe_ll10, fe_aa12, fe_sa12, fe_aa14, fe_sa14, fe_ll14, fe_aa6, fe_aa6n, fe_ll6, fe_obE, fe_gE_0, fe_gE_1, fe_gE_2, fe_gE_3, fe_gE_4, fe_gE_5, fe_gE_6, fe_gE_7, fe_gE_8, fe_gE_9, fe_gE_10, fe_gE_11, fe_pE_7, fe_pE_8, fe_aE1, fe_sE1, fe_lE1, fe_aE2, fe_sE2, fe_aE3, fe_sE3, fe_lE3, fe_aE4, fe_sE4, fe_lE4, fe_and2 (show k < 31 by omega), hb]
        rw [if_neg (by omega)]
        refine step M' (fun s hs hsw => ?_) (fun s hs hsw => rfl)
        rw [g s hs, if_neg (by omega)]
        show _ = (fe_ztr (fe_mb M) (6 + k) s || (s.testBit (6 + k) && fe_ztr (fe_mb M) (6 + k) (s ^^^ 2 ^ (6 + k))))
        rw [hbit s hsw, hb, Bool.false_and, Bool.or_false]
  have LB2 : ∀ k, k ≤ 6 → ∀ M' o2, (∀ s, s < 4096 → fe_mb M' s = fe_ztr (fe_mb M) (6 + k) s) → fe_WP E 28 55 [some (.ref (b + 11)), some (.int (fe_z ((2 ^ k : Nat) : Int))), o2] [] (fe_mk b N (fe_cc b B D M' V A Z T I O L C) r) K := by
    refine fe_down 6 ?_ ?_
    · intro M' o2 g
      rw [fe_e28_55, show ((2 ^ 6 : Nat) : Int) = 64 from rfl]
      simp (maxSteps := 4000000) (disch := omega) only [fe_e28_0, fe_e28_1, fe_e28_2, fe_e28_3, fe_e28_5, fe_e28_8, fe_e28_9, fe_e28_10, fe_e28_11, fe_e28_13, fe_e28_16, fe_e28_17, fe_e28_20, fe_e28_21, fe_e28_22, fe_e28_23, fe_e28_24, fe_e28_27, fe_e28_28, fe_e28_29, fe_e28_32, fe_e28_33, fe_e28_34, fe_e28_35, fe_e28_36, fe_e28_37, fe_e28_38, fe_e28_39, fe_e28_40, fe_e28_41, fe_e28_44, fe_e28_47, fe_e28_50, fe_e28_53, fe_e28_54, fe_e28_56, fe_e28_58, fe_e28_62, fe_e28_63, fe_e28_64, fe_e28_66, fe_e28_69, fe_e28_70, fe_e28_71, fe_e28_72, fe_e28_75, fe_e28_76, fe_e28_79, fe_e28_80, fe_e28_81, fe_e28_82, fe_e28_83, fe_e28_86, fe_e28_87, fe_e28_88, fe_e28_89, fe_e28_90, fe_e28_91, fe_e28_92, fe_e28_95, fe_e28_98, fe_e28_99, fe_e28_100, fe_e28_101, fe_e28_102, fe_e28_105, Option.some.injEq, exists_eq_left', fe_KB_r, fe_KB_v, fe_z_add, fe_z_sub, fe_z_mul, fe_z_neg, fe_bi0, fe_bi1, fe_bibi, fe_bi01, fe_z01, fe_z11, true_and, and_true, if_true, if_false, ite_not, not_true_eq_false, not_false_eq_true, Bool.false_eq_true, Bool.true_eq_false, fe_z_mod, fe_z_eq, fe_z_lt, fe_z_le, fe_z_div, Int.reduceEq, Int.reduceLT, Int.reduceLE, Int.reduceNeg, ↓reduceIte, eq_self, Nat.reduceAdd, fe_bor, fe_tb_bi, fe_tb_0, fe_tb_1, fe_un_at, Nat.reduceEqDiff, or_false, or_true, true_or, false_or, Int.le_refl]
      exact hK M' g
    · intro k hk ih M' o2 g
      have h2k : 2 ^ k ≤ 32 := Nat.pow_le_pow_right (n := 2) (i := k) (j := 5) (by omega) (by omega)
      generalize hz : 2 ^ k = z at h2k ⊢
      rw [fe_e28_55]
      simp (maxSteps := 4000000) (disch := omega) only [fe_e28_0, fe_e28_1, fe_e28_2, fe_e28_3, fe_e28_5, fe_e28_8, fe_e28_9, fe_e28_10, fe_e28_11, fe_e28_13, fe_e28_16, fe_e28_17, fe_e28_20, fe_e28_21, fe_e28_22, fe_e28_23, fe_e28_24, fe_e28_27, fe_e28_28, fe_e28_29, fe_e28_32, fe_e28_33, fe_e28_34, fe_e28_35, fe_e28_36, fe_e28_37, fe_e28_38, fe_e28_39, fe_e28_40, fe_e28_41, fe_e28_44, fe_e28_47, fe_e28_50, fe_e28_53, fe_e28_54, fe_e28_56, fe_e28_58, fe_e28_61, fe_e28_62, fe_e28_64, fe_e28_66, fe_e28_69, fe_e28_70, fe_e28_71, fe_e28_72, fe_e28_75, fe_e28_76, fe_e28_79, fe_e28_80, fe_e28_81, fe_e28_82, fe_e28_83, fe_e28_86, fe_e28_87, fe_e28_88, fe_e28_89, fe_e28_90, fe_e28_91, fe_e28_92, fe_e28_95, fe_e28_98, fe_e28_99, fe_e28_100, fe_e28_101, fe_e28_102, fe_e28_105, Option.some.injEq, exists_eq_left', fe_KB_r, fe_KB_v, fe_z_add, fe_z_sub, fe_z_mul, fe_z_neg, fe_bi0, fe_bi1, fe_bibi, fe_bi01, fe_z01, fe_z11, true_and, and_true, if_true, if_false, ite_not, not_true_eq_false, not_false_eq_true, Bool.false_eq_true, Bool.true_eq_false, fe_z_mod, fe_z_eq, fe_z_lt, fe_z_le, fe_z_div, Int.reduceEq, Int.reduceLT, Int.reduceLE, Int.reduceNeg, ↓reduceIte, eq_self, Nat.reduceAdd, fe_bor, fe_tb_bi, fe_tb_0, fe_tb_1, fe_un_at, Nat.reduceEqDiff, or_false, or_true, true_or, false_or, Int.le_refl]
      rw [if_neg (by omega), ← hz]
      exact LW2 k hk (fun M' o2 h => ih M' o2 h) 0 (by omega) M' (fun s hs => by rw [g s hs, if_neg (by omega)])
  have LW1 : ∀ k : Nat, k < 6 → (∀ M' o2, (∀ s, s < 4096 → fe_mb M' s = fe_ztr (fe_mb M) (k + 1) s) → fe_WP E 28 2 [some (.ref (b + 11)), some (.int (fe_z ((k : Int) + 1))), o2] [] (fe_mk b N (fe_cc b B D M' V A Z T I O L C) r) K) →
      ∀ w, w ≤ 64 → ∀ M', (∀ s, s < 4096 → fe_mb M' s = if s / 64 < w then fe_ztr (fe_mb M) (k + 1) s else fe_ztr (fe_mb M) k s) → fe_WP E 28 10 [some (.ref (b + 11)), some (.int (fe_z (k : Int))), some (.int (fe_z (w : Int)))] [] (fe_mk b N (fe_cc b B D M' V A Z T I O L C) r) K := by
    intro k hk hout
    have h2k : 2 ^ k ≤ 32 := Nat.pow_le_pow_right (n := 2) (i := k) (j := 5) (by omega) (by omega)
    have hpk := Nat.two_pow_pos k
    refine fe_down 64 ?_ ?_
    · intro M' g
      rw [fe_e28_10]
      simp (maxSteps := 4000000) (disch := omega) only [fe_e28_0, fe_e28_1, fe_e28_3, fe_e28_5, fe_e28_8, fe_e28_9, fe_e28_11, fe_e28_13, fe_e28_17, fe_e28_20, fe_e28_21, fe_e28_22, fe_e28_23, fe_e28_24, fe_e28_27, fe_e28_28, fe_e28_29, fe_e28_32, fe_e28_33, fe_e28_34, fe_e28_35, fe_e28_36, fe_e28_37, fe_e28_38, fe_e28_39, fe_e28_40, fe_e28_41, fe_e28_44, fe_e28_47, fe_e28_50, fe_e28_53, fe_e28_54, fe_e28_55, fe_e28_56, fe_e28_58, fe_e28_61, fe_e28_62, fe_e28_63, fe_e28_64, fe_e28_66, fe_e28_69, fe_e28_70, fe_e28_71, fe_e28_72, fe_e28_75, fe_e28_76, fe_e28_79, fe_e28_80, fe_e28_81, fe_e28_82, fe_e28_83, fe_e28_86, fe_e28_87, fe_e28_88, fe_e28_89, fe_e28_90, fe_e28_91, fe_e28_92, fe_e28_95, fe_e28_98, fe_e28_99, fe_e28_100, fe_e28_101, fe_e28_102, fe_e28_105, Option.some.injEq, exists_eq_left', fe_KB_r, fe_KB_v, fe_z_add, fe_z_sub, fe_z_mul, fe_z_neg, fe_bi0, fe_bi1, fe_bibi, fe_bi01, fe_z01, fe_z11, true_and, and_true, if_true, if_false, ite_not, not_true_eq_false, not_false_eq_true, Bool.false_eq_true, Bool.true_eq_false, fe_z_mod, fe_z_eq, fe_z_lt, fe_z_le, fe_z_div, Int.reduceEq, Int.reduceLT, Int.reduceLE, Int.reduceNeg, ↓reduceIte, eq_self, Nat.reduceAdd, fe_bor, fe_tb_bi, fe_tb_0, fe_tb_1, fe_un_at, Nat.reduceEqDiff, or_false, or_true, true_or, false_or, Int.le_refl, Int.cast_ofNat_Int]
      exact hout M' _ (fun s hs => by rw [g s hs, if_pos (by omega)])
    · intro w hw ih M' g
      rw [fe_e28_10]
      simp (maxSteps := 4000000) (disch := omega) only [fe_e28_0, fe_e28_1, fe_e28_2, fe_e28_3, fe_e28_5, fe_e28_8, fe_e28_9, fe_e28_11, fe_e28_13, fe_e28_16, fe_e28_17, fe_e28_20, fe_e28_21, fe_e28_22, fe_e28_23, fe_e28_24, fe_e28_27, fe_e28_28, fe_e28_29, fe_e28_32, fe_e28_33, fe_e28_34, fe_e28_35, fe_e28_36, fe_e28_37, fe_e28_38, fe_e28_39, fe_e28_40, fe_e28_41, fe_e28_44, fe_e28_50, fe_e28_53, fe_e28_54, fe_e28_55, fe_e28_56, fe_e28_58, fe_e28_61, fe_e28_62, fe_e28_63, fe_e28_64, fe_e28_66, fe_e28_69, fe_e28_70, fe_e28_71, fe_e28_72, fe_e28_75, fe_e28_76, fe_e28_79, fe_e28_80, fe_e28_81, fe_e28_82, fe_e28_83, fe_e28_86, fe_e28_87, fe_e28_88, fe_e28_89, fe_e28_90, fe_e28_91, fe_e28_92, fe_e28_95, fe_e28_98, fe_e28_99, fe_e28_100, fe_e28_101, fe_e28_102, fe_e28_105, Option.some.injEq, exists_eq_left', fe_KB_r, fe_KB_v, fe_z_add, fe_z_sub, fe_z_mul, fe_z_neg, fe_bi0, fe_bi1, fe_bibi, fe_bi01, fe_z01, fe_z11, true_and, and_true, if_true, if_false, ite_not, not_true_eq_false, not_false_eq_true, Bool.false_eq_true, Bool.true_eq_false, fe_z_mod, fe_z_eq, fe_z_lt, fe_z_le, fe_z_div, Int.reduceEq, Int.reduceLT, Int.reduceLE, Int.reduceNeg, ↓reduceIte, eq_self, Nat.reduceAdd, fe_bor, fe_tb_bi, fe_tb_0, fe_tb_1, fe_un_at, Nat.reduceEqDiff, or_false, or_true, true_or, false_or, Int.le_refl, fe_ob0, fe_g0_0, fe_g0_1, fe_g0_2, fe_p0_2, fe_g0_3, fe_g0_4, fe_g0_5, fe_p0_5, fe_g0_6, fe_ob1, fe_g1_0, fe_g1_1, fe_g1_2, fe_g1_3, fe_ob5, fe_g5_0, fe_p5_0, fe_g5_1, fe_p5_1, fe_g5_2, fe_p5_2, fe_g5_3, fe_p5_3, fe_g5_4, fe_p5_4, fe_g5_5, fe_p5_5, fe_g5_6, fe_p5_6, fe_g5_7, fe_p5_7, fe_g5_8, fe_p5_8, fe_g5_9, fe_p5_9, fe_ob7, fe_g7_0, fe_g7_1, fe_g7_2, fe_ob11, fe_g11_0, fe_g11_1, fe_p11_1, fe_ob13, fe_g13_0, fe_g13_1, fe_p13_1, fe_g13_2, fe_p13_2, fe_g13_3, fe_p13_3, fe_g13_4, fe_p13_4, fe_g13_5, fe_p13_5, fe_aa2, fe_sa2, fe_ll2, fe_aa3, fe_sa3, fe_ll3, fe_aa4, fe_sa4, fe_ll4, fe_aa8, fe_sa8, fe_ll8, fe_aa9, fe_sa9, fe_ll9, fe_aa10, fe_sa10, fe_ll10, fe_aa12, fe_sa12, fe_aa14, fe_sa14, fe_ll14, fe_aa6, fe_aa6n, fe_ll6, fe_obE, fe_gE_0, fe_gE_1, fe_gE_2, fe_gE_3, fe_gE_4, fe_gE_5, fe_gE_6, fe_gE_7, fe_gE_8, fe_gE_9, fe_gE_10, fe_gE_11, fe_pE_7, fe_pE_8, fe_aE1, fe_sE1, fe_lE1, fe_aE2, fe_sE2, fe_aE3, fe_sE3, fe_lE3, fe_aE4, fe_sE4, fe_lE4, hst _ k hk, fe_z_shl, Int.toNat_natCast]
      rw [if_neg (by omega)]
      refine ih _ (fun s hs => ?_)
      rw [fe_mb_up]
      by_cases hsw : s / 64 = w
      · rw [if_pos hsw, if_pos (by omega), fe_lb_or, fe_lb_shl (by omega), fe_lb_and]
        have m1 : fe_lb (M' ((w : Nat) : Int)) (s % 64) = fe_mb M' s := by
          unfold fe_mb
          rw [hsw]
        rw [m1, g s hs, if_neg (by omega)]
        show _ = (fe_ztr (fe_mb M) k s || (s.testBit k && fe_ztr (fe_mb M) k (s ^^^ 2 ^ k)))
        congr 1
        have hbit : (s % 64).testBit k = s.testBit k := by
          have := Nat.testBit_mod_two_pow s 6 k
          rw [decide_eq_true hk, Bool.true_and] at this
          exact this
        have hkey := fe_wb_key k hk (s % 64) (by omega)
        rw [hbit] at hkey
        rw [decide_eq_true (show s % 64 < 64 by omega), Bool.true_and]
        by_cases hb : s.testBit k = true
        · have hs2 := fe_xs1 (s := s) (k := k) hs (by omega) hb
          have hs3 := fe_xs1 (s := s % 64) (k := k) (by omega) (by omega) (by rw [hbit]; exact hb)
          rw [hb] at hkey
          rw [Bool.and_eq_true] at hkey
          rw [hkey.1, hkey.2, hb, Bool.and_true, Bool.true_and, Bool.true_and, hs2.2]
          have d1 : (s - 2 ^ k) / 64 = w := by omega
          have d2 : (s - 2 ^ k) % 64 = s % 64 - 2 ^ k := by omega
          have m2 : fe_lb (M' ((w : Nat) : Int)) (s % 64 - 2 ^ k) = fe_mb M' (s - 2 ^ k) := by
            unfold fe_mb
            rw [d1, d2]
          rw [m2, g _ (by omega), if_neg (by omega)]
        · rw [Bool.not_eq_true] at hb
          rw [hb] at hkey ⊢
          rw [Bool.false_and]
          cases h1 : decide (s % 64 < 2 ^ k) with
          | true => rfl
          | false =>
            rw [h1] at hkey
            have : fe_lb (fe_wb k) (s % 64 - 2 ^ k) = false := by simpa using hkey
            rw [this, Bool.and_false, Bool.and_false]
      · rw [if_neg hsw, g s hs]
        by_cases h3 : s / 64 < w
        · rw [if_pos h3, if_pos (by omega)]
        · rw [if_neg h3, if_neg (by omega)]
  have LB1 : ∀ k, k ≤ 6 → ∀ M' o2, (∀ s, s < 4096 → fe_mb M' s = fe_ztr (fe_mb M) k s) → fe_WP E 28 2 [some (.ref (b + 11)), some (.int (fe_z (k : Int))), o2] [] (fe_mk b N (fe_cc b B D M' V A Z T I O L C) r) K := by
    refine fe_down 6 ?_ ?_
    · intro M' o2 g
      rw [fe_e28_2]
      simp (maxSteps := 4000000) (disch := omega) only [fe_e28_0, fe_e28_1, fe_e28_3, fe_e28_5, fe_e28_9, fe_e28_10, fe_e28_11, fe_e28_13, fe_e28_16, fe_e28_17, fe_e28_20, fe_e28_21, fe_e28_22, fe_e28_23, fe_e28_24, fe_e28_27, fe_e28_28, fe_e28_29, fe_e28_32, fe_e28_33, fe_e28_34, fe_e28_35, fe_e28_36, fe_e28_37, fe_e28_38, fe_e28_39, fe_e28_40, fe_e28_41, fe_e28_44, fe_e28_47, fe_e28_50, fe_e28_53, fe_e28_54, fe_e28_56, fe_e28_58, fe_e28_61, fe_e28_62, fe_e28_63, fe_e28_64, fe_e28_66, fe_e28_69, fe_e28_70, fe_e28_71, fe_e28_72, fe_e28_75, fe_e28_76, fe_e28_79, fe_e28_80, fe_e28_81, fe_e28_82, fe_e28_83, fe_e28_86, fe_e28_87, fe_e28_88, fe_e28_89, fe_e28_90, fe_e28_91, fe_e28_92, fe_e28_95, fe_e28_98, fe_e28_99, fe_e28_100, fe_e28_101, fe_e28_102, fe_e28_105, Option.some.injEq, exists_eq_left', fe_KB_r, fe_KB_v, fe_z_add, fe_z_sub, fe_z_mul, fe_z_neg, fe_bi0, fe_bi1, fe_bibi, fe_bi01, fe_z01, fe_z11, true_and, and_true, if_true, if_false, ite_not, not_true_eq_false, not_false_eq_true, Bool.false_eq_true, Bool.true_eq_false, fe_z_mod, fe_z_eq, fe_z_lt, fe_z_le, fe_z_div, Int.reduceEq, Int.reduceLT, Int.reduceLE, Int.reduceNeg, ↓reduceIte, eq_self, Nat.reduceAdd, fe_bor, fe_tb_bi, fe_tb_0, fe_tb_1, fe_un_at, Nat.reduceEqDiff, or_false, or_true, true_or, false_or, Int.le_refl, Int.cast_ofNat_Int]
      exact LB2 0 (by omega) M' _ g
    · intro k hk ih M' o2 g
      rw [fe_e28_2]
      simp (maxSteps := 4000000) (disch := omega) only [fe_e28_0, fe_e28_1, fe_e28_3, fe_e28_5, fe_e28_8, fe_e28_9, fe_e28_11, fe_e28_13, fe_e28_16, fe_e28_17, fe_e28_20, fe_e28_21, fe_e28_22, fe_e28_23, fe_e28_24, fe_e28_27, fe_e28_28, fe_e28_29, fe_e28_32, fe_e28_33, fe_e28_34, fe_e28_35, fe_e28_36, fe_e28_37, fe_e28_38, fe_e28_39, fe_e28_40, fe_e28_41, fe_e28_44, fe_e28_47, fe_e28_50, fe_e28_54, fe_e28_55, fe_e28_56, fe_e28_58, fe_e28_61, fe_e28_62, fe_e28_63, fe_e28_64, fe_e28_66, fe_e28_69, fe_e28_70, fe_e28_71, fe_e28_72, fe_e28_75, fe_e28_76, fe_e28_79, fe_e28_80, fe_e28_81, fe_e28_82, fe_e28_83, fe_e28_86, fe_e28_87, fe_e28_88, fe_e28_89, fe_e28_90, fe_e28_91, fe_e28_92, fe_e28_95, fe_e28_98, fe_e28_99, fe_e28_100, fe_e28_101, fe_e28_102, fe_e28_105, Option.some.injEq, exists_eq_left', fe_KB_r, fe_KB_v, fe_z_add, fe_z_sub, fe_z_mul, fe_z_neg, fe_bi0, fe_bi1, fe_bibi, fe_bi01, fe_z01, fe_z11, true_and, and_true, if_true, if_false, ite_not, not_true_eq_false, not_false_eq_true, Bool.false_eq_true, Bool.true_eq_false, fe_z_mod, fe_z_eq, fe_z_lt, fe_z_le, fe_z_div, Int.reduceEq, Int.reduceLT, Int.reduceLE, Int.reduceNeg, ↓reduceIte, eq_self, Nat.reduceAdd, fe_bor, fe_tb_bi, fe_tb_0, fe_tb_1, fe_un_at, Nat.reduceEqDiff, or_false, or_true, true_or, false_or, Int.le_refl]
      rw [if_neg (by omega)]
      exact LW1 k hk (fun M' o2 h => ih M' o2 h) 0 (by omega) M' (fun s hs => by rw [g s hs, if_neg (by omega)])
  simp (maxSteps := 4000000) (disch := omega) only [fe_e28_0, fe_e28_1, fe_e28_3, fe_e28_5, fe_e28_8, fe_e28_9, fe_e28_10, fe_e28_11, fe_e28_13, fe_e28_16, fe_e28_17, fe_e28_20, fe_e28_21, fe_e28_22, fe_e28_23, fe_e28_24, fe_e28_27, fe_e28_28, fe_e28_29, fe_e28_32, fe_e28_33, fe_e28_34, fe_e28_35, fe_e28_36, fe_e28_37, fe_e28_38, fe_e28_39, fe_e28_40, fe_e28_41, fe_e28_44, fe_e28_47, fe_e28_50, fe_e28_53, fe_e28_54, fe_e28_55, fe_e28_56, fe_e28_58, fe_e28_61, fe_e28_62, fe_e28_63, fe_e28_64, fe_e28_66, fe_e28_69, fe_e28_70, fe_e28_71, fe_e28_72, fe_e28_75, fe_e28_76, fe_e28_79, fe_e28_80, fe_e28_81, fe_e28_82, fe_e28_83, fe_e28_86, fe_e28_87, fe_e28_88, fe_e28_89, fe_e28_90, fe_e28_91, fe_e28_92, fe_e28_95, fe_e28_98, fe_e28_99, fe_e28_100, fe_e28_101, fe_e28_102, fe_e28_105, Option.some.injEq, exists_eq_left', fe_KB_r, fe_KB_v, fe_z_add, fe_z_sub, fe_z_mul, fe_z_neg, fe_bi0, fe_bi1, fe_bibi, fe_bi01, fe_z01, fe_z11, true_and, and_true, if_true, if_false, ite_not, not_true_eq_false, not_false_eq_true, Bool.false_eq_true, Bool.true_eq_false, fe_z_mod, fe_z_eq, fe_z_lt, fe_z_le, fe_z_div, Int.reduceEq, Int.reduceLT, Int.reduceLE, Int.reduceNeg, ↓reduceIte, eq_self, Nat.reduceAdd, fe_bor, fe_tb_bi, fe_tb_0, fe_tb_1, fe_un_at, Nat.reduceEqDiff, or_false, or_true, true_or, false_or, Int.le_refl]
  exact LB1 0 (by omega) M _ (fun s hs => rfl)
theorem fe_m29 {Nd : Nat → Prop} {s sh : Nat} {p : Bool} (hs : s < 4096) (hv : V 2 = (sh : Int)) (hM : ∀ s, s < 4096 → (fe_mb M (4095 - s) = true ↔ ∃ q, Nd q ∧ q &&& s = 0)) : fe_WP E 29 0 [some (.ref (b + 11)), some (.int (fe_z (s : Int))), some (.int (fe_bi p)), none] [] (fe_mk b N (fe_cc b B D M V A Z T I O L C) r) K ↔ K (.inl (some (.int (fe_bi (fe_B (fe_gd Nd sh 12 p s)))))) (fe_mk b N (fe_cc b B D M V A Z T I O L C) r) := by
  refine fe_iff fun K hK => ?_
  have a0 : (s &&& sh) ≤ s := Nat.and_le_left
  by_cases h0 : s &&& sh = 0
  · have h0' : ((s &&& sh : Nat) : Int) = 0 := by omega
    have srv : fe_srv Nd sh s ↔ fe_mb M (4095 - s) = false := by
      rw [← Bool.not_eq_true, hM s hs]
      exact ⟨fun h ⟨q, h1, h2⟩ => h.2 q h1 h2, fun h => ⟨h0, fun q h1 h2 => h ⟨q, h1, h2⟩⟩⟩
    have srv2 : ∀ c, c < 12 → s.testBit c = true → (fe_srv Nd sh (s ^^^ 2 ^ c) ↔ fe_mb M (4095 - (s ^^^ 2 ^ c)) = false) := fun c hc hb => by
      have hx := fe_xs1 hs hc hb
      have hpc := Nat.two_pow_pos c
      rw [← Bool.not_eq_true, hM _ (by omega)]
      refine ⟨fun h ⟨q, h1, h2⟩ => h.2 q h1 h2, fun h => ⟨?_, fun q h1 h2 => h ⟨q, h1, h2⟩⟩⟩
      rw [fe_and_0] at h0 ⊢
      intro j ⟨b1, b2⟩
      rw [Nat.testBit_xor, Nat.testBit_two_pow] at b1
      by_cases hcj : c = j
      · subst hcj
        exact h0 c ⟨hb, b2⟩
      · rw [decide_eq_false hcj, Bool.xor_false] at b1
        exact h0 j ⟨b1, b2⟩
    cases hm : fe_mb M (4095 - s) with
    | true =>
      simp (maxSteps := 4000000) (disch := omega) only [fe_e29_0, fe_e29_1, fe_e29_2, fe_e29_5, fe_e29_6, fe_e29_9, fe_e29_10, fe_e29_11, fe_e29_14, fe_e29_17, fe_e29_18, fe_e29_19, fe_e29_20, fe_e29_23, fe_e29_24, fe_e29_26, fe_e29_28, fe_e29_31, fe_e29_32, fe_e29_33, fe_e29_34, fe_e29_35, fe_e29_36, fe_e29_39, fe_e29_40, fe_e29_41, fe_e29_42, fe_e29_43, fe_e29_44, fe_e29_45, fe_e29_46, fe_e29_47, fe_e29_50, fe_e29_53, fe_e29_54, fe_e29_55, fe_e29_58, fe_e29_61, fe_e29_62, Option.some.injEq, exists_eq_left', fe_KB_r, fe_KB_v, fe_z_add, fe_z_sub, fe_z_mul, fe_z_neg, fe_bi0, fe_bi1, fe_bibi, fe_bi01, fe_z01, fe_z11, true_and, and_true, if_true, if_false, ite_not, not_true_eq_false, not_false_eq_true, Bool.false_eq_true, Bool.true_eq_false, fe_z_mod, fe_z_eq, fe_z_lt, fe_z_le, fe_z_div, Int.reduceEq, Int.reduceLT, Int.reduceLE, Int.reduceNeg, ↓reduceIte, eq_self, Nat.reduceAdd, fe_bor, fe_tb_bi, fe_tb_0, fe_tb_1, fe_un_at, Nat.reduceEqDiff, or_false, or_true, true_or, false_or, Int.le_refl, fe_ob0, fe_g0_0, fe_g0_1, fe_g0_2, fe_p0_2, fe_g0_3, fe_g0_4, fe_g0_5, fe_p0_5, fe_g0_6, fe_ob1, fe_g1_0, fe_g1_1, fe_g1_2, fe_g1_3, fe_ob5, fe_g5_0, fe_p5_0, fe_g5_1, fe_p5_1, fe_g5_2, fe_p5_2, fe_g5_3, fe_p5_3, fe_g5_4, fe_p5_4, fe_g5_5, fe_p5_5, fe_g5_6, fe_p5_6, fe_g5_7, fe_p5_7, fe_g5_8, fe_p5_8, fe_g5_9, fe_p5_9, fe_ob7, fe_g7_0, fe_g7_1, fe_g7_2, fe_ob11, fe_g11_0, fe_g11_1, fe_p11_1, fe_ob13, fe_g13_0, fe_g13_1, fe_p13_1, fe_g13_2, fe_p13_2, fe_g13_3, fe_p13_3, fe_g13_4, fe_p13_4, fe_g13_5, fe_p13_5, fe_aa2, fe_sa2, fe_ll2, fe_aa3, fe_sa3, fe_ll3, fe_aa4, fe_sa4, fe_ll4, fe_aa8, fe_sa8, fe_ll8, fe_aa9, fe_sa9, fe_ll9, fe_aa10, fe_sa10, fe_ll10, fe_aa12, fe_sa12, fe_aa14, fe_sa14, fe_ll14, fe_aa6, fe_aa6n, fe_ll6, fe_obE, fe_gE_0, fe_gE_1, fe_gE_2, fe_gE_3, fe_gE_4, fe_gE_5, fe_gE_6, fe_gE_7, fe_gE_8, fe_gE_9, fe_gE_10, fe_gE_11, fe_pE_7, fe_pE_8, fe_aE1, fe_sE1, fe_lE1, fe_aE2, fe_sE2, fe_aE3, fe_sE3, fe_lE3, fe_aE4, fe_sE4, fe_lE4, hv, fe_z_and, h0', fe_m30 hs, hm]
      rw [fe_B_neg (fun h => by have := srv.mp h.1; rw [hm] at this; cases this)] at hK
      exact hK
    | false =>
      simp (maxSteps := 4000000) (disch := omega) only [fe_e29_0, fe_e29_1, fe_e29_2, fe_e29_5, fe_e29_6, fe_e29_9, fe_e29_10, fe_e29_11, fe_e29_14, fe_e29_17, fe_e29_18, fe_e29_19, fe_e29_20, fe_e29_23, fe_e29_24, fe_e29_26, fe_e29_28, fe_e29_31, fe_e29_32, fe_e29_33, fe_e29_34, fe_e29_35, fe_e29_36, fe_e29_39, fe_e29_40, fe_e29_41, fe_e29_42, fe_e29_43, fe_e29_44, fe_e29_45, fe_e29_46, fe_e29_47, fe_e29_50, fe_e29_53, fe_e29_54, fe_e29_55, fe_e29_58, fe_e29_61, fe_e29_62, Option.some.injEq, exists_eq_left', fe_KB_r, fe_KB_v, fe_z_add, fe_z_sub, fe_z_mul, fe_z_neg, fe_bi0, fe_bi1, fe_bibi, fe_bi01, fe_z01, fe_z11, true_and, and_true, if_true, if_false, ite_not, not_true_eq_false, not_false_eq_true, Bool.false_eq_true, Bool.true_eq_false, fe_z_mod, fe_z_eq, fe_z_lt, fe_z_le, fe_z_div, Int.reduceEq, Int.reduceLT, Int.reduceLE, Int.reduceNeg, ↓reduceIte, eq_self, Nat.reduceAdd, fe_bor, fe_tb_bi, fe_tb_0, fe_tb_1, fe_un_at, Nat.reduceEqDiff, or_false, or_true, true_or, false_or, Int.le_refl, fe_ob0, fe_g0_0, fe_g0_1, fe_g0_2, fe_p0_2, fe_g0_3, fe_g0_4, fe_g0_5, fe_p0_5, fe_g0_6, fe_ob1, fe_g1_0, fe_g1_1, fe_g1_2, fe_g1_3, fe_ob5, fe_g5_0, fe_p5_0, fe_g5_1, fe_p5_1, fe_g5_2, fe_p5_2, fe_g5_3, fe_p5_3, fe_g5_4, fe_p5_4, fe_g5_5, fe_p5_5, fe_g5_6, fe_p5_6, fe_g5_7, fe_p5_7, fe_g5_8, fe_p5_8, fe_g5_9, fe_p5_9, fe_ob7, fe_g7_0, fe_g7_1, fe_g7_2, fe_ob11, fe_g11_0, fe_g11_1, fe_p11_1, fe_ob13, fe_g13_0, fe_g13_1, fe_p13_1, fe_g13_2, fe_p13_2, fe_g13_3, fe_p13_3, fe_g13_4, fe_p13_4, fe_g13_5, fe_p13_5, fe_aa2, fe_sa2, fe_ll2, fe_aa3, fe_sa3, fe_ll3, fe_aa4, fe_sa4, fe_ll4, fe_aa8, fe_sa8, fe_ll8, fe_aa9, fe_sa9, fe_ll9, fe_aa10, fe_sa10, fe_ll10, fe_aa12, fe_sa12, fe_aa14, fe_sa14, fe_ll14, fe_aa6, fe_aa6n, fe_ll6, fe_obE, fe_gE_0, fe_gE_1, fe_gE_2, fe_gE_3, fe_gE_4, fe_gE_5, fe_gE_6, fe_gE_7, fe_gE_8, fe_gE_9, fe_gE_10, fe_gE_11, fe_pE_7, fe_pE_8, fe_aE1, fe_sE1, fe_lE1, fe_aE2, fe_sE2, fe_aE3, fe_sE3, fe_lE3, fe_aE4, fe_sE4, fe_lE4, hv, fe_z_and, h0', fe_m30 hs, hm]
      have hsr := srv.mpr hm
      cases p with
      | false =>
        rw [fe_B_pos ⟨hsr, fun h => by cases h⟩] at hK
        exact hK
      | true =>
        have Lp : ∀ i, i ≤ 12 → (∀ c, c < i → s.testBit c = true → fe_srv Nd sh (s ^^^ 2 ^ c)) → fe_WP E 29 25 [some (.ref (b + 11)), some (.int (fe_z (s : Int))), some (.int (fe_bi true)), some (.int (fe_z (i : Int)))] [] (fe_mk b N (fe_cc b B D M V A Z T I O L C) r) K := by
          refine fe_down 12 ?_ ?_
          · intro g
            rw [fe_e29_25]
            simp (maxSteps := 4000000) (disch := omega) only [fe_e29_0, fe_e29_1, fe_e29_2, fe_e29_5, fe_e29_6, fe_e29_9, fe_e29_10, fe_e29_11, fe_e29_14, fe_e29_17, fe_e29_18, fe_e29_19, fe_e29_20, fe_e29_23, fe_e29_24, fe_e29_26, fe_e29_28, fe_e29_32, fe_e29_33, fe_e29_34, fe_e29_35, fe_e29_36, fe_e29_39, fe_e29_40, fe_e29_41, fe_e29_42, fe_e29_43, fe_e29_44, fe_e29_45, fe_e29_46, fe_e29_47, fe_e29_50, fe_e29_53, fe_e29_54, fe_e29_55, fe_e29_58, fe_e29_61, fe_e29_62, Option.some.injEq, exists_eq_left', fe_KB_r, fe_KB_v, fe_z_add, fe_z_sub, fe_z_mul, fe_z_neg, fe_bi0, fe_bi1, fe_bibi, fe_bi01, fe_z01, fe_z11, true_and, and_true, if_true, if_false, ite_not, not_true_eq_false, not_false_eq_true, Bool.false_eq_true, Bool.true_eq_false, fe_z_mod, fe_z_eq, fe_z_lt, fe_z_le, fe_z_div, Int.reduceEq, Int.reduceLT, Int.reduceLE, Int.reduceNeg, ↓reduceIte, eq_self, Nat.reduceAdd, fe_bor, fe_tb_bi, fe_tb_0, fe_tb_1, fe_un_at, Nat.reduceEqDiff, or_false, or_true, true_or, false_or, Int.le_refl, Int.cast_ofNat_Int]
            rw [fe_B_pos ⟨hsr, fun _ => g⟩] at hK
            exact hK
          · intro i hi ih g
            have step : (s.testBit i = true → fe_srv Nd sh (s ^^^ 2 ^ i)) → fe_WP E 29 25 [some (.ref (b + 11)), some (.int (fe_z (s : Int))), some (.int (fe_bi true)), some (.int (fe_z ((i : Int) + 1)))] [] (fe_mk b N (fe_cc b B D M V A Z T I O L C) r) K := fun q => ih (fun c hc hb => by
              by_cases hci : c < i
              · exact g c hci hb
              · have : c = i := by omega
                subst this
                exact q hb)
            rw [fe_e29_25]
            by_cases hb : s.testBit i = true
            · have hx := fe_xs1 hs hi hb
              have hpi := Nat.two_pow_pos i
              have hxl : (s ^^^ 2 ^ i) < 4096 := by omega
              simp (maxSteps := 4000000) (disch := omega) only [fe_e29_0, fe_e29_1, fe_e29_2, fe_e29_5, fe_e29_6, fe_e29_9, fe_e29_10, fe_e29_11, fe_e29_14, fe_e29_17, fe_e29_18, fe_e29_19, fe_e29_20, fe_e29_23, fe_e29_24, fe_e29_26, fe_e29_28, fe_e29_31, fe_e29_32, fe_e29_33, fe_e29_34, fe_e29_35, fe_e29_36, fe_e29_39, fe_e29_40, fe_e29_41, fe_e29_42, fe_e29_43, fe_e29_44, fe_e29_45, fe_e29_46, fe_e29_47, fe_e29_50, fe_e29_53, fe_e29_54, fe_e29_55, fe_e29_58, fe_e29_61, fe_e29_62, Option.some.injEq, exists_eq_left', fe_KB_r, fe_KB_v, fe_z_add, fe_z_sub, fe_z_mul, fe_z_neg, fe_bi0, fe_bi1, fe_bibi, fe_bi01, fe_z01, fe_z11, true_and, and_true, if_true, if_false, ite_not, not_true_eq_false, not_false_eq_true, Bool.false_eq_true, Bool.true_eq_false, fe_z_mod, fe_z_eq, fe_z_lt, fe_z_le, fe_z_div, Int.reduceEq, Int.reduceLT, Int.reduceLE, Int.reduceNeg, ↓reduceIte, eq_self, Nat.reduceAdd, fe_bor, fe_tb_bi, fe_tb_0, fe_tb_1, fe_un_at, Nat.reduceEqDiff, or_false, or_true, true_or, false_or, Int.le_refl, fe_ob0, fe_g0_0, fe_g0_1, fe_g0_2, fe_p0_2, fe_g0_3, fe_g0_4, fe_g0_5, fe_p0_5, fe_g0_6, fe_ob1, fe_g1_0, fe_g1_1, fe_g1_2, fe_g1_3, fe_ob5, fe_g5_0, fe_p5_0, fe_g5_1, fe_p5_1, fe_g5_2, fe_p5_2, fe_g5_3, fe_p5_3, fe_g5_4, fe_p5_4, fe_g5_5, fe_p5_5, fe_g5_6, fe_p5_6, fe_g5_7, fe_p5_7, fe_g5_8, fe_p5_8, fe_g5_9, fe_p5_9, fe_ob7, fe_g7_0, fe_g7_1, fe_g7_2, fe_ob11, fe_g11_0, fe_g11_1, fe_p11_1, fe_ob13, fe_g13_0, fe_g13_1, fe_p13_1, fe_g13_2, fe_p13_2, fe_g13_3, fe_p13_3, fe_g13_4, fe_p13_4, fe_g13_5, fe_p13_5, fe_aa2, fe_sa2, fe_ll2, fe_aa3, fe_sa3, fe_ll3, fe_aa4, fe_sa4, fe_ll4, fe_aa8, fe_sa8, fe_ll8, fe_aa9, fe_sa9, fe_ll9, fe_aa10, fe_sa10, fe_ll10, fe_aa12, fe_sa12, fe_aa14, fe_sa14, fe_ll14, fe_aa6, fe_aa6n, fe_ll6, fe_obE, fe_gE_0, fe_gE_1, fe_gE_2, fe_gE_3, fe_gE_4, fe_gE_5, fe_gE_6, fe_gE_7, fe_gE_8, fe_gE_9, fe_gE_10, fe_gE_11, fe_pE_7, fe_pE_8, fe_aE1, fe_sE1, fe_lE1, fe_aE2, fe_sE2, fe_aE3, fe_sE3, fe_lE3, fe_aE4, fe_sE4, fe_lE4, fe_z_bit, Int.toNat_natCast, fe_bt_z, hb, fe_z_shl, fe_clr, fe_m30 hxl]
              rw [if_neg (by omega)]
              cases hm2 : fe_mb M (4095 - (s ^^^ 2 ^ i)) with
              | true =>
                rw [fe_B_neg (fun h => by
                  have := (srv2 i hi hb).mp (h.2 rfl i hi hb)
                  rw [hm2] at this
                  cases this)] at hK
                exact hK
              | false => exact step (fun _ => (srv2 i hi hb).mpr hm2)
            · rw [Bool.not_eq_true] at hb
              simp (maxSteps := 4000000) (disch := omega) only [fe_e29_0, fe_e29_1, fe_e29_2, fe_e29_5, fe_e29_6, fe_e29_9, fe_e29_10, fe_e29_11, fe_e29_14, fe_e29_17, fe_e29_18, fe_e29_19, fe_e29_20, fe_e29_23, fe_e29_24, fe_e29_26, fe_e29_28, fe_e29_31, fe_e29_32, fe_e29_33, fe_e29_34, fe_e29_35, fe_e29_36, fe_e29_39, fe_e29_40, fe_e29_41, fe_e29_42, fe_e29_43, fe_e29_44, fe_e29_45, fe_e29_46, fe_e29_47, fe_e29_50, fe_e29_53, fe_e29_54, fe_e29_55, fe_e29_58, fe_e29_61, fe_e29_62, Option.some.injEq, exists_eq_left', fe_KB_r, fe_KB_v, fe_z_add, fe_z_sub, fe_z_mul, fe_z_neg, fe_bi0, fe_bi1, fe_bibi, fe_bi01, fe_z01, fe_z11, true_and, and_true, if_true, if_false, ite_not, not_true_eq_false, not_false_eq_true, Bool.false_eq_true, Bool.true_eq_false, fe_z_mod, fe_z_eq, fe_z_lt, fe_z_le, fe_z_div, Int.reduceEq, Int.reduceLT, Int.reduceLE, Int.reduceNeg, ↓reduceIte, eq_self, Nat.reduceAdd, fe_bor, fe_tb_bi, fe_tb_0, fe_tb_1, fe_un_at, Nat.reduceEqDiff, or_false, or_true, true_or, false_or, Int.le_refl, fe_ob0, fe_g0_0, fe_g0_1, fe_g0_2, fe_p0_2, fe_g0_3, fe_g0_4, fe_g0_5, fe_p0_5, fe_g0_6, fe_ob1, fe_g1_0, fe_g1_1, fe_g1_2, fe_g1_3, fe_ob5, fe_g5_0, fe_p5_0, fe_g5_1, fe_p5_1, fe_g5_2, fe_p5_2, fe_g5_3, fe_p5_3, fe_g5_4, fe_p5_4, fe_g5_5, fe_p5_5, fe_g5_6, fe_p5_6, fe_g5_7, fe_p5_7, fe_g5_8, fe_p5_8, fe_g5_9, fe_p5_9, fe_ob7, fe_g7_0, fe_g7_1, fe_g7_2, fe_ob11, fe_g11_0, fe_g11_1, fe_p11_1, fe_ob13, fe_g13_0, fe_g13_1, fe_p13_1, fe_g13_2, fe_p13_2, fe_g13_3, fe_p13_3, fe_g13_4, fe_p13_4, fe_g13_5, fe_p13_5, fe_aa2, fe_sa2, fe_ll2, fe_aa3, fe_sa3, fe_ll3, fe_aa4, fe_sa4, fe_ll4, fe_aa8, fe_sa8, fe_ll8, fe_aa9, fe_sa9, fe_ll9, fe_aa10, fe_sa10, fe_ll10, fe_aa12, fe_sa12, fe_aa14, fe_sa14, fe_ll14, fe_aa6, fe_aa6n, fe_ll6, fe_obE, fe_gE_0, fe_gE_1, fe_gE_2, fe_gE_3, fe_gE_4, fe_gE_5, fe_gE_6, fe_gE_7, fe_gE_8, fe_gE_9, fe_gE_10, fe_gE_11, fe_pE_7, fe_pE_8, fe_aE1, fe_sE1, fe_lE1, fe_aE2, fe_sE2, fe_aE3, fe_sE3, fe_lE3, fe_aE4, fe_sE4, fe_lE4, fe_z_bit, Int.toNat_natCast, fe_bt_z, hb]
              rw [if_neg (by omega)]
              exact step (fun h => by rw [hb] at h; cases h)
        exact Lp 0 (by omega) (fun c hc => by omega)
  · have h0' : ¬ ((s &&& sh : Nat) : Int) = 0 := by omega
    simp (maxSteps := 4000000) (disch := omega) only [fe_e29_0, fe_e29_1, fe_e29_2, fe_e29_5, fe_e29_6, fe_e29_9, fe_e29_10, fe_e29_11, fe_e29_14, fe_e29_17, fe_e29_18, fe_e29_19, fe_e29_20, fe_e29_23, fe_e29_24, fe_e29_25, fe_e29_26, fe_e29_28, fe_e29_31, fe_e29_32, fe_e29_33, fe_e29_34, fe_e29_35, fe_e29_36, fe_e29_39, fe_e29_40, fe_e29_41, fe_e29_42, fe_e29_43, fe_e29_44, fe_e29_45, fe_e29_46, fe_e29_47, fe_e29_50, fe_e29_53, fe_e29_54, fe_e29_55, fe_e29_58, fe_e29_61, fe_e29_62, Option.some.injEq, exists_eq_left', fe_KB_r, fe_KB_v, fe_z_add, fe_z_sub, fe_z_mul, fe_z_neg, fe_bi0, fe_bi1, fe_bibi, fe_bi01, fe_z01, fe_z11, true_and, and_true, if_true, if_false, ite_not, not_true_eq_false, not_false_eq_true, Bool.false_eq_true, Bool.true_eq_false, fe_z_mod, fe_z_eq, fe_z_lt, fe_z_le, fe_z_div, Int.reduceEq, Int.reduceLT, Int.reduceLE, Int.reduceNeg, ↓reduceIte, eq_self, Nat.reduceAdd, fe_bor, fe_tb_bi, fe_tb_0, fe_tb_1, fe_un_at, Nat.reduceEqDiff, or_false, or_true, true_or, false_or, Int.le_refl, fe_ob0, fe_g0_0, fe_g0_1, fe_g0_2, fe_p0_2, fe_g0_3, fe_g0_4, fe_g0_5, fe_p0_5, fe_g0_6, fe_ob1, fe_g1_0, fe_g1_1, fe_g1_2, fe_g1_3, fe_ob5, fe_g5_0, fe_p5_0, fe_g5_1, fe_p5_1, fe_g5_2, fe_p5_2, fe_g5_3, fe_p5_3, fe_g5_4, fe_p5_4, fe_g5_5, fe_p5_5, fe_g5_6, fe_p5_6, fe_g5_7, fe_p5_7, fe_g5_8, fe_p5_8, fe_g5_9, fe_p5_9, fe_ob7, fe_g7_0, fe_g7_1, fe_g7_2, fe_ob11, fe_g11_0, fe_g11_1, fe_p11_1, fe_ob13, fe_g13_0, fe_g13_1, fe_p13_1, fe_g13_2, fe_p13_2, fe_g13_3, fe_p13_3, fe_g13_4, fe_p13_4, fe_g13_5, fe_p13_5, fe_aa2, fe_sa2, fe_ll2, fe_aa3, fe_sa3, fe_ll3, fe_aa4, fe_sa4, fe_ll4, fe_aa8, fe_sa8, fe_ll8, fe_aa9, fe_sa9, fe_ll9, fe_aa10, fe_sa10, fe_ll10, fe_aa12, fe_sa12, fe_aa14, fe_sa14, fe_ll14, fe_aa6, fe_aa6n, fe_ll6, fe_obE, fe_gE_0, fe_gE_1, fe_gE_2, fe_gE_3, fe_gE_4, fe_gE_5, fe_gE_6, fe_gE_7, fe_gE_8, fe_gE_9, fe_gE_10, fe_gE_11, fe_pE_7, fe_pE_8, fe_aE1, fe_sE1, fe_lE1, fe_aE2, fe_sE2, fe_aE3, fe_sE3, fe_lE3, fe_aE4, fe_sE4, fe_lE4, hv, fe_z_and, h0']
    rw [fe_B_neg (fun h => h0 h.1.1)] at hK
    exact hK
end Fe50

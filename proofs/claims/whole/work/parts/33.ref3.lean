/-! the reference: sight and shown -/
theorem fe_fx_bd {x y cell : Int} (h1 : 0 ≤ x) (h2 : x ≤ 16) (h3 : 0 ≤ y) (h4 : y ≤ 12) (h5 : 0 ≤ cell) (h6 : cell < 192) (k : Int) (h7 : 0 ≤ k) (h8 : k < 5) : 0 ≤ fe_fx x cell k ∧ fe_fx x cell k ≤ 20 ∧ 0 ≤ fe_fy y cell k ∧ fe_fy y cell k ≤ 20 := by
  unfold fe_fx fe_fy
  by_cases q : k = 4
  · simp only [q, if_true]
    omega
  · simp only [q, if_false]
    omega
section Fe33
variable {E : fe_E} {b : Nat} {N : Nat × Nat × Nat} {c : Nat → Option fe_C} {G : Nat → Int} {R : Nat → Int → Bool} {P F : Nat → Int → Int} {S J : Int → Bool} {U : Int → Int} {o : Int → Int64} {K : fe_R → fe_H → Prop}
theorem fe_m88 {ci cell : Int} (h1 : 0 ≤ ci) (h2 : ci < 12) (hok : fe_okc P ci) (hc : 0 ≤ cell) (hc2 : cell < 192) (hK : ∀ F', K (.inl (some (.int (fe_bi (fe_B (fe_clear (R 0) (P 0 ci) (P 1 ci) cell)))))) (fe_mk b N c (fe_rc b G R P F' S J U o))) : fe_WP E 88 0 [some (.ref (b + 15)), some (.int (fe_z ci)), some (.int (fe_z cell)), none] [] (fe_mk b N c (fe_rc b G R P F S J U o)) K := by
  obtain ⟨h3, h4, h5, h6, -, -⟩ := hok
  simp (maxSteps := 4000000) (disch := omega) only [fe_e88_0, fe_e88_1, fe_e88_2, fe_e88_3, fe_e88_6, fe_e88_7, fe_e88_9, fe_e88_12, fe_e88_15, fe_e88_16, fe_e88_19, fe_e88_20, fe_e88_21, fe_e88_24, fe_e88_25, fe_e88_26, fe_e88_29, fe_e88_32, fe_e88_33, fe_e88_34, fe_e88_37, fe_e88_40, fe_e88_41, Option.some.injEq, exists_eq_left', fe_KB_r, fe_KB_v, fe_z_add, fe_z_sub, fe_z_mul, fe_z_neg, fe_bi0, fe_bi1, fe_bibi, fe_bi01, fe_z01, fe_z11, true_and, and_true, if_true, if_false, ite_not, not_true_eq_false, not_false_eq_true, Bool.false_eq_true, Bool.true_eq_false, fe_z_mod, fe_z_eq, fe_z_lt, fe_z_le, fe_z_div, Int.reduceEq, Int.reduceLT, Int.reduceLE, Int.reduceNeg, ↓reduceIte, eq_self, Nat.reduceAdd, fe_bor, fe_tb_bi, fe_tb_0, fe_tb_1, fe_un_at, Nat.reduceEqDiff, or_false, or_true, true_or, false_or, fe_ob15, fe_g15_0, fe_p15_0, fe_g15_1, fe_g15_2, fe_g15_3, fe_g15_4, fe_g15_5, fe_g15_6, fe_g15_7, fe_g15_8, fe_g15_9, fe_g15_10, fe_g15_11, fe_g15_12, fe_p15_12, fe_g15_13, fe_g15_14, fe_g15_15, fe_g15_16, fe_g15_17, fe_g15_18, fe_p15_18, fe_g15_19, fe_p15_19, fe_g15_20, fe_g15_21, fe_p15_21, fe_aa16, fe_sa16, fe_ll16, fe_aa17, fe_sa17, fe_ll17, fe_aa18, fe_sa18, fe_ll18, fe_aa19, fe_sa19, fe_ll19, fe_aa20, fe_sa20, fe_ll20, fe_aa21, fe_sa21, fe_ll21, fe_aa22, fe_sa22, fe_ll22, fe_aa23, fe_sa23, fe_ll23, fe_aa24, fe_sa24, fe_ll24, fe_aa25, fe_sa25, fe_ll25, fe_aa26, fe_sa26, fe_ll26, fe_aa27, fe_sa27, fe_ll27, fe_aa28, fe_sa28, fe_ll28, fe_aa29, fe_sa29, fe_ll29, fe_aa30, fe_sa30, fe_ll30, fe_aa31, fe_sa31, fe_ll31, fe_aa32, fe_sa32, fe_ll32, fe_aa33, fe_sa33]
  refine fe_m85 h1 h2 hc hc2 (fun F' hF => ?_)
  have hB : ∀ k, 0 ≤ k → k < 5 → 0 ≤ fe_fx (P 0 ci) cell k ∧ fe_fx (P 0 ci) cell k ≤ 20 ∧ 0 ≤ fe_fy (P 1 ci) cell k ∧ fe_fy (P 1 ci) cell k ≤ 20 := fun k q1 q2 => fe_fx_bd h3 h4 h5 h6 hc hc2 k q1 q2
  have Lp : ∀ i : Nat, i ≤ 192 → (∀ k : Int, 0 ≤ k → k < i → R 0 k = true → fe_parted (fe_fx (P 0 ci) cell) (fe_fy (P 1 ci) cell) k) → fe_WP E 88 8 [some (.ref (b + 15)), some (.int (fe_z ci)), some (.int (fe_z cell)), some (.int (fe_z (i : Int)))] [] (fe_mk b N c (fe_rc b G R P F' S J U o)) K := by
    refine fe_down 192 ?_ ?_
    · intro g
      simp (maxSteps := 4000000) (disch := omega) only [fe_e88_0, fe_e88_1, fe_e88_2, fe_e88_3, fe_e88_6, fe_e88_7, fe_e88_8, fe_e88_9, fe_e88_12, fe_e88_15, fe_e88_16, fe_e88_19, fe_e88_20, fe_e88_21, fe_e88_24, fe_e88_25, fe_e88_26, fe_e88_29, fe_e88_32, fe_e88_33, fe_e88_34, fe_e88_37, fe_e88_40, fe_e88_41, Option.some.injEq, exists_eq_left', fe_KB_r, fe_KB_v, fe_z_add, fe_z_sub, fe_z_mul, fe_z_neg, fe_bi0, fe_bi1, fe_bibi, fe_bi01, fe_z01, fe_z11, true_and, and_true, if_true, if_false, ite_not, not_true_eq_false, not_false_eq_true, Bool.false_eq_true, Bool.true_eq_false, fe_z_mod, fe_z_eq, fe_z_lt, fe_z_le, fe_z_div, Int.reduceEq, Int.reduceLT, Int.reduceLE, Int.reduceNeg, ↓reduceIte, eq_self, Nat.reduceAdd, fe_bor, fe_tb_bi, fe_tb_0, fe_tb_1, fe_un_at, Nat.reduceEqDiff, or_false, or_true, true_or, false_or, Int.cast_ofNat_Int]
      have := hK F'
      rw [fe_B_pos (p := fe_clear (R 0) (P 0 ci) (P 1 ci) cell) (fun k q1 q2 q3 => g k q1 (by omega) q3)] at this
      exact this
    · intro i hi ih g
      rw [fe_e88_8]
      simp (maxSteps := 4000000) (disch := omega) only [fe_e88_0, fe_e88_1, fe_e88_2, fe_e88_3, fe_e88_6, fe_e88_7, fe_e88_9, fe_e88_12, fe_e88_15, fe_e88_16, fe_e88_19, fe_e88_20, fe_e88_21, fe_e88_24, fe_e88_25, fe_e88_26, fe_e88_29, fe_e88_32, fe_e88_33, fe_e88_34, fe_e88_37, fe_e88_40, fe_e88_41, Option.some.injEq, exists_eq_left', fe_KB_r, fe_KB_v, fe_z_add, fe_z_sub, fe_z_mul, fe_z_neg, fe_bi0, fe_bi1, fe_bibi, fe_bi01, fe_z01, fe_z11, true_and, and_true, if_true, if_false, ite_not, not_true_eq_false, not_false_eq_true, Bool.false_eq_true, Bool.true_eq_false, fe_z_mod, fe_z_eq, fe_z_lt, fe_z_le, fe_z_div, Int.reduceEq, Int.reduceLT, Int.reduceLE, Int.reduceNeg, ↓reduceIte, eq_self, Nat.reduceAdd, fe_bor, fe_tb_bi, fe_tb_0, fe_tb_1, fe_un_at, Nat.reduceEqDiff, or_false, or_true, true_or, false_or, fe_ob15, fe_g15_0, fe_p15_0, fe_g15_1, fe_g15_2, fe_g15_3, fe_g15_4, fe_g15_5, fe_g15_6, fe_g15_7, fe_g15_8, fe_g15_9, fe_g15_10, fe_g15_11, fe_g15_12, fe_p15_12, fe_g15_13, fe_g15_14, fe_g15_15, fe_g15_16, fe_g15_17, fe_g15_18, fe_p15_18, fe_g15_19, fe_p15_19, fe_g15_20, fe_g15_21, fe_p15_21, fe_aa16, fe_sa16, fe_ll16, fe_aa17, fe_sa17, fe_ll17, fe_aa18, fe_sa18, fe_ll18, fe_aa19, fe_sa19, fe_ll19, fe_aa20, fe_sa20, fe_ll20, fe_aa21, fe_sa21, fe_ll21, fe_aa22, fe_sa22, fe_ll22, fe_aa23, fe_sa23, fe_ll23, fe_aa24, fe_sa24, fe_ll24, fe_aa25, fe_sa25, fe_ll25, fe_aa26, fe_sa26, fe_ll26, fe_aa27, fe_sa27, fe_ll27, fe_aa28, fe_sa28, fe_ll28, fe_aa29, fe_sa29, fe_ll29, fe_aa30, fe_sa30, fe_ll30, fe_aa31, fe_sa31, fe_ll31, fe_aa32, fe_sa32, fe_ll32, fe_aa33, fe_sa33, fe_m87 (cell := (i : Int)) (by omega) (by omega) hF hB]
      rw [if_neg (by omega)]
      have step : (R 0 i = true → fe_parted (fe_fx (P 0 ci) cell) (fe_fy (P 1 ci) cell) i) → fe_WP E 88 8 [some (.ref (b + 15)), some (.int (fe_z ci)), some (.int (fe_z cell)), some (.int (fe_z ((i : Int) + 1)))] [] (fe_mk b N c (fe_rc b G R P F' S J U o)) K := fun q => ih (fun k q1 q2 q3 => by
        by_cases q4 : k < i
        · exact g k q1 q4 q3
        · have : k = i := by omega
          subst this
          exact q q3)
      split
      · next q =>
        exact step (fun q2 => by rw [q] at q2; cases q2)
      · next q =>
        rw [Bool.not_eq_false] at q
        split
        · next q2 =>
          have := hK F'
          rw [fe_B_neg (p := fe_clear (R 0) (P 0 ci) (P 1 ci) cell) (fun hh => fe_B_f.mp q2 (hh i (by omega) (by omega) q))] at this
          exact this
        · next q2 =>
          rw [Bool.not_eq_false, fe_B_t] at q2
          exact step (fun _ => q2)
  simp (maxSteps := 4000000) (disch := omega) only [fe_e88_0, fe_e88_1, fe_e88_2, fe_e88_3, fe_e88_6, fe_e88_7, fe_e88_9, fe_e88_12, fe_e88_15, fe_e88_16, fe_e88_19, fe_e88_20, fe_e88_21, fe_e88_24, fe_e88_25, fe_e88_26, fe_e88_29, fe_e88_32, fe_e88_33, fe_e88_34, fe_e88_37, fe_e88_40, fe_e88_41, Option.some.injEq, exists_eq_left', fe_KB_r, fe_KB_v, fe_z_add, fe_z_sub, fe_z_mul, fe_z_neg, fe_bi0, fe_bi1, fe_bibi, fe_bi01, fe_z01, fe_z11, true_and, and_true, if_true, if_false, ite_not, not_true_eq_false, not_false_eq_true, Bool.false_eq_true, Bool.true_eq_false, fe_z_mod, fe_z_eq, fe_z_lt, fe_z_le, fe_z_div, Int.reduceEq, Int.reduceLT, Int.reduceLE, Int.reduceNeg, ↓reduceIte, eq_self, Nat.reduceAdd, fe_bor, fe_tb_bi, fe_tb_0, fe_tb_1, fe_un_at, Nat.reduceEqDiff, or_false, or_true, true_or, false_or]
  exact Lp 0 (by omega) (fun k q1 q2 => by omega)
theorem fe_m91 {ci x y : Int} (h1 : 0 ≤ ci) (h2 : ci < 12) (hok : fe_okc P ci) (hx : 0 ≤ x) (hx2 : x ≤ 16) (hy : 0 ≤ y) (hy2 : y ≤ 12) (hK : ∀ F', K (.inl (some (.int (fe_bi (fe_B (fe_line (R 0) (P 0 ci) (P 1 ci) x y)))))) (fe_mk b N c (fe_rc b G R P F' S J U o))) : fe_WP E 91 0 [some (.ref (b + 15)), some (.int (fe_z ci)), some (.int (fe_z x)), some (.int (fe_z y)), none] [] (fe_mk b N c (fe_rc b G R P F S J U o)) K := by
  obtain ⟨h3, h4, h5, h6, -, -⟩ := hok
  simp (maxSteps := 4000000) (disch := omega) only [fe_e91_0, fe_e91_1, fe_e91_4, fe_e91_5, fe_e91_6, fe_e91_9, fe_e91_10, fe_e91_11, fe_e91_12, fe_e91_13, fe_e91_16, fe_e91_17, fe_e91_18, fe_e91_21, fe_e91_22, fe_e91_23, fe_e91_24, fe_e91_25, fe_e91_28, fe_e91_29, fe_e91_30, fe_e91_31, fe_e91_32, fe_e91_35, fe_e91_36, fe_e91_37, fe_e91_38, fe_e91_39, fe_e91_43, fe_e91_46, fe_e91_49, fe_e91_50, fe_e91_53, fe_e91_55, fe_e91_56, fe_e91_59, fe_e91_60, fe_e91_61, fe_e91_62, fe_e91_63, fe_e91_64, fe_e91_66, fe_e91_69, fe_e91_72, fe_e91_73, fe_e91_74, fe_e91_75, fe_e91_76, fe_e91_77, fe_e91_79, fe_e91_82, fe_e91_85, fe_e91_86, fe_e91_87, fe_e91_88, fe_e91_89, fe_e91_90, fe_e91_93, fe_e91_94, fe_e91_95, fe_e91_96, fe_e91_97, fe_e91_98, fe_e91_101, fe_e91_102, fe_e91_103, fe_e91_104, fe_e91_106, fe_e91_109, fe_e91_112, fe_e91_113, fe_e91_114, fe_e91_117, fe_e91_120, fe_e91_121, Option.some.injEq, exists_eq_left', fe_KB_r, fe_KB_v, fe_z_add, fe_z_sub, fe_z_mul, fe_z_neg, fe_bi0, fe_bi1, fe_bibi, fe_bi01, fe_z01, fe_z11, true_and, and_true, if_true, if_false, ite_not, not_true_eq_false, not_false_eq_true, Bool.false_eq_true, Bool.true_eq_false, fe_z_mod, fe_z_eq, fe_z_lt, fe_z_le, fe_z_div, Int.reduceEq, Int.reduceLT, Int.reduceLE, Int.reduceNeg, ↓reduceIte, eq_self, Nat.reduceAdd, fe_bor, fe_tb_bi, fe_tb_0, fe_tb_1, fe_un_at, Nat.reduceEqDiff, or_false, or_true, true_or, false_or, fe_ob15, fe_g15_0, fe_p15_0, fe_g15_1, fe_g15_2, fe_g15_3, fe_g15_4, fe_g15_5, fe_g15_6, fe_g15_7, fe_g15_8, fe_g15_9, fe_g15_10, fe_g15_11, fe_g15_12, fe_p15_12, fe_g15_13, fe_g15_14, fe_g15_15, fe_g15_16, fe_g15_17, fe_g15_18, fe_p15_18, fe_g15_19, fe_p15_19, fe_g15_20, fe_g15_21, fe_p15_21, fe_aa16, fe_sa16, fe_ll16, fe_aa17, fe_sa17, fe_ll17, fe_aa18, fe_sa18, fe_ll18, fe_aa19, fe_sa19, fe_ll19, fe_aa20, fe_sa20, fe_ll20, fe_aa21, fe_sa21, fe_ll21, fe_aa22, fe_sa22, fe_ll22, fe_aa23, fe_sa23, fe_ll23, fe_aa24, fe_sa24, fe_ll24, fe_aa25, fe_sa25, fe_ll25, fe_aa26, fe_sa26, fe_ll26, fe_aa27, fe_sa27, fe_ll27, fe_aa28, fe_sa28, fe_ll28, fe_aa29, fe_sa29, fe_ll29, fe_aa30, fe_sa30, fe_ll30, fe_aa31, fe_sa31, fe_ll31, fe_aa32, fe_sa32, fe_ll32, fe_aa33, fe_sa33]
  generalize hF' : fe_un (fe_un (fe_un (fe_un F 0 (fe_up (F 0) 3 (P 0 ci))) 1 (fe_up (F 1) 3 (P 1 ci))) 0 (fe_up (fe_up (F 0) 3 (P 0 ci)) 4 x)) 1 (fe_up (fe_up (F 1) 3 (P 1 ci)) 4 y) = F'
  have hF : ∀ k, 3 ≤ k → k < 5 → F' 0 k = fe_lx (P 0 ci) x k ∧ F' 1 k = fe_lx (P 1 ci) y k := by
    intro k q1 q2
    subst hF'
    have : k = 3 ∨ k = 4 := by omega
    rcases this with rfl | rfl <;> simp [fe_un, fe_up, fe_lx]
  have hB : ∀ k, 3 ≤ k → k < 5 → 0 ≤ fe_lx (P 0 ci) x k ∧ fe_lx (P 0 ci) x k ≤ 20 ∧ 0 ≤ fe_lx (P 1 ci) y k ∧ fe_lx (P 1 ci) y k ≤ 20 := by
    intro k q1 q2
    have : k = 3 ∨ k = 4 := by omega
    rcases this with rfl | rfl <;> simp only [fe_lx, if_true, if_false, Int.reduceEq] <;> omega
  clear hF'
  have Lp : ∀ i : Nat, i ≤ 192 → (∀ k : Int, 0 ≤ k → k < i → R 0 k = true → fe_prt (fe_lx (P 0 ci) x) (fe_lx (P 1 ci) y) 3 2 1 0 k = true ∨ fe_prt (fe_lx (P 0 ci) x) (fe_lx (P 1 ci) y) 3 2 0 1 k = true ∨ fe_prt (fe_lx (P 0 ci) x) (fe_lx (P 1 ci) y) 3 2 (x - P 0 ci) (y - P 1 ci) k = true) → fe_WP E 91 41 [some (.ref (b + 15)), some (.int (fe_z ci)), some (.int (fe_z x)), some (.int (fe_z y)), some (.int (fe_z (i : Int)))] [] (fe_mk b N c (fe_rc b G R P F' S J U o)) K := by
    refine fe_down 192 ?_ ?_
    · intro g
      simp (maxSteps := 4000000) (disch := omega) only [fe_e91_0, fe_e91_1, fe_e91_4, fe_e91_5, fe_e91_6, fe_e91_9, fe_e91_10, fe_e91_11, fe_e91_12, fe_e91_13, fe_e91_16, fe_e91_17, fe_e91_18, fe_e91_21, fe_e91_22, fe_e91_23, fe_e91_24, fe_e91_25, fe_e91_28, fe_e91_29, fe_e91_30, fe_e91_31, fe_e91_32, fe_e91_35, fe_e91_36, fe_e91_37, fe_e91_38, fe_e91_39, fe_e91_41, fe_e91_43, fe_e91_46, fe_e91_49, fe_e91_50, fe_e91_53, fe_e91_55, fe_e91_56, fe_e91_59, fe_e91_60, fe_e91_61, fe_e91_62, fe_e91_63, fe_e91_64, fe_e91_66, fe_e91_69, fe_e91_72, fe_e91_73, fe_e91_74, fe_e91_75, fe_e91_76, fe_e91_77, fe_e91_79, fe_e91_82, fe_e91_85, fe_e91_86, fe_e91_87, fe_e91_88, fe_e91_89, fe_e91_90, fe_e91_93, fe_e91_94, fe_e91_95, fe_e91_96, fe_e91_97, fe_e91_98, fe_e91_101, fe_e91_102, fe_e91_103, fe_e91_104, fe_e91_106, fe_e91_109, fe_e91_112, fe_e91_113, fe_e91_114, fe_e91_117, fe_e91_120, fe_e91_121, Option.some.injEq, exists_eq_left', fe_KB_r, fe_KB_v, fe_z_add, fe_z_sub, fe_z_mul, fe_z_neg, fe_bi0, fe_bi1, fe_bibi, fe_bi01, fe_z01, fe_z11, true_and, and_true, if_true, if_false, ite_not, not_true_eq_false, not_false_eq_true, Bool.false_eq_true, Bool.true_eq_false, fe_z_mod, fe_z_eq, fe_z_lt, fe_z_le, fe_z_div, Int.reduceEq, Int.reduceLT, Int.reduceLE, Int.reduceNeg, ↓reduceIte, eq_self, Nat.reduceAdd, fe_bor, fe_tb_bi, fe_tb_0, fe_tb_1, fe_un_at, Nat.reduceEqDiff, or_false, or_true, true_or, false_or, Int.cast_ofNat_Int]
      have := hK F'
      rw [fe_B_pos (p := fe_line (R 0) (P 0 ci) (P 1 ci) x y) (fun k q1 q2 q3 => g k q1 (by omega) q3)] at this
      exact this
    · intro i hi ih g
      rw [fe_e91_41]
      simp (maxSteps := 4000000) (disch := omega) only [fe_e91_0, fe_e91_1, fe_e91_4, fe_e91_5, fe_e91_6, fe_e91_9, fe_e91_10, fe_e91_11, fe_e91_12, fe_e91_13, fe_e91_16, fe_e91_17, fe_e91_18, fe_e91_21, fe_e91_22, fe_e91_23, fe_e91_24, fe_e91_25, fe_e91_28, fe_e91_29, fe_e91_30, fe_e91_31, fe_e91_32, fe_e91_35, fe_e91_36, fe_e91_37, fe_e91_38, fe_e91_39, fe_e91_43, fe_e91_46, fe_e91_49, fe_e91_50, fe_e91_53, fe_e91_55, fe_e91_56, fe_e91_59, fe_e91_60, fe_e91_61, fe_e91_62, fe_e91_63, fe_e91_64, fe_e91_66, fe_e91_69, fe_e91_72, fe_e91_73, fe_e91_74, fe_e91_75, fe_e91_76, fe_e91_77, fe_e91_79, fe_e91_82, fe_e91_85, fe_e91_86, fe_e91_87, fe_e91_88, fe_e91_89, fe_e91_90, fe_e91_93, fe_e91_94, fe_e91_95, fe_e91_96, fe_e91_97, fe_e91_98, fe_e91_101, fe_e91_102, fe_e91_103, fe_e91_104, fe_e91_106, fe_e91_109, fe_e91_112, fe_e91_113, fe_e91_114, fe_e91_117, fe_e91_120, fe_e91_121, Option.some.injEq, exists_eq_left', fe_KB_r, fe_KB_v, fe_z_add, fe_z_sub, fe_z_mul, fe_z_neg, fe_bi0, fe_bi1, fe_bibi, fe_bi01, fe_z01, fe_z11, true_and, and_true, if_true, if_false, ite_not, not_true_eq_false, not_false_eq_true, Bool.false_eq_true, Bool.true_eq_false, fe_z_mod, fe_z_eq, fe_z_lt, fe_z_le, fe_z_div, Int.reduceEq, Int.reduceLT, Int.reduceLE, Int.reduceNeg, ↓reduceIte, eq_self, Nat.reduceAdd, fe_bor, fe_tb_bi, fe_tb_0, fe_tb_1, fe_un_at, Nat.reduceEqDiff, or_false, or_true, true_or, false_or, fe_ob15, fe_g15_0, fe_p15_0, fe_g15_1, fe_g15_2, fe_g15_3, fe_g15_4, fe_g15_5, fe_g15_6, fe_g15_7, fe_g15_8, fe_g15_9, fe_g15_10, fe_g15_11, fe_g15_12, fe_p15_12, fe_g15_13, fe_g15_14, fe_g15_15, fe_g15_16, fe_g15_17, fe_g15_18, fe_p15_18, fe_g15_19, fe_p15_19, fe_g15_20, fe_g15_21, fe_p15_21, fe_aa16, fe_sa16, fe_ll16, fe_aa17, fe_sa17, fe_ll17, fe_aa18, fe_sa18, fe_ll18, fe_aa19, fe_sa19, fe_ll19, fe_aa20, fe_sa20, fe_ll20, fe_aa21, fe_sa21, fe_ll21, fe_aa22, fe_sa22, fe_ll22, fe_aa23, fe_sa23, fe_ll23, fe_aa24, fe_sa24, fe_ll24, fe_aa25, fe_sa25, fe_ll25, fe_aa26, fe_sa26, fe_ll26, fe_aa27, fe_sa27, fe_ll27, fe_aa28, fe_sa28, fe_ll28, fe_aa29, fe_sa29, fe_ll29, fe_aa30, fe_sa30, fe_ll30, fe_aa31, fe_sa31, fe_ll31, fe_aa32, fe_sa32, fe_ll32, fe_aa33, fe_sa33, fe_m86_2 (dx := 1) (dy := 0) (cell := (i : Int)) (by omega) (by omega) (by omega) (by omega) (by omega) (by omega) hF hB, fe_m86_2 (dx := 0) (dy := 1) (cell := (i : Int)) (by omega) (by omega) (by omega) (by omega) (by omega) (by omega) hF hB, fe_m86_2 (dx := x - P 0 ci) (dy := y - P 1 ci) (cell := (i : Int)) (by omega) (by omega) (by omega) (by omega) (by omega) (by omega) hF hB]
      rw [if_neg (by omega)]
      have step : (R 0 i = true → fe_prt (fe_lx (P 0 ci) x) (fe_lx (P 1 ci) y) 3 2 1 0 i = true ∨ fe_prt (fe_lx (P 0 ci) x) (fe_lx (P 1 ci) y) 3 2 0 1 i = true ∨ fe_prt (fe_lx (P 0 ci) x) (fe_lx (P 1 ci) y) 3 2 (x - P 0 ci) (y - P 1 ci) i = true) → fe_WP E 91 41 [some (.ref (b + 15)), some (.int (fe_z ci)), some (.int (fe_z x)), some (.int (fe_z y)), some (.int (fe_z ((i : Int) + 1)))] [] (fe_mk b N c (fe_rc b G R P F' S J U o)) K := fun q => ih (fun k q1 q2 q3 => by
        by_cases q4 : k < i
        · exact g k q1 q4 q3
        · have : k = i := by omega
          subst this
          exact q q3)
      split
      · next q =>
        exact step (fun q2 => by rw [q] at q2; cases q2)
      · next q =>
        rw [Bool.not_eq_false] at q
        split
        · next q2 =>
          split
          · next q3 =>
            split
            · next q4 =>
              have := hK F'
              rw [fe_B_neg (p := fe_line (R 0) (P 0 ci) (P 1 ci) x y) (fun hh => by
                have := hh i (by omega) (by omega) q
                simp [q2, q3, q4] at this)] at this
              exact this
            · next q4 =>
              rw [Bool.not_eq_false] at q4
              exact step (fun _ => Or.inr (Or.inr q4))
          · next q3 =>
            rw [Bool.not_eq_false] at q3
            exact step (fun _ => Or.inr (Or.inl q3))
        · next q2 =>
          rw [Bool.not_eq_false] at q2
          exact step (fun _ => Or.inl q2)
  exact Lp 0 (by omega) (fun k q1 q2 => by omega)
theorem fe_m90 {ci cell w : Int} (h1 : 0 ≤ ci) (h2 : ci < 12) (hok : fe_okc P ci) (hc : 0 ≤ cell) (hc2 : cell < 192) (hw : 0 ≤ w) (hw2 : w < 8) (hK : ∀ F', K (.inl (some (.int (fe_bi (fe_B (R 4 (192 * ci + cell) = false ∧ fe_see (R 0) (P 0 ci) (P 1 ci) (P 2 ci) (R 3 ci) cell w)))))) (fe_mk b N c (fe_rc b G R P F' S J U o))) : fe_WP E 90 0 [some (.ref (b + 15)), some (.int (fe_z ci)), some (.int (fe_z cell)), some (.int (fe_z w))] [] (fe_mk b N c (fe_rc b G R P F S J U o)) K := by
  have ⟨h3, h4, h5, h6, h7, h8⟩ := hok
  simp (maxSteps := 4000000) (disch := omega) only [fe_e90_0, fe_e90_1, fe_e90_4, fe_e90_5, fe_e90_6, fe_e90_9, fe_e90_10, fe_e90_13, fe_e90_16, fe_e90_17, fe_e90_18, fe_e90_19, fe_e90_20, fe_e90_21, fe_e90_24, fe_e90_25, fe_e90_26, fe_e90_27, fe_e90_28, fe_e90_31, fe_e90_34, fe_e90_35, fe_e90_36, fe_e90_39, fe_e90_42, fe_e90_43, fe_e90_44, fe_e90_45, fe_e90_48, fe_e90_51, fe_e90_52, fe_e90_55, fe_e90_56, Option.some.injEq, exists_eq_left', fe_KB_r, fe_KB_v, fe_z_add, fe_z_sub, fe_z_mul, fe_z_neg, fe_bi0, fe_bi1, fe_bibi, fe_bi01, fe_z01, fe_z11, true_and, and_true, if_true, if_false, ite_not, not_true_eq_false, not_false_eq_true, Bool.false_eq_true, Bool.true_eq_false, fe_z_mod, fe_z_eq, fe_z_lt, fe_z_le, fe_z_div, Int.reduceEq, Int.reduceLT, Int.reduceLE, Int.reduceNeg, ↓reduceIte, eq_self, Nat.reduceAdd, fe_bor, fe_tb_bi, fe_tb_0, fe_tb_1, fe_un_at, Nat.reduceEqDiff, or_false, or_true, true_or, false_or, fe_ob15, fe_g15_0, fe_p15_0, fe_g15_1, fe_g15_2, fe_g15_3, fe_g15_4, fe_g15_5, fe_g15_6, fe_g15_7, fe_g15_8, fe_g15_9, fe_g15_10, fe_g15_11, fe_g15_12, fe_p15_12, fe_g15_13, fe_g15_14, fe_g15_15, fe_g15_16, fe_g15_17, fe_g15_18, fe_p15_18, fe_g15_19, fe_p15_19, fe_g15_20, fe_g15_21, fe_p15_21, fe_aa16, fe_sa16, fe_ll16, fe_aa17, fe_sa17, fe_ll17, fe_aa18, fe_sa18, fe_ll18, fe_aa19, fe_sa19, fe_ll19, fe_aa20, fe_sa20, fe_ll20, fe_aa21, fe_sa21, fe_ll21, fe_aa22, fe_sa22, fe_ll22, fe_aa23, fe_sa23, fe_ll23, fe_aa24, fe_sa24, fe_ll24, fe_aa25, fe_sa25, fe_ll25, fe_aa26, fe_sa26, fe_ll26, fe_aa27, fe_sa27, fe_ll27, fe_aa28, fe_sa28, fe_ll28, fe_aa29, fe_sa29, fe_ll29, fe_aa30, fe_sa30, fe_ll30, fe_aa31, fe_sa31, fe_ll31, fe_aa32, fe_sa32, fe_ll32, fe_aa33, fe_sa33, fe_m89, fe_m84]
  have no : ¬ (R 4 (192 * ci + cell) = false ∧ fe_see (R 0) (P 0 ci) (P 1 ci) (P 2 ci) (R 3 ci) cell w) → K (.inl (some (.int (fe_z 0)))) (fe_mk b N c (fe_rc b G R P F S J U o)) := fun q => by
    have := hK F
    rw [fe_B_neg q] at this
    exact this
  split
  · next q1 =>
    split
    · next q2 =>
      split
      · next q3 => exact no (fun q => by have := q.2.2.1; rw [q3] at this; cases this)
      · next q3 =>
        rw [Bool.not_eq_false] at q3
        split
        · next q4 =>
          refine fe_m88 h1 h2 hok hc hc2 (fun F' => ?_)
          simp (maxSteps := 4000000) (disch := omega) only [fe_e90_0, fe_e90_1, fe_e90_4, fe_e90_5, fe_e90_6, fe_e90_9, fe_e90_10, fe_e90_13, fe_e90_16, fe_e90_17, fe_e90_18, fe_e90_19, fe_e90_20, fe_e90_21, fe_e90_24, fe_e90_25, fe_e90_26, fe_e90_27, fe_e90_28, fe_e90_31, fe_e90_34, fe_e90_35, fe_e90_36, fe_e90_39, fe_e90_42, fe_e90_43, fe_e90_44, fe_e90_45, fe_e90_48, fe_e90_51, fe_e90_52, fe_e90_55, fe_e90_56, Option.some.injEq, exists_eq_left', fe_KB_r, fe_KB_v, fe_z_add, fe_z_sub, fe_z_mul, fe_z_neg, fe_bi0, fe_bi1, fe_bibi, fe_bi01, fe_z01, fe_z11, true_and, and_true, if_true, if_false, ite_not, not_true_eq_false, not_false_eq_true, Bool.false_eq_true, Bool.true_eq_false, fe_z_mod, fe_z_eq, fe_z_lt, fe_z_le, fe_z_div, Int.reduceEq, Int.reduceLT, Int.reduceLE, Int.reduceNeg, ↓reduceIte, eq_self, Nat.reduceAdd, fe_bor, fe_tb_bi, fe_tb_0, fe_tb_1, fe_un_at, Nat.reduceEqDiff, or_false, or_true, true_or, false_or]
          have hk := hK F'
          by_cases q5 : fe_clear (R 0) (P 0 ci) (P 1 ci) cell
          · rw [fe_B_pos ⟨q2, q1, q3, q4, q5⟩] at hk
            simp only [fe_B_pos q5, Bool.true_eq_false, if_false]
            exact hk
          · rw [fe_B_neg (fun q => q5 q.2.2.2.2)] at hk
            simp only [fe_B_neg q5, if_true]
            exact hk
        · next q4 => exact no (fun q => q4 q.2.2.2.1)
    · next q2 => exact no (fun q => q2 q.1)
  · next q1 => exact no (fun q => q1 q.2.1)
theorem fe_m92 {ci cell w : Int} (h1 : 0 ≤ ci) (h2 : ci < 12) (hok : fe_okc P ci) (hc : 0 ≤ cell) (hc2 : cell < 192) (hw : 0 ≤ w) (hw2 : w < 8) (hK : ∀ F', K (.inl (some (.int (fe_bi (fe_B (R 4 (192 * ci + cell) = false ∧ fe_shw (R 0) (P 0 ci) (P 1 ci) (P 2 ci) (R 3 ci) cell w)))))) (fe_mk b N c (fe_rc b G R P F' S J U o))) : fe_WP E 92 0 [some (.ref (b + 15)), some (.int (fe_z ci)), some (.int (fe_z cell)), some (.int (fe_z w)), none, none, none] [] (fe_mk b N c (fe_rc b G R P F S J U o)) K := by
  have ⟨h3, h4, h5, h6, h7, h8⟩ := hok
  have no : ∀ F', ¬ (R 4 (192 * ci + cell) = false ∧ fe_shw (R 0) (P 0 ci) (P 1 ci) (P 2 ci) (R 3 ci) cell w) → K (.inl (some (.int (fe_z 0)))) (fe_mk b N c (fe_rc b G R P F' S J U o)) := fun F' q => by
    have := hK F'
    rw [fe_B_neg q] at this
    exact this
  simp (maxSteps := 4000000) (disch := omega) only [fe_e92_0, fe_e92_1, fe_e92_4, fe_e92_7, fe_e92_8, fe_e92_9, fe_e92_10, fe_e92_11, fe_e92_12, fe_e92_15, fe_e92_16, fe_e92_17, fe_e92_20, fe_e92_23, fe_e92_24, fe_e92_25, fe_e92_26, fe_e92_30, fe_e92_31, fe_e92_34, fe_e92_35, fe_e92_37, fe_e92_38, fe_e92_40, fe_e92_41, fe_e92_42, fe_e92_43, fe_e92_45, fe_e92_46, fe_e92_48, fe_e92_49, fe_e92_51, fe_e92_52, fe_e92_53, fe_e92_54, fe_e92_56, fe_e92_57, fe_e92_58, fe_e92_59, fe_e92_61, fe_e92_63, fe_e92_66, fe_e92_69, fe_e92_70, fe_e92_71, fe_e92_73, fe_e92_75, fe_e92_78, fe_e92_81, fe_e92_82, fe_e92_83, fe_e92_86, fe_e92_89, fe_e92_90, Option.some.injEq, exists_eq_left', fe_KB_r, fe_KB_v, fe_z_add, fe_z_sub, fe_z_mul, fe_z_neg, fe_bi0, fe_bi1, fe_bibi, fe_bi01, fe_z01, fe_z11, true_and, and_true, if_true, if_false, ite_not, not_true_eq_false, not_false_eq_true, Bool.false_eq_true, Bool.true_eq_false, fe_z_mod, fe_z_eq, fe_z_lt, fe_z_le, fe_z_div, Int.reduceEq, Int.reduceLT, Int.reduceLE, Int.reduceNeg, ↓reduceIte, eq_self, Nat.reduceAdd, fe_bor, fe_tb_bi, fe_tb_0, fe_tb_1, fe_un_at, Nat.reduceEqDiff, or_false, or_true, true_or, false_or, fe_ob15, fe_g15_0, fe_p15_0, fe_g15_1, fe_g15_2, fe_g15_3, fe_g15_4, fe_g15_5, fe_g15_6, fe_g15_7, fe_g15_8, fe_g15_9, fe_g15_10, fe_g15_11, fe_g15_12, fe_p15_12, fe_g15_13, fe_g15_14, fe_g15_15, fe_g15_16, fe_g15_17, fe_g15_18, fe_p15_18, fe_g15_19, fe_p15_19, fe_g15_20, fe_g15_21, fe_p15_21, fe_aa16, fe_sa16, fe_ll16, fe_aa17, fe_sa17, fe_ll17, fe_aa18, fe_sa18, fe_ll18, fe_aa19, fe_sa19, fe_ll19, fe_aa20, fe_sa20, fe_ll20, fe_aa21, fe_sa21, fe_ll21, fe_aa22, fe_sa22, fe_ll22, fe_aa23, fe_sa23, fe_ll23, fe_aa24, fe_sa24, fe_ll24, fe_aa25, fe_sa25, fe_ll25, fe_aa26, fe_sa26, fe_ll26, fe_aa27, fe_sa27, fe_ll27, fe_aa28, fe_sa28, fe_ll28, fe_aa29, fe_sa29, fe_ll29, fe_aa30, fe_sa30, fe_ll30, fe_aa31, fe_sa31, fe_ll31, fe_aa32, fe_sa32, fe_ll32, fe_aa33, fe_sa33, fe_m84]
  split
  · next q2 =>
    split
    · next q1 =>
      have Lp : ∀ i : Nat, i ≤ 4 → (∀ k : Nat, k < i → ¬ (fe_hld (P 0 ci) (P 1 ci) (P 2 ci) (R 3 ci) w (cell % 16 + (k : Int) % 2) (cell / 16 + (k : Int) / 2) = true ∧ fe_line (R 0) (P 0 ci) (P 1 ci) (cell % 16 + (k : Int) % 2) (cell / 16 + (k : Int) / 2))) → ∀ F' o5 o6, fe_WP E 92 28 [some (.ref (b + 15)), some (.int (fe_z ci)), some (.int (fe_z cell)), some (.int (fe_z w)), some (.int (fe_z (i : Int))), o5, o6] [] (fe_mk b N c (fe_rc b G R P F' S J U o)) K := by
        refine fe_down 4 ?_ ?_
        · intro g F' o5 o6
          simp (maxSteps := 4000000) (disch := omega) only [fe_e92_0, fe_e92_1, fe_e92_4, fe_e92_7, fe_e92_8, fe_e92_9, fe_e92_10, fe_e92_11, fe_e92_12, fe_e92_15, fe_e92_16, fe_e92_17, fe_e92_20, fe_e92_23, fe_e92_24, fe_e92_25, fe_e92_26, fe_e92_28, fe_e92_30, fe_e92_31, fe_e92_34, fe_e92_35, fe_e92_37, fe_e92_38, fe_e92_40, fe_e92_41, fe_e92_42, fe_e92_43, fe_e92_45, fe_e92_46, fe_e92_48, fe_e92_49, fe_e92_51, fe_e92_52, fe_e92_53, fe_e92_54, fe_e92_56, fe_e92_57, fe_e92_58, fe_e92_59, fe_e92_61, fe_e92_63, fe_e92_66, fe_e92_69, fe_e92_70, fe_e92_71, fe_e92_73, fe_e92_75, fe_e92_78, fe_e92_81, fe_e92_82, fe_e92_83, fe_e92_86, fe_e92_89, fe_e92_90, Option.some.injEq, exists_eq_left', fe_KB_r, fe_KB_v, fe_z_add, fe_z_sub, fe_z_mul, fe_z_neg, fe_bi0, fe_bi1, fe_bibi, fe_bi01, fe_z01, fe_z11, true_and, and_true, if_true, if_false, ite_not, not_true_eq_false, not_false_eq_true, Bool.false_eq_true, Bool.true_eq_false, fe_z_mod, fe_z_eq, fe_z_lt, fe_z_le, fe_z_div, Int.reduceEq, Int.reduceLT, Int.reduceLE, Int.reduceNeg, ↓reduceIte, eq_self, Nat.reduceAdd, fe_bor, fe_tb_bi, fe_tb_0, fe_tb_1, fe_un_at, Nat.reduceEqDiff, or_false, or_true, true_or, false_or, Int.cast_ofNat_Int]
          exact no F' (fun q => by
            obtain ⟨k, w1, w2⟩ := q.2.2
            exact g k w1 w2)
        · intro i hi ih g F' o5 o6
          rw [fe_e92_28]
          simp (maxSteps := 4000000) (disch := omega) only [fe_e92_0, fe_e92_1, fe_e92_4, fe_e92_7, fe_e92_8, fe_e92_9, fe_e92_10, fe_e92_11, fe_e92_12, fe_e92_15, fe_e92_16, fe_e92_17, fe_e92_20, fe_e92_23, fe_e92_24, fe_e92_25, fe_e92_26, fe_e92_30, fe_e92_31, fe_e92_34, fe_e92_35, fe_e92_37, fe_e92_38, fe_e92_40, fe_e92_41, fe_e92_42, fe_e92_43, fe_e92_45, fe_e92_46, fe_e92_48, fe_e92_49, fe_e92_51, fe_e92_52, fe_e92_53, fe_e92_54, fe_e92_56, fe_e92_57, fe_e92_58, fe_e92_59, fe_e92_61, fe_e92_63, fe_e92_66, fe_e92_69, fe_e92_70, fe_e92_71, fe_e92_73, fe_e92_75, fe_e92_78, fe_e92_81, fe_e92_82, fe_e92_83, fe_e92_86, fe_e92_89, fe_e92_90, Option.some.injEq, exists_eq_left', fe_KB_r, fe_KB_v, fe_z_add, fe_z_sub, fe_z_mul, fe_z_neg, fe_bi0, fe_bi1, fe_bibi, fe_bi01, fe_z01, fe_z11, true_and, and_true, if_true, if_false, ite_not, not_true_eq_false, not_false_eq_true, Bool.false_eq_true, Bool.true_eq_false, fe_z_mod, fe_z_eq, fe_z_lt, fe_z_le, fe_z_div, Int.reduceEq, Int.reduceLT, Int.reduceLE, Int.reduceNeg, ↓reduceIte, eq_self, Nat.reduceAdd, fe_bor, fe_tb_bi, fe_tb_0, fe_tb_1, fe_un_at, Nat.reduceEqDiff, or_false, or_true, true_or, false_or, fe_ob15, fe_g15_0, fe_p15_0, fe_g15_1, fe_g15_2, fe_g15_3, fe_g15_4, fe_g15_5, fe_g15_6, fe_g15_7, fe_g15_8, fe_g15_9, fe_g15_10, fe_g15_11, fe_g15_12, fe_p15_12, fe_g15_13, fe_g15_14, fe_g15_15, fe_g15_16, fe_g15_17, fe_g15_18, fe_p15_18, fe_g15_19, fe_p15_19, fe_g15_20, fe_g15_21, fe_p15_21, fe_aa16, fe_sa16, fe_ll16, fe_aa17, fe_sa17, fe_ll17, fe_aa18, fe_sa18, fe_ll18, fe_aa19, fe_sa19, fe_ll19, fe_aa20, fe_sa20, fe_ll20, fe_aa21, fe_sa21, fe_ll21, fe_aa22, fe_sa22, fe_ll22, fe_aa23, fe_sa23, fe_ll23, fe_aa24, fe_sa24, fe_ll24, fe_aa25, fe_sa25, fe_ll25, fe_aa26, fe_sa26, fe_ll26, fe_aa27, fe_sa27, fe_ll27, fe_aa28, fe_sa28, fe_ll28, fe_aa29, fe_sa29, fe_ll29, fe_aa30, fe_sa30, fe_ll30, fe_aa31, fe_sa31, fe_ll31, fe_aa32, fe_sa32, fe_ll32, fe_aa33, fe_sa33, fe_m83]
          rw [if_neg (by omega)]
          have step : ∀ F' o5 o6, ¬ (fe_hld (P 0 ci) (P 1 ci) (P 2 ci) (R 3 ci) w (cell % 16 + (i : Int) % 2) (cell / 16 + (i : Int) / 2) = true ∧ fe_line (R 0) (P 0 ci) (P 1 ci) (cell % 16 + (i : Int) % 2) (cell / 16 + (i : Int) / 2)) → fe_WP E 92 28 [some (.ref (b + 15)), some (.int (fe_z ci)), some (.int (fe_z cell)), some (.int (fe_z w)), some (.int (fe_z ((i : Int) + 1))), o5, o6] [] (fe_mk b N c (fe_rc b G R P F' S J U o)) K := fun F' o5 o6 q => ih (fun k q1 => by
            by_cases q4 : k < i
            · exact g k q4
            · have : k = i := by omega
              subst this
              exact q) F' o5 o6
          split
          · next q3 => exact step _ _ _ (fun q => by rw [q3] at q; cases q.1)
          · next q3 =>
            rw [Bool.not_eq_false] at q3
            refine fe_m91 h1 h2 hok (by omega) (by omega) (by omega) (by omega) (fun F'' => ?_)
            simp (maxSteps := 4000000) (disch := omega) only [fe_e92_0, fe_e92_1, fe_e92_4, fe_e92_7, fe_e92_8, fe_e92_9, fe_e92_10, fe_e92_11, fe_e92_12, fe_e92_15, fe_e92_16, fe_e92_17, fe_e92_20, fe_e92_23, fe_e92_24, fe_e92_25, fe_e92_26, fe_e92_30, fe_e92_31, fe_e92_34, fe_e92_35, fe_e92_37, fe_e92_38, fe_e92_40, fe_e92_41, fe_e92_42, fe_e92_43, fe_e92_45, fe_e92_46, fe_e92_48, fe_e92_49, fe_e92_51, fe_e92_52, fe_e92_53, fe_e92_54, fe_e92_56, fe_e92_57, fe_e92_58, fe_e92_59, fe_e92_61, fe_e92_63, fe_e92_66, fe_e92_69, fe_e92_70, fe_e92_71, fe_e92_73, fe_e92_75, fe_e92_78, fe_e92_81, fe_e92_82, fe_e92_83, fe_e92_86, fe_e92_89, fe_e92_90, Option.some.injEq, exists_eq_left', fe_KB_r, fe_KB_v, fe_z_add, fe_z_sub, fe_z_mul, fe_z_neg, fe_bi0, fe_bi1, fe_bibi, fe_bi01, fe_z01, fe_z11, true_and, and_true, if_true, if_false, ite_not, not_true_eq_false, not_false_eq_true, Bool.false_eq_true, Bool.true_eq_false, fe_z_mod, fe_z_eq, fe_z_lt, fe_z_le, fe_z_div, Int.reduceEq, Int.reduceLT, Int.reduceLE, Int.reduceNeg, ↓reduceIte, eq_self, Nat.reduceAdd, fe_bor, fe_tb_bi, fe_tb_0, fe_tb_1, fe_un_at, Nat.reduceEqDiff, or_false, or_true, true_or, false_or]
            by_cases q5 : fe_line (R 0) (P 0 ci) (P 1 ci) (cell % 16 + (i : Int) % 2) (cell / 16 + (i : Int) / 2)
            · have hk := hK F''
              rw [fe_B_pos ⟨q2, q1, i, hi, q3, q5⟩] at hk
              simp only [fe_B_pos q5, Bool.true_eq_false, if_false]
              exact hk
            · simp only [fe_B_neg q5, if_true]
              exact step _ _ _ (fun q => q5 q.2)
      exact Lp 0 (by omega) (fun k hk => by omega) F _ _
    · next q1 => exact no F (fun q => q1 q.2.1)
  · next q2 => exact no F (fun q => q2 q.1)
end Fe33

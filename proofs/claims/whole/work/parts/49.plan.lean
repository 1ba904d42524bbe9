/-! the class: the plan -/
def fe_lb (l : Int64) (j : Nat) : Bool := l.toBitVec.getLsbD j
theorem fe_lb_or {a c : Int64} {j : Nat} : fe_lb (a ||| c) j = (fe_lb a j || fe_lb c j) := by
  simp only [fe_lb, Int64.toBitVec_or, BitVec.getLsbD_or]
theorem fe_lb_and {a c : Int64} {j : Nat} : fe_lb (a &&& c) j = (fe_lb a j && fe_lb c j) := by
  simp only [fe_lb, Int64.toBitVec_and, BitVec.getLsbD_and]
theorem fe_sh64 : ∀ k, k < 64 → (((fe_z ((k : Nat) : Int)).toInt64 &&& 63).toBitVec.smod 64).toNat = k := by decide +kernel
theorem fe_lb_shl {l : Int64} {k j : Nat} (hk : k < 64) : fe_lb (l <<< ((fe_z (k : Int)).toInt64 &&& 63)) j = (decide (j < 64) && !decide (j < k) && fe_lb l (j - k)) := by
  unfold fe_lb
  rw [Int64.toBitVec_shiftLeft, BitVec.getLsbD_shiftLeft', fe_sh64 k hk]
theorem fe_lb_shr {l : Int64} {k : Nat} (hk : k < 64) : ((l >>> ((fe_z (k : Int)).toInt64 &&& 63)) &&& 1 = 0) = (fe_lb l k = false) := by
  rw [eq_iff_iff, ← Int64.toBitVec_inj, Int64.toBitVec_and, Int64.toBitVec_shiftRight]
  have h1 : (1 : Int64).toBitVec = 1#64 := rfl
  have h0 : (0 : Int64).toBitVec = 0#64 := rfl
  rw [h1, h0]
  constructor
  · intro h
    have := congrArg (fun v => BitVec.getLsbD v 0) h
    simp only [BitVec.getLsbD_and, BitVec.sshiftRight', BitVec.getLsbD_sshiftRight] at this
    rw [fe_sh64 k hk] at this
    simpa [hk, fe_lb] using this
  · intro h
    apply BitVec.eq_of_getLsbD_eq
    intro j hj
    simp only [BitVec.getLsbD_and, BitVec.sshiftRight', BitVec.getLsbD_sshiftRight]
    rw [fe_sh64 k hk]
    by_cases h2 : j = 0
    · subst h2
      unfold fe_lb at h
      rw [BitVec.getLsbD_eq_getElem hk] at h
      simp [hk, h]
    · simp [h2]
theorem fe_lc {a c : Int64} : (lg_cmp a c = fe_z 0) = (a = c) := propext (lg_cmp_eq a c)
def fe_mb (M : Int → Int64) (s : Nat) : Bool := fe_lb (M ((s / 64 : Nat) : Int)) (s % 64)
theorem fe_mb_up {M : Int → Int64} {w s : Nat} {l : Int64} : fe_mb (fe_up M (w : Int) l) s = if s / 64 = w then fe_lb l (s % 64) else fe_mb M s := by
  unfold fe_mb
  rw [fe_up_at]
  by_cases h : s / 64 = w
  · rw [if_pos h, if_pos (by omega)]
  · rw [if_neg h, if_neg (by omega)]
theorem fe_key6 : ∀ hi, hi < 64 → ∀ lo, lo < 64 → fe_z ((64 * hi + lo : Nat) : Int) >>> (fe_z 6 &&& 31) = fe_z ((hi : Nat) : Int) ∧ fe_z ((64 * hi + lo : Nat) : Int) &&& fe_z 63 = fe_z ((lo : Nat) : Int) ∧ fe_z ((64 * hi + lo : Nat) : Int) &&& fe_z 4095 = fe_z ((64 * hi + lo : Nat) : Int) ∧ (fe_z ((64 * hi + lo : Nat) : Int) ^^^ fe_z (-1)) &&& fe_z 4095 = fe_z ((4095 - (64 * hi + lo) : Nat) : Int) := by decide +kernel
theorem fe_k6 {q : Nat} (h : q < 4096) : fe_z (q : Int) >>> (fe_z 6 &&& 31) = fe_z ((q / 64 : Nat) : Int) ∧ fe_z (q : Int) &&& fe_z 63 = fe_z ((q % 64 : Nat) : Int) ∧ fe_z (q : Int) &&& fe_z 4095 = fe_z (q : Int) ∧ (fe_z (q : Int) ^^^ fe_z (-1)) &&& fe_z 4095 = fe_z ((4095 - q : Nat) : Int) := by
  have := fe_key6 (q / 64) (by omega) (q % 64) (by omega)
  rw [show 64 * (q / 64) + q % 64 = q by omega] at this
  exact this
theorem fe_crt {a c d : Nat} (ha : a < 24) (hc : c < 5) (hd : d < 7) : ∃ t, t < 840 ∧ t % 24 = a ∧ t % 5 = c ∧ t % 7 = d := ⟨(385 * a + 336 * c + 120 * d) % 840, by omega, by omega, by omega, by omega⟩
/-- after so many bits: whether a set below was there -/
def fe_ztr (m : Nat → Bool) : Nat → Nat → Bool
  | 0, s => m s
  | k + 1, s => fe_ztr m k s || (s.testBit k && fe_ztr m k (s ^^^ 2 ^ k))
theorem fe_ztr_iff {m : Nat → Bool} {k s : Nat} : fe_ztr m k s = true ↔ ∃ q, (∀ j, q.testBit j = true → s.testBit j = true) ∧ (∀ j, k ≤ j → q.testBit j = s.testBit j) ∧ m q = true := by
  induction k generalizing s with
  | zero =>
    constructor
    · exact fun h => ⟨s, fun _ h => h, fun _ _ => rfl, h⟩
    · rintro ⟨q, -, h2, h3⟩
      have : q = s := Nat.eq_of_testBit_eq (fun j => h2 j (Nat.zero_le _))
      subst this
      exact h3
  | succ k ih =>
    simp only [fe_ztr, Bool.or_eq_true, Bool.and_eq_true, ih]
    have hx : ∀ j, ¬ j = k → (s ^^^ 2 ^ k).testBit j = s.testBit j := fun j hj => by
      rw [Nat.testBit_xor, Nat.testBit_two_pow, decide_eq_false (fun h => hj h.symm), Bool.xor_false]
    constructor
    · rintro (⟨q, h1, h2, h3⟩ | ⟨hb, q, h1, h2, h3⟩)
      · exact ⟨q, h1, fun j hj => h2 j (by omega), h3⟩
      · refine ⟨q, fun j hj => ?_, fun j hj => ?_, h3⟩
        · by_cases hjk : j = k
          · subst hjk
            exact hb
          · rw [← hx j hjk]
            exact h1 j hj
        · rw [h2 j (by omega), hx j (by omega)]
    · rintro ⟨q, h1, h2, h3⟩
      by_cases hq : q.testBit k = s.testBit k
      · refine Or.inl ⟨q, h1, fun j hj => ?_, h3⟩
        by_cases hjk : j = k
        · subst hjk
          exact hq
        · exact h2 j (by omega)
      · have hqk : q.testBit k = false := by
          cases h : q.testBit k with
          | false => rfl
          | true => exact absurd (h.trans (h1 k h).symm) hq
        have hsk : s.testBit k = true := by
          cases h : s.testBit k with
          | true => rfl
          | false => exact absurd (hqk.trans h.symm) hq
        have hxk : (s ^^^ 2 ^ k).testBit k = false := by
          rw [Nat.testBit_xor, Nat.testBit_two_pow_self, hsk]
          rfl
        refine Or.inr ⟨hsk, q, fun j hj => ?_, fun j hj => ?_, h3⟩
        · by_cases hjk : j = k
          · subst hjk
            rw [hqk] at hj
            cases hj
          · rw [hx j hjk]
            exact h1 j hj
        · by_cases hjk : j = k
          · subst hjk
            rw [hqk, hxk]
          · rw [hx j hjk]
            exact h2 j (by omega)
theorem fe_xsub : ∀ hi, hi < 64 → ∀ lo, lo < 64 → ∀ k, k < 12 → Nat.testBit (64 * hi + lo) k = true → 2 ^ k ≤ 64 * hi + lo ∧ (64 * hi + lo) ^^^ 2 ^ k = (64 * hi + lo) - 2 ^ k := by decide +kernel
theorem fe_xs1 {s k : Nat} (hs : s < 4096) (hk : k < 12) (h : s.testBit k = true) : 2 ^ k ≤ s ∧ s ^^^ 2 ^ k = s - 2 ^ k := by
  have := fe_xsub (s / 64) (by omega) (s % 64) (by omega) k hk
  rw [show 64 * (s / 64) + s % 64 = s by omega] at this
  exact this h
theorem fe_wb_key : ∀ k, k < 6 → ∀ j, j < 64 → (!decide (j < 2 ^ k) && fe_lb (fe_wb k) (j - 2 ^ k)) = Nat.testBit j k := by decide +kernel
theorem fe_4095 {s j : Nat} (hs : s < 4096) : (4095 - s).testBit j = (decide (j < 12) && !s.testBit j) := by
  have := Nat.testBit_two_pow_sub_succ (x := s) (n := 12) hs j
  rw [show 2 ^ 12 - (s + 1) = 4095 - s by omega] at this
  exact this
theorem fe_and_0 {q s : Nat} : q &&& s = 0 ↔ ∀ j, ¬ (q.testBit j = true ∧ s.testBit j = true) := by
  constructor
  · intro h j ⟨a1, a2⟩
    have := congrArg (fun z => Nat.testBit z j) h
    simp only [Nat.testBit_and, a1, a2, Nat.zero_testBit] at this
    cases this
  · intro h
    apply Nat.eq_of_testBit_eq
    intro j
    rw [Nat.testBit_and, Nat.zero_testBit]
    cases h1 : q.testBit j with
    | false => rfl
    | true =>
      cases h2 : s.testBit j with
      | false => rfl
      | true => exact absurd ⟨h1, h2⟩ (h j)
section Fe49
variable {E : fe_E} {b : Nat} {N : Nat × Nat × Nat} {r : Nat → Option fe_C} {B : Nat → Int} {D : Nat → Int → Int} {M : Int → Int64} {V : Nat → Int} {A : Int → Int} {Z : Nat → Int → Bool} {T : fe_Et} {I : Nat → Nat → Int} {O : Nat → Int → Int} {L : Nat → Int → Bool} {C : Nat → Nat → Int → Int} {K : fe_R → fe_H → Prop}
theorem fe_m24 (hK : ∀ M', (∀ s, s < 4096 → fe_mb M' s = false) → K (.inl none) (fe_mk b N (fe_cc b B D M' (fe_un V 2 0) A Z T I O L C) r)) : fe_WP E 24 0 [some (.ref (b + 11))] [] (fe_mk b N (fe_cc b B D M V A Z T I O L C) r) K := by
  simp (maxSteps := 4000000) (disch := omega) only [fe_e24_0, fe_e24_1, fe_e24_4, Option.some.injEq, exists_eq_left', fe_KB_r, fe_KB_v, fe_z_add, fe_z_sub, fe_z_mul, fe_z_neg, fe_bi0, fe_bi1, fe_bibi, fe_bi01, fe_z01, fe_z11, true_and, and_true, if_true, if_false, ite_not, not_true_eq_false, not_false_eq_true, Bool.false_eq_true, Bool.true_eq_false, fe_z_mod, fe_z_eq, fe_z_lt, fe_z_le, fe_z_div, Int.reduceEq, Int.reduceLT, Int.reduceLE, Int.reduceNeg, ↓reduceIte, eq_self, Nat.reduceAdd, fe_bor, fe_tb_bi, fe_tb_0, fe_tb_1, fe_un_at, Nat.reduceEqDiff, or_false, or_true, true_or, false_or, Int.le_refl, fe_ob0, fe_g0_0, fe_g0_1, fe_g0_2, fe_p0_2, fe_g0_3, fe_g0_4, fe_g0_5, fe_p0_5, fe_g0_6, fe_ob1, fe_g1_0, fe_g1_1, fe_g1_2, fe_g1_3, fe_ob5, fe_g5_0, fe_p5_0, fe_g5_1, fe_p5_1, fe_g5_2, fe_p5_2, fe_g5_3, fe_p5_3, fe_g5_4, fe_p5_4, fe_g5_5, fe_p5_5, fe_g5_6, fe_p5_6, fe_g5_7, fe_p5_7, fe_g5_8, fe_p5_8, fe_g5_9, fe_p5_9, fe_ob7, fe_g7_0, fe_g7_1, fe_g7_2, fe_ob11, fe_g11_0, fe_g11_1, fe_p11_1, fe_ob13, fe_g13_0, fe_g13_1, fe_p13_1, fe_g13_2, fe_p13_2, fe_g13_3, fe_p13_3, fe_g13_4, fe_p13_4, fe_g13_5, fe_p13_5, fe_aa2, fe_sa2, fe_ll2, fe_aa3, fe_sa3, fe_ll3, fe_aa4, fe_sa4, fe_ll4, fe_aa8, fe_sa8, fe_ll8, fe_aa9, fe_sa9, fe_ll9, fe_aa10, fe_sa10, fe_ll10, fe_aa12, fe_sa12, fe_aa14, fe_sa14, fe_ll14, fe_aa6, fe_aa6n, fe_ll6, fe_obE, fe_gE_0, fe_gE_1, fe_gE_2, fe_gE_3, fe_gE_4, fe_gE_5, fe_gE_6, fe_gE_7, fe_gE_8, fe_gE_9, fe_gE_10, fe_gE_11, fe_pE_7, fe_pE_8, fe_aE1, fe_sE1, fe_lE1, fe_aE2, fe_sE2, fe_aE3, fe_sE3, fe_lE3, fe_aE4, fe_sE4, fe_lE4]
  rw [fe_e24_5 fe_G12 (by decide)]
  have : fe_put (fe_mk b N (fe_cc b B D M V A Z T I O L C) r) (b + 12) (fe_J 64 (fun _ => (0 : Int64))) = (fe_mk b N (fe_cc b B D (fun _ => (0 : Int64)) V A Z T I O L C) r) := fe_P12 (f := fun _ => 0)
  rw [this]
  simp (maxSteps := 4000000) (disch := omega) only [fe_e24_0, fe_e24_1, fe_e24_4, fe_e24_5, fe_e24_8, fe_e24_9, fe_e24_10, fe_e24_13, Option.some.injEq, exists_eq_left', fe_KB_r, fe_KB_v, fe_z_add, fe_z_sub, fe_z_mul, fe_z_neg, fe_bi0, fe_bi1, fe_bibi, fe_bi01, fe_z01, fe_z11, true_and, and_true, if_true, if_false, ite_not, not_true_eq_false, not_false_eq_true, Bool.false_eq_true, Bool.true_eq_false, fe_z_mod, fe_z_eq, fe_z_lt, fe_z_le, fe_z_div, Int.reduceEq, Int.reduceLT, Int.reduceLE, Int.reduceNeg, ↓reduceIte, eq_self, Nat.reduceAdd, fe_bor, fe_tb_bi, fe_tb_0, fe_tb_1, fe_un_at, Nat.reduceEqDiff, or_false, or_true, true_or, false_or, Int.le_refl, fe_ob0, fe_g0_0, fe_g0_1, fe_g0_2, fe_p0_2, fe_g0_3, fe_g0_4, fe_g0_5, fe_p0_5, fe_g0_6, fe_ob1, fe_g1_0, fe_g1_1, fe_g1_2, fe_g1_3, fe_ob5, fe_g5_0, fe_p5_0, fe_g5_1, fe_p5_1, fe_g5_2, fe_p5_2, fe_g5_3, fe_p5_3, fe_g5_4, fe_p5_4, fe_g5_5, fe_p5_5, fe_g5_6, fe_p5_6, fe_g5_7, fe_p5_7, fe_g5_8, fe_p5_8, fe_g5_9, fe_p5_9, fe_ob7, fe_g7_0, fe_g7_1, fe_g7_2, fe_ob11, fe_g11_0, fe_g11_1, fe_p11_1, fe_ob13, fe_g13_0, fe_g13_1, fe_p13_1, fe_g13_2, fe_p13_2, fe_g13_3, fe_p13_3, fe_g13_4, fe_p13_4, fe_g13_5, fe_p13_5, fe_aa2, fe_sa2, fe_ll2, fe_aa3, fe_sa3, fe_ll3, fe_aa4, fe_sa4, fe_ll4, fe_aa8, fe_sa8, fe_ll8, fe_aa9, fe_sa9, fe_ll9, fe_aa10, fe_sa10, fe_ll10, fe_aa12, fe_sa12, fe_aa14, fe_sa14, fe_ll14, fe_aa6, fe_aa6n, fe_ll6, fe_obE, fe_gE_0, fe_gE_1, fe_gE_2, fe_gE_3, fe_gE_4, fe_gE_5, fe_gE_6, fe_gE_7, fe_gE_8, fe_gE_9, fe_gE_10, fe_gE_11, fe_pE_7, fe_pE_8, fe_aE1, fe_sE1, fe_lE1, fe_aE2, fe_sE2, fe_aE3, fe_sE3, fe_lE3, fe_aE4, fe_sE4, fe_lE4]
  exact hK _ (fun s hs => by
    have : ∀ j, j < 64 → fe_lb 0 j = false := by decide +kernel
    exact this _ (Nat.mod_lt _ (by decide)))
theorem fe_m25 {s t : Nat} (hv : V 2 = (s : Int)) : fe_WP E 25 0 [some (.ref (b + 11)), some (.int (fe_z (t : Int)))] [] (fe_mk b N (fe_cc b B D M V A Z T I O L C) r) K ↔ K (.inl none) (fe_mk b N (fe_cc b B D M (fe_un V 2 ((s ||| t : Nat) : Int)) A Z T I O L C) r) := by
  simp (maxSteps := 4000000) (disch := omega) only [fe_e25_0, fe_e25_1, fe_e25_1r, fe_e25_2, fe_e25_5, fe_e25_6, fe_e25_7, fe_e25_10, Option.some.injEq, exists_eq_left', fe_KB_r, fe_KB_v, fe_z_add, fe_z_sub, fe_z_mul, fe_z_neg, fe_bi0, fe_bi1, fe_bibi, fe_bi01, fe_z01, fe_z11, true_and, and_true, if_true, if_false, ite_not, not_true_eq_false, not_false_eq_true, Bool.false_eq_true, Bool.true_eq_false, fe_z_mod, fe_z_eq, fe_z_lt, fe_z_le, fe_z_div, Int.reduceEq, Int.reduceLT, Int.reduceLE, Int.reduceNeg, ↓reduceIte, eq_self, Nat.reduceAdd, fe_bor, fe_tb_bi, fe_tb_0, fe_tb_1, fe_un_at, Nat.reduceEqDiff, or_false, or_true, true_or, false_or, Int.le_refl, fe_ob0, fe_g0_0, fe_g0_1, fe_g0_2, fe_p0_2, fe_g0_3, fe_g0_4, fe_g0_5, fe_p0_5, fe_g0_6, fe_ob1, fe_g1_0, fe_g1_1, fe_g1_2, fe_g1_3, fe_ob5, fe_g5_0, fe_p5_0, fe_g5_1, fe_p5_1, fe_g5_2, fe_p5_2, fe_g5_3, fe_p5_3, fe_g5_4, fe_p5_4, fe_g5_5, fe_p5_5, fe_g5_6, fe_p5_6, fe_g5_7, fe_p5_7, fe_g5_8, fe_p5_8, fe_g5_9, fe_p5_9, fe_ob7, fe_g7_0, fe_g7_1, fe_g7_2, fe_ob11, fe_g11_0, fe_g11_1, fe_p11_1, fe_ob13, fe_g13_0, fe_g13_1, fe_p13_1, fe_g13_2, fe_p13_2, fe_g13_3, fe_p13_3, fe_g13_4, fe_p13_4, fe_g13_5, fe_p13_5, fe_aa2, fe_sa2, fe_ll2, fe_aa3, fe_sa3, fe_ll3, fe_aa4, fe_sa4, fe_ll4, fe_aa8, fe_sa8, fe_ll8, fe_aa9, fe_sa9, fe_ll9, fe_aa10, fe_sa10, fe_ll10, fe_aa12, fe_sa12, fe_aa14, fe_sa14, fe_ll14, fe_aa6, fe_aa6n, fe_ll6, fe_obE, fe_gE_0, fe_gE_1, fe_gE_2, fe_gE_3, fe_gE_4, fe_gE_5, fe_gE_6, fe_gE_7, fe_gE_8, fe_gE_9, fe_gE_10, fe_gE_11, fe_pE_7, fe_pE_8, fe_aE1, fe_sE1, fe_lE1, fe_aE2, fe_sE2, fe_aE3, fe_sE3, fe_lE3, fe_aE4, fe_sE4, fe_lE4, hv, fe_z_or]
theorem fe_m27 {q : Nat} (hq : q < 4096) (hK : ∀ M', (∀ s, s < 4096 → fe_mb M' s = (fe_mb M s || decide (s = q))) → K (.inl none) (fe_mk b N (fe_cc b B D M' V A Z T I O L C) r)) : fe_WP E 27 0 [some (.ref (b + 11)), some (.int (fe_z (q : Int))), none] [] (fe_mk b N (fe_cc b B D M V A Z T I O L C) r) K := by
  obtain ⟨k1, k2, k3, k4⟩ := fe_k6 hq
  simp (maxSteps := 4000000) (disch := omega) only [fe_e27_0, fe_e27_1, fe_e27_4, fe_e27_5, fe_e27_6, fe_e27_7, fe_e27_10, fe_e27_11, fe_e27_13, fe_e27_14, fe_e27_15, fe_e27_16, fe_e27_17, fe_e27_18, fe_e27_20, fe_e27_21, fe_e27_22, fe_e27_23, fe_e27_24, Option.some.injEq, exists_eq_left', fe_KB_r, fe_KB_v, fe_z_add, fe_z_sub, fe_z_mul, fe_z_neg, fe_bi0, fe_bi1, fe_bibi, fe_bi01, fe_z01, fe_z11, true_and, and_true, if_true, if_false, ite_not, not_true_eq_false, not_false_eq_true, Bool.false_eq_true, Bool.true_eq_false, fe_z_mod, fe_z_eq, fe_z_lt, fe_z_le, fe_z_div, Int.reduceEq, Int.reduceLT, Int.reduceLE, Int.reduceNeg, ↓reduceIte, eq_self, Nat.reduceAdd, fe_bor, fe_tb_bi, fe_tb_0, fe_tb_1, fe_un_at, Nat.reduceEqDiff, or_false, or_true, true_or, false_or, Int.le_refl, fe_ob0, fe_g0_0, fe_g0_1, fe_g0_2, fe_p0_2, fe_g0_3, fe_g0_4, fe_g0_5, fe_p0_5, fe_g0_6, fe_ob1, fe_g1_0, fe_g1_1, fe_g1_2, fe_g1_3, fe_ob5, fe_g5_0, fe_p5_0, fe_g5_1, fe_p5_1, fe_g5_2, fe_p5_2, fe_g5_3, fe_p5_3, fe_g5_4, fe_p5_4, fe_g5_5, fe_p5_5, fe_g5_6, fe_p5_6, fe_g5_7, fe_p5_7, fe_g5_8, fe_p5_8, fe_g5_9, fe_p5_9, fe_ob7, fe_g7_0, fe_g7_1, fe_g7_2, fe_ob11, fe_g11_0, fe_g11_1, fe_p11_1, fe_ob13, fe_g13_0, fe_g13_1, fe_p13_1, fe_g13_2, fe_p13_2, fe_g13_3, fe_p13_3, fe_g13_4, fe_p13_4, fe_g13_5, fe_p13_5, fe_aa2, fe_sa2, fe_ll2, fe_aa3, fe_sa3, fe_ll3, fe_aa4, fe_sa4, fe_ll4, fe_aa8, fe_sa8, fe_ll8, fe_aa9, fe_sa9, fe_ll9, fe_aa10, fe_sa10, fe_ll10, fe_aa12, fe_sa12, fe_aa14, fe_sa14, fe_ll14, fe_aa6, fe_aa6n, fe_ll6, fe_obE, fe_gE_0, fe_gE_1, fe_gE_2, fe_gE_3, fe_gE_4, fe_gE_5, fe_gE_6, fe_gE_7, fe_gE_8, fe_gE_9, fe_gE_10, fe_gE_11, fe_pE_7, fe_pE_8, fe_aE1, fe_sE1, fe_lE1, fe_aE2, fe_sE2, fe_aE3, fe_sE3, fe_lE3, fe_aE4, fe_sE4, fe_lE4, k1, k2, k3]
  refine hK _ (fun s hs => ?_)
  rw [fe_mb_up]
  have h1 : ∀ j, j < 64 → fe_lb 1 j = decide (j = 0) := by decide +kernel
  by_cases hsq : s / 64 = q / 64
  · rw [if_pos hsq, fe_lb_or, fe_lb_shl (Nat.mod_lt _ (by decide)), ← hsq]
    show (fe_mb M s || _) = _
    congr 1
    rw [h1 _ (by omega), decide_eq_true (show s % 64 < 64 by omega), Bool.true_and]
    by_cases h : s = q
    · subst h
      simp
    · rw [decide_eq_false h]
      by_cases h2 : s % 64 < q % 64
      · simp [h2]
      · rw [decide_eq_false (show ¬ s % 64 - q % 64 = 0 by omega), Bool.and_false]
  · rw [if_neg hsq, decide_eq_false (fun h => hsq (by rw [h])), Bool.or_false]
theorem fe_m30 {s : Nat} (hs : s < 4096) : fe_WP E 30 0 [some (.ref (b + 11)), some (.int (fe_z (s : Int))), none] [] (fe_mk b N (fe_cc b B D M V A Z T I O L C) r) K ↔ K (.inl (some (.int (fe_bi (fe_mb M (4095 - s)))))) (fe_mk b N (fe_cc b B D M V A Z T I O L C) r) := by
  obtain ⟨-, -, -, k4⟩ := fe_k6 hs
  obtain ⟨k1, k2, k3, -⟩ := fe_k6 (q := 4095 - s) (by omega)
  simp (maxSteps := 4000000) (disch := omega) only [fe_e30_0, fe_e30_1, fe_e30_2, fe_e30_3, fe_e30_6, fe_e30_7, fe_e30_8, fe_e30_9, fe_e30_12, fe_e30_13, fe_e30_15, fe_e30_16, fe_e30_17, fe_e30_18, fe_e30_20, fe_e30_21, fe_e30_22, fe_e30_23, fe_e30_24, fe_e30_25, fe_e30_26, fe_e30_29, fe_e30_30, fe_e30_33, fe_e30_34, Option.some.injEq, exists_eq_left', fe_KB_r, fe_KB_v, fe_z_add, fe_z_sub, fe_z_mul, fe_z_neg, fe_bi0, fe_bi1, fe_bibi, fe_bi01, fe_z01, fe_z11, true_and, and_true, if_true, if_false, ite_not, not_true_eq_false, not_false_eq_true, Bool.false_eq_true, Bool.true_eq_false, fe_z_mod, fe_z_eq, fe_z_lt, fe_z_le, fe_z_div, Int.reduceEq, Int.reduceLT, Int.reduceLE, Int.reduceNeg, ↓reduceIte, eq_self, Nat.reduceAdd, fe_bor, fe_tb_bi, fe_tb_0, fe_tb_1, fe_un_at, Nat.reduceEqDiff, or_false, or_true, true_or, false_or, Int.le_refl, fe_ob0, fe_g0_0, fe_g0_1, fe_g0_2, fe_p0_2, fe_g0_3, fe_g0_4, fe_g0_5, fe_p0_5, fe_g0_6, fe_ob1, fe_g1_0, fe_g1_1, fe_g1_2, fe_g1_3, fe_ob5, fe_g5_0, fe_p5_0, fe_g5_1, fe_p5_1, fe_g5_2, fe_p5_2, fe_g5_3, fe_p5_3, fe_g5_4, fe_p5_4, fe_g5_5, fe_p5_5, fe_g5_6, fe_p5_6, fe_g5_7, fe_p5_7, fe_g5_8, fe_p5_8, fe_g5_9, fe_p5_9, fe_ob7, fe_g7_0, fe_g7_1, fe_g7_2, fe_ob11, fe_g11_0, fe_g11_1, fe_p11_1, fe_ob13, fe_g13_0, fe_g13_1, fe_p13_1, fe_g13_2, fe_p13_2, fe_g13_3, fe_p13_3, fe_g13_4, fe_p13_4, fe_g13_5, fe_p13_5, fe_aa2, fe_sa2, fe_ll2, fe_aa3, fe_sa3, fe_ll3, fe_aa4, fe_sa4, fe_ll4, fe_aa8, fe_sa8, fe_ll8, fe_aa9, fe_sa9, fe_ll9, fe_aa10, fe_sa10, fe_ll10, fe_aa12, fe_sa12, fe_aa14, fe_sa14, fe_ll14, fe_aa6, fe_aa6n, fe_ll6, fe_obE, fe_gE_0, fe_gE_1, fe_gE_2, fe_gE_3, fe_gE_4, fe_gE_5, fe_gE_6, fe_gE_7, fe_gE_8, fe_gE_9, fe_gE_10, fe_gE_11, fe_pE_7, fe_pE_8, fe_aE1, fe_sE1, fe_lE1, fe_aE2, fe_sE2, fe_aE3, fe_sE3, fe_lE3, fe_aE4, fe_sE4, fe_lE4, k4, k1, k2, fe_lc, fe_lb_shr (Nat.mod_lt _ (show 0 < 64 by decide))]
  have hm : fe_lb (M ((((4095 - s) / 64 : Nat)) : Int)) ((4095 - s) % 64) = fe_mb M (4095 - s) := rfl
  rw [hm]
  cases fe_mb M (4095 - s) <;> rfl
theorem fe_m26 {d : Nat → Nat → Nat} (hd : fe_dr D d) (hK : ∀ M', (∀ s, s < 4096 → (fe_mb M' s = true ↔ fe_mb M s = true ∨ ∃ t, t < 840 ∧ s = fe_dd d t)) → K (.inl none) (fe_mk b N (fe_cc b B D M' V A Z T I O L C) r)) : fe_WP E 26 0 [some (.ref (b + 11)), some (.ref (b + 7)), none, none, none] [] (fe_mk b N (fe_cc b B D M V A Z T I O L C) r) K := by
  have hval : ∀ x y z : Nat, (d 0 x ||| d 1 y) ||| d 2 z < 4096 := fun x y z => fe_or12 (fe_or12 (hd.2 _ _) (hd.2 _ _)) (hd.2 _ _)
  have r0 : ∀ x : Nat, x < 24 → D 0 x = ((d 0 x : Nat) : Int) := fun x hx => hd.1 0 (by decide) x hx
  have r1 : ∀ x : Nat, x < 5 → D 1 x = ((d 1 x : Nat) : Int) := fun x hx => hd.1 1 (by decide) x hx
  have r2 : ∀ x : Nat, x < 7 → D 2 x = ((d 2 x : Nat) : Int) := fun x hx => hd.1 2 (by decide) x hx
  have LC : ∀ x : Nat, x < 24 → ∀ y : Nat, y < 5 → (∀ M' o4, (∀ s, s < 4096 → fe_mb M' s = true → fe_mb M s = true ∨ ∃ t, t < 840 ∧ s = fe_dd d t) → (∀ s, s < 4096 → fe_mb M s = true → fe_mb M' s = true) → (∀ x' y' z', x' < 24 → y' < 5 → z' < 7 → (x' < x ∨ x' = x ∧ (y' < y + 1)) → fe_mb M' ((d 0 x' ||| d 1 y') ||| d 2 z') = true) → fe_WP E 26 10 [some (.ref (b + 11)), some (.ref (b + 7)), some (.int (fe_z (x : Int))), some (.int (fe_z ((y : Int) + 1))), o4] [] (fe_mk b N (fe_cc b B D M' V A Z T I O L C) r) K) →
      ∀ z, z ≤ 7 → ∀ M', (∀ s, s < 4096 → fe_mb M' s = true → fe_mb M s = true ∨ ∃ t, t < 840 ∧ s = fe_dd d t) → (∀ s, s < 4096 → fe_mb M s = true → fe_mb M' s = true) → (∀ x' y' z', x' < 24 → y' < 5 → z' < 7 → (x' < x ∨ x' = x ∧ (y' < y ∨ y' = y ∧ z' < z)) → fe_mb M' ((d 0 x' ||| d 1 y') ||| d 2 z') = true) → fe_WP E 26 42 [some (.ref (b + 11)), some (.ref (b + 7)), some (.int (fe_z (x : Int))), some (.int (fe_z (y : Int))), some (.int (fe_z (z : Int)))] [] (fe_mk b N (fe_cc b B D M' V A Z T I O L C) r) K := by
    intro x hx y hy hout
    refine fe_down 7 ?_ ?_
    · intro M' g1 g2 g3
      rw [fe_e26_42]
      simp (maxSteps := 4000000) (disch := omega) only [fe_e26_0, fe_e26_1, fe_e26_2, fe_e26_3, fe_e26_5, fe_e26_8, fe_e26_9, fe_e26_11, fe_e26_12, fe_e26_15, fe_e26_16, fe_e26_19, fe_e26_20, fe_e26_23, fe_e26_24, fe_e26_25, fe_e26_26, fe_e26_29, fe_e26_30, fe_e26_31, fe_e26_32, fe_e26_33, fe_e26_36, fe_e26_39, fe_e26_40, fe_e26_44, fe_e26_46, fe_e26_51, fe_e26_54, fe_e26_55, fe_e26_58, fe_e26_60, fe_e26_61, fe_e26_62, fe_e26_65, fe_e26_67, fe_e26_68, fe_e26_69, fe_e26_70, fe_e26_73, fe_e26_74, fe_e26_75, fe_e26_78, fe_e26_79, fe_e26_80, fe_e26_81, fe_e26_84, fe_e26_85, fe_e26_86, fe_e26_87, fe_e26_88, fe_e26_91, fe_e26_93, fe_e26_94, fe_e26_95, fe_e26_98, fe_e26_101, fe_e26_104, fe_e26_107, fe_e26_110, fe_e26_113, fe_e26_116, Option.some.injEq, exists_eq_left', fe_KB_r, fe_KB_v, fe_z_add, fe_z_sub, fe_z_mul, fe_z_neg, fe_bi0, fe_bi1, fe_bibi, fe_bi01, fe_z01, fe_z11, true_and, and_true, if_true, if_false, ite_not, not_true_eq_false, not_false_eq_true, Bool.false_eq_true, Bool.true_eq_false, fe_z_mod, fe_z_eq, fe_z_lt, fe_z_le, fe_z_div, Int.reduceEq, Int.reduceLT, Int.reduceLE, Int.reduceNeg, ↓reduceIte, eq_self, Nat.reduceAdd, fe_bor, fe_tb_bi, fe_tb_0, fe_tb_1, fe_un_at, Nat.reduceEqDiff, or_false, or_true, true_or, false_or, Int.le_refl, Int.cast_ofNat_Int]
      exact hout M' _ g1 g2 (fun x' y' z' a1 a2 a3 a4 => g3 x' y' z' a1 a2 a3 (by omega))
    · intro z hz ih M' g1 g2 g3
      have q0 := r0 x hx
      have q1 := r1 y hy
      have q2 := r2 z hz
      have l0 := hd.2 0 x
      have l1 := hd.2 1 y
      have l2 := hd.2 2 z
      have add : fe_WP E 26 73 [some (.ref (b + 11)), some (.ref (b + 7)), some (.int (fe_z (x : Int))), some (.int (fe_z (y : Int))), some (.int (fe_z (z : Int)))] [] (fe_mk b N (fe_cc b B D M' V A Z T I O L C) r) K := by
        simp (maxSteps := 4000000) (disch := omega) only [fe_e26_0, fe_e26_1, fe_e26_2, fe_e26_3, fe_e26_5, fe_e26_8, fe_e26_9, fe_e26_10, fe_e26_11, fe_e26_12, fe_e26_15, fe_e26_16, fe_e26_19, fe_e26_20, fe_e26_23, fe_e26_24, fe_e26_25, fe_e26_26, fe_e26_29, fe_e26_30, fe_e26_31, fe_e26_32, fe_e26_33, fe_e26_36, fe_e26_39, fe_e26_40, fe_e26_44, fe_e26_46, fe_e26_49, fe_e26_51, fe_e26_54, fe_e26_55, fe_e26_58, fe_e26_60, fe_e26_61, fe_e26_62, fe_e26_65, fe_e26_67, fe_e26_68, fe_e26_69, fe_e26_70, fe_e26_73, fe_e26_74, fe_e26_75, fe_e26_78, fe_e26_79, fe_e26_80, fe_e26_81, fe_e26_84, fe_e26_85, fe_e26_86, fe_e26_87, fe_e26_88, fe_e26_91, fe_e26_93, fe_e26_94, fe_e26_95, fe_e26_98, fe_e26_101, fe_e26_104, fe_e26_107, fe_e26_110, fe_e26_113, fe_e26_116, Option.some.injEq, exists_eq_left', fe_KB_r, fe_KB_v, fe_z_add, fe_z_sub, fe_z_mul, fe_z_neg, fe_bi0, fe_bi1, fe_bibi, fe_bi01, fe_z01, fe_z11, true_and, and_true, if_true, if_false, ite_not, not_true_eq_false, not_false_eq_true, Bool.false_eq_true, Bool.true_eq_false, fe_z_mod, fe_z_eq, fe_z_lt, fe_z_le, fe_z_div, Int.reduceEq, Int.reduceLT, Int.reduceLE, Int.reduceNeg, ↓reduceIte, eq_self, Nat.reduceAdd, fe_bor, fe_tb_bi, fe_tb_0, fe_tb_1, fe_un_at, Nat.reduceEqDiff, or_false, or_true, true_or, false_or, Int.le_refl, fe_ob0, fe_g0_0, fe_g0_1, fe_g0_2, fe_p0_2, fe_g0_3, fe_g0_4, fe_g0_5, fe_p0_5, fe_g0_6, fe_ob1, fe_g1_0, fe_g1_1, fe_g1_2, fe_g1_3, fe_ob5, fe_g5_0, fe_p5_0, fe_g5_1, fe_p5_1, fe_g5_2, fe_p5_2, fe_g5_3, fe_p5_3, fe_g5_4, fe_p5_4, fe_g5_5, fe_p5_5, fe_g5_6, fe_p5_6, fe_g5_7, fe_p5_7, fe_g5_8, fe_p5_8, fe_g5_9, fe_p5_9, fe_ob7, fe_g7_0, fe_g7_1, fe_g7_2, fe_ob11, fe_g11_0, fe_g11_1, fe_p11_1, fe_ob13, fe_g13_0, fe_g13_1, fe_p13_1, fe_g13_2, fe_p13_2, fe_g13_3, fe_p13_3, fe_g13_4, fe_p13_4, fe_g13_5, fe_p13_5, fe_aa2, fe_sa2, fe_ll2, fe_aa3, fe_sa3, fe_ll3, fe_aa4, fe_sa4, fe_ll4, fe_aa8, fe_sa8, fe_ll8, fe_aa9, fe_sa9, fe_ll9, fe_aa10, fe_sa10, fe_ll10, fe_aa12, fe_sa12, fe_aa14, fe_sa14, fe_ll14, fe_aa6, fe_aa6n, fe_ll6, fe_obE, fe_gE_0, fe_gE_1, fe_gE_2, fe_gE_3, fe_gE_4, fe_gE_5, fe_gE_6, fe_gE_7, fe_gE_8, fe_gE_9, fe_gE_10, fe_gE_11, fe_pE_7, fe_pE_8, fe_aE1, fe_sE1, fe_lE1, fe_aE2, fe_sE2, fe_aE3, fe_sE3, fe_lE3, fe_aE4, fe_sE4, fe_lE4, q0, q1, q2, fe_z_or]
        refine fe_m27 (hval x y z) (fun M'' h => ?_)
        simp (maxSteps := 4000000) (disch := omega) only [fe_e26_0, fe_e26_1, fe_e26_2, fe_e26_3, fe_e26_5, fe_e26_8, fe_e26_9, fe_e26_10, fe_e26_11, fe_e26_12, fe_e26_15, fe_e26_16, fe_e26_19, fe_e26_20, fe_e26_23, fe_e26_24, fe_e26_25, fe_e26_26, fe_e26_29, fe_e26_30, fe_e26_31, fe_e26_32, fe_e26_33, fe_e26_36, fe_e26_39, fe_e26_40, fe_e26_44, fe_e26_46, fe_e26_49, fe_e26_51, fe_e26_54, fe_e26_55, fe_e26_58, fe_e26_60, fe_e26_61, fe_e26_62, fe_e26_65, fe_e26_67, fe_e26_68, fe_e26_69, fe_e26_70, fe_e26_73, fe_e26_74, fe_e26_75, fe_e26_78, fe_e26_79, fe_e26_80, fe_e26_81, fe_e26_84, fe_e26_85, fe_e26_86, fe_e26_87, fe_e26_88, fe_e26_91, fe_e26_93, fe_e26_94, fe_e26_95, fe_e26_98, fe_e26_101, fe_e26_104, fe_e26_107, fe_e26_110, fe_e26_113, fe_e26_116, Option.some.injEq, exists_eq_left', fe_KB_r, fe_KB_v, fe_z_add, fe_z_sub, fe_z_mul, fe_z_neg, fe_bi0, fe_bi1, fe_bibi, fe_bi01, fe_z01, fe_z11, true_and, and_true, if_true, if_false, ite_not, not_true_eq_false, not_false_eq_true, Bool.false_eq_true, Bool.true_eq_false, fe_z_mod, fe_z_eq, fe_z_lt, fe_z_le, fe_z_div, Int.reduceEq, Int.reduceLT, Int.reduceLE, Int.reduceNeg, ↓reduceIte, eq_self, Nat.reduceAdd, fe_bor, fe_tb_bi, fe_tb_0, fe_tb_1, fe_un_at, Nat.reduceEqDiff, or_false, or_true, true_or, false_or, Int.le_refl]
        refine ih M'' (fun s hs hm => ?_) (fun s hs hm => ?_) (fun x' y' z' a1 a2 a3 a4 => ?_)
        · rw [h s hs, Bool.or_eq_true, decide_eq_true_eq] at hm
          rcases hm with hm | hm
          · exact g1 s hs hm
          · obtain ⟨t, t1, t2, t3, t4⟩ := fe_crt hx hy hz
            refine Or.inr ⟨t, t1, ?_⟩
            unfold fe_dd
            rw [t2, t3, t4]
            exact hm
        · rw [h s hs, g2 s hs hm]
          rfl
        · rw [h _ (hval _ _ _), Bool.or_eq_true, decide_eq_true_eq]
          by_cases he : x' = x ∧ y' = y ∧ z' = z
          · rw [he.1, he.2.1, he.2.2]
            exact Or.inr rfl
          · exact Or.inl (g3 x' y' z' a1 a2 a3 (by omega))
      rw [fe_e26_42]
      by_cases hz0 : (z : Int) = 0
      · simp (maxSteps := 4000000) (disch := omega) only [fe_e26_0, fe_e26_1, fe_e26_2, fe_e26_3, fe_e26_5, fe_e26_8, fe_e26_9, fe_e26_10, fe_e26_11, fe_e26_12, fe_e26_15, fe_e26_16, fe_e26_19, fe_e26_20, fe_e26_23, fe_e26_24, fe_e26_25, fe_e26_26, fe_e26_29, fe_e26_30, fe_e26_31, fe_e26_32, fe_e26_33, fe_e26_36, fe_e26_39, fe_e26_40, fe_e26_44, fe_e26_46, fe_e26_49, fe_e26_51, fe_e26_54, fe_e26_55, fe_e26_58, fe_e26_60, fe_e26_61, fe_e26_62, fe_e26_65, fe_e26_67, fe_e26_68, fe_e26_69, fe_e26_70, fe_e26_74, fe_e26_75, fe_e26_78, fe_e26_79, fe_e26_80, fe_e26_81, fe_e26_84, fe_e26_85, fe_e26_86, fe_e26_87, fe_e26_88, fe_e26_91, fe_e26_93, fe_e26_94, fe_e26_95, fe_e26_98, fe_e26_101, fe_e26_107, fe_e26_110, fe_e26_113, fe_e26_116, Option.some.injEq, exists_eq_left', fe_KB_r, fe_KB_v, fe_z_add, fe_z_sub, fe_z_mul, fe_z_neg, fe_bi0, fe_bi1, fe_bibi, fe_bi01, fe_z01, fe_z11, true_and, and_true, if_true, if_false, ite_not, not_true_eq_false, not_false_eq_true, Bool.false_eq_true, Bool.true_eq_false, fe_z_mod, fe_z_eq, fe_z_lt, fe_z_le, fe_z_div, Int.reduceEq, Int.reduceLT, Int.reduceLE, Int.reduceNeg, ↓reduceIte, eq_self, Nat.reduceAdd, fe_bor, fe_tb_bi, fe_tb_0, fe_tb_1, fe_un_at, Nat.reduceEqDiff, or_false, or_true, true_or, false_or, Int.le_refl, fe_ob0, fe_g0_0, fe_g0_1, fe_g0_2, fe_p0_2, fe_g0_3, fe_g0_4, fe_g0_5, fe_p0_5, fe_g0_6, fe_ob1, fe_g1_0, fe_g1_1, fe_g1_2, fe_g1_3, fe_ob5, fe_g5_0, fe_p5_0, fe_g5_1, fe_p5_1, fe_g5_2, fe_p5_2, fe_g5_3, fe_p5_3, fe_g5_4, fe_p5_4, fe_g5_5, fe_p5_5, fe_g5_6, fe_p5_6, fe_g5_7, fe_p5_7, fe_g5_8, fe_p5_8, fe_g5_9, fe_p5_9, fe_ob7, fe_g7_0, fe_g7_1, fe_g7_2, fe_ob11, fe_g11_0, fe_g11_1, fe_p11_1, fe_ob13, fe_g13_0, fe_g13_1, fe_p13_1, fe_g13_2, fe_p13_2, fe_g13_3, fe_p13_3, fe_g13_4, fe_p13_4, fe_g13_5, fe_p13_5, fe_aa2, fe_sa2, fe_ll2, fe_aa3, fe_sa3, fe_ll3, fe_aa4, fe_sa4, fe_ll4, fe_aa8, fe_sa8, fe_ll8, fe_aa9, fe_sa9, fe_ll9, fe_aa10, fe_sa10, fe_ll10, fe_aa12, fe_sa12, fe_aa14, fe_sa14, fe_ll14, fe_aa6, fe_aa6n, fe_ll6, fe_obE, fe_gE_0, fe_gE_1, fe_gE_2, fe_gE_3, fe_gE_4, fe_gE_5, fe_gE_6, fe_gE_7, fe_gE_8, fe_gE_9, fe_gE_10, fe_gE_11, fe_pE_7, fe_pE_8, fe_aE1, fe_sE1, fe_lE1, fe_aE2, fe_sE2, fe_aE3, fe_sE3, fe_lE3, fe_aE4, fe_sE4, fe_lE4, hz0]
        have add' := add
        rw [hz0] at add'
        exact add'
      · have q3 : D 2 ((z : Int) - 1) = ((d 2 (z - 1) : Nat) : Int) := by
          rw [show (z : Int) - 1 = ((z - 1 : Nat) : Int) by omega]
          exact r2 (z - 1) (by omega)
        have l3 := hd.2 2 (z - 1)
        simp (maxSteps := 4000000) (disch := omega) only [fe_e26_0, fe_e26_1, fe_e26_2, fe_e26_3, fe_e26_5, fe_e26_8, fe_e26_9, fe_e26_10, fe_e26_11, fe_e26_12, fe_e26_15, fe_e26_16, fe_e26_19, fe_e26_20, fe_e26_23, fe_e26_24, fe_e26_25, fe_e26_26, fe_e26_29, fe_e26_30, fe_e26_31, fe_e26_32, fe_e26_33, fe_e26_36, fe_e26_39, fe_e26_40, fe_e26_44, fe_e26_46, fe_e26_49, fe_e26_51, fe_e26_54, fe_e26_55, fe_e26_58, fe_e26_60, fe_e26_61, fe_e26_62, fe_e26_65, fe_e26_67, fe_e26_68, fe_e26_69, fe_e26_70, fe_e26_74, fe_e26_75, fe_e26_78, fe_e26_79, fe_e26_80, fe_e26_81, fe_e26_84, fe_e26_85, fe_e26_86, fe_e26_87, fe_e26_88, fe_e26_91, fe_e26_93, fe_e26_94, fe_e26_95, fe_e26_98, fe_e26_101, fe_e26_107, fe_e26_110, fe_e26_113, fe_e26_116, Option.some.injEq, exists_eq_left', fe_KB_r, fe_KB_v, fe_z_add, fe_z_sub, fe_z_mul, fe_z_neg, fe_bi0, fe_bi1, fe_bibi, fe_bi01, fe_z01, fe_z11, true_and, and_true, if_true, if_false, ite_not, not_true_eq_false, not_false_eq_true, Bool.false_eq_true, Bool.true_eq_false, fe_z_mod, fe_z_eq, fe_z_lt, fe_z_le, fe_z_div, Int.reduceEq, Int.reduceLT, Int.reduceLE, Int.reduceNeg, ↓reduceIte, eq_self, Nat.reduceAdd, fe_bor, fe_tb_bi, fe_tb_0, fe_tb_1, fe_un_at, Nat.reduceEqDiff, or_false, or_true, true_or, false_or, Int.le_refl, fe_ob0, fe_g0_0, fe_g0_1, fe_g0_2, fe_p0_2, fe_g0_3, fe_g0_4, fe_g0_5, fe_p0_5, fe_g0_6, fe_ob1, fe_g1_0, fe_g1_1, fe_g1_2, fe_g1_3, fe_ob5, fe_g5_0, fe_p5_0, fe_g5_1, fe_p5_1, fe_g5_2, fe_p5_2, fe_g5_3, fe_p5_3, fe_g5_4, fe_p5_4, fe_g5_5, fe_p5_5, fe_g5_6, fe_p5_6, fe_g5_7, fe_p5_7, fe_g5_8, fe_p5_8, fe_g5_9, fe_p5_9, fe_ob7, fe_g7_0, fe_g7_1, fe_g7_2, fe_ob11, fe_g11_0, fe_g11_1, fe_p11_1, fe_ob13, fe_g13_0, fe_g13_1, fe_p13_1, fe_g13_2, fe_p13_2, fe_g13_3, fe_p13_3, fe_g13_4, fe_p13_4, fe_g13_5, fe_p13_5, fe_aa2, fe_sa2, fe_ll2, fe_aa3, fe_sa3, fe_ll3, fe_aa4, fe_sa4, fe_ll4, fe_aa8, fe_sa8, fe_ll8, fe_aa9, fe_sa9, fe_ll9, fe_aa10, fe_sa10, fe_ll10, fe_aa12, fe_sa12, fe_aa14, fe_sa14, fe_ll14, fe_aa6, fe_aa6n, fe_ll6, fe_obE, fe_gE_0, fe_gE_1, fe_gE_2, fe_gE_3, fe_gE_4, fe_gE_5, fe_gE_6, fe_gE_7, fe_gE_8, fe_gE_9, fe_gE_10, fe_gE_11, fe_pE_7, fe_pE_8, fe_aE1, fe_sE1, fe_lE1, fe_aE2, fe_sE2, fe_aE3, fe_sE3, fe_lE3, fe_aE4, fe_sE4, fe_lE4, hz0, q2, q3]
        rw [if_neg (by omega)]
        split
        · next hq =>
          have heq : d 2 z = d 2 (z - 1) := by omega
          refine ih M' g1 g2 (fun x' y' z' a1 a2 a3 a4 => ?_)
          by_cases he : x' = x ∧ y' = y ∧ z' = z
          · rw [he.1, he.2.1, he.2.2, heq]
            exact g3 x y (z - 1) hx hy (by omega) (by omega)
          · exact g3 x' y' z' a1 a2 a3 (by omega)
        · exact add
  have LB : ∀ x : Nat, x < 24 → (∀ M' o3 o4, (∀ s, s < 4096 → fe_mb M' s = true → fe_mb M s = true ∨ ∃ t, t < 840 ∧ s = fe_dd d t) → (∀ s, s < 4096 → fe_mb M s = true → fe_mb M' s = true) → (∀ x' y' z', x' < 24 → y' < 5 → z' < 7 → x' < x + 1 → fe_mb M' ((d 0 x' ||| d 1 y') ||| d 2 z') = true) → fe_WP E 26 2 [some (.ref (b + 11)), some (.ref (b + 7)), some (.int (fe_z ((x : Int) + 1))), o3, o4] [] (fe_mk b N (fe_cc b B D M' V A Z T I O L C) r) K) →
      ∀ y, y ≤ 5 → ∀ M' o4, (∀ s, s < 4096 → fe_mb M' s = true → fe_mb M s = true ∨ ∃ t, t < 840 ∧ s = fe_dd d t) → (∀ s, s < 4096 → fe_mb M s = true → fe_mb M' s = true) → (∀ x' y' z', x' < 24 → y' < 5 → z' < 7 → (x' < x ∨ x' = x ∧ y' < y) → fe_mb M' ((d 0 x' ||| d 1 y') ||| d 2 z') = true) → fe_WP E 26 10 [some (.ref (b + 11)), some (.ref (b + 7)), some (.int (fe_z (x : Int))), some (.int (fe_z (y : Int))), o4] [] (fe_mk b N (fe_cc b B D M' V A Z T I O L C) r) K := by
    intro x hx hout
    refine fe_down 5 ?_ ?_
    · intro M' o4 g1 g2 g3
      rw [fe_e26_10]
      simp (maxSteps := 4000000) (disch := omega) only [fe_e26_0, fe_e26_1, fe_e26_3, fe_e26_5, fe_e26_8, fe_e26_9, fe_e26_11, fe_e26_12, fe_e26_16, fe_e26_19, fe_e26_20, fe_e26_23, fe_e26_24, fe_e26_25, fe_e26_26, fe_e26_29, fe_e26_30, fe_e26_31, fe_e26_32, fe_e26_33, fe_e26_36, fe_e26_39, fe_e26_40, fe_e26_42, fe_e26_44, fe_e26_46, fe_e26_49, fe_e26_51, fe_e26_54, fe_e26_55, fe_e26_58, fe_e26_60, fe_e26_61, fe_e26_62, fe_e26_65, fe_e26_67, fe_e26_68, fe_e26_69, fe_e26_70, fe_e26_73, fe_e26_74, fe_e26_75, fe_e26_78, fe_e26_79, fe_e26_80, fe_e26_81, fe_e26_84, fe_e26_85, fe_e26_86, fe_e26_87, fe_e26_88, fe_e26_91, fe_e26_93, fe_e26_94, fe_e26_95, fe_e26_98, fe_e26_101, fe_e26_104, fe_e26_107, fe_e26_110, fe_e26_113, fe_e26_116, Option.some.injEq, exists_eq_left', fe_KB_r, fe_KB_v, fe_z_add, fe_z_sub, fe_z_mul, fe_z_neg, fe_bi0, fe_bi1, fe_bibi, fe_bi01, fe_z01, fe_z11, true_and, and_true, if_true, if_false, ite_not, not_true_eq_false, not_false_eq_true, Bool.false_eq_true, Bool.true_eq_false, fe_z_mod, fe_z_eq, fe_z_lt, fe_z_le, fe_z_div, Int.reduceEq, Int.reduceLT, Int.reduceLE, Int.reduceNeg, ↓reduceIte, eq_self, Nat.reduceAdd, fe_bor, fe_tb_bi, fe_tb_0, fe_tb_1, fe_un_at, Nat.reduceEqDiff, or_false, or_true, true_or, false_or, Int.le_refl, Int.cast_ofNat_Int]
      exact hout M' _ _ g1 g2 (fun x' y' z' a1 a2 a3 a4 => g3 x' y' z' a1 a2 a3 (by omega))
    · intro y hy ih M' o4 g1 g2 g3
      have go : fe_WP E 26 42 [some (.ref (b + 11)), some (.ref (b + 7)), some (.int (fe_z (x : Int))), some (.int (fe_z (y : Int))), some (.int (fe_z 0))] [] (fe_mk b N (fe_cc b B D M' V A Z T I O L C) r) K := LC x hx y hy (fun M' o4 a1 a2 a3 => ih M' o4 a1 a2 (fun x' y' z' c1 c2 c3 c4 => a3 x' y' z' c1 c2 c3 c4)) 0 (by omega) M' g1 g2 (fun x' y' z' a1 a2 a3 a4 => g3 x' y' z' a1 a2 a3 (by omega))
      have q1 := r1 y hy
      have l1 := hd.2 1 y
      rw [fe_e26_10]
      by_cases hy0 : (y : Int) ≤ 0
      · simp (maxSteps := 4000000) (disch := omega) only [fe_e26_0, fe_e26_1, fe_e26_2, fe_e26_3, fe_e26_5, fe_e26_8, fe_e26_9, fe_e26_11, fe_e26_12, fe_e26_15, fe_e26_16, fe_e26_19, fe_e26_20, fe_e26_23, fe_e26_24, fe_e26_25, fe_e26_26, fe_e26_29, fe_e26_30, fe_e26_31, fe_e26_32, fe_e26_33, fe_e26_36, fe_e26_39, fe_e26_40, fe_e26_44, fe_e26_46, fe_e26_49, fe_e26_51, fe_e26_54, fe_e26_55, fe_e26_58, fe_e26_60, fe_e26_61, fe_e26_62, fe_e26_65, fe_e26_67, fe_e26_68, fe_e26_69, fe_e26_70, fe_e26_73, fe_e26_74, fe_e26_75, fe_e26_78, fe_e26_79, fe_e26_80, fe_e26_81, fe_e26_84, fe_e26_85, fe_e26_86, fe_e26_87, fe_e26_88, fe_e26_91, fe_e26_93, fe_e26_94, fe_e26_95, fe_e26_98, fe_e26_101, fe_e26_104, fe_e26_107, fe_e26_113, fe_e26_116, Option.some.injEq, exists_eq_left', fe_KB_r, fe_KB_v, fe_z_add, fe_z_sub, fe_z_mul, fe_z_neg, fe_bi0, fe_bi1, fe_bibi, fe_bi01, fe_z01, fe_z11, true_and, and_true, if_true, if_false, ite_not, not_true_eq_false, not_false_eq_true, Bool.false_eq_true, Bool.true_eq_false, fe_z_mod, fe_z_eq, fe_z_lt, fe_z_le, fe_z_div, Int.reduceEq, Int.reduceLT, Int.reduceLE, Int.reduceNeg, ↓reduceIte, eq_self, Nat.reduceAdd, fe_bor, fe_tb_bi, fe_tb_0, fe_tb_1, fe_un_at, Nat.reduceEqDiff, or_false, or_true, true_or, false_or, Int.le_refl, fe_ob0, fe_g0_0, fe_g0_1, fe_g0_2, fe_p0_2, fe_g0_3, fe_g0_4, fe_g0_5, fe_p0_5, fe_g0_6, fe_ob1, fe_g1_0, fe_g1_1, fe_g1_2, fe_g1_3, fe_ob5, fe_g5_0, fe_p5_0, fe_g5_1, fe_p5_1, fe_g5_2, fe_p5_2, fe_g5_3, fe_p5_3, fe_g5_4, fe_p5_4, fe_g5_5, fe_p5_5, fe_g5_6, fe_p5_6, fe_g5_7, fe_p5_7, fe_g5_8, fe_p5_8, fe_g5_9, fe_p5_9, fe_ob7, fe_g7_0, fe_g7_1, fe_g7_2, fe_ob11, fe_g11_0, fe_g11_1, fe_p11_1, fe_ob13, fe_g13_0, fe_g13_1, fe_p13_1, fe_g13_2, fe_p13_2, fe_g13_3, fe_p13_3, fe_g13_4, fe_p13_4, fe_g13_5, fe_p13_5, fe_aa2, fe_sa2, fe_ll2, fe_aa3, fe_sa3, fe_ll3, fe_aa4, fe_sa4, fe_ll4, fe_aa8, fe_sa8, fe_ll8, fe_aa9, fe_sa9, fe_ll9, fe_aa10, fe_sa10, fe_ll10, fe_aa12, fe_sa12, fe_aa14, fe_sa14, fe_ll14, fe_aa6, fe_aa6n, fe_ll6, fe_obE, fe_gE_0, fe_gE_1, fe_gE_2, fe_gE_3, fe_gE_4, fe_gE_5, fe_gE_6, fe_gE_7, fe_gE_8, fe_gE_9, fe_gE_10, fe_gE_11, fe_pE_7, fe_pE_8, fe_aE1, fe_sE1, fe_lE1, fe_aE2, fe_sE2, fe_aE3, fe_sE3, fe_lE3, fe_aE4, fe_sE4, fe_lE4, hy0]
        rw [if_neg (by omega)]
        exact go
      · have q3 : D 1 ((y : Int) - 1) = ((d 1 (y - 1) : Nat) : Int) := by
          rw [show (y : Int) - 1 = ((y - 1 : Nat) : Int) by omega]
          exact r1 (y - 1) (by omega)
        have l3 := hd.2 1 (y - 1)
        simp (maxSteps := 4000000) (disch := omega) only [fe_e26_0, fe_e26_1, fe_e26_2, fe_e26_3, fe_e26_5, fe_e26_8, fe_e26_9, fe_e26_11, fe_e26_12, fe_e26_15, fe_e26_16, fe_e26_19, fe_e26_20, fe_e26_23, fe_e26_24, fe_e26_25, fe_e26_26, fe_e26_29, fe_e26_30, fe_e26_31, fe_e26_32, fe_e26_33, fe_e26_36, fe_e26_39, fe_e26_40, fe_e26_44, fe_e26_46, fe_e26_49, fe_e26_51, fe_e26_54, fe_e26_55, fe_e26_58, fe_e26_60, fe_e26_61, fe_e26_62, fe_e26_65, fe_e26_67, fe_e26_68, fe_e26_69, fe_e26_70, fe_e26_73, fe_e26_74, fe_e26_75, fe_e26_78, fe_e26_79, fe_e26_80, fe_e26_81, fe_e26_84, fe_e26_85, fe_e26_86, fe_e26_87, fe_e26_88, fe_e26_91, fe_e26_93, fe_e26_94, fe_e26_95, fe_e26_98, fe_e26_101, fe_e26_104, fe_e26_107, fe_e26_113, fe_e26_116, Option.some.injEq, exists_eq_left', fe_KB_r, fe_KB_v, fe_z_add, fe_z_sub, fe_z_mul, fe_z_neg, fe_bi0, fe_bi1, fe_bibi, fe_bi01, fe_z01, fe_z11, true_and, and_true, if_true, if_false, ite_not, not_true_eq_false, not_false_eq_true, Bool.false_eq_true, Bool.true_eq_false, fe_z_mod, fe_z_eq, fe_z_lt, fe_z_le, fe_z_div, Int.reduceEq, Int.reduceLT, Int.reduceLE, Int.reduceNeg, ↓reduceIte, eq_self, Nat.reduceAdd, fe_bor, fe_tb_bi, fe_tb_0, fe_tb_1, fe_un_at, Nat.reduceEqDiff, or_false, or_true, true_or, false_or, Int.le_refl, fe_ob0, fe_g0_0, fe_g0_1, fe_g0_2, fe_p0_2, fe_g0_3, fe_g0_4, fe_g0_5, fe_p0_5, fe_g0_6, fe_ob1, fe_g1_0, fe_g1_1, fe_g1_2, fe_g1_3, fe_ob5, fe_g5_0, fe_p5_0, fe_g5_1, fe_p5_1, fe_g5_2, fe_p5_2, fe_g5_3, fe_p5_3, fe_g5_4, fe_p5_4, fe_g5_5, fe_p5_5, fe_g5_6, fe_p5_6, fe_g5_7, fe_p5_7, fe_g5_8, fe_p5_8, fe_g5_9, fe_p5_9, fe_ob7, fe_g7_0, fe_g7_1, fe_g7_2, fe_ob11, fe_g11_0, fe_g11_1, fe_p11_1, fe_ob13, fe_g13_0, fe_g13_1, fe_p13_1, fe_g13_2, fe_p13_2, fe_g13_3, fe_p13_3, fe_g13_4, fe_p13_4, fe_g13_5, fe_p13_5, fe_aa2, fe_sa2, fe_ll2, fe_aa3, fe_sa3, fe_ll3, fe_aa4, fe_sa4, fe_ll4, fe_aa8, fe_sa8, fe_ll8, fe_aa9, fe_sa9, fe_ll9, fe_aa10, fe_sa10, fe_ll10, fe_aa12, fe_sa12, fe_aa14, fe_sa14, fe_ll14, fe_aa6, fe_aa6n, fe_ll6, fe_obE, fe_gE_0, fe_gE_1, fe_gE_2, fe_gE_3, fe_gE_4, fe_gE_5, fe_gE_6, fe_gE_7, fe_gE_8, fe_gE_9, fe_gE_10, fe_gE_11, fe_pE_7, fe_pE_8, fe_aE1, fe_sE1, fe_lE1, fe_aE2, fe_sE2, fe_aE3, fe_sE3, fe_lE3, fe_aE4, fe_sE4, fe_lE4, hy0, q1, q3]
        rw [if_neg (by omega)]
        split
        · next hq =>
          have heq : d 1 y = d 1 (y - 1) := by omega
          refine ih M' _ g1 g2 (fun x' y' z' a1 a2 a3 a4 => ?_)
          by_cases he : x' = x ∧ y' = y
          · rw [he.1, he.2, heq]
            exact g3 x (y - 1) z' hx (by omega) a3 (by omega)
          · exact g3 x' y' z' a1 a2 a3 (by omega)
        · exact go
  have LA : ∀ x, x ≤ 24 → ∀ M' o3 o4, (∀ s, s < 4096 → fe_mb M' s = true → fe_mb M s = true ∨ ∃ t, t < 840 ∧ s = fe_dd d t) → (∀ s, s < 4096 → fe_mb M s = true → fe_mb M' s = true) → (∀ x' y' z', x' < 24 → y' < 5 → z' < 7 → x' < x → fe_mb M' ((d 0 x' ||| d 1 y') ||| d 2 z') = true) → fe_WP E 26 2 [some (.ref (b + 11)), some (.ref (b + 7)), some (.int (fe_z (x : Int))), o3, o4] [] (fe_mk b N (fe_cc b B D M' V A Z T I O L C) r) K := by
    refine fe_down 24 ?_ ?_
    · intro M' o3 o4 g1 g2 g3
      rw [fe_e26_2]
      simp (maxSteps := 4000000) (disch := omega) only [fe_e26_0, fe_e26_1, fe_e26_3, fe_e26_5, fe_e26_9, fe_e26_10, fe_e26_11, fe_e26_12, fe_e26_15, fe_e26_16, fe_e26_19, fe_e26_20, fe_e26_23, fe_e26_24, fe_e26_25, fe_e26_26, fe_e26_29, fe_e26_30, fe_e26_31, fe_e26_32, fe_e26_33, fe_e26_36, fe_e26_39, fe_e26_40, fe_e26_42, fe_e26_44, fe_e26_46, fe_e26_49, fe_e26_51, fe_e26_54, fe_e26_55, fe_e26_58, fe_e26_60, fe_e26_61, fe_e26_62, fe_e26_65, fe_e26_67, fe_e26_68, fe_e26_69, fe_e26_70, fe_e26_73, fe_e26_74, fe_e26_75, fe_e26_78, fe_e26_79, fe_e26_80, fe_e26_81, fe_e26_84, fe_e26_85, fe_e26_86, fe_e26_87, fe_e26_88, fe_e26_91, fe_e26_93, fe_e26_94, fe_e26_95, fe_e26_98, fe_e26_101, fe_e26_104, fe_e26_107, fe_e26_110, fe_e26_113, fe_e26_116, Option.some.injEq, exists_eq_left', fe_KB_r, fe_KB_v, fe_z_add, fe_z_sub, fe_z_mul, fe_z_neg, fe_bi0, fe_bi1, fe_bibi, fe_bi01, fe_z01, fe_z11, true_and, and_true, if_true, if_false, ite_not, not_true_eq_false, not_false_eq_true, Bool.false_eq_true, Bool.true_eq_false, fe_z_mod, fe_z_eq, fe_z_lt, fe_z_le, fe_z_div, Int.reduceEq, Int.reduceLT, Int.reduceLE, Int.reduceNeg, ↓reduceIte, eq_self, Nat.reduceAdd, fe_bor, fe_tb_bi, fe_tb_0, fe_tb_1, fe_un_at, Nat.reduceEqDiff, or_false, or_true, true_or, false_or, Int.le_refl, Int.cast_ofNat_Int]
      refine hK M' (fun s hs => ⟨g1 s hs, ?_⟩)
      rintro (h | ⟨t, ht, rfl⟩)
      · exact g2 s hs h
      · exact g3 _ _ _ (Nat.mod_lt _ (by decide)) (Nat.mod_lt _ (by decide)) (Nat.mod_lt _ (by decide)) (Nat.mod_lt _ (by decide))
    · intro x hx ih M' o3 o4 g1 g2 g3
      rw [fe_e26_2]
      simp (maxSteps := 4000000) (disch := omega) only [fe_e26_0, fe_e26_1, fe_e26_3, fe_e26_5, fe_e26_8, fe_e26_9, fe_e26_11, fe_e26_12, fe_e26_15, fe_e26_16, fe_e26_19, fe_e26_20, fe_e26_23, fe_e26_24, fe_e26_25, fe_e26_26, fe_e26_29, fe_e26_30, fe_e26_31, fe_e26_32, fe_e26_33, fe_e26_36, fe_e26_39, fe_e26_40, fe_e26_42, fe_e26_44, fe_e26_46, fe_e26_49, fe_e26_51, fe_e26_54, fe_e26_55, fe_e26_58, fe_e26_60, fe_e26_61, fe_e26_62, fe_e26_65, fe_e26_67, fe_e26_68, fe_e26_69, fe_e26_70, fe_e26_73, fe_e26_74, fe_e26_75, fe_e26_78, fe_e26_79, fe_e26_80, fe_e26_81, fe_e26_84, fe_e26_85, fe_e26_86, fe_e26_87, fe_e26_88, fe_e26_91, fe_e26_93, fe_e26_94, fe_e26_95, fe_e26_98, fe_e26_101, fe_e26_104, fe_e26_107, fe_e26_110, fe_e26_113, fe_e26_116, Option.some.injEq, exists_eq_left', fe_KB_r, fe_KB_v, fe_z_add, fe_z_sub, fe_z_mul, fe_z_neg, fe_bi0, fe_bi1, fe_bibi, fe_bi01, fe_z01, fe_z11, true_and, and_true, if_true, if_false, ite_not, not_true_eq_false, not_false_eq_true, Bool.false_eq_true, Bool.true_eq_false, fe_z_mod, fe_z_eq, fe_z_lt, fe_z_le, fe_z_div, Int.reduceEq, Int.reduceLT, Int.reduceLE, Int.reduceNeg, ↓reduceIte, eq_self, Nat.reduceAdd, fe_bor, fe_tb_bi, fe_tb_0, fe_tb_1, fe_un_at, Nat.reduceEqDiff, or_false, or_true, true_or, false_or, Int.le_refl]
      rw [if_neg (by omega)]
      exact LB x hx (fun M' o3 o4 a1 a2 a3 => ih M' o3 o4 a1 a2 (fun x' y' z' c1 c2 c3 c4 => a3 x' y' z' c1 c2 c3 c4)) 0 (by omega) M' _ g1 g2 (fun x' y' z' a1 a2 a3 a4 => g3 x' y' z' a1 a2 a3 (by omega))
  simp (maxSteps := 4000000) (disch := omega) only [fe_e26_0, fe_e26_1, fe_e26_3, fe_e26_5, fe_e26_8, fe_e26_9, fe_e26_10, fe_e26_11, fe_e26_12, fe_e26_15, fe_e26_16, fe_e26_19, fe_e26_20, fe_e26_23, fe_e26_24, fe_e26_25, fe_e26_26, fe_e26_29, fe_e26_30, fe_e26_31, fe_e26_32, fe_e26_33, fe_e26_36, fe_e26_39, fe_e26_40, fe_e26_42, fe_e26_44, fe_e26_46, fe_e26_49, fe_e26_51, fe_e26_54, fe_e26_55, fe_e26_58, fe_e26_60, fe_e26_61, fe_e26_62, fe_e26_65, fe_e26_67, fe_e26_68, fe_e26_69, fe_e26_70, fe_e26_73, fe_e26_74, fe_e26_75, fe_e26_78, fe_e26_79, fe_e26_80, fe_e26_81, fe_e26_84, fe_e26_85, fe_e26_86, fe_e26_87, fe_e26_88, fe_e26_91, fe_e26_93, fe_e26_94, fe_e26_95, fe_e26_98, fe_e26_101, fe_e26_104, fe_e26_107, fe_e26_110, fe_e26_113, fe_e26_116, Option.some.injEq, exists_eq_left', fe_KB_r, fe_KB_v, fe_z_add, fe_z_sub, fe_z_mul, fe_z_neg, fe_bi0, fe_bi1, fe_bibi, fe_bi01, fe_z01, fe_z11, true_and, and_true, if_true, if_false, ite_not, not_true_eq_false, not_false_eq_true, Bool.false_eq_true, Bool.true_eq_false, fe_z_mod, fe_z_eq, fe_z_lt, fe_z_le, fe_z_div, Int.reduceEq, Int.reduceLT, Int.reduceLE, Int.reduceNeg, ↓reduceIte, eq_self, Nat.reduceAdd, fe_bor, fe_tb_bi, fe_tb_0, fe_tb_1, fe_un_at, Nat.reduceEqDiff, or_false, or_true, true_or, false_or, Int.le_refl]
  exact LA 0 (by omega) M _ _ (fun s hs h => Or.inl h) (fun s hs h => h) (fun x' y' z' a1 a2 a3 a4 => by omega)
end Fe49

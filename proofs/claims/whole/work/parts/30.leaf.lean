/-! leaves -/
theorem fe_bd {u v : Int} (m : Int) (h1 : -m ≤ u) (h2 : u ≤ m) (h3 : -m ≤ v) (h4 : v ≤ m) : -(m * m) ≤ u * v ∧ u * v ≤ m * m := by
  have a1 : 0 ≤ (m - u) * (m + v) := Int.mul_nonneg (by omega) (by omega)
  have a2 : 0 ≤ (m + u) * (m - v) := Int.mul_nonneg (by omega) (by omega)
  have a3 : 0 ≤ (m - u) * (m - v) := Int.mul_nonneg (by omega) (by omega)
  have a4 : 0 ≤ (m + u) * (m + v) := Int.mul_nonneg (by omega) (by omega)
  simp only [Int.sub_mul, Int.add_mul, Int.mul_sub, Int.mul_add] at a1 a2 a3 a4
  have c1 : m * v = v * m := Int.mul_comm ..
  have c2 : u * m = m * u := Int.mul_comm ..
  constructor <;> omega
theorem fe_sq {u : Int} : 0 ≤ u * u := by
  rcases Int.le_total 0 u with h | h
  · exact Int.mul_nonneg h h
  · exact Int.mul_nonneg_of_nonpos_of_nonpos h h
theorem fe_and1 {i : Int} (h1 : 0 ≤ i) (h2 : i < 4) : fe_z i &&& fe_z 1 = fe_z (i % 2) := by
  obtain ⟨k, rfl⟩ := Int.eq_ofNat_of_zero_le h1
  have H : ∀ k, k < 4 → fe_z ((k : Nat) : Int) &&& fe_z 1 = fe_z ((k : Int) % 2) := by decide +kernel
  exact H k (by omega)
theorem fe_shr1 {i : Int} (h1 : 0 ≤ i) (h2 : i < 4) : fe_z i >>> (fe_z 1 &&& 31) = fe_z (i / 2) := by
  obtain ⟨k, rfl⟩ := Int.eq_ofNat_of_zero_le h1
  have H : ∀ k, k < 4 → fe_z ((k : Nat) : Int) >>> (fe_z 1 &&& 31) = fe_z ((k : Int) / 2) := by decide +kernel
  exact H k (by omega)
theorem fe_and7 {i : Int} (h1 : 0 ≤ i) (h2 : i < 32) : fe_z i &&& fe_z 7 = fe_z (i % 8) := by
  obtain ⟨k, rfl⟩ := Int.eq_ofNat_of_zero_le h1
  have H : ∀ k, k < 32 → fe_z ((k : Nat) : Int) &&& fe_z 7 = fe_z ((k : Int) % 8) := by decide +kernel
  exact H k (by omega)
theorem fe_and31 {x : Int32} : x &&& fe_z 31 = x &&& 31 := rfl
section Fe30
variable {E : fe_E} {h : fe_H} {K : fe_R → fe_H → Prop} {x y z w : Int}
theorem fe_m115 (h1 : -2147483648 ≤ x) (h2 : x ≤ 2147483647) (h3 : -2147483648 ≤ y) (h4 : y ≤ 2147483647) : fe_WP E 115 0 [some (.int (fe_z x)), some (.int (fe_z y))] [] h K ↔ K (.inl (some (.int (fe_z (max x y))))) h := by
  simp (maxSteps := 4000000) (disch := omega) only [fe_e115_0, fe_e115_1, fe_e115_2, fe_e115_5, fe_e115_6, fe_e115_9, fe_e115_10, Option.some.injEq, exists_eq_left', fe_KB_r, fe_KB_v, fe_z_add, fe_z_sub, fe_z_mul, fe_z_neg, fe_bi0, fe_bi1, fe_bibi, fe_bi01, fe_z01, fe_z11, true_and, and_true, if_true, if_false, ite_not, not_true_eq_false, not_false_eq_true, Bool.false_eq_true, Bool.true_eq_false, fe_z_mod, fe_z_eq, fe_z_lt, fe_z_le, fe_z_div, Int.reduceEq, Int.reduceLT, Int.reduceLE, Int.reduceNeg, ↓reduceIte, eq_self, Nat.reduceAdd, fe_bor, fe_tb_bi, fe_tb_0, fe_tb_1, fe_un_at, Nat.reduceEqDiff, or_false, or_true, true_or, false_or]
  by_cases hxy : x < y
  · rw [Int.max_eq_right (by omega)]
    simp [hxy]
  · rw [Int.max_eq_left (by omega)]
    simp [hxy]
theorem fe_m116 (h1 : -2147483648 ≤ x) (h2 : x ≤ 2147483647) (h3 : -2147483648 ≤ y) (h4 : y ≤ 2147483647) : fe_WP E 116 0 [some (.int (fe_z x)), some (.int (fe_z y))] [] h K ↔ K (.inl (some (.int (fe_z (min x y))))) h := by
  simp (maxSteps := 4000000) (disch := omega) only [fe_e116_0, fe_e116_1, fe_e116_2, fe_e116_5, fe_e116_6, fe_e116_9, fe_e116_10, Option.some.injEq, exists_eq_left', fe_KB_r, fe_KB_v, fe_z_add, fe_z_sub, fe_z_mul, fe_z_neg, fe_bi0, fe_bi1, fe_bibi, fe_bi01, fe_z01, fe_z11, true_and, and_true, if_true, if_false, ite_not, not_true_eq_false, not_false_eq_true, Bool.false_eq_true, Bool.true_eq_false, fe_z_mod, fe_z_eq, fe_z_lt, fe_z_le, fe_z_div, Int.reduceEq, Int.reduceLT, Int.reduceLE, Int.reduceNeg, ↓reduceIte, eq_self, Nat.reduceAdd, fe_bor, fe_tb_bi, fe_tb_0, fe_tb_1, fe_un_at, Nat.reduceEqDiff, or_false, or_true, true_or, false_or]
  by_cases hxy : y < x
  · rw [Int.min_eq_right (by omega)]
    simp [hxy]
  · rw [Int.min_eq_left (by omega)]
    simp [hxy]
theorem fe_m71 (h1 : -2147483648 ≤ x) (h2 : x ≤ 2147483647) (h3 : -2147483648 ≤ y) (h4 : y ≤ 2147483647) (h5 : -2147483648 ≤ z) (h6 : z ≤ 2147483647) : fe_WP E 71 0 [some (.int (fe_z x)), some (.int (fe_z y)), some (.int (fe_z z))] [] h K ↔ K (.inl (some (.int (fe_bi (decide (y ≤ x ∧ x ≤ z)))))) h := by
  simp (maxSteps := 4000000) (disch := omega) only [fe_e71_0, fe_e71_1, fe_e71_2, fe_e71_5, fe_e71_6, fe_e71_7, fe_e71_10, fe_e71_11, fe_e71_14, fe_e71_15, Option.some.injEq, exists_eq_left', fe_KB_r, fe_KB_v, fe_z_add, fe_z_sub, fe_z_mul, fe_z_neg, fe_bi0, fe_bi1, fe_bibi, fe_bi01, fe_z01, fe_z11, true_and, and_true, if_true, if_false, ite_not, not_true_eq_false, not_false_eq_true, Bool.false_eq_true, Bool.true_eq_false, fe_z_mod, fe_z_eq, fe_z_lt, fe_z_le, fe_z_div, Int.reduceEq, Int.reduceLT, Int.reduceLE, Int.reduceNeg, ↓reduceIte, eq_self, Nat.reduceAdd, fe_bor, fe_tb_bi, fe_tb_0, fe_tb_1, fe_un_at, Nat.reduceEqDiff, or_false, or_true, true_or, false_or]
  by_cases h7 : y ≤ x
  · by_cases h8 : x ≤ z
    · simp [h7, h8, fe_zt, show ¬ x < y by omega, show ¬ z < x by omega]
    · simp [h7, h8, fe_zf, show ¬ x < y by omega, show z < x by omega]
  · simp [h7, fe_zf, show x < y by omega]
theorem fe_m72 (h1 : -2147483648 ≤ x) (h2 : x ≤ 2147483647) : fe_WP E 72 0 [some (.int (fe_z x))] [] h K ↔ K (.inl (some (.int (fe_bi (decide (¬ (0 ≤ x ∧ x ≤ 191))))))) h := by
  simp (maxSteps := 4000000) (disch := omega) only [fe_e72_0, fe_e72_1, fe_e72_2, fe_e72_5, fe_e72_8, fe_e72_11, fe_e72_12, fe_e72_15, fe_e72_16, Option.some.injEq, exists_eq_left', fe_KB_r, fe_KB_v, fe_z_add, fe_z_sub, fe_z_mul, fe_z_neg, fe_bi0, fe_bi1, fe_bibi, fe_bi01, fe_z01, fe_z11, true_and, and_true, if_true, if_false, ite_not, not_true_eq_false, not_false_eq_true, Bool.false_eq_true, Bool.true_eq_false, fe_z_mod, fe_z_eq, fe_z_lt, fe_z_le, fe_z_div, Int.reduceEq, Int.reduceLT, Int.reduceLE, Int.reduceNeg, ↓reduceIte, eq_self, Nat.reduceAdd, fe_bor, fe_tb_bi, fe_tb_0, fe_tb_1, fe_un_at, Nat.reduceEqDiff, or_false, or_true, true_or, false_or, fe_m71]
  by_cases h7 : 0 ≤ x ∧ x ≤ 191
  · simp [h7, fe_zt, fe_zf, fe_bibi]
  · simp [h7, fe_zt, fe_zf, fe_bibi]
theorem fe_m75 (h1 : 0 ≤ x) (h2 : x ≤ 1000) (h3 : 0 ≤ y) (h4 : y ≤ 1000) (h5 : 0 ≤ z) (h6 : z ≤ 1000) : fe_WP E 75 0 [some (.int (fe_z x)), some (.int (fe_z y)), some (.int (fe_z z))] [] h K ↔ K (.inl (some (.int (fe_bi (decide (min y z ≤ x ∧ x ≤ max y z)))))) h := by
  simp (maxSteps := 4000000) (disch := omega) only [fe_e75_0, fe_e75_1, fe_e75_2, fe_e75_3, fe_e75_6, fe_e75_7, fe_e75_8, fe_e75_11, fe_e75_14, Option.some.injEq, exists_eq_left', fe_KB_r, fe_KB_v, fe_z_add, fe_z_sub, fe_z_mul, fe_z_neg, fe_bi0, fe_bi1, fe_bibi, fe_bi01, fe_z01, fe_z11, true_and, and_true, if_true, if_false, ite_not, not_true_eq_false, not_false_eq_true, Bool.false_eq_true, Bool.true_eq_false, fe_z_mod, fe_z_eq, fe_z_lt, fe_z_le, fe_z_div, Int.reduceEq, Int.reduceLT, Int.reduceLE, Int.reduceNeg, ↓reduceIte, eq_self, Nat.reduceAdd, fe_bor, fe_tb_bi, fe_tb_0, fe_tb_1, fe_un_at, Nat.reduceEqDiff, or_false, or_true, true_or, false_or, fe_m71, fe_m115, fe_m116]
theorem fe_m21 (h1 : 0 ≤ x) (h2 : x < 192) (h3 : 0 ≤ y) (h4 : y < 4) : fe_WP E 21 0 [some (.int (fe_z x)), some (.int (fe_z y))] [] h K ↔ K (.inl (some (.int (fe_z (x % 16 + y % 2))))) h := by
  simp (maxSteps := 4000000) (disch := omega) only [fe_e21_0, fe_e21_1, fe_e21_3, fe_e21_4, fe_e21_5, fe_e21_6, fe_e21_7, fe_e21_8, Option.some.injEq, exists_eq_left', fe_KB_r, fe_KB_v, fe_z_add, fe_z_sub, fe_z_mul, fe_z_neg, fe_bi0, fe_bi1, fe_bibi, fe_bi01, fe_z01, fe_z11, true_and, and_true, if_true, if_false, ite_not, not_true_eq_false, not_false_eq_true, Bool.false_eq_true, Bool.true_eq_false, fe_z_mod, fe_z_eq, fe_z_lt, fe_z_le, fe_z_div, Int.reduceEq, Int.reduceLT, Int.reduceLE, Int.reduceNeg, ↓reduceIte, eq_self, Nat.reduceAdd, fe_bor, fe_tb_bi, fe_tb_0, fe_tb_1, fe_un_at, Nat.reduceEqDiff, or_false, or_true, true_or, false_or, fe_and1]
theorem fe_m22 (h1 : 0 ≤ x) (h2 : x < 192) (h3 : 0 ≤ y) (h4 : y < 4) : fe_WP E 22 0 [some (.int (fe_z x)), some (.int (fe_z y))] [] h K ↔ K (.inl (some (.int (fe_z (x / 16 + y / 2))))) h := by
  simp (maxSteps := 4000000) (disch := omega) only [fe_e22_0, fe_e22_1, fe_e22_3, fe_e22_4, fe_e22_5, fe_e22_6, fe_e22_7, fe_e22_8, Option.some.injEq, exists_eq_left', fe_KB_r, fe_KB_v, fe_z_add, fe_z_sub, fe_z_mul, fe_z_neg, fe_bi0, fe_bi1, fe_bibi, fe_bi01, fe_z01, fe_z11, true_and, and_true, if_true, if_false, ite_not, not_true_eq_false, not_false_eq_true, Bool.false_eq_true, Bool.true_eq_false, fe_z_mod, fe_z_eq, fe_z_lt, fe_z_le, fe_z_div, Int.reduceEq, Int.reduceLT, Int.reduceLE, Int.reduceNeg, ↓reduceIte, eq_self, Nat.reduceAdd, fe_bor, fe_tb_bi, fe_tb_0, fe_tb_1, fe_un_at, Nat.reduceEqDiff, or_false, or_true, true_or, false_or, fe_shr1]
def fe_ax (w : Int) : Int := if w % 8 = 0 ∨ w % 8 = 1 ∨ w % 8 = 7 then 1 else if w % 8 = 2 ∨ w % 8 = 6 then 0 else -1
theorem fe_m81 (h1 : 0 ≤ w) (h2 : w < 32) : fe_WP E 81 0 [some (.int (fe_z w)), none] [] h K ↔ K (.inl (some (.int (fe_z (fe_ax w))))) h := by
  have h3 : 0 ≤ w % 8 ∧ w % 8 < 8 := by omega
  simp (maxSteps := 4000000) (disch := omega) only [fe_e81_0, fe_e81_1, fe_e81_3, fe_e81_4, fe_e81_5, fe_e81_6, fe_e81_9, fe_e81_10, fe_e81_11, fe_e81_14, fe_e81_15, fe_e81_17, fe_e81_20, fe_e81_21, fe_e81_24, fe_e81_25, fe_e81_26, fe_e81_29, fe_e81_30, fe_e81_32, fe_e81_35, fe_e81_36, fe_e81_39, fe_e81_40, Option.some.injEq, exists_eq_left', fe_KB_r, fe_KB_v, fe_z_add, fe_z_sub, fe_z_mul, fe_z_neg, fe_bi0, fe_bi1, fe_bibi, fe_bi01, fe_z01, fe_z11, true_and, and_true, if_true, if_false, ite_not, not_true_eq_false, not_false_eq_true, Bool.false_eq_true, Bool.true_eq_false, fe_z_mod, fe_z_eq, fe_z_lt, fe_z_le, fe_z_div, Int.reduceEq, Int.reduceLT, Int.reduceLE, Int.reduceNeg, ↓reduceIte, eq_self, Nat.reduceAdd, fe_bor, fe_tb_bi, fe_tb_0, fe_tb_1, fe_un_at, Nat.reduceEqDiff, or_false, or_true, true_or, false_or, fe_and7]
  unfold fe_ax
  generalize w % 8 = m at h3
  have h4 : m = 0 ∨ m = 1 ∨ m = 2 ∨ m = 3 ∨ m = 4 ∨ m = 5 ∨ m = 6 ∨ m = 7 := by omega
  rcases h4 with rfl | rfl | rfl | rfl | rfl | rfl | rfl | rfl <;> simp
theorem fe_m82 (h1 : 0 ≤ w) (h2 : w < 24) : fe_WP E 82 0 [some (.int (fe_z w))] [] h K ↔ K (.inl (some (.int (fe_z (fe_ax (w + 6)))))) h := by
  simp (maxSteps := 4000000) (disch := omega) only [fe_e82_0, fe_e82_1, fe_e82_3, fe_e82_4, fe_e82_7, Option.some.injEq, exists_eq_left', fe_KB_r, fe_KB_v, fe_z_add, fe_z_sub, fe_z_mul, fe_z_neg, fe_bi0, fe_bi1, fe_bibi, fe_bi01, fe_z01, fe_z11, true_and, and_true, if_true, if_false, ite_not, not_true_eq_false, not_false_eq_true, Bool.false_eq_true, Bool.true_eq_false, fe_z_mod, fe_z_eq, fe_z_lt, fe_z_le, fe_z_div, Int.reduceEq, Int.reduceLT, Int.reduceLE, Int.reduceNeg, ↓reduceIte, eq_self, Nat.reduceAdd, fe_bor, fe_tb_bi, fe_tb_0, fe_tb_1, fe_un_at, Nat.reduceEqDiff, or_false, or_true, true_or, false_or, fe_m81]
end Fe30
section Fe30r
variable {E : fe_E} {b : Nat} {N : Nat × Nat × Nat} {c : Nat → Option fe_C} {G : Nat → Int} {R : Nat → Int → Bool} {P F : Nat → Int → Int} {S J : Int → Bool} {U : Int → Int} {o : Int → Int64} {K : fe_R → fe_H → Prop}
theorem fe_m69 : fe_WP E 69 0 [some (.ref (b + 15))] [] (fe_mk b N c (fe_rc b G R P F S J U o)) K ↔ K (.inl (some (.int (fe_z (G 0))))) (fe_mk b N c (fe_rc b G R P F S J U o)) := by
  simp only [fe_e69_0, fe_e69_1, fe_e69_4, Option.some.injEq, exists_eq_left', fe_KB_r, fe_KB_v, fe_z_add, fe_z_sub, fe_z_mul, fe_z_neg, fe_bi0, fe_bi1, fe_bibi, fe_bi01, fe_z01, fe_z11, true_and, and_true, if_true, if_false, ite_not, not_true_eq_false, not_false_eq_true, Bool.false_eq_true, Bool.true_eq_false, fe_z_mod, fe_z_eq, fe_z_lt, fe_z_le, fe_z_div, Int.reduceEq, Int.reduceLT, Int.reduceLE, Int.reduceNeg, ↓reduceIte, eq_self, Nat.reduceAdd, fe_bor, fe_tb_bi, fe_tb_0, fe_tb_1, fe_un_at, Nat.reduceEqDiff, or_false, or_true, true_or, false_or, fe_ob15, fe_g15_0, fe_p15_0, fe_g15_1, fe_g15_2, fe_g15_3, fe_g15_4, fe_g15_5, fe_g15_6, fe_g15_7, fe_g15_8, fe_g15_9, fe_g15_10, fe_g15_11, fe_g15_12, fe_p15_12, fe_g15_13, fe_g15_14, fe_g15_15, fe_g15_16, fe_g15_17, fe_g15_18, fe_p15_18, fe_g15_19, fe_p15_19, fe_g15_20, fe_g15_21, fe_p15_21, fe_aa16, fe_sa16, fe_ll16, fe_aa17, fe_sa17, fe_ll17, fe_aa18, fe_sa18, fe_ll18, fe_aa19, fe_sa19, fe_ll19, fe_aa20, fe_sa20, fe_ll20, fe_aa21, fe_sa21, fe_ll21, fe_aa22, fe_sa22, fe_ll22, fe_aa23, fe_sa23, fe_ll23, fe_aa24, fe_sa24, fe_ll24, fe_aa25, fe_sa25, fe_ll25, fe_aa26, fe_sa26, fe_ll26, fe_aa27, fe_sa27, fe_ll27, fe_aa28, fe_sa28, fe_ll28, fe_aa29, fe_sa29, fe_ll29, fe_aa30, fe_sa30, fe_ll30, fe_aa31, fe_sa31, fe_ll31, fe_aa32, fe_sa32, fe_ll32, fe_aa33, fe_sa33]
theorem fe_m70 {p : Bool} {x : Int} : fe_WP E 70 0 [some (.ref (b + 15)), some (.int (fe_bi p)), some (.int (fe_z x))] [] (fe_mk b N c (fe_rc b G R P F S J U o)) K ↔ K (.inl (some (.int (fe_bi p)))) (fe_mk b N c (fe_rc b (if p then fe_un G 0 x else G) R P F S J U o)) := by
  simp only [fe_e70_0, fe_e70_1, fe_e70_4, fe_e70_5, fe_e70_6, fe_e70_9, fe_e70_10, Option.some.injEq, exists_eq_left', fe_KB_r, fe_KB_v, fe_z_add, fe_z_sub, fe_z_mul, fe_z_neg, fe_bi0, fe_bi1, fe_bibi, fe_bi01, fe_z01, fe_z11, true_and, and_true, if_true, if_false, ite_not, not_true_eq_false, not_false_eq_true, Bool.false_eq_true, Bool.true_eq_false, fe_z_mod, fe_z_eq, fe_z_lt, fe_z_le, fe_z_div, Int.reduceEq, Int.reduceLT, Int.reduceLE, Int.reduceNeg, ↓reduceIte, eq_self, Nat.reduceAdd, fe_bor, fe_tb_bi, fe_tb_0, fe_tb_1, fe_un_at, Nat.reduceEqDiff, or_false, or_true, true_or, false_or, fe_ob15, fe_g15_0, fe_p15_0, fe_g15_1, fe_g15_2, fe_g15_3, fe_g15_4, fe_g15_5, fe_g15_6, fe_g15_7, fe_g15_8, fe_g15_9, fe_g15_10, fe_g15_11, fe_g15_12, fe_p15_12, fe_g15_13, fe_g15_14, fe_g15_15, fe_g15_16, fe_g15_17, fe_g15_18, fe_p15_18, fe_g15_19, fe_p15_19, fe_g15_20, fe_g15_21, fe_p15_21, fe_aa16, fe_sa16, fe_ll16, fe_aa17, fe_sa17, fe_ll17, fe_aa18, fe_sa18, fe_ll18, fe_aa19, fe_sa19, fe_ll19, fe_aa20, fe_sa20, fe_ll20, fe_aa21, fe_sa21, fe_ll21, fe_aa22, fe_sa22, fe_ll22, fe_aa23, fe_sa23, fe_ll23, fe_aa24, fe_sa24, fe_ll24, fe_aa25, fe_sa25, fe_ll25, fe_aa26, fe_sa26, fe_ll26, fe_aa27, fe_sa27, fe_ll27, fe_aa28, fe_sa28, fe_ll28, fe_aa29, fe_sa29, fe_ll29, fe_aa30, fe_sa30, fe_ll30, fe_aa31, fe_sa31, fe_ll31, fe_aa32, fe_sa32, fe_ll32, fe_aa33, fe_sa33]
  cases p <;> simp
theorem fe_m73 {x : Int} (h1 : -2147483648 ≤ x) (h2 : x ≤ 2147483647) (h3 : 0 ≤ G 1) (h4 : G 1 ≤ 12) : fe_WP E 73 0 [some (.ref (b + 15)), some (.int (fe_z x))] [] (fe_mk b N c (fe_rc b G R P F S J U o)) K ↔ K (.inl (some (.int (fe_bi (decide (¬ (0 ≤ x ∧ x ≤ G 1 - 1))))))) (fe_mk b N c (fe_rc b G R P F S J U o)) := by
  simp (maxSteps := 4000000) (disch := omega) only [fe_e73_0, fe_e73_1, fe_e73_2, fe_e73_3, fe_e73_6, fe_e73_7, fe_e73_8, fe_e73_11, fe_e73_14, fe_e73_15, fe_e73_18, fe_e73_19, Option.some.injEq, exists_eq_left', fe_KB_r, fe_KB_v, fe_z_add, fe_z_sub, fe_z_mul, fe_z_neg, fe_bi0, fe_bi1, fe_bibi, fe_bi01, fe_z01, fe_z11, true_and, and_true, if_true, if_false, ite_not, not_true_eq_false, not_false_eq_true, Bool.false_eq_true, Bool.true_eq_false, fe_z_mod, fe_z_eq, fe_z_lt, fe_z_le, fe_z_div, Int.reduceEq, Int.reduceLT, Int.reduceLE, Int.reduceNeg, ↓reduceIte, eq_self, Nat.reduceAdd, fe_bor, fe_tb_bi, fe_tb_0, fe_tb_1, fe_un_at, Nat.reduceEqDiff, or_false, or_true, true_or, false_or, fe_ob15, fe_g15_0, fe_p15_0, fe_g15_1, fe_g15_2, fe_g15_3, fe_g15_4, fe_g15_5, fe_g15_6, fe_g15_7, fe_g15_8, fe_g15_9, fe_g15_10, fe_g15_11, fe_g15_12, fe_p15_12, fe_g15_13, fe_g15_14, fe_g15_15, fe_g15_16, fe_g15_17, fe_g15_18, fe_p15_18, fe_g15_19, fe_p15_19, fe_g15_20, fe_g15_21, fe_p15_21, fe_aa16, fe_sa16, fe_ll16, fe_aa17, fe_sa17, fe_ll17, fe_aa18, fe_sa18, fe_ll18, fe_aa19, fe_sa19, fe_ll19, fe_aa20, fe_sa20, fe_ll20, fe_aa21, fe_sa21, fe_ll21, fe_aa22, fe_sa22, fe_ll22, fe_aa23, fe_sa23, fe_ll23, fe_aa24, fe_sa24, fe_ll24, fe_aa25, fe_sa25, fe_ll25, fe_aa26, fe_sa26, fe_ll26, fe_aa27, fe_sa27, fe_ll27, fe_aa28, fe_sa28, fe_ll28, fe_aa29, fe_sa29, fe_ll29, fe_aa30, fe_sa30, fe_ll30, fe_aa31, fe_sa31, fe_ll31, fe_aa32, fe_sa32, fe_ll32, fe_aa33, fe_sa33, fe_m71]
  by_cases h7 : 0 ≤ x ∧ x ≤ G 1 - 1
  · simp [h7, fe_zt, fe_zf, fe_bibi]
  · simp [h7, fe_zt, fe_zf, fe_bibi]
end Fe30r

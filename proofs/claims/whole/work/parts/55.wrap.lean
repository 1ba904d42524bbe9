/-! the law: what goes through, what is thrown; class and reference side by side -/
def fe_KI (b x1 x2 : Nat) (K : fe_R → fe_H → Prop) : fe_R → fe_H → Prop := fun r h' => match r with
  | .inl (some (.int w)) => ∃ h'', fe_js h' (b + 33) (fe_z 0) w.toInt64 = some h'' ∧ K (.inl (some (.int (fe_z 0)))) h''
  | .inr x => (x.1 = x1 ∧ K (.inl (some (.int (fe_z 1)))) h') ∨ (¬ x.1 = x1 ∧ x.1 = x2 ∧ (if x2 = 9 then False else K (.inl (some (.int (fe_z 2)))) h'))
  | _ => False
def fe_KZ (b : Nat) (K : fe_R → fe_H → Prop) : fe_R → fe_H → Prop := fun r h' => match r with
  | .inl (some (.int w)) => ∃ h'', fe_js h' (b + 33) (fe_z 0) (if w = fe_z 0 then 0 else 1) = some h'' ∧ K (.inl (some (.int (fe_z 0)))) h''
  | .inr x => x.1 = 0 ∧ K (.inl (some (.int (fe_z 1)))) h'
  | _ => False
section Fe55w
variable {E : fe_E} {b : Nat} {h : fe_H} {K : fe_R → fe_H → Prop} {x0 x1 x2 x3 x4 x5 : Int32}
theorem fe_kb119_0 {ls : fe_Ls} {rest : List Value} {a : Nat} : fe_KB E 119 7 ls rest K (.inr (0, a)) h = fe_WP E 119 15 ls [.ref a] h K := by
  simp only [fe_KB, show fe_mH 119 = [(0, 12, 15, 13)] by decide +kernel, show fe_hgo (fe_mC 119) 7 0 [(0, 12, 15, 13)] = some 15 by decide +kernel]
theorem fe_m119 (hob : fe_ob h b 6 = true) (hw : fe_WP E 41 0 [some (.ref b), some (.int x0), some (.int x1), some (.int x2), none] [] h (fe_KI b 0 9 K)) : fe_WP E 119 0 [some (.ref b), some (.int x0), some (.int x1), some (.int x2), some (.ref (b + 33)), none] [] h K := by
  simp only [fe_e119_0, fe_e119_2, fe_e119_3, fe_e119_4, fe_e119_5, fe_e119_6, fe_e119_7, Option.some.injEq, exists_eq_left', fe_KB_r, fe_KB_v, fe_z_add, fe_z_sub, fe_z_mul, fe_z_neg, fe_bi0, fe_bi1, fe_bibi, fe_bi01, fe_z01, fe_z11, true_and, and_true, if_true, if_false, ite_not, not_true_eq_false, not_false_eq_true, Bool.false_eq_true, Bool.true_eq_false, fe_z_mod, fe_z_eq, fe_z_lt, fe_z_le, fe_z_div, Int.reduceEq, Int.reduceLT, Int.reduceLE, Int.reduceNeg, ↓reduceIte, eq_self, Nat.reduceAdd, fe_bor, fe_tb_bi, fe_tb_0, fe_tb_1, fe_un_at, Nat.reduceEqDiff, or_false, or_true, true_or, false_or, Int.le_refl]
  refine ⟨hob, fe_wp_mono (fun r h' hr => ?_) hw⟩
  match r, hr with
  | .inl (some (.int w)), hr =>
    obtain ⟨h'', e1, e2⟩ := hr
    simp only [fe_KB_r, fe_e119_0, fe_e119_2, fe_e119_3, fe_e119_4, fe_e119_5, fe_e119_6, fe_e119_7, fe_e119_10, fe_e119_11, fe_e119_12, fe_e119_15, fe_e119_17, fe_e119_18, fe_e119_19, fe_e119_20, Option.some.injEq, exists_eq_left', fe_KB_r, fe_KB_v, fe_z_add, fe_z_sub, fe_z_mul, fe_z_neg, fe_bi0, fe_bi1, fe_bibi, fe_bi01, fe_z01, fe_z11, true_and, and_true, if_true, if_false, ite_not, not_true_eq_false, not_false_eq_true, Bool.false_eq_true, Bool.true_eq_false, fe_z_mod, fe_z_eq, fe_z_lt, fe_z_le, fe_z_div, Int.reduceEq, Int.reduceLT, Int.reduceLE, Int.reduceNeg, ↓reduceIte, eq_self, Nat.reduceAdd, fe_bor, fe_tb_bi, fe_tb_0, fe_tb_1, fe_un_at, Nat.reduceEqDiff, or_false, or_true, true_or, false_or, Int.le_refl, e1]
    exact e2
  | .inr (x, a), hr =>
    rcases hr with ⟨h1, h2⟩ | ⟨h0, h1, h2⟩
    · have h1 : x = 0 := h1
      subst h1
      rw [fe_kb119_0]
      simp only [fe_e119_0, fe_e119_2, fe_e119_3, fe_e119_4, fe_e119_5, fe_e119_6, fe_e119_7, fe_e119_10, fe_e119_11, fe_e119_12, fe_e119_15, fe_e119_17, fe_e119_18, fe_e119_19, fe_e119_20, Option.some.injEq, exists_eq_left', fe_KB_r, fe_KB_v, fe_z_add, fe_z_sub, fe_z_mul, fe_z_neg, fe_bi0, fe_bi1, fe_bibi, fe_bi01, fe_z01, fe_z11, true_and, and_true, if_true, if_false, ite_not, not_true_eq_false, not_false_eq_true, Bool.false_eq_true, Bool.true_eq_false, fe_z_mod, fe_z_eq, fe_z_lt, fe_z_le, fe_z_div, Int.reduceEq, Int.reduceLT, Int.reduceLE, Int.reduceNeg, ↓reduceIte, eq_self, Nat.reduceAdd, fe_bor, fe_tb_bi, fe_tb_0, fe_tb_1, fe_un_at, Nat.reduceEqDiff, or_false, or_true, true_or, false_or, Int.le_refl]
      exact h2
    · rw [if_pos rfl] at h2
      exact h2.elim
theorem fe_kb120_0 {ls : fe_Ls} {rest : List Value} {a : Nat} : fe_KB E 120 5 ls rest K (.inr (0, a)) h = fe_WP E 120 20 ls [.ref a] h K := by
  simp only [fe_KB, show fe_mH 120 = [(0, 17, 20, 13)] by decide +kernel, show fe_hgo (fe_mC 120) 5 0 [(0, 17, 20, 13)] = some 20 by decide +kernel]
theorem fe_m120 (hob : fe_ob h b 6 = true) (hw : fe_WP E 42 0 [some (.ref b), some (.int x0), some (.int x1)] [] h (fe_KZ b K)) : fe_WP E 120 0 [some (.ref b), some (.int x0), some (.int x1), some (.ref (b + 33)), none] [] h K := by
  simp only [fe_e120_0, fe_e120_1, fe_e120_2, fe_e120_3, fe_e120_4, fe_e120_5, Option.some.injEq, exists_eq_left', fe_KB_r, fe_KB_v, fe_z_add, fe_z_sub, fe_z_mul, fe_z_neg, fe_bi0, fe_bi1, fe_bibi, fe_bi01, fe_z01, fe_z11, true_and, and_true, if_true, if_false, ite_not, not_true_eq_false, not_false_eq_true, Bool.false_eq_true, Bool.true_eq_false, fe_z_mod, fe_z_eq, fe_z_lt, fe_z_le, fe_z_div, Int.reduceEq, Int.reduceLT, Int.reduceLE, Int.reduceNeg, ↓reduceIte, eq_self, Nat.reduceAdd, fe_bor, fe_tb_bi, fe_tb_0, fe_tb_1, fe_un_at, Nat.reduceEqDiff, or_false, or_true, true_or, false_or, Int.le_refl]
  refine ⟨hob, fe_wp_mono (fun r h' hr => ?_) hw⟩
  match r, hr with
  | .inl (some (.int w)), hr =>
    obtain ⟨h'', e1, e2⟩ := hr
    by_cases hz : w = fe_z 0
    · simp only [hz, if_true] at e1
      simp only [fe_KB_r, fe_e120_0, fe_e120_1, fe_e120_2, fe_e120_3, fe_e120_4, fe_e120_5, fe_e120_8, fe_e120_11, fe_e120_12, fe_e120_15, fe_e120_16, fe_e120_17, fe_e120_20, fe_e120_22, fe_e120_23, fe_e120_24, fe_e120_25, Option.some.injEq, exists_eq_left', fe_KB_r, fe_KB_v, fe_z_add, fe_z_sub, fe_z_mul, fe_z_neg, fe_bi0, fe_bi1, fe_bibi, fe_bi01, fe_z01, fe_z11, true_and, and_true, if_true, if_false, ite_not, not_true_eq_false, not_false_eq_true, Bool.false_eq_true, Bool.true_eq_false, fe_z_mod, fe_z_eq, fe_z_lt, fe_z_le, fe_z_div, Int.reduceEq, Int.reduceLT, Int.reduceLE, Int.reduceNeg, ↓reduceIte, eq_self, Nat.reduceAdd, fe_bor, fe_tb_bi, fe_tb_0, fe_tb_1, fe_un_at, Nat.reduceEqDiff, or_false, or_true, true_or, false_or, Int.le_refl, hz, e1]
      exact e2
    · simp only [hz, if_false] at e1
      simp only [fe_KB_r, fe_e120_0, fe_e120_1, fe_e120_2, fe_e120_3, fe_e120_4, fe_e120_5, fe_e120_8, fe_e120_11, fe_e120_12, fe_e120_15, fe_e120_16, fe_e120_17, fe_e120_20, fe_e120_22, fe_e120_23, fe_e120_24, fe_e120_25, Option.some.injEq, exists_eq_left', fe_KB_r, fe_KB_v, fe_z_add, fe_z_sub, fe_z_mul, fe_z_neg, fe_bi0, fe_bi1, fe_bibi, fe_bi01, fe_z01, fe_z11, true_and, and_true, if_true, if_false, ite_not, not_true_eq_false, not_false_eq_true, Bool.false_eq_true, Bool.true_eq_false, fe_z_mod, fe_z_eq, fe_z_lt, fe_z_le, fe_z_div, Int.reduceEq, Int.reduceLT, Int.reduceLE, Int.reduceNeg, ↓reduceIte, eq_self, Nat.reduceAdd, fe_bor, fe_tb_bi, fe_tb_0, fe_tb_1, fe_un_at, Nat.reduceEqDiff, or_false, or_true, true_or, false_or, Int.le_refl, hz, e1]
      exact e2
  | .inr (x, a), hr =>
    obtain ⟨h1, h2⟩ := hr
    have h1 : x = 0 := h1
    subst h1
    rw [fe_kb120_0]
    simp only [fe_e120_0, fe_e120_1, fe_e120_2, fe_e120_3, fe_e120_4, fe_e120_5, fe_e120_8, fe_e120_11, fe_e120_12, fe_e120_15, fe_e120_16, fe_e120_17, fe_e120_20, fe_e120_22, fe_e120_23, fe_e120_24, fe_e120_25, Option.some.injEq, exists_eq_left', fe_KB_r, fe_KB_v, fe_z_add, fe_z_sub, fe_z_mul, fe_z_neg, fe_bi0, fe_bi1, fe_bibi, fe_bi01, fe_z01, fe_z11, true_and, and_true, if_true, if_false, ite_not, not_true_eq_false, not_false_eq_true, Bool.false_eq_true, Bool.true_eq_false, fe_z_mod, fe_z_eq, fe_z_lt, fe_z_le, fe_z_div, Int.reduceEq, Int.reduceLT, Int.reduceLE, Int.reduceNeg, ↓reduceIte, eq_self, Nat.reduceAdd, fe_bor, fe_tb_bi, fe_tb_0, fe_tb_1, fe_un_at, Nat.reduceEqDiff, or_false, or_true, true_or, false_or, Int.le_refl]
    exact h2
theorem fe_kb121_0 {ls : fe_Ls} {rest : List Value} {a : Nat} : fe_KB E 121 5 ls rest K (.inr (0, a)) h = fe_WP E 121 20 ls [.ref a] h K := by
  simp only [fe_KB, show fe_mH 121 = [(0, 17, 20, 13)] by decide +kernel, show fe_hgo (fe_mC 121) 5 0 [(0, 17, 20, 13)] = some 20 by decide +kernel]
theorem fe_m121 (hob : fe_ob h b 6 = true) (hw : fe_WP E 43 0 [some (.ref b), some (.int x0), some (.int x1)] [] h (fe_KZ b K)) : fe_WP E 121 0 [some (.ref b), some (.int x0), some (.int x1), some (.ref (b + 33)), none] [] h K := by
  simp only [fe_e121_0, fe_e121_1, fe_e121_2, fe_e121_3, fe_e121_4, fe_e121_5, Option.some.injEq, exists_eq_left', fe_KB_r, fe_KB_v, fe_z_add, fe_z_sub, fe_z_mul, fe_z_neg, fe_bi0, fe_bi1, fe_bibi, fe_bi01, fe_z01, fe_z11, true_and, and_true, if_true, if_false, ite_not, not_true_eq_false, not_false_eq_true, Bool.false_eq_true, Bool.true_eq_false, fe_z_mod, fe_z_eq, fe_z_lt, fe_z_le, fe_z_div, Int.reduceEq, Int.reduceLT, Int.reduceLE, Int.reduceNeg, ↓reduceIte, eq_self, Nat.reduceAdd, fe_bor, fe_tb_bi, fe_tb_0, fe_tb_1, fe_un_at, Nat.reduceEqDiff, or_false, or_true, true_or, false_or, Int.le_refl]
  refine ⟨hob, fe_wp_mono (fun r h' hr => ?_) hw⟩
  match r, hr with
  | .inl (some (.int w)), hr =>
    obtain ⟨h'', e1, e2⟩ := hr
    by_cases hz : w = fe_z 0
    · simp only [hz, if_true] at e1
      simp only [fe_KB_r, fe_e121_0, fe_e121_1, fe_e121_2, fe_e121_3, fe_e121_4, fe_e121_5, fe_e121_8, fe_e121_11, fe_e121_12, fe_e121_15, fe_e121_16, fe_e121_17, fe_e121_20, fe_e121_22, fe_e121_23, fe_e121_24, fe_e121_25, Option.some.injEq, exists_eq_left', fe_KB_r, fe_KB_v, fe_z_add, fe_z_sub, fe_z_mul, fe_z_neg, fe_bi0, fe_bi1, fe_bibi, fe_bi01, fe_z01, fe_z11, true_and, and_true, if_true, if_false, ite_not, not_true_eq_false, not_false_eq_true, Bool.false_eq_true, Bool.true_eq_false, fe_z_mod, fe_z_eq, fe_z_lt, fe_z_le, fe_z_div, Int.reduceEq, Int.reduceLT, Int.reduceLE, Int.reduceNeg, ↓reduceIte, eq_self, Nat.reduceAdd, fe_bor, fe_tb_bi, fe_tb_0, fe_tb_1, fe_un_at, Nat.reduceEqDiff, or_false, or_true, true_or, false_or, Int.le_refl, hz, e1]
      exact e2
    · simp only [hz, if_false] at e1
      simp only [fe_KB_r, fe_e121_0, fe_e121_1, fe_e121_2, fe_e121_3, fe_e121_4, fe_e121_5, fe_e121_8, fe_e121_11, fe_e121_12, fe_e121_15, fe_e121_16, fe_e121_17, fe_e121_20, fe_e121_22, fe_e121_23, fe_e121_24, fe_e121_25, Option.some.injEq, exists_eq_left', fe_KB_r, fe_KB_v, fe_z_add, fe_z_sub, fe_z_mul, fe_z_neg, fe_bi0, fe_bi1, fe_bibi, fe_bi01, fe_z01, fe_z11, true_and, and_true, if_true, if_false, ite_not, not_true_eq_false, not_false_eq_true, Bool.false_eq_true, Bool.true_eq_false, fe_z_mod, fe_z_eq, fe_z_lt, fe_z_le, fe_z_div, Int.reduceEq, Int.reduceLT, Int.reduceLE, Int.reduceNeg, ↓reduceIte, eq_self, Nat.reduceAdd, fe_bor, fe_tb_bi, fe_tb_0, fe_tb_1, fe_un_at, Nat.reduceEqDiff, or_false, or_true, true_or, false_or, Int.le_refl, hz, e1]
      exact e2
  | .inr (x, a), hr =>
    obtain ⟨h1, h2⟩ := hr
    have h1 : x = 0 := h1
    subst h1
    rw [fe_kb121_0]
    simp only [fe_e121_0, fe_e121_1, fe_e121_2, fe_e121_3, fe_e121_4, fe_e121_5, fe_e121_8, fe_e121_11, fe_e121_12, fe_e121_15, fe_e121_16, fe_e121_17, fe_e121_20, fe_e121_22, fe_e121_23, fe_e121_24, fe_e121_25, Option.some.injEq, exists_eq_left', fe_KB_r, fe_KB_v, fe_z_add, fe_z_sub, fe_z_mul, fe_z_neg, fe_bi0, fe_bi1, fe_bibi, fe_bi01, fe_z01, fe_z11, true_and, and_true, if_true, if_false, ite_not, not_true_eq_false, not_false_eq_true, Bool.false_eq_true, Bool.true_eq_false, fe_z_mod, fe_z_eq, fe_z_lt, fe_z_le, fe_z_div, Int.reduceEq, Int.reduceLT, Int.reduceLE, Int.reduceNeg, ↓reduceIte, eq_self, Nat.reduceAdd, fe_bor, fe_tb_bi, fe_tb_0, fe_tb_1, fe_un_at, Nat.reduceEqDiff, or_false, or_true, true_or, false_or, Int.le_refl]
    exact h2
theorem fe_kb122_1 {ls : fe_Ls} {rest : List Value} {a : Nat} : fe_KB E 122 13 ls rest K (.inr (1, a)) h = fe_WP E 122 21 ls [.ref a] h K := by
  simp only [fe_KB, show fe_mH 122 = [(0, 18, 21, 26), (0, 18, 25, 28)] by decide +kernel, show fe_hgo (fe_mC 122) 13 1 [(0, 18, 21, 26), (0, 18, 25, 28)] = some 21 by decide +kernel]
theorem fe_kb122_2 {ls : fe_Ls} {rest : List Value} {a : Nat} : fe_KB E 122 13 ls rest K (.inr (2, a)) h = fe_WP E 122 25 ls [.ref a] h K := by
  simp only [fe_KB, show fe_mH 122 = [(0, 18, 21, 26), (0, 18, 25, 28)] by decide +kernel, show fe_hgo (fe_mC 122) 13 2 [(0, 18, 21, 26), (0, 18, 25, 28)] = some 25 by decide +kernel]
theorem fe_m122 (hob : fe_ob h b 6 = true) (hw : fe_WP E 44 0 [some (.ref b), some (.int x0), some (.int x1), some (.int x2), some (.int x3), some (.int x4), some (.int x5), none] [] h (fe_KI b 1 2 K)) : fe_WP E 122 0 [some (.ref b), some (.int x0), some (.int x1), some (.int x2), some (.int x3), some (.int x4), some (.int x5), some (.ref (b + 33)), none] [] h K := by
  simp only [fe_e122_0, fe_e122_2, fe_e122_3, fe_e122_4, fe_e122_5, fe_e122_6, fe_e122_7, fe_e122_9, fe_e122_11, fe_e122_13, Option.some.injEq, exists_eq_left', fe_KB_r, fe_KB_v, fe_z_add, fe_z_sub, fe_z_mul, fe_z_neg, fe_bi0, fe_bi1, fe_bibi, fe_bi01, fe_z01, fe_z11, true_and, and_true, if_true, if_false, ite_not, not_true_eq_false, not_false_eq_true, Bool.false_eq_true, Bool.true_eq_false, fe_z_mod, fe_z_eq, fe_z_lt, fe_z_le, fe_z_div, Int.reduceEq, Int.reduceLT, Int.reduceLE, Int.reduceNeg, ↓reduceIte, eq_self, Nat.reduceAdd, fe_bor, fe_tb_bi, fe_tb_0, fe_tb_1, fe_un_at, Nat.reduceEqDiff, or_false, or_true, true_or, false_or, Int.le_refl]
  refine ⟨hob, fe_wp_mono (fun r h' hr => ?_) hw⟩
  match r, hr with
  | .inl (some (.int w)), hr =>
    obtain ⟨h'', e1, e2⟩ := hr
    simp only [fe_KB_r, fe_e122_0, fe_e122_2, fe_e122_3, fe_e122_4, fe_e122_5, fe_e122_6, fe_e122_7, fe_e122_9, fe_e122_11, fe_e122_13, fe_e122_16, fe_e122_17, fe_e122_18, fe_e122_21, fe_e122_23, fe_e122_24, fe_e122_25, fe_e122_27, fe_e122_28, fe_e122_29, fe_e122_30, Option.some.injEq, exists_eq_left', fe_KB_r, fe_KB_v, fe_z_add, fe_z_sub, fe_z_mul, fe_z_neg, fe_bi0, fe_bi1, fe_bibi, fe_bi01, fe_z01, fe_z11, true_and, and_true, if_true, if_false, ite_not, not_true_eq_false, not_false_eq_true, Bool.false_eq_true, Bool.true_eq_false, fe_z_mod, fe_z_eq, fe_z_lt, fe_z_le, fe_z_div, Int.reduceEq, Int.reduceLT, Int.reduceLE, Int.reduceNeg, ↓reduceIte, eq_self, Nat.reduceAdd, fe_bor, fe_tb_bi, fe_tb_0, fe_tb_1, fe_un_at, Nat.reduceEqDiff, or_false, or_true, true_or, false_or, Int.le_refl, e1]
    exact e2
  | .inr (x, a), hr =>
    rcases hr with ⟨h1, h2⟩ | ⟨h0, h1, h2⟩
    · have h1 : x = 1 := h1
      subst h1
      rw [fe_kb122_1]
      simp only [fe_e122_0, fe_e122_2, fe_e122_3, fe_e122_4, fe_e122_5, fe_e122_6, fe_e122_7, fe_e122_9, fe_e122_11, fe_e122_13, fe_e122_16, fe_e122_17, fe_e122_18, fe_e122_21, fe_e122_23, fe_e122_24, fe_e122_25, fe_e122_27, fe_e122_28, fe_e122_29, fe_e122_30, Option.some.injEq, exists_eq_left', fe_KB_r, fe_KB_v, fe_z_add, fe_z_sub, fe_z_mul, fe_z_neg, fe_bi0, fe_bi1, fe_bibi, fe_bi01, fe_z01, fe_z11, true_and, and_true, if_true, if_false, ite_not, not_true_eq_false, not_false_eq_true, Bool.false_eq_true, Bool.true_eq_false, fe_z_mod, fe_z_eq, fe_z_lt, fe_z_le, fe_z_div, Int.reduceEq, Int.reduceLT, Int.reduceLE, Int.reduceNeg, ↓reduceIte, eq_self, Nat.reduceAdd, fe_bor, fe_tb_bi, fe_tb_0, fe_tb_1, fe_un_at, Nat.reduceEqDiff, or_false, or_true, true_or, false_or, Int.le_refl]
      exact h2
    · have h1 : x = 2 := h1
      subst h1
      rw [fe_kb122_2]
      simp only [fe_e122_0, fe_e122_2, fe_e122_3, fe_e122_4, fe_e122_5, fe_e122_6, fe_e122_7, fe_e122_9, fe_e122_11, fe_e122_13, fe_e122_16, fe_e122_17, fe_e122_18, fe_e122_21, fe_e122_23, fe_e122_24, fe_e122_25, fe_e122_27, fe_e122_28, fe_e122_29, fe_e122_30, Option.some.injEq, exists_eq_left', fe_KB_r, fe_KB_v, fe_z_add, fe_z_sub, fe_z_mul, fe_z_neg, fe_bi0, fe_bi1, fe_bibi, fe_bi01, fe_z01, fe_z11, true_and, and_true, if_true, if_false, ite_not, not_true_eq_false, not_false_eq_true, Bool.false_eq_true, Bool.true_eq_false, fe_z_mod, fe_z_eq, fe_z_lt, fe_z_le, fe_z_div, Int.reduceEq, Int.reduceLT, Int.reduceLE, Int.reduceNeg, ↓reduceIte, eq_self, Nat.reduceAdd, fe_bor, fe_tb_bi, fe_tb_0, fe_tb_1, fe_un_at, Nat.reduceEqDiff, or_false, or_true, true_or, false_or, Int.le_refl]
      rw [if_neg (by decide)] at h2
      exact h2
theorem fe_kb123_0 {ls : fe_Ls} {rest : List Value} {a : Nat} : fe_KB E 123 5 ls rest K (.inr (0, a)) h = fe_WP E 123 13 ls [.ref a] h K := by
  simp only [fe_KB, show fe_mH 123 = [(0, 10, 13, 13), (0, 10, 17, 26)] by decide +kernel, show fe_hgo (fe_mC 123) 5 0 [(0, 10, 13, 13), (0, 10, 17, 26)] = some 13 by decide +kernel]
theorem fe_kb123_1 {ls : fe_Ls} {rest : List Value} {a : Nat} : fe_KB E 123 5 ls rest K (.inr (1, a)) h = fe_WP E 123 17 ls [.ref a] h K := by
  simp only [fe_KB, show fe_mH 123 = [(0, 10, 13, 13), (0, 10, 17, 26)] by decide +kernel, show fe_hgo (fe_mC 123) 5 1 [(0, 10, 13, 13), (0, 10, 17, 26)] = some 17 by decide +kernel]
theorem fe_m123 (hob : fe_ob h b 6 = true) (hw : fe_WP E 45 0 [some (.ref b), some (.int x0), some (.int x1), none] [] h (fe_KI b 0 1 K)) : fe_WP E 123 0 [some (.ref b), some (.int x0), some (.int x1), some (.ref (b + 33)), none] [] h K := by
  simp only [fe_e123_0, fe_e123_1, fe_e123_2, fe_e123_3, fe_e123_4, fe_e123_5, Option.some.injEq, exists_eq_left', fe_KB_r, fe_KB_v, fe_z_add, fe_z_sub, fe_z_mul, fe_z_neg, fe_bi0, fe_bi1, fe_bibi, fe_bi01, fe_z01, fe_z11, true_and, and_true, if_true, if_false, ite_not, not_true_eq_false, not_false_eq_true, Bool.false_eq_true, Bool.true_eq_false, fe_z_mod, fe_z_eq, fe_z_lt, fe_z_le, fe_z_div, Int.reduceEq, Int.reduceLT, Int.reduceLE, Int.reduceNeg, ↓reduceIte, eq_self, Nat.reduceAdd, fe_bor, fe_tb_bi, fe_tb_0, fe_tb_1, fe_un_at, Nat.reduceEqDiff, or_false, or_true, true_or, false_or, Int.le_refl]
  refine ⟨hob, fe_wp_mono (fun r h' hr => ?_) hw⟩
  match r, hr with
  | .inl (some (.int w)), hr =>
    obtain ⟨h'', e1, e2⟩ := hr
    simp only [fe_KB_r, fe_e123_0, fe_e123_1, fe_e123_2, fe_e123_3, fe_e123_4, fe_e123_5, fe_e123_8, fe_e123_9, fe_e123_10, fe_e123_13, fe_e123_15, fe_e123_16, fe_e123_17, fe_e123_19, fe_e123_20, fe_e123_21, fe_e123_22, Option.some.injEq, exists_eq_left', fe_KB_r, fe_KB_v, fe_z_add, fe_z_sub, fe_z_mul, fe_z_neg, fe_bi0, fe_bi1, fe_bibi, fe_bi01, fe_z01, fe_z11, true_and, and_true, if_true, if_false, ite_not, not_true_eq_false, not_false_eq_true, Bool.false_eq_true, Bool.true_eq_false, fe_z_mod, fe_z_eq, fe_z_lt, fe_z_le, fe_z_div, Int.reduceEq, Int.reduceLT, Int.reduceLE, Int.reduceNeg, ↓reduceIte, eq_self, Nat.reduceAdd, fe_bor, fe_tb_bi, fe_tb_0, fe_tb_1, fe_un_at, Nat.reduceEqDiff, or_false, or_true, true_or, false_or, Int.le_refl, e1]
    exact e2
  | .inr (x, a), hr =>
    rcases hr with ⟨h1, h2⟩ | ⟨h0, h1, h2⟩
    · have h1 : x = 0 := h1
      subst h1
      rw [fe_kb123_0]
      simp only [fe_e123_0, fe_e123_1, fe_e123_2, fe_e123_3, fe_e123_4, fe_e123_5, fe_e123_8, fe_e123_9, fe_e123_10, fe_e123_13, fe_e123_15, fe_e123_16, fe_e123_17, fe_e123_19, fe_e123_20, fe_e123_21, fe_e123_22, Option.some.injEq, exists_eq_left', fe_KB_r, fe_KB_v, fe_z_add, fe_z_sub, fe_z_mul, fe_z_neg, fe_bi0, fe_bi1, fe_bibi, fe_bi01, fe_z01, fe_z11, true_and, and_true, if_true, if_false, ite_not, not_true_eq_false, not_false_eq_true, Bool.false_eq_true, Bool.true_eq_false, fe_z_mod, fe_z_eq, fe_z_lt, fe_z_le, fe_z_div, Int.reduceEq, Int.reduceLT, Int.reduceLE, Int.reduceNeg, ↓reduceIte, eq_self, Nat.reduceAdd, fe_bor, fe_tb_bi, fe_tb_0, fe_tb_1, fe_un_at, Nat.reduceEqDiff, or_false, or_true, true_or, false_or, Int.le_refl]
      exact h2
    · have h1 : x = 1 := h1
      subst h1
      rw [fe_kb123_1]
      simp only [fe_e123_0, fe_e123_1, fe_e123_2, fe_e123_3, fe_e123_4, fe_e123_5, fe_e123_8, fe_e123_9, fe_e123_10, fe_e123_13, fe_e123_15, fe_e123_16, fe_e123_17, fe_e123_19, fe_e123_20, fe_e123_21, fe_e123_22, Option.some.injEq, exists_eq_left', fe_KB_r, fe_KB_v, fe_z_add, fe_z_sub, fe_z_mul, fe_z_neg, fe_bi0, fe_bi1, fe_bibi, fe_bi01, fe_z01, fe_z11, true_and, and_true, if_true, if_false, ite_not, not_true_eq_false, not_false_eq_true, Bool.false_eq_true, Bool.true_eq_false, fe_z_mod, fe_z_eq, fe_z_lt, fe_z_le, fe_z_div, Int.reduceEq, Int.reduceLT, Int.reduceLE, Int.reduceNeg, ↓reduceIte, eq_self, Nat.reduceAdd, fe_bor, fe_tb_bi, fe_tb_0, fe_tb_1, fe_un_at, Nat.reduceEqDiff, or_false, or_true, true_or, false_or, Int.le_refl]
      rw [if_neg (by decide)] at h2
      exact h2
theorem fe_kb124_0 {ls : fe_Ls} {rest : List Value} {a : Nat} : fe_KB E 124 7 ls rest K (.inr (0, a)) h = fe_WP E 124 22 ls [.ref a] h K := by
  simp only [fe_KB, show fe_mH 124 = [(0, 19, 22, 13)] by decide +kernel, show fe_hgo (fe_mC 124) 7 0 [(0, 19, 22, 13)] = some 22 by decide +kernel]
theorem fe_m124 (hob : fe_ob h b 6 = true) (hw : fe_WP E 46 0 [some (.ref b), some (.int x0), some (.int x1), some (.int x2), none] [] h (fe_KZ b K)) : fe_WP E 124 0 [some (.ref b), some (.int x0), some (.int x1), some (.int x2), some (.ref (b + 33)), none] [] h K := by
  simp only [fe_e124_0, fe_e124_2, fe_e124_3, fe_e124_4, fe_e124_5, fe_e124_6, fe_e124_7, Option.some.injEq, exists_eq_left', fe_KB_r, fe_KB_v, fe_z_add, fe_z_sub, fe_z_mul, fe_z_neg, fe_bi0, fe_bi1, fe_bibi, fe_bi01, fe_z01, fe_z11, true_and, and_true, if_true, if_false, ite_not, not_true_eq_false, not_false_eq_true, Bool.false_eq_true, Bool.true_eq_false, fe_z_mod, fe_z_eq, fe_z_lt, fe_z_le, fe_z_div, Int.reduceEq, Int.reduceLT, Int.reduceLE, Int.reduceNeg, ↓reduceIte, eq_self, Nat.reduceAdd, fe_bor, fe_tb_bi, fe_tb_0, fe_tb_1, fe_un_at, Nat.reduceEqDiff, or_false, or_true, true_or, false_or, Int.le_refl]
  refine ⟨hob, fe_wp_mono (fun r h' hr => ?_) hw⟩
  match r, hr with
  | .inl (some (.int w)), hr =>
    obtain ⟨h'', e1, e2⟩ := hr
    by_cases hz : w = fe_z 0
    · simp only [hz, if_true] at e1
      simp only [fe_KB_r, fe_e124_0, fe_e124_2, fe_e124_3, fe_e124_4, fe_e124_5, fe_e124_6, fe_e124_7, fe_e124_10, fe_e124_13, fe_e124_14, fe_e124_17, fe_e124_18, fe_e124_19, fe_e124_22, fe_e124_24, fe_e124_25, fe_e124_26, fe_e124_27, Option.some.injEq, exists_eq_left', fe_KB_r, fe_KB_v, fe_z_add, fe_z_sub, fe_z_mul, fe_z_neg, fe_bi0, fe_bi1, fe_bibi, fe_bi01, fe_z01, fe_z11, true_and, and_true, if_true, if_false, ite_not, not_true_eq_false, not_false_eq_true, Bool.false_eq_true, Bool.true_eq_false, fe_z_mod, fe_z_eq, fe_z_lt, fe_z_le, fe_z_div, Int.reduceEq, Int.reduceLT, Int.reduceLE, Int.reduceNeg, ↓reduceIte, eq_self, Nat.reduceAdd, fe_bor, fe_tb_bi, fe_tb_0, fe_tb_1, fe_un_at, Nat.reduceEqDiff, or_false, or_true, true_or, false_or, Int.le_refl, hz, e1]
      exact e2
    · simp only [hz, if_false] at e1
      simp only [fe_KB_r, fe_e124_0, fe_e124_2, fe_e124_3, fe_e124_4, fe_e124_5, fe_e124_6, fe_e124_7, fe_e124_10, fe_e124_13, fe_e124_14, fe_e124_17, fe_e124_18, fe_e124_19, fe_e124_22, fe_e124_24, fe_e124_25, fe_e124_26, fe_e124_27, Option.some.injEq, exists_eq_left', fe_KB_r, fe_KB_v, fe_z_add, fe_z_sub, fe_z_mul, fe_z_neg, fe_bi0, fe_bi1, fe_bibi, fe_bi01, fe_z01, fe_z11, true_and, and_true, if_true, if_false, ite_not, not_true_eq_false, not_false_eq_true, Bool.false_eq_true, Bool.true_eq_false, fe_z_mod, fe_z_eq, fe_z_lt, fe_z_le, fe_z_div, Int.reduceEq, Int.reduceLT, Int.reduceLE, Int.reduceNeg, ↓reduceIte, eq_self, Nat.reduceAdd, fe_bor, fe_tb_bi, fe_tb_0, fe_tb_1, fe_un_at, Nat.reduceEqDiff, or_false, or_true, true_or, false_or, Int.le_refl, hz, e1]
      exact e2
  | .inr (x, a), hr =>
    obtain ⟨h1, h2⟩ := hr
    have h1 : x = 0 := h1
    subst h1
    rw [fe_kb124_0]
    simp only [fe_e124_0, fe_e124_2, fe_e124_3, fe_e124_4, fe_e124_5, fe_e124_6, fe_e124_7, fe_e124_10, fe_e124_13, fe_e124_14, fe_e124_17, fe_e124_18, fe_e124_19, fe_e124_22, fe_e124_24, fe_e124_25, fe_e124_26, fe_e124_27, Option.some.injEq, exists_eq_left', fe_KB_r, fe_KB_v, fe_z_add, fe_z_sub, fe_z_mul, fe_z_neg, fe_bi0, fe_bi1, fe_bibi, fe_bi01, fe_z01, fe_z11, true_and, and_true, if_true, if_false, ite_not, not_true_eq_false, not_false_eq_true, Bool.false_eq_true, Bool.true_eq_false, fe_z_mod, fe_z_eq, fe_z_lt, fe_z_le, fe_z_div, Int.reduceEq, Int.reduceLT, Int.reduceLE, Int.reduceNeg, ↓reduceIte, eq_self, Nat.reduceAdd, fe_bor, fe_tb_bi, fe_tb_0, fe_tb_1, fe_un_at, Nat.reduceEqDiff, or_false, or_true, true_or, false_or, Int.le_refl]
    exact h2
theorem fe_kb125_0 {ls : fe_Ls} {rest : List Value} {a : Nat} : fe_KB E 125 7 ls rest K (.inr (0, a)) h = fe_WP E 125 22 ls [.ref a] h K := by
  simp only [fe_KB, show fe_mH 125 = [(0, 19, 22, 13)] by decide +kernel, show fe_hgo (fe_mC 125) 7 0 [(0, 19, 22, 13)] = some 22 by decide +kernel]
theorem fe_m125 (hob : fe_ob h b 6 = true) (hw : fe_WP E 47 0 [some (.ref b), some (.int x0), some (.int x1), some (.int x2), none] [] h (fe_KZ b K)) : fe_WP E 125 0 [some (.ref b), some (.int x0), some (.int x1), some (.int x2), some (.ref (b + 33)), none] [] h K := by
  simp only [fe_e125_0, fe_e125_2, fe_e125_3, fe_e125_4, fe_e125_5, fe_e125_6, fe_e125_7, Option.some.injEq, exists_eq_left', fe_KB_r, fe_KB_v, fe_z_add, fe_z_sub, fe_z_mul, fe_z_neg, fe_bi0, fe_bi1, fe_bibi, fe_bi01, fe_z01, fe_z11, true_and, and_true, if_true, if_false, ite_not, not_true_eq_false, not_false_eq_true, Bool.false_eq_true, Bool.true_eq_false, fe_z_mod, fe_z_eq, fe_z_lt, fe_z_le, fe_z_div, Int.reduceEq, Int.reduceLT, Int.reduceLE, Int.reduceNeg, ↓reduceIte, eq_self, Nat.reduceAdd, fe_bor, fe_tb_bi, fe_tb_0, fe_tb_1, fe_un_at, Nat.reduceEqDiff, or_false, or_true, true_or, false_or, Int.le_refl]
  refine ⟨hob, fe_wp_mono (fun r h' hr => ?_) hw⟩
  match r, hr with
  | .inl (some (.int w)), hr =>
    obtain ⟨h'', e1, e2⟩ := hr
    by_cases hz : w = fe_z 0
    · simp only [hz, if_true] at e1
      simp only [fe_KB_r, fe_e125_0, fe_e125_2, fe_e125_3, fe_e125_4, fe_e125_5, fe_e125_6, fe_e125_7, fe_e125_10, fe_e125_13, fe_e125_14, fe_e125_17, fe_e125_18, fe_e125_19, fe_e125_22, fe_e125_24, fe_e125_25, fe_e125_26, fe_e125_27, Option.some.injEq, exists_eq_left', fe_KB_r, fe_KB_v, fe_z_add, fe_z_sub, fe_z_mul, fe_z_neg, fe_bi0, fe_bi1, fe_bibi, fe_bi01, fe_z01, fe_z11, true_and, and_true, if_true, if_false, ite_not, not_true_eq_false, not_false_eq_true, Bool.false_eq_true, Bool.true_eq_false, fe_z_mod, fe_z_eq, fe_z_lt, fe_z_le, fe_z_div, Int.reduceEq, Int.reduceLT, Int.reduceLE, Int.reduceNeg, ↓reduceIte, eq_self, Nat.reduceAdd, fe_bor, fe_tb_bi, fe_tb_0, fe_tb_1, fe_un_at, Nat.reduceEqDiff, or_false, or_true, true_or, false_or, Int.le_refl, hz, e1]
      exact e2
    · simp only [hz, if_false] at e1
      simp only [fe_KB_r, fe_e125_0, fe_e125_2, fe_e125_3, fe_e125_4, fe_e125_5, fe_e125_6, fe_e125_7, fe_e125_10, fe_e125_13, fe_e125_14, fe_e125_17, fe_e125_18, fe_e125_19, fe_e125_22, fe_e125_24, fe_e125_25, fe_e125_26, fe_e125_27, Option.some.injEq, exists_eq_left', fe_KB_r, fe_KB_v, fe_z_add, fe_z_sub, fe_z_mul, fe_z_neg, fe_bi0, fe_bi1, fe_bibi, fe_bi01, fe_z01, fe_z11, true_and, and_true, if_true, if_false, ite_not, not_true_eq_false, not_false_eq_true, Bool.false_eq_true, Bool.true_eq_false, fe_z_mod, fe_z_eq, fe_z_lt, fe_z_le, fe_z_div, Int.reduceEq, Int.reduceLT, Int.reduceLE, Int.reduceNeg, ↓reduceIte, eq_self, Nat.reduceAdd, fe_bor, fe_tb_bi, fe_tb_0, fe_tb_1, fe_un_at, Nat.reduceEqDiff, or_false, or_true, true_or, false_or, Int.le_refl, hz, e1]
      exact e2
  | .inr (x, a), hr =>
    obtain ⟨h1, h2⟩ := hr
    have h1 : x = 0 := h1
    subst h1
    rw [fe_kb125_0]
    simp only [fe_e125_0, fe_e125_2, fe_e125_3, fe_e125_4, fe_e125_5, fe_e125_6, fe_e125_7, fe_e125_10, fe_e125_13, fe_e125_14, fe_e125_17, fe_e125_18, fe_e125_19, fe_e125_22, fe_e125_24, fe_e125_25, fe_e125_26, fe_e125_27, Option.some.injEq, exists_eq_left', fe_KB_r, fe_KB_v, fe_z_add, fe_z_sub, fe_z_mul, fe_z_neg, fe_bi0, fe_bi1, fe_bibi, fe_bi01, fe_z01, fe_z11, true_and, and_true, if_true, if_false, ite_not, not_true_eq_false, not_false_eq_true, Bool.false_eq_true, Bool.true_eq_false, fe_z_mod, fe_z_eq, fe_z_lt, fe_z_le, fe_z_div, Int.reduceEq, Int.reduceLT, Int.reduceLE, Int.reduceNeg, ↓reduceIte, eq_self, Nat.reduceAdd, fe_bor, fe_tb_bi, fe_tb_0, fe_tb_1, fe_un_at, Nat.reduceEqDiff, or_false, or_true, true_or, false_or, Int.le_refl]
    exact h2
theorem fe_kb126_0 {ls : fe_Ls} {rest : List Value} {a : Nat} : fe_KB E 126 7 ls rest K (.inr (0, a)) h = fe_WP E 126 22 ls [.ref a] h K := by
  simp only [fe_KB, show fe_mH 126 = [(0, 19, 22, 13)] by decide +kernel, show fe_hgo (fe_mC 126) 7 0 [(0, 19, 22, 13)] = some 22 by decide +kernel]
theorem fe_m126 (hob : fe_ob h b 6 = true) (hw : fe_WP E 48 0 [some (.ref b), some (.int x0), some (.int x1), some (.int x2), none] [] h (fe_KZ b K)) : fe_WP E 126 0 [some (.ref b), some (.int x0), some (.int x1), some (.int x2), some (.ref (b + 33)), none] [] h K := by
  simp only [fe_e126_0, fe_e126_2, fe_e126_3, fe_e126_4, fe_e126_5, fe_e126_6, fe_e126_7, Option.some.injEq, exists_eq_left', fe_KB_r, fe_KB_v, fe_z_add, fe_z_sub, fe_z_mul, fe_z_neg, fe_bi0, fe_bi1, fe_bibi, fe_bi01, fe_z01, fe_z11, true_and, and_true, if_true, if_false, ite_not, not_true_eq_false, not_false_eq_true, Bool.false_eq_true, Bool.true_eq_false, fe_z_mod, fe_z_eq, fe_z_lt, fe_z_le, fe_z_div, Int.reduceEq, Int.reduceLT, Int.reduceLE, Int.reduceNeg, ↓reduceIte, eq_self, Nat.reduceAdd, fe_bor, fe_tb_bi, fe_tb_0, fe_tb_1, fe_un_at, Nat.reduceEqDiff, or_false, or_true, true_or, false_or, Int.le_refl]
  refine ⟨hob, fe_wp_mono (fun r h' hr => ?_) hw⟩
  match r, hr with
  | .inl (some (.int w)), hr =>
    obtain ⟨h'', e1, e2⟩ := hr
    by_cases hz : w = fe_z 0
    · simp only [hz, if_true] at e1
      simp only [fe_KB_r, fe_e126_0, fe_e126_2, fe_e126_3, fe_e126_4, fe_e126_5, fe_e126_6, fe_e126_7, fe_e126_10, fe_e126_13, fe_e126_14, fe_e126_17, fe_e126_18, fe_e126_19, fe_e126_22, fe_e126_24, fe_e126_25, fe_e126_26, fe_e126_27, Option.some.injEq, exists_eq_left', fe_KB_r, fe_KB_v, fe_z_add, fe_z_sub, fe_z_mul, fe_z_neg, fe_bi0, fe_bi1, fe_bibi, fe_bi01, fe_z01, fe_z11, true_and, and_true, if_true, if_false, ite_not, not_true_eq_false, not_false_eq_true, Bool.false_eq_true, Bool.true_eq_false, fe_z_mod, fe_z_eq, fe_z_lt, fe_z_le, fe_z_div, Int.reduceEq, Int.reduceLT, Int.reduceLE, Int.reduceNeg, ↓reduceIte, eq_self, Nat.reduceAdd, fe_bor, fe_tb_bi, fe_tb_0, fe_tb_1, fe_un_at, Nat.reduceEqDiff, or_false, or_true, true_or, false_or, Int.le_refl, hz, e1]
      exact e2
    · simp only [hz, if_false] at e1
      simp only [fe_KB_r, fe_e126_0, fe_e126_2, fe_e126_3, fe_e126_4, fe_e126_5, fe_e126_6, fe_e126_7, fe_e126_10, fe_e126_13, fe_e126_14, fe_e126_17, fe_e126_18, fe_e126_19, fe_e126_22, fe_e126_24, fe_e126_25, fe_e126_26, fe_e126_27, Option.some.injEq, exists_eq_left', fe_KB_r, fe_KB_v, fe_z_add, fe_z_sub, fe_z_mul, fe_z_neg, fe_bi0, fe_bi1, fe_bibi, fe_bi01, fe_z01, fe_z11, true_and, and_true, if_true, if_false, ite_not, not_true_eq_false, not_false_eq_true, Bool.false_eq_true, Bool.true_eq_false, fe_z_mod, fe_z_eq, fe_z_lt, fe_z_le, fe_z_div, Int.reduceEq, Int.reduceLT, Int.reduceLE, Int.reduceNeg, ↓reduceIte, eq_self, Nat.reduceAdd, fe_bor, fe_tb_bi, fe_tb_0, fe_tb_1, fe_un_at, Nat.reduceEqDiff, or_false, or_true, true_or, false_or, Int.le_refl, hz, e1]
      exact e2
  | .inr (x, a), hr =>
    obtain ⟨h1, h2⟩ := hr
    have h1 : x = 0 := h1
    subst h1
    rw [fe_kb126_0]
    simp only [fe_e126_0, fe_e126_2, fe_e126_3, fe_e126_4, fe_e126_5, fe_e126_6, fe_e126_7, fe_e126_10, fe_e126_13, fe_e126_14, fe_e126_17, fe_e126_18, fe_e126_19, fe_e126_22, fe_e126_24, fe_e126_25, fe_e126_26, fe_e126_27, Option.some.injEq, exists_eq_left', fe_KB_r, fe_KB_v, fe_z_add, fe_z_sub, fe_z_mul, fe_z_neg, fe_bi0, fe_bi1, fe_bibi, fe_bi01, fe_z01, fe_z11, true_and, and_true, if_true, if_false, ite_not, not_true_eq_false, not_false_eq_true, Bool.false_eq_true, Bool.true_eq_false, fe_z_mod, fe_z_eq, fe_z_lt, fe_z_le, fe_z_div, Int.reduceEq, Int.reduceLT, Int.reduceLE, Int.reduceNeg, ↓reduceIte, eq_self, Nat.reduceAdd, fe_bor, fe_tb_bi, fe_tb_0, fe_tb_1, fe_un_at, Nat.reduceEqDiff, or_false, or_true, true_or, false_or, Int.le_refl]
    exact h2
theorem fe_kb127_0 {ls : fe_Ls} {rest : List Value} {a : Nat} : fe_KB E 127 5 ls rest K (.inr (0, a)) h = fe_WP E 127 13 ls [.ref a] h K := by
  simp only [fe_KB, show fe_mH 127 = [(0, 10, 13, 13)] by decide +kernel, show fe_hgo (fe_mC 127) 5 0 [(0, 10, 13, 13)] = some 13 by decide +kernel]
theorem fe_m127 (hob : fe_ob h b 6 = true) (hw : fe_WP E 52 0 [some (.ref b), some (.int x0), some (.int x1)] [] h (fe_KI b 0 9 K)) : fe_WP E 127 0 [some (.ref b), some (.int x0), some (.int x1), some (.ref (b + 33)), none] [] h K := by
  simp only [fe_e127_0, fe_e127_1, fe_e127_2, fe_e127_3, fe_e127_4, fe_e127_5, Option.some.injEq, exists_eq_left', fe_KB_r, fe_KB_v, fe_z_add, fe_z_sub, fe_z_mul, fe_z_neg, fe_bi0, fe_bi1, fe_bibi, fe_bi01, fe_z01, fe_z11, true_and, and_true, if_true, if_false, ite_not, not_true_eq_false, not_false_eq_true, Bool.false_eq_true, Bool.true_eq_false, fe_z_mod, fe_z_eq, fe_z_lt, fe_z_le, fe_z_div, Int.reduceEq, Int.reduceLT, Int.reduceLE, Int.reduceNeg, ↓reduceIte, eq_self, Nat.reduceAdd, fe_bor, fe_tb_bi, fe_tb_0, fe_tb_1, fe_un_at, Nat.reduceEqDiff, or_false, or_true, true_or, false_or, Int.le_refl]
  refine ⟨hob, fe_wp_mono (fun r h' hr => ?_) hw⟩
  match r, hr with
  | .inl (some (.int w)), hr =>
    obtain ⟨h'', e1, e2⟩ := hr
    simp only [fe_KB_r, fe_e127_0, fe_e127_1, fe_e127_2, fe_e127_3, fe_e127_4, fe_e127_5, fe_e127_8, fe_e127_9, fe_e127_10, fe_e127_13, fe_e127_15, fe_e127_16, fe_e127_17, fe_e127_18, Option.some.injEq, exists_eq_left', fe_KB_r, fe_KB_v, fe_z_add, fe_z_sub, fe_z_mul, fe_z_neg, fe_bi0, fe_bi1, fe_bibi, fe_bi01, fe_z01, fe_z11, true_and, and_true, if_true, if_false, ite_not, not_true_eq_false, not_false_eq_true, Bool.false_eq_true, Bool.true_eq_false, fe_z_mod, fe_z_eq, fe_z_lt, fe_z_le, fe_z_div, Int.reduceEq, Int.reduceLT, Int.reduceLE, Int.reduceNeg, ↓reduceIte, eq_self, Nat.reduceAdd, fe_bor, fe_tb_bi, fe_tb_0, fe_tb_1, fe_un_at, Nat.reduceEqDiff, or_false, or_true, true_or, false_or, Int.le_refl, e1]
    exact e2
  | .inr (x, a), hr =>
    rcases hr with ⟨h1, h2⟩ | ⟨h0, h1, h2⟩
    · have h1 : x = 0 := h1
      subst h1
      rw [fe_kb127_0]
      simp only [fe_e127_0, fe_e127_1, fe_e127_2, fe_e127_3, fe_e127_4, fe_e127_5, fe_e127_8, fe_e127_9, fe_e127_10, fe_e127_13, fe_e127_15, fe_e127_16, fe_e127_17, fe_e127_18, Option.some.injEq, exists_eq_left', fe_KB_r, fe_KB_v, fe_z_add, fe_z_sub, fe_z_mul, fe_z_neg, fe_bi0, fe_bi1, fe_bibi, fe_bi01, fe_z01, fe_z11, true_and, and_true, if_true, if_false, ite_not, not_true_eq_false, not_false_eq_true, Bool.false_eq_true, Bool.true_eq_false, fe_z_mod, fe_z_eq, fe_z_lt, fe_z_le, fe_z_div, Int.reduceEq, Int.reduceLT, Int.reduceLE, Int.reduceNeg, ↓reduceIte, eq_self, Nat.reduceAdd, fe_bor, fe_tb_bi, fe_tb_0, fe_tb_1, fe_un_at, Nat.reduceEqDiff, or_false, or_true, true_or, false_or, Int.le_refl]
      exact h2
    · rw [if_pos rfl] at h2
      exact h2.elim
theorem fe_kb128_0 {ls : fe_Ls} {rest : List Value} {a : Nat} : fe_KB E 128 4 ls rest K (.inr (0, a)) h = fe_WP E 128 12 ls [.ref a] h K := by
  simp only [fe_KB, show fe_mH 128 = [(0, 9, 12, 13)] by decide +kernel, show fe_hgo (fe_mC 128) 4 0 [(0, 9, 12, 13)] = some 12 by decide +kernel]
theorem fe_m128 (hob : fe_ob h b 6 = true) (hw : fe_WP E 54 0 [some (.ref b), some (.int x0)] [] h (fe_KI b 0 9 K)) : fe_WP E 128 0 [some (.ref b), some (.int x0), some (.ref (b + 33)), none] [] h K := by
  simp only [fe_e128_0, fe_e128_1, fe_e128_2, fe_e128_3, fe_e128_4, Option.some.injEq, exists_eq_left', fe_KB_r, fe_KB_v, fe_z_add, fe_z_sub, fe_z_mul, fe_z_neg, fe_bi0, fe_bi1, fe_bibi, fe_bi01, fe_z01, fe_z11, true_and, and_true, if_true, if_false, ite_not, not_true_eq_false, not_false_eq_true, Bool.false_eq_true, Bool.true_eq_false, fe_z_mod, fe_z_eq, fe_z_lt, fe_z_le, fe_z_div, Int.reduceEq, Int.reduceLT, Int.reduceLE, Int.reduceNeg, ↓reduceIte, eq_self, Nat.reduceAdd, fe_bor, fe_tb_bi, fe_tb_0, fe_tb_1, fe_un_at, Nat.reduceEqDiff, or_false, or_true, true_or, false_or, Int.le_refl]
  refine ⟨hob, fe_wp_mono (fun r h' hr => ?_) hw⟩
  match r, hr with
  | .inl (some (.int w)), hr =>
    obtain ⟨h'', e1, e2⟩ := hr
    simp only [fe_KB_r, fe_e128_0, fe_e128_1, fe_e128_2, fe_e128_3, fe_e128_4, fe_e128_7, fe_e128_8, fe_e128_9, fe_e128_12, fe_e128_13, fe_e128_14, fe_e128_15, fe_e128_16, Option.some.injEq, exists_eq_left', fe_KB_r, fe_KB_v, fe_z_add, fe_z_sub, fe_z_mul, fe_z_neg, fe_bi0, fe_bi1, fe_bibi, fe_bi01, fe_z01, fe_z11, true_and, and_true, if_true, if_false, ite_not, not_true_eq_false, not_false_eq_true, Bool.false_eq_true, Bool.true_eq_false, fe_z_mod, fe_z_eq, fe_z_lt, fe_z_le, fe_z_div, Int.reduceEq, Int.reduceLT, Int.reduceLE, Int.reduceNeg, ↓reduceIte, eq_self, Nat.reduceAdd, fe_bor, fe_tb_bi, fe_tb_0, fe_tb_1, fe_un_at, Nat.reduceEqDiff, or_false, or_true, true_or, false_or, Int.le_refl, e1]
    exact e2
  | .inr (x, a), hr =>
    rcases hr with ⟨h1, h2⟩ | ⟨h0, h1, h2⟩
    · have h1 : x = 0 := h1
      subst h1
      rw [fe_kb128_0]
      simp only [fe_e128_0, fe_e128_1, fe_e128_2, fe_e128_3, fe_e128_4, fe_e128_7, fe_e128_8, fe_e128_9, fe_e128_12, fe_e128_13, fe_e128_14, fe_e128_15, fe_e128_16, Option.some.injEq, exists_eq_left', fe_KB_r, fe_KB_v, fe_z_add, fe_z_sub, fe_z_mul, fe_z_neg, fe_bi0, fe_bi1, fe_bibi, fe_bi01, fe_z01, fe_z11, true_and, and_true, if_true, if_false, ite_not, not_true_eq_false, not_false_eq_true, Bool.false_eq_true, Bool.true_eq_false, fe_z_mod, fe_z_eq, fe_z_lt, fe_z_le, fe_z_div, Int.reduceEq, Int.reduceLT, Int.reduceLE, Int.reduceNeg, ↓reduceIte, eq_self, Nat.reduceAdd, fe_bor, fe_tb_bi, fe_tb_0, fe_tb_1, fe_un_at, Nat.reduceEqDiff, or_false, or_true, true_or, false_or, Int.le_refl]
      exact h2
    · rw [if_pos rfl] at h2
      exact h2.elim
theorem fe_kb129_3 {ls : fe_Ls} {rest : List Value} {a : Nat} : fe_KB E 129 5 ls rest K (.inr (3, a)) h = fe_WP E 129 13 ls [.ref a] h K := by
  simp only [fe_KB, show fe_mH 129 = [(0, 10, 13, 55)] by decide +kernel, show fe_hgo (fe_mC 129) 5 3 [(0, 10, 13, 55)] = some 13 by decide +kernel]
theorem fe_m129 (hob : fe_ob h b 6 = true) (hw : fe_WP E 56 0 [some (.ref b), some (.int x0), some (.int x1)] [] h (fe_KI b 3 9 K)) : fe_WP E 129 0 [some (.ref b), some (.int x0), some (.int x1), some (.ref (b + 33)), none] [] h K := by
  simp only [fe_e129_0, fe_e129_1, fe_e129_2, fe_e129_3, fe_e129_4, fe_e129_5, Option.some.injEq, exists_eq_left', fe_KB_r, fe_KB_v, fe_z_add, fe_z_sub, fe_z_mul, fe_z_neg, fe_bi0, fe_bi1, fe_bibi, fe_bi01, fe_z01, fe_z11, true_and, and_true, if_true, if_false, ite_not, not_true_eq_false, not_false_eq_true, Bool.false_eq_true, Bool.true_eq_false, fe_z_mod, fe_z_eq, fe_z_lt, fe_z_le, fe_z_div, Int.reduceEq, Int.reduceLT, Int.reduceLE, Int.reduceNeg, ↓reduceIte, eq_self, Nat.reduceAdd, fe_bor, fe_tb_bi, fe_tb_0, fe_tb_1, fe_un_at, Nat.reduceEqDiff, or_false, or_true, true_or, false_or, Int.le_refl]
  refine ⟨hob, fe_wp_mono (fun r h' hr => ?_) hw⟩
  match r, hr with
  | .inl (some (.int w)), hr =>
    obtain ⟨h'', e1, e2⟩ := hr
    simp only [fe_KB_r, fe_e129_0, fe_e129_1, fe_e129_2, fe_e129_3, fe_e129_4, fe_e129_5, fe_e129_8, fe_e129_9, fe_e129_10, fe_e129_13, fe_e129_15, fe_e129_16, fe_e129_17, fe_e129_18, Option.some.injEq, exists_eq_left', fe_KB_r, fe_KB_v, fe_z_add, fe_z_sub, fe_z_mul, fe_z_neg, fe_bi0, fe_bi1, fe_bibi, fe_bi01, fe_z01, fe_z11, true_and, and_true, if_true, if_false, ite_not, not_true_eq_false, not_false_eq_true, Bool.false_eq_true, Bool.true_eq_false, fe_z_mod, fe_z_eq, fe_z_lt, fe_z_le, fe_z_div, Int.reduceEq, Int.reduceLT, Int.reduceLE, Int.reduceNeg, ↓reduceIte, eq_self, Nat.reduceAdd, fe_bor, fe_tb_bi, fe_tb_0, fe_tb_1, fe_un_at, Nat.reduceEqDiff, or_false, or_true, true_or, false_or, Int.le_refl, e1]
    exact e2
  | .inr (x, a), hr =>
    rcases hr with ⟨h1, h2⟩ | ⟨h0, h1, h2⟩
    · have h1 : x = 3 := h1
      subst h1
      rw [fe_kb129_3]
      simp only [fe_e129_0, fe_e129_1, fe_e129_2, fe_e129_3, fe_e129_4, fe_e129_5, fe_e129_8, fe_e129_9, fe_e129_10, fe_e129_13, fe_e129_15, fe_e129_16, fe_e129_17, fe_e129_18, Option.some.injEq, exists_eq_left', fe_KB_r, fe_KB_v, fe_z_add, fe_z_sub, fe_z_mul, fe_z_neg, fe_bi0, fe_bi1, fe_bibi, fe_bi01, fe_z01, fe_z11, true_and, and_true, if_true, if_false, ite_not, not_true_eq_false, not_false_eq_true, Bool.false_eq_true, Bool.true_eq_false, fe_z_mod, fe_z_eq, fe_z_lt, fe_z_le, fe_z_div, Int.reduceEq, Int.reduceLT, Int.reduceLE, Int.reduceNeg, ↓reduceIte, eq_self, Nat.reduceAdd, fe_bor, fe_tb_bi, fe_tb_0, fe_tb_1, fe_un_at, Nat.reduceEqDiff, or_false, or_true, true_or, false_or, Int.le_refl]
      exact h2
    · rw [if_pos rfl] at h2
      exact h2.elim
end Fe55w

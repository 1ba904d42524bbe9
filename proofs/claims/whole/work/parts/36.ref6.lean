/-! the reference: what is asked, who serves -/
noncomputable def fe_who (R : Nat → Int → Bool) (P : Nat → Int → Int) (n : Nat) (cell : Int) (t : Nat) : Nat := fe_bits (fun c => fe_B (fe_sI R P c cell (P 4 (8 * (c : Int) + (t : Int) % P 5 c)))) n
/-- a need of one of the first i cells -/
def fe_nd (R : Nat → Int → Bool) (P : Nat → Int → Int) (n i q : Nat) : Prop := ∃ cell : Nat, cell < i ∧ R 1 cell = true ∧ R 0 cell = false ∧ ∃ t : Nat, t < 840 ∧ q = fe_who R P n cell t
def fe_q1 (R : Nat → Int → Bool) (P : Nat → Int → Int) (cell c : Nat) : Prop := R 2 cell = true ∧ ∃ k : Nat, (k : Int) < P 5 c ∧ fe_hI R P c cell (P 4 (8 * (c : Int) + k))
/-- whether a camera shows one of the first i private cells -/
def fe_qz (R : Nat → Int → Bool) (P : Nat → Int → Int) (i c : Nat) : Prop := ∃ cell : Nat, cell < i ∧ fe_q1 R P cell c
noncomputable def fe_shr (R : Nat → Int → Bool) (P : Nat → Int → Int) (n : Nat) : Nat := fe_bits (fun c => fe_B (fe_qz R P 192 c)) n
theorem fe_qz_s {R : Nat → Int → Bool} {P : Nat → Int → Int} {i c : Nat} : fe_qz R P (i + 1) c ↔ fe_qz R P i c ∨ fe_q1 R P i c := by
  constructor
  · rintro ⟨cell, h1, h2⟩
    by_cases h : cell < i
    · exact Or.inl ⟨cell, h, h2⟩
    · have : cell = i := by omega
      subst this
      exact Or.inr h2
  · rintro (⟨cell, h1, h2⟩ | h)
    · exact ⟨cell, by omega, h2⟩
    · exact ⟨i, by omega, h⟩
theorem fe_nd_s {R : Nat → Int → Bool} {P : Nat → Int → Int} {n i q : Nat} : fe_nd R P n (i + 1) q ↔ fe_nd R P n i q ∨ (R 1 i = true ∧ R 0 i = false ∧ ∃ t : Nat, t < 840 ∧ q = fe_who R P n i t) := by
  constructor
  · rintro ⟨cell, h1, h2⟩
    by_cases h : cell < i
    · exact Or.inl ⟨cell, h, h2⟩
    · have : cell = i := by omega
      subst this
      exact Or.inr h2
  · rintro (⟨cell, h1, h2⟩ | h)
    · exact ⟨cell, by omega, h2⟩
    · exact ⟨i, by omega, h⟩
theorem fe_who_lt {R : Nat → Int → Bool} {P : Nat → Int → Int} {n : Nat} {cell : Int} {t : Nat} (hn : n ≤ 12) : fe_who R P n cell t < 4096 := Nat.lt_of_lt_of_le fe_bits_lt (Nat.pow_le_pow_right (by omega) hn)
theorem fe_eq_bits {s n : Nat} {f : Nat → Bool} (h : ∀ c, s.testBit c = true ↔ c < n ∧ f c = true) : s = fe_bits f n := by
  apply Nat.eq_of_testBit_eq
  intro i
  rw [fe_bits_test, Bool.eq_iff_iff, h i]
  simp
section Fe36
variable {E : fe_E} {b : Nat} {N : Nat × Nat × Nat} {c : Nat → Option fe_C} {G : Nat → Int} {R : Nat → Int → Bool} {P F : Nat → Int → Int} {S J : Int → Bool} {U : Int → Int} {o : Int → Int64} {K : fe_R → fe_H → Prop}
theorem fe_m98 {n m : Nat} (ho : fe_okr n m G P) (hK : ∀ F' S' J' U' (r s : Nat), r ≤ 4096 → (∀ q : Nat, (∃ j : Nat, j < r ∧ U' j = (q : Int)) ↔ fe_nd R P n 192 q) → (∀ j : Nat, j < r → ∃ q : Nat, q < 4096 ∧ U' j = (q : Int)) → s = fe_shr R P n → K (.inl none) (fe_mk b N c (fe_rc b (fe_un (fe_un G 3 s) 2 r) R P F' S' J' U' o))) : fe_WP E 98 0 [some (.ref (b + 15)), none, none, none] [] (fe_mk b N c (fe_rc b G R P F S J U o)) K := by
  obtain ⟨g1, hn, g4, hm, hP, hW⟩ := ho
  -- the list of needs
  have L4 : ∀ F' S' J' (s : Nat), (∀ q : Nat, q < 4096 → (J' q = true ↔ fe_nd R P n 192 q)) → s = fe_shr R P n → ∀ i, i ≤ 4096 → ∀ U' (r : Nat) o2 o3, r ≤ i → (∀ q : Nat, (∃ j : Nat, j < r ∧ U' j = (q : Int)) ↔ q < i ∧ J' q = true) → (∀ j : Nat, j < r → ∃ q : Nat, q < 4096 ∧ U' j = (q : Int)) → fe_WP E 98 187 [some (.ref (b + 15)), some (.int (fe_z (i : Int))), o2, o3] [] (fe_mk b N c (fe_rc b (fe_un (fe_un G 3 s) 2 r) R P F' S' J' U' o)) K := by
    intro F' S' J' s hJ hs
    refine fe_down 4096 ?_ ?_
    · intro U' r o2 o3 hr h1 h2
      simp (maxSteps := 4000000) (disch := omega) only [fe_e98_0, fe_e98_1, fe_e98_2, fe_e98_3, fe_e98_6, fe_e98_9, fe_e98_10, fe_e98_13, fe_e98_14, fe_e98_15, fe_e98_16, fe_e98_19, fe_e98_22, fe_e98_23, fe_e98_24, fe_e98_27, fe_e98_28, fe_e98_29, fe_e98_30, fe_e98_33, fe_e98_36, fe_e98_37, fe_e98_38, fe_e98_39, fe_e98_40, fe_e98_43, fe_e98_46, fe_e98_47, fe_e98_50, fe_e98_51, fe_e98_52, fe_e98_55, fe_e98_56, fe_e98_57, fe_e98_58, fe_e98_59, fe_e98_62, fe_e98_63, fe_e98_64, fe_e98_67, fe_e98_68, fe_e98_71, fe_e98_72, fe_e98_73, fe_e98_74, fe_e98_75, fe_e98_78, fe_e98_79, fe_e98_80, fe_e98_81, fe_e98_82, fe_e98_85, fe_e98_87, fe_e98_88, fe_e98_89, fe_e98_90, fe_e98_91, fe_e98_92, fe_e98_95, fe_e98_98, fe_e98_99, fe_e98_99r, fe_e98_100, fe_e98_103, fe_e98_104, fe_e98_105, fe_e98_106, fe_e98_107, fe_e98_110, fe_e98_113, fe_e98_116, fe_e98_119, fe_e98_122, fe_e98_123, fe_e98_126, fe_e98_127, fe_e98_128, fe_e98_131, fe_e98_132, fe_e98_135, fe_e98_136, fe_e98_137, fe_e98_140, fe_e98_143, fe_e98_144, fe_e98_145, fe_e98_148, fe_e98_149, fe_e98_150, fe_e98_151, fe_e98_154, fe_e98_157, fe_e98_158, fe_e98_161, fe_e98_162, fe_e98_163, fe_e98_166, fe_e98_167, fe_e98_168, fe_e98_171, fe_e98_174, fe_e98_177, fe_e98_180, fe_e98_181, fe_e98_182, fe_e98_185, fe_e98_186, fe_e98_187, fe_e98_188, fe_e98_191, fe_e98_194, fe_e98_195, fe_e98_198, fe_e98_199, fe_e98_200, fe_e98_203, fe_e98_206, fe_e98_207, fe_e98_210, fe_e98_211, fe_e98_214, fe_e98_215, fe_e98_216, fe_e98_217, fe_e98_217r, fe_e98_218, fe_e98_221, fe_e98_222, fe_e98_223, fe_e98_226, fe_e98_229, fe_e98_232, Option.some.injEq, exists_eq_left', fe_KB_r, fe_KB_v, fe_z_add, fe_z_sub, fe_z_mul, fe_z_neg, fe_bi0, fe_bi1, fe_bibi, fe_bi01, fe_z01, fe_z11, true_and, and_true, if_true, if_false, ite_not, not_true_eq_false, not_false_eq_true, Bool.false_eq_true, Bool.true_eq_false, fe_z_mod, fe_z_eq, fe_z_lt, fe_z_le, fe_z_div, Int.reduceEq, Int.reduceLT, Int.reduceLE, Int.reduceNeg, ↓reduceIte, eq_self, Nat.reduceAdd, fe_bor, fe_tb_bi, fe_tb_0, fe_tb_1, fe_un_at, Nat.reduceEqDiff, or_false, or_true, true_or, false_or, Int.le_refl, Int.cast_ofNat_Int]
      refine hK F' S' J' U' r s hr (fun q => ?_) h2 hs
      rw [h1 q]
      constructor
      · rintro ⟨a1, a2⟩
        exact (hJ q a1).mp a2
      · intro a
        have : q < 4096 := by
          obtain ⟨cell, -, -, -, t, -, rfl⟩ := a
          exact fe_who_lt hn
        exact ⟨this, (hJ q this).mpr a⟩
    · intro i hi ih U' r o2 o3 hr h1 h2
      rw [fe_e98_187]
      simp (maxSteps := 4000000) (disch := omega) only [fe_e98_0, fe_e98_1, fe_e98_2, fe_e98_3, fe_e98_6, fe_e98_9, fe_e98_10, fe_e98_13, fe_e98_14, fe_e98_15, fe_e98_16, fe_e98_19, fe_e98_22, fe_e98_23, fe_e98_24, fe_e98_27, fe_e98_28, fe_e98_29, fe_e98_30, fe_e98_33, fe_e98_36, fe_e98_37, fe_e98_38, fe_e98_39, fe_e98_40, fe_e98_43, fe_e98_46, fe_e98_47, fe_e98_50, fe_e98_51, fe_e98_52, fe_e98_55, fe_e98_56, fe_e98_57, fe_e98_58, fe_e98_59, fe_e98_62, fe_e98_63, fe_e98_64, fe_e98_67, fe_e98_68, fe_e98_71, fe_e98_72, fe_e98_73, fe_e98_74, fe_e98_75, fe_e98_78, fe_e98_79, fe_e98_80, fe_e98_81, fe_e98_82, fe_e98_85, fe_e98_87, fe_e98_88, fe_e98_89, fe_e98_90, fe_e98_91, fe_e98_92, fe_e98_95, fe_e98_98, fe_e98_99, fe_e98_99r, fe_e98_100, fe_e98_103, fe_e98_104, fe_e98_105, fe_e98_106, fe_e98_107, fe_e98_110, fe_e98_113, fe_e98_116, fe_e98_119, fe_e98_122, fe_e98_123, fe_e98_126, fe_e98_127, fe_e98_128, fe_e98_131, fe_e98_132, fe_e98_135, fe_e98_136, fe_e98_137, fe_e98_140, fe_e98_143, fe_e98_144, fe_e98_145, fe_e98_148, fe_e98_149, fe_e98_150, fe_e98_151, fe_e98_154, fe_e98_157, fe_e98_158, fe_e98_161, fe_e98_162, fe_e98_163, fe_e98_166, fe_e98_167, fe_e98_168, fe_e98_171, fe_e98_174, fe_e98_177, fe_e98_180, fe_e98_181, fe_e98_182, fe_e98_185, fe_e98_186, fe_e98_188, fe_e98_191, fe_e98_194, fe_e98_195, fe_e98_198, fe_e98_199, fe_e98_200, fe_e98_203, fe_e98_206, fe_e98_207, fe_e98_210, fe_e98_211, fe_e98_214, fe_e98_215, fe_e98_216, fe_e98_217, fe_e98_217r, fe_e98_218, fe_e98_221, fe_e98_222, fe_e98_223, fe_e98_226, fe_e98_229, fe_e98_232, Option.some.injEq, exists_eq_left', fe_KB_r, fe_KB_v, fe_z_add, fe_z_sub, fe_z_mul, fe_z_neg, fe_bi0, fe_bi1, fe_bibi, fe_bi01, fe_z01, fe_z11, true_and, and_true, if_true, if_false, ite_not, not_true_eq_false, not_false_eq_true, Bool.false_eq_true, Bool.true_eq_false, fe_z_mod, fe_z_eq, fe_z_lt, fe_z_le, fe_z_div, Int.reduceEq, Int.reduceLT, Int.reduceLE, Int.reduceNeg, ↓reduceIte, eq_self, Nat.reduceAdd, fe_bor, fe_tb_bi, fe_tb_0, fe_tb_1, fe_un_at, Nat.reduceEqDiff, or_false, or_true, true_or, false_or, Int.le_refl, fe_ob15, fe_g15_0, fe_p15_0, fe_g15_1, fe_g15_2, fe_g15_3, fe_g15_4, fe_g15_5, fe_g15_6, fe_g15_7, fe_g15_8, fe_g15_9, fe_g15_10, fe_g15_11, fe_g15_12, fe_p15_12, fe_g15_13, fe_g15_14, fe_g15_15, fe_g15_16, fe_g15_17, fe_g15_18, fe_p15_18, fe_g15_19, fe_p15_19, fe_g15_20, fe_g15_21, fe_p15_21, fe_aa16, fe_sa16, fe_ll16, fe_aa17, fe_sa17, fe_ll17, fe_aa18, fe_sa18, fe_ll18, fe_aa19, fe_sa19, fe_ll19, fe_aa20, fe_sa20, fe_ll20, fe_aa21, fe_sa21, fe_ll21, fe_aa22, fe_sa22, fe_ll22, fe_aa23, fe_sa23, fe_ll23, fe_aa24, fe_sa24, fe_ll24, fe_aa25, fe_sa25, fe_ll25, fe_aa26, fe_sa26, fe_ll26, fe_aa27, fe_sa27, fe_ll27, fe_aa28, fe_sa28, fe_ll28, fe_aa29, fe_sa29, fe_ll29, fe_aa30, fe_sa30, fe_ll30, fe_aa31, fe_sa31, fe_ll31, fe_aa32, fe_sa32, fe_ll32, fe_aa33, fe_sa33, fe_un_un]
      rw [if_neg (by omega)]
      split
      · next q =>
        refine ih U' r o2 o3 (by omega) (fun z => ?_) h2
        rw [h1 z]
        constructor
        · rintro ⟨a1, a2⟩
          exact ⟨by omega, a2⟩
        · rintro ⟨a1, a2⟩
          refine ⟨?_, a2⟩
          by_cases hz : z = i
          · subst hz
            rw [q] at a2
            cases a2
          · omega
      · next q =>
        rw [Bool.not_eq_false] at q
        have := ih (fe_up U' r i) (r + 1) o2 o3 (by omega) (fun z => ?_) (fun j hj => ?_)
        · exact this
        · constructor
          · rintro ⟨j, hj, hz⟩
            rw [fe_up_at] at hz
            split at hz
            · have : i = z := by omega
              subst this
              exact ⟨by omega, q⟩
            · next hne =>
              have := (h1 z).mp ⟨j, by omega, hz⟩
              exact ⟨by omega, this.2⟩
          · rintro ⟨a1, a2⟩
            by_cases hz : z = i
            · subst hz
              refine ⟨r, by omega, ?_⟩
              rw [fe_up_at, if_pos rfl]
            · obtain ⟨j, hj, hz2⟩ := (h1 z).mpr ⟨by omega, a2⟩
              refine ⟨j, by omega, ?_⟩
              rw [fe_up_at, if_neg (by omega)]
              exact hz2
        · by_cases hjr : j < r
          · rw [fe_up_at, if_neg (by omega)]
            exact h2 j hjr
          · have : j = r := by omega
            subst this
            exact ⟨i, by omega, by rw [fe_up_at, if_pos rfl]⟩
  -- the ticks of a told cell
  have L3 : ∀ i : Nat, i < 192 → R 1 i = true → R 0 i = false → ∀ F' S' (s : Nat), (∀ d k : Int, 0 ≤ d → d < n → 0 ≤ k → k < P 5 d → S' (8 * d + k) = fe_B (fe_sI R P d i (P 4 (8 * d + k)))) →
      (∀ J' o2 o3, (∀ q : Nat, q < 4096 → (J' q = true ↔ fe_nd R P n (i + 1) q)) → fe_WP E 98 29 [some (.ref (b + 15)), some (.int (fe_z ((i : Int) + 1))), o2, o3] [] (fe_mk b N c (fe_rc b (fe_un G 3 s) R P F' S' J' U o)) K) →
      ∀ t, t ≤ 840 → ∀ J' o3, (∀ q : Nat, q < 4096 → (J' q = true ↔ fe_nd R P n i q ∨ ∃ t' : Nat, t' < t ∧ q = fe_who R P n i t')) → fe_WP E 98 150 [some (.ref (b + 15)), some (.int (fe_z (i : Int))), some (.int (fe_z (t : Int))), o3] [] (fe_mk b N c (fe_rc b (fe_un G 3 s) R P F' S' J' U o)) K := by
    intro i hi hi1 hi2 F' S' s hS hout
    have ho' : fe_okr n m (fe_un G 3 s) P := ⟨g1, hn, g4, hm, hP, hW⟩
    refine fe_down 840 ?_ ?_
    · intro J' o3 h1
      simp (maxSteps := 4000000) (disch := omega) only [fe_e98_0, fe_e98_1, fe_e98_2, fe_e98_3, fe_e98_6, fe_e98_9, fe_e98_10, fe_e98_13, fe_e98_14, fe_e98_15, fe_e98_16, fe_e98_19, fe_e98_22, fe_e98_23, fe_e98_24, fe_e98_27, fe_e98_28, fe_e98_30, fe_e98_33, fe_e98_36, fe_e98_37, fe_e98_38, fe_e98_39, fe_e98_40, fe_e98_43, fe_e98_46, fe_e98_47, fe_e98_50, fe_e98_51, fe_e98_52, fe_e98_55, fe_e98_56, fe_e98_57, fe_e98_58, fe_e98_59, fe_e98_62, fe_e98_63, fe_e98_64, fe_e98_67, fe_e98_68, fe_e98_71, fe_e98_72, fe_e98_73, fe_e98_74, fe_e98_75, fe_e98_78, fe_e98_79, fe_e98_80, fe_e98_81, fe_e98_82, fe_e98_85, fe_e98_87, fe_e98_88, fe_e98_89, fe_e98_90, fe_e98_91, fe_e98_92, fe_e98_95, fe_e98_98, fe_e98_99, fe_e98_99r, fe_e98_100, fe_e98_103, fe_e98_104, fe_e98_105, fe_e98_106, fe_e98_107, fe_e98_110, fe_e98_113, fe_e98_116, fe_e98_119, fe_e98_122, fe_e98_123, fe_e98_126, fe_e98_127, fe_e98_128, fe_e98_131, fe_e98_132, fe_e98_135, fe_e98_136, fe_e98_137, fe_e98_140, fe_e98_143, fe_e98_144, fe_e98_145, fe_e98_148, fe_e98_149, fe_e98_150, fe_e98_151, fe_e98_154, fe_e98_157, fe_e98_158, fe_e98_161, fe_e98_162, fe_e98_163, fe_e98_166, fe_e98_167, fe_e98_168, fe_e98_171, fe_e98_174, fe_e98_177, fe_e98_180, fe_e98_181, fe_e98_182, fe_e98_185, fe_e98_186, fe_e98_187, fe_e98_188, fe_e98_191, fe_e98_194, fe_e98_195, fe_e98_198, fe_e98_199, fe_e98_200, fe_e98_203, fe_e98_206, fe_e98_207, fe_e98_210, fe_e98_211, fe_e98_214, fe_e98_215, fe_e98_216, fe_e98_217, fe_e98_217r, fe_e98_218, fe_e98_221, fe_e98_222, fe_e98_223, fe_e98_226, fe_e98_229, fe_e98_232, Option.some.injEq, exists_eq_left', fe_KB_r, fe_KB_v, fe_z_add, fe_z_sub, fe_z_mul, fe_z_neg, fe_bi0, fe_bi1, fe_bibi, fe_bi01, fe_z01, fe_z11, true_and, and_true, if_true, if_false, ite_not, not_true_eq_false, not_false_eq_true, Bool.false_eq_true, Bool.true_eq_false, fe_z_mod, fe_z_eq, fe_z_lt, fe_z_le, fe_z_div, Int.reduceEq, Int.reduceLT, Int.reduceLE, Int.reduceNeg, ↓reduceIte, eq_self, Nat.reduceAdd, fe_bor, fe_tb_bi, fe_tb_0, fe_tb_1, fe_un_at, Nat.reduceEqDiff, or_false, or_true, true_or, false_or, Int.le_refl, Int.cast_ofNat_Int]
      refine hout J' _ _ (fun q hq => ?_)
      rw [h1 q hq, fe_nd_s]
      simp only [hi1, hi2, true_and]
    · intro t ht ih J' o3 h1
      have hw : fe_bits (fun d => S' (8 * (d : Int) + (t : Int) % P 5 d)) n = fe_who R P n i t := by
        unfold fe_who
        apply Nat.eq_of_testBit_eq
        intro j
        rw [fe_bits_test, fe_bits_test]
        by_cases hj : j < n
        · have ⟨hok, p3, p3', p5, p5', hw⟩ := hP j (by omega) (by omega)
          rw [hS j (t % P 5 j) (by omega) (by omega) (Int.emod_nonneg _ (by omega)) (Int.emod_lt_of_pos _ (by omega))]
        · simp [hj]
      have hwl := fe_who_lt (R := R) (P := P) (cell := i) (t := t) hn
      rw [fe_e98_150]
      simp (maxSteps := 4000000) (disch := omega) only [fe_e98_0, fe_e98_1, fe_e98_2, fe_e98_3, fe_e98_6, fe_e98_9, fe_e98_10, fe_e98_13, fe_e98_14, fe_e98_15, fe_e98_16, fe_e98_19, fe_e98_22, fe_e98_23, fe_e98_24, fe_e98_27, fe_e98_28, fe_e98_29, fe_e98_30, fe_e98_33, fe_e98_36, fe_e98_37, fe_e98_38, fe_e98_39, fe_e98_40, fe_e98_43, fe_e98_46, fe_e98_47, fe_e98_50, fe_e98_51, fe_e98_52, fe_e98_55, fe_e98_56, fe_e98_57, fe_e98_58, fe_e98_59, fe_e98_62, fe_e98_63, fe_e98_64, fe_e98_67, fe_e98_68, fe_e98_71, fe_e98_72, fe_e98_73, fe_e98_74, fe_e98_75, fe_e98_78, fe_e98_79, fe_e98_80, fe_e98_81, fe_e98_82, fe_e98_85, fe_e98_87, fe_e98_88, fe_e98_89, fe_e98_90, fe_e98_91, fe_e98_92, fe_e98_95, fe_e98_98, fe_e98_99, fe_e98_99r, fe_e98_100, fe_e98_103, fe_e98_104, fe_e98_105, fe_e98_106, fe_e98_107, fe_e98_110, fe_e98_113, fe_e98_116, fe_e98_119, fe_e98_122, fe_e98_123, fe_e98_126, fe_e98_127, fe_e98_128, fe_e98_131, fe_e98_132, fe_e98_135, fe_e98_136, fe_e98_137, fe_e98_140, fe_e98_143, fe_e98_144, fe_e98_145, fe_e98_148, fe_e98_149, fe_e98_151, fe_e98_154, fe_e98_157, fe_e98_158, fe_e98_161, fe_e98_162, fe_e98_163, fe_e98_166, fe_e98_167, fe_e98_168, fe_e98_171, fe_e98_177, fe_e98_180, fe_e98_181, fe_e98_182, fe_e98_185, fe_e98_186, fe_e98_187, fe_e98_188, fe_e98_191, fe_e98_194, fe_e98_195, fe_e98_198, fe_e98_199, fe_e98_200, fe_e98_203, fe_e98_206, fe_e98_207, fe_e98_210, fe_e98_211, fe_e98_214, fe_e98_215, fe_e98_216, fe_e98_217, fe_e98_217r, fe_e98_218, fe_e98_221, fe_e98_222, fe_e98_223, fe_e98_226, fe_e98_229, fe_e98_232, Option.some.injEq, exists_eq_left', fe_KB_r, fe_KB_v, fe_z_add, fe_z_sub, fe_z_mul, fe_z_neg, fe_bi0, fe_bi1, fe_bibi, fe_bi01, fe_z01, fe_z11, true_and, and_true, if_true, if_false, ite_not, not_true_eq_false, not_false_eq_true, Bool.false_eq_true, Bool.true_eq_false, fe_z_mod, fe_z_eq, fe_z_lt, fe_z_le, fe_z_div, Int.reduceEq, Int.reduceLT, Int.reduceLE, Int.reduceNeg, ↓reduceIte, eq_self, Nat.reduceAdd, fe_bor, fe_tb_bi, fe_tb_0, fe_tb_1, fe_un_at, Nat.reduceEqDiff, or_false, or_true, true_or, false_or, Int.le_refl, fe_ob15, fe_g15_0, fe_p15_0, fe_g15_1, fe_g15_2, fe_g15_3, fe_g15_4, fe_g15_5, fe_g15_6, fe_g15_7, fe_g15_8, fe_g15_9, fe_g15_10, fe_g15_11, fe_g15_12, fe_p15_12, fe_g15_13, fe_g15_14, fe_g15_15, fe_g15_16, fe_g15_17, fe_g15_18, fe_p15_18, fe_g15_19, fe_p15_19, fe_g15_20, fe_g15_21, fe_p15_21, fe_aa16, fe_sa16, fe_ll16, fe_aa17, fe_sa17, fe_ll17, fe_aa18, fe_sa18, fe_ll18, fe_aa19, fe_sa19, fe_ll19, fe_aa20, fe_sa20, fe_ll20, fe_aa21, fe_sa21, fe_ll21, fe_aa22, fe_sa22, fe_ll22, fe_aa23, fe_sa23, fe_ll23, fe_aa24, fe_sa24, fe_ll24, fe_aa25, fe_sa25, fe_ll25, fe_aa26, fe_sa26, fe_ll26, fe_aa27, fe_sa27, fe_ll27, fe_aa28, fe_sa28, fe_ll28, fe_aa29, fe_sa29, fe_ll29, fe_aa30, fe_sa30, fe_ll30, fe_aa31, fe_sa31, fe_ll31, fe_aa32, fe_sa32, fe_ll32, fe_aa33, fe_sa33, fe_m97 ho', hw]
      rw [if_neg (by omega)]
      refine ih _ _ (fun q hq => ?_)
      rw [fe_up_at]
      by_cases hqw : q = fe_who R P n i t
      · rw [if_pos (by omega)]
        simp only [true_iff]
        exact Or.inr ⟨t, by omega, hqw⟩
      · rw [if_neg (by omega), h1 q hq]
        constructor
        · rintro (h | ⟨t', h2, h3⟩)
          · exact Or.inl h
          · exact Or.inr ⟨t', by omega, h3⟩
        · rintro (h | ⟨t', h2, h3⟩)
          · exact Or.inl h
          · refine Or.inr ⟨t', ?_, h3⟩
            by_cases ht' : t' = t
            · subst ht'
              exact absurd h3 hqw
            · omega
  -- behind the private cell
  have L2 : ∀ i : Nat, i < 192 → (∀ F' S' J' (s : Nat) o2 o3, (∀ q : Nat, q < 4096 → (J' q = true ↔ fe_nd R P n (i + 1) q)) → (∀ d, s.testBit d = true ↔ d < n ∧ fe_qz R P (i + 1) d) → fe_WP E 98 29 [some (.ref (b + 15)), some (.int (fe_z ((i : Int) + 1))), o2, o3] [] (fe_mk b N c (fe_rc b (fe_un G 3 s) R P F' S' J' U o)) K) →
      ∀ F' S' J' (s : Nat) o2 o3, (∀ q : Nat, q < 4096 → (J' q = true ↔ fe_nd R P n i q)) → (∀ d, s.testBit d = true ↔ d < n ∧ fe_qz R P (i + 1) d) → fe_WP E 98 122 [some (.ref (b + 15)), some (.int (fe_z (i : Int))), o2, o3] [] (fe_mk b N c (fe_rc b (fe_un G 3 s) R P F' S' J' U o)) K := by
    intro i hi hout F' S' J' s o2 o3 h1 h2
    have ho' : fe_okr n m (fe_un G 3 s) P := ⟨g1, hn, g4, hm, hP, hW⟩
    have skip : ¬ (R 1 i = true ∧ R 0 i = false) → ∀ q : Nat, q < 4096 → (J' q = true ↔ fe_nd R P n (i + 1) q) := fun hno q hq => by
      rw [h1 q hq, fe_nd_s]
      constructor
      · exact Or.inl
      · rintro (h | ⟨a1, a2, -⟩)
        · exact h
        · exact absurd ⟨a1, a2⟩ hno
    simp (maxSteps := 4000000) (disch := omega) only [fe_e98_0, fe_e98_1, fe_e98_2, fe_e98_3, fe_e98_6, fe_e98_9, fe_e98_10, fe_e98_13, fe_e98_14, fe_e98_15, fe_e98_16, fe_e98_19, fe_e98_22, fe_e98_23, fe_e98_24, fe_e98_27, fe_e98_28, fe_e98_30, fe_e98_33, fe_e98_36, fe_e98_37, fe_e98_38, fe_e98_39, fe_e98_40, fe_e98_43, fe_e98_46, fe_e98_47, fe_e98_50, fe_e98_51, fe_e98_52, fe_e98_55, fe_e98_56, fe_e98_57, fe_e98_58, fe_e98_59, fe_e98_62, fe_e98_63, fe_e98_64, fe_e98_67, fe_e98_68, fe_e98_71, fe_e98_72, fe_e98_73, fe_e98_74, fe_e98_75, fe_e98_78, fe_e98_79, fe_e98_80, fe_e98_81, fe_e98_82, fe_e98_85, fe_e98_87, fe_e98_88, fe_e98_89, fe_e98_90, fe_e98_91, fe_e98_92, fe_e98_95, fe_e98_98, fe_e98_99, fe_e98_99r, fe_e98_100, fe_e98_103, fe_e98_104, fe_e98_105, fe_e98_106, fe_e98_107, fe_e98_110, fe_e98_113, fe_e98_116, fe_e98_119, fe_e98_122, fe_e98_123, fe_e98_126, fe_e98_127, fe_e98_128, fe_e98_131, fe_e98_132, fe_e98_135, fe_e98_136, fe_e98_137, fe_e98_140, fe_e98_143, fe_e98_144, fe_e98_145, fe_e98_148, fe_e98_149, fe_e98_151, fe_e98_154, fe_e98_157, fe_e98_158, fe_e98_161, fe_e98_162, fe_e98_163, fe_e98_166, fe_e98_167, fe_e98_168, fe_e98_171, fe_e98_174, fe_e98_177, fe_e98_180, fe_e98_181, fe_e98_182, fe_e98_185, fe_e98_186, fe_e98_187, fe_e98_188, fe_e98_191, fe_e98_194, fe_e98_195, fe_e98_198, fe_e98_199, fe_e98_200, fe_e98_203, fe_e98_206, fe_e98_207, fe_e98_210, fe_e98_211, fe_e98_214, fe_e98_215, fe_e98_216, fe_e98_217, fe_e98_217r, fe_e98_218, fe_e98_221, fe_e98_222, fe_e98_223, fe_e98_226, fe_e98_229, fe_e98_232, Option.some.injEq, exists_eq_left', fe_KB_r, fe_KB_v, fe_z_add, fe_z_sub, fe_z_mul, fe_z_neg, fe_bi0, fe_bi1, fe_bibi, fe_bi01, fe_z01, fe_z11, true_and, and_true, if_true, if_false, ite_not, not_true_eq_false, not_false_eq_true, Bool.false_eq_true, Bool.true_eq_false, fe_z_mod, fe_z_eq, fe_z_lt, fe_z_le, fe_z_div, Int.reduceEq, Int.reduceLT, Int.reduceLE, Int.reduceNeg, ↓reduceIte, eq_self, Nat.reduceAdd, fe_bor, fe_tb_bi, fe_tb_0, fe_tb_1, fe_un_at, Nat.reduceEqDiff, or_false, or_true, true_or, false_or, Int.le_refl, fe_ob15, fe_g15_0, fe_p15_0, fe_g15_1, fe_g15_2, fe_g15_3, fe_g15_4, fe_g15_5, fe_g15_6, fe_g15_7, fe_g15_8, fe_g15_9, fe_g15_10, fe_g15_11, fe_g15_12, fe_p15_12, fe_g15_13, fe_g15_14, fe_g15_15, fe_g15_16, fe_g15_17, fe_g15_18, fe_p15_18, fe_g15_19, fe_p15_19, fe_g15_20, fe_g15_21, fe_p15_21, fe_aa16, fe_sa16, fe_ll16, fe_aa17, fe_sa17, fe_ll17, fe_aa18, fe_sa18, fe_ll18, fe_aa19, fe_sa19, fe_ll19, fe_aa20, fe_sa20, fe_ll20, fe_aa21, fe_sa21, fe_ll21, fe_aa22, fe_sa22, fe_ll22, fe_aa23, fe_sa23, fe_ll23, fe_aa24, fe_sa24, fe_ll24, fe_aa25, fe_sa25, fe_ll25, fe_aa26, fe_sa26, fe_ll26, fe_aa27, fe_sa27, fe_ll27, fe_aa28, fe_sa28, fe_ll28, fe_aa29, fe_sa29, fe_ll29, fe_aa30, fe_sa30, fe_ll30, fe_aa31, fe_sa31, fe_ll31, fe_aa32, fe_sa32, fe_ll32, fe_aa33, fe_sa33]
    split
    · next q => exact hout F' S' J' s _ _ (skip (fun h => by rw [q] at h; cases h.1)) h2
    · next q =>
      rw [Bool.not_eq_false] at q
      split
      · next q2 =>
        refine fe_m96 ho' (by omega) (by omega) (fun F'' S'' hS => ?_)
        simp (maxSteps := 4000000) (disch := omega) only [fe_e98_0, fe_e98_1, fe_e98_2, fe_e98_3, fe_e98_6, fe_e98_9, fe_e98_10, fe_e98_13, fe_e98_14, fe_e98_15, fe_e98_16, fe_e98_19, fe_e98_22, fe_e98_23, fe_e98_24, fe_e98_27, fe_e98_28, fe_e98_29, fe_e98_30, fe_e98_33, fe_e98_36, fe_e98_37, fe_e98_38, fe_e98_39, fe_e98_40, fe_e98_43, fe_e98_46, fe_e98_47, fe_e98_50, fe_e98_51, fe_e98_52, fe_e98_55, fe_e98_56, fe_e98_57, fe_e98_58, fe_e98_59, fe_e98_62, fe_e98_63, fe_e98_64, fe_e98_67, fe_e98_68, fe_e98_71, fe_e98_72, fe_e98_73, fe_e98_74, fe_e98_75, fe_e98_78, fe_e98_79, fe_e98_80, fe_e98_81, fe_e98_82, fe_e98_85, fe_e98_87, fe_e98_88, fe_e98_89, fe_e98_90, fe_e98_91, fe_e98_92, fe_e98_95, fe_e98_98, fe_e98_99, fe_e98_99r, fe_e98_100, fe_e98_103, fe_e98_104, fe_e98_105, fe_e98_106, fe_e98_107, fe_e98_110, fe_e98_113, fe_e98_116, fe_e98_119, fe_e98_122, fe_e98_123, fe_e98_126, fe_e98_127, fe_e98_128, fe_e98_131, fe_e98_132, fe_e98_135, fe_e98_136, fe_e98_137, fe_e98_140, fe_e98_143, fe_e98_144, fe_e98_145, fe_e98_148, fe_e98_149, fe_e98_151, fe_e98_154, fe_e98_157, fe_e98_158, fe_e98_161, fe_e98_162, fe_e98_163, fe_e98_166, fe_e98_167, fe_e98_168, fe_e98_171, fe_e98_174, fe_e98_177, fe_e98_180, fe_e98_181, fe_e98_182, fe_e98_185, fe_e98_186, fe_e98_187, fe_e98_188, fe_e98_191, fe_e98_194, fe_e98_195, fe_e98_198, fe_e98_199, fe_e98_200, fe_e98_203, fe_e98_206, fe_e98_207, fe_e98_210, fe_e98_211, fe_e98_214, fe_e98_215, fe_e98_216, fe_e98_217, fe_e98_217r, fe_e98_218, fe_e98_221, fe_e98_222, fe_e98_223, fe_e98_226, fe_e98_229, fe_e98_232, Option.some.injEq, exists_eq_left', fe_KB_r, fe_KB_v, fe_z_add, fe_z_sub, fe_z_mul, fe_z_neg, fe_bi0, fe_bi1, fe_bibi, fe_bi01, fe_z01, fe_z11, true_and, and_true, if_true, if_false, ite_not, not_true_eq_false, not_false_eq_true, Bool.false_eq_true, Bool.true_eq_false, fe_z_mod, fe_z_eq, fe_z_lt, fe_z_le, fe_z_div, Int.reduceEq, Int.reduceLT, Int.reduceLE, Int.reduceNeg, ↓reduceIte, eq_self, Nat.reduceAdd, fe_bor, fe_tb_bi, fe_tb_0, fe_tb_1, fe_un_at, Nat.reduceEqDiff, or_false, or_true, true_or, false_or, Int.le_refl]
        exact L3 i hi q q2 F'' S'' s hS (fun J'' o2 o3 h => hout F'' S'' J'' s o2 o3 h h2) 0 (by omega) J' _ (fun q hq => by
          rw [h1 q hq]
          constructor
          · exact Or.inl
          · rintro (h | ⟨t', h3, -⟩)
            · exact h
            · omega)
      · next q2 => exact hout F' S' J' s _ _ (skip (fun h => q2 h.2)) h2
  -- the ways of a camera at a private cell
  have L1b : ∀ i : Nat, i < 192 → R 2 i = true → ∀ J' S' o2, ∀ d : Nat, d < n →
      (∀ F' (s : Nat) o3, (∀ d', s.testBit d' = true → d' < n ∧ fe_qz R P (i + 1) d') → (∀ d', d' < n → fe_qz R P i d' → s.testBit d' = true) → (∀ d', d' < d + 1 → fe_qz R P (i + 1) d' → s.testBit d' = true) → fe_WP E 98 38 [some (.ref (b + 15)), some (.int (fe_z (i : Int))), some (.int (fe_z ((d : Int) + 1))), o3] [] (fe_mk b N c (fe_rc b (fe_un G 3 s) R P F' S' J' U o)) K) →
      o2 = some (.int (fe_z (d : Int))) → ∀ L : Nat, P 5 d = L → ∀ k, k ≤ L → ∀ F' (s : Nat), (∀ d', s.testBit d' = true → d' < n ∧ fe_qz R P (i + 1) d') → (∀ d', d' < n → fe_qz R P i d' → s.testBit d' = true) → (∀ d', d' < d → fe_qz R P (i + 1) d' → s.testBit d' = true) → (∀ k' : Nat, k' < k → fe_hI R P d i (P 4 (8 * (d : Int) + k')) → s.testBit d = true) → fe_WP E 98 57 [some (.ref (b + 15)), some (.int (fe_z (i : Int))), o2, some (.int (fe_z (k : Int)))] [] (fe_mk b N c (fe_rc b (fe_un G 3 s) R P F' S' J' U o)) K := by
    intro i hi hi2 J' S' o2 d hc hout ho2 L hL
    subst ho2
    have ⟨hok, p3, p3', p5, p5', hw⟩ := hP d (by omega) (by omega)
    refine fe_down L ?_ ?_
    · intro F' s h1 h2 h3 h4
      simp (maxSteps := 4000000) (disch := omega) only [fe_e98_0, fe_e98_1, fe_e98_2, fe_e98_3, fe_e98_6, fe_e98_9, fe_e98_10, fe_e98_13, fe_e98_14, fe_e98_15, fe_e98_16, fe_e98_19, fe_e98_22, fe_e98_23, fe_e98_24, fe_e98_27, fe_e98_28, fe_e98_29, fe_e98_30, fe_e98_33, fe_e98_36, fe_e98_37, fe_e98_39, fe_e98_40, fe_e98_43, fe_e98_46, fe_e98_47, fe_e98_50, fe_e98_51, fe_e98_52, fe_e98_55, fe_e98_56, fe_e98_57, fe_e98_58, fe_e98_59, fe_e98_62, fe_e98_63, fe_e98_64, fe_e98_67, fe_e98_68, fe_e98_71, fe_e98_72, fe_e98_73, fe_e98_74, fe_e98_75, fe_e98_78, fe_e98_79, fe_e98_80, fe_e98_81, fe_e98_82, fe_e98_85, fe_e98_87, fe_e98_88, fe_e98_89, fe_e98_90, fe_e98_91, fe_e98_92, fe_e98_95, fe_e98_98, fe_e98_99, fe_e98_99r, fe_e98_100, fe_e98_103, fe_e98_104, fe_e98_105, fe_e98_106, fe_e98_107, fe_e98_110, fe_e98_113, fe_e98_116, fe_e98_119, fe_e98_122, fe_e98_123, fe_e98_126, fe_e98_127, fe_e98_128, fe_e98_131, fe_e98_132, fe_e98_135, fe_e98_136, fe_e98_137, fe_e98_140, fe_e98_143, fe_e98_144, fe_e98_145, fe_e98_148, fe_e98_149, fe_e98_150, fe_e98_151, fe_e98_154, fe_e98_157, fe_e98_158, fe_e98_161, fe_e98_162, fe_e98_163, fe_e98_166, fe_e98_167, fe_e98_168, fe_e98_171, fe_e98_174, fe_e98_177, fe_e98_180, fe_e98_181, fe_e98_182, fe_e98_185, fe_e98_186, fe_e98_187, fe_e98_188, fe_e98_191, fe_e98_194, fe_e98_195, fe_e98_198, fe_e98_199, fe_e98_200, fe_e98_203, fe_e98_206, fe_e98_207, fe_e98_210, fe_e98_211, fe_e98_214, fe_e98_215, fe_e98_216, fe_e98_217, fe_e98_217r, fe_e98_218, fe_e98_221, fe_e98_222, fe_e98_223, fe_e98_226, fe_e98_229, fe_e98_232, Option.some.injEq, exists_eq_left', fe_KB_r, fe_KB_v, fe_z_add, fe_z_sub, fe_z_mul, fe_z_neg, fe_bi0, fe_bi1, fe_bibi, fe_bi01, fe_z01, fe_z11, true_and, and_true, if_true, if_false, ite_not, not_true_eq_false, not_false_eq_true, Bool.false_eq_true, Bool.true_eq_false, fe_z_mod, fe_z_eq, fe_z_lt, fe_z_le, fe_z_div, Int.reduceEq, Int.reduceLT, Int.reduceLE, Int.reduceNeg, ↓reduceIte, eq_self, Nat.reduceAdd, fe_bor, fe_tb_bi, fe_tb_0, fe_tb_1, fe_un_at, Nat.reduceEqDiff, or_false, or_true, true_or, false_or, Int.le_refl, fe_ob15, fe_g15_0, fe_p15_0, fe_g15_1, fe_g15_2, fe_g15_3, fe_g15_4, fe_g15_5, fe_g15_6, fe_g15_7, fe_g15_8, fe_g15_9, fe_g15_10, fe_g15_11, fe_g15_12, fe_p15_12, fe_g15_13, fe_g15_14, fe_g15_15, fe_g15_16, fe_g15_17, fe_g15_18, fe_p15_18, fe_g15_19, fe_p15_19, fe_g15_20, fe_g15_21, fe_p15_21, fe_aa16, fe_sa16, fe_ll16, fe_aa17, fe_sa17, fe_ll17, fe_aa18, fe_sa18, fe_ll18, fe_aa19, fe_sa19, fe_ll19, fe_aa20, fe_sa20, fe_ll20, fe_aa21, fe_sa21, fe_ll21, fe_aa22, fe_sa22, fe_ll22, fe_aa23, fe_sa23, fe_ll23, fe_aa24, fe_sa24, fe_ll24, fe_aa25, fe_sa25, fe_ll25, fe_aa26, fe_sa26, fe_ll26, fe_aa27, fe_sa27, fe_ll27, fe_aa28, fe_sa28, fe_ll28, fe_aa29, fe_sa29, fe_ll29, fe_aa30, fe_sa30, fe_ll30, fe_aa31, fe_sa31, fe_ll31, fe_aa32, fe_sa32, fe_ll32, fe_aa33, fe_sa33, hL]
      refine hout F' s _ h1 h2 (fun d' a1 a2 => ?_)
      by_cases q : d' < d
      · exact h3 d' q a2
      · have : d' = d := by omega
        subst this
        rcases fe_qz_s.mp a2 with a | ⟨-, k, a3, a4⟩
        · exact h2 d' hc a
        · exact h4 k (by omega) a4
    · intro k hk ih F' s h1 h2 h3 h4
      have wk := hw k (by omega) (by omega)
      rw [fe_e98_57]
      simp (maxSteps := 4000000) (disch := omega) only [fe_e98_0, fe_e98_1, fe_e98_2, fe_e98_3, fe_e98_6, fe_e98_9, fe_e98_10, fe_e98_13, fe_e98_14, fe_e98_15, fe_e98_16, fe_e98_19, fe_e98_22, fe_e98_23, fe_e98_24, fe_e98_27, fe_e98_28, fe_e98_29, fe_e98_30, fe_e98_33, fe_e98_36, fe_e98_37, fe_e98_39, fe_e98_40, fe_e98_43, fe_e98_46, fe_e98_47, fe_e98_50, fe_e98_51, fe_e98_52, fe_e98_55, fe_e98_56, fe_e98_58, fe_e98_59, fe_e98_62, fe_e98_63, fe_e98_64, fe_e98_67, fe_e98_68, fe_e98_71, fe_e98_72, fe_e98_73, fe_e98_74, fe_e98_75, fe_e98_78, fe_e98_79, fe_e98_80, fe_e98_81, fe_e98_82, fe_e98_85, fe_e98_87, fe_e98_88, fe_e98_89, fe_e98_90, fe_e98_91, fe_e98_92, fe_e98_95, fe_e98_98, fe_e98_99, fe_e98_99r, fe_e98_100, fe_e98_103, fe_e98_104, fe_e98_105, fe_e98_106, fe_e98_107, fe_e98_110, fe_e98_113, fe_e98_116, fe_e98_119, fe_e98_122, fe_e98_123, fe_e98_126, fe_e98_127, fe_e98_128, fe_e98_131, fe_e98_132, fe_e98_135, fe_e98_136, fe_e98_137, fe_e98_140, fe_e98_143, fe_e98_144, fe_e98_145, fe_e98_148, fe_e98_149, fe_e98_150, fe_e98_151, fe_e98_154, fe_e98_157, fe_e98_158, fe_e98_161, fe_e98_162, fe_e98_163, fe_e98_166, fe_e98_167, fe_e98_168, fe_e98_171, fe_e98_174, fe_e98_177, fe_e98_180, fe_e98_181, fe_e98_182, fe_e98_185, fe_e98_186, fe_e98_187, fe_e98_188, fe_e98_191, fe_e98_194, fe_e98_195, fe_e98_198, fe_e98_199, fe_e98_200, fe_e98_203, fe_e98_206, fe_e98_207, fe_e98_210, fe_e98_211, fe_e98_214, fe_e98_215, fe_e98_216, fe_e98_217, fe_e98_217r, fe_e98_218, fe_e98_221, fe_e98_222, fe_e98_223, fe_e98_226, fe_e98_229, fe_e98_232, Option.some.injEq, exists_eq_left', fe_KB_r, fe_KB_v, fe_z_add, fe_z_sub, fe_z_mul, fe_z_neg, fe_bi0, fe_bi1, fe_bibi, fe_bi01, fe_z01, fe_z11, true_and, and_true, if_true, if_false, ite_not, not_true_eq_false, not_false_eq_true, Bool.false_eq_true, Bool.true_eq_false, fe_z_mod, fe_z_eq, fe_z_lt, fe_z_le, fe_z_div, Int.reduceEq, Int.reduceLT, Int.reduceLE, Int.reduceNeg, ↓reduceIte, eq_self, Nat.reduceAdd, fe_bor, fe_tb_bi, fe_tb_0, fe_tb_1, fe_un_at, Nat.reduceEqDiff, or_false, or_true, true_or, false_or, Int.le_refl, fe_ob15, fe_g15_0, fe_p15_0, fe_g15_1, fe_g15_2, fe_g15_3, fe_g15_4, fe_g15_5, fe_g15_6, fe_g15_7, fe_g15_8, fe_g15_9, fe_g15_10, fe_g15_11, fe_g15_12, fe_p15_12, fe_g15_13, fe_g15_14, fe_g15_15, fe_g15_16, fe_g15_17, fe_g15_18, fe_p15_18, fe_g15_19, fe_p15_19, fe_g15_20, fe_g15_21, fe_p15_21, fe_aa16, fe_sa16, fe_ll16, fe_aa17, fe_sa17, fe_ll17, fe_aa18, fe_sa18, fe_ll18, fe_aa19, fe_sa19, fe_ll19, fe_aa20, fe_sa20, fe_ll20, fe_aa21, fe_sa21, fe_ll21, fe_aa22, fe_sa22, fe_ll22, fe_aa23, fe_sa23, fe_ll23, fe_aa24, fe_sa24, fe_ll24, fe_aa25, fe_sa25, fe_ll25, fe_aa26, fe_sa26, fe_ll26, fe_aa27, fe_sa27, fe_ll27, fe_aa28, fe_sa28, fe_ll28, fe_aa29, fe_sa29, fe_ll29, fe_aa30, fe_sa30, fe_ll30, fe_aa31, fe_sa31, fe_ll31, fe_aa32, fe_sa32, fe_ll32, fe_aa33, fe_sa33, fe_z_bit, Int.toNat_natCast, fe_bt_z]
      rw [if_neg (by omega)]
      split
      · next q =>
        refine fe_m92 (by omega) (by omega) hok (by omega) (by omega) wk.1 wk.2 (fun F'' => ?_)
        by_cases q5 : fe_hI R P d i (P 4 (8 * (d : Int) + k))
        · have q6 := fe_B_pos q5
          unfold fe_hI at q6
          simp (maxSteps := 4000000) (disch := omega) only [fe_e98_0, fe_e98_1, fe_e98_2, fe_e98_3, fe_e98_6, fe_e98_9, fe_e98_10, fe_e98_13, fe_e98_14, fe_e98_15, fe_e98_16, fe_e98_19, fe_e98_22, fe_e98_23, fe_e98_24, fe_e98_27, fe_e98_28, fe_e98_29, fe_e98_30, fe_e98_33, fe_e98_36, fe_e98_37, fe_e98_39, fe_e98_40, fe_e98_43, fe_e98_46, fe_e98_47, fe_e98_50, fe_e98_51, fe_e98_52, fe_e98_55, fe_e98_56, fe_e98_58, fe_e98_59, fe_e98_62, fe_e98_63, fe_e98_64, fe_e98_67, fe_e98_68, fe_e98_71, fe_e98_72, fe_e98_73, fe_e98_74, fe_e98_75, fe_e98_78, fe_e98_79, fe_e98_80, fe_e98_81, fe_e98_82, fe_e98_85, fe_e98_87, fe_e98_88, fe_e98_89, fe_e98_90, fe_e98_91, fe_e98_92, fe_e98_95, fe_e98_98, fe_e98_99, fe_e98_99r, fe_e98_100, fe_e98_103, fe_e98_104, fe_e98_105, fe_e98_106, fe_e98_107, fe_e98_110, fe_e98_113, fe_e98_116, fe_e98_119, fe_e98_122, fe_e98_123, fe_e98_126, fe_e98_127, fe_e98_128, fe_e98_131, fe_e98_132, fe_e98_135, fe_e98_136, fe_e98_137, fe_e98_140, fe_e98_143, fe_e98_144, fe_e98_145, fe_e98_148, fe_e98_149, fe_e98_150, fe_e98_151, fe_e98_154, fe_e98_157, fe_e98_158, fe_e98_161, fe_e98_162, fe_e98_163, fe_e98_166, fe_e98_167, fe_e98_168, fe_e98_171, fe_e98_174, fe_e98_177, fe_e98_180, fe_e98_181, fe_e98_182, fe_e98_185, fe_e98_186, fe_e98_187, fe_e98_188, fe_e98_191, fe_e98_194, fe_e98_195, fe_e98_198, fe_e98_199, fe_e98_200, fe_e98_203, fe_e98_206, fe_e98_207, fe_e98_210, fe_e98_211, fe_e98_214, fe_e98_215, fe_e98_216, fe_e98_217, fe_e98_217r, fe_e98_218, fe_e98_221, fe_e98_222, fe_e98_223, fe_e98_226, fe_e98_229, fe_e98_232, Option.some.injEq, exists_eq_left', fe_KB_r, fe_KB_v, fe_z_add, fe_z_sub, fe_z_mul, fe_z_neg, fe_bi0, fe_bi1, fe_bibi, fe_bi01, fe_z01, fe_z11, true_and, and_true, if_true, if_false, ite_not, not_true_eq_false, not_false_eq_true, Bool.false_eq_true, Bool.true_eq_false, fe_z_mod, fe_z_eq, fe_z_lt, fe_z_le, fe_z_div, Int.reduceEq, Int.reduceLT, Int.reduceLE, Int.reduceNeg, ↓reduceIte, eq_self, Nat.reduceAdd, fe_bor, fe_tb_bi, fe_tb_0, fe_tb_1, fe_un_at, Nat.reduceEqDiff, or_false, or_true, true_or, false_or, Int.le_refl, fe_ob15, fe_g15_0, fe_p15_0, fe_g15_1, fe_g15_2, fe_g15_3, fe_g15_4, fe_g15_5, fe_g15_6, fe_g15_7, fe_g15_8, fe_g15_9, fe_g15_10, fe_g15_11, fe_g15_12, fe_p15_12, fe_g15_13, fe_g15_14, fe_g15_15, fe_g15_16, fe_g15_17, fe_g15_18, fe_p15_18, fe_g15_19, fe_p15_19, fe_g15_20, fe_g15_21, fe_p15_21, fe_aa16, fe_sa16, fe_ll16, fe_aa17, fe_sa17, fe_ll17, fe_aa18, fe_sa18, fe_ll18, fe_aa19, fe_sa19, fe_ll19, fe_aa20, fe_sa20, fe_ll20, fe_aa21, fe_sa21, fe_ll21, fe_aa22, fe_sa22, fe_ll22, fe_aa23, fe_sa23, fe_ll23, fe_aa24, fe_sa24, fe_ll24, fe_aa25, fe_sa25, fe_ll25, fe_aa26, fe_sa26, fe_ll26, fe_aa27, fe_sa27, fe_ll27, fe_aa28, fe_sa28, fe_ll28, fe_aa29, fe_sa29, fe_ll29, fe_aa30, fe_sa30, fe_ll30, fe_aa31, fe_sa31, fe_ll31, fe_aa32, fe_sa32, fe_ll32, fe_aa33, fe_sa33, q6, fe_z_shl, fe_z_or, Int.toNat_natCast, fe_un_un]
          have hb : ∀ d', (s ||| 2 ^ d).testBit d' = true ↔ s.testBit d' = true ∨ d' = d := fun d' => by
            rw [Nat.testBit_or, Nat.testBit_two_pow, Bool.or_eq_true, decide_eq_true_eq]
            constructor
            · rintro (h | h)
              · exact Or.inl h
              · exact Or.inr h.symm
            · rintro (h | h)
              · exact Or.inl h
              · exact Or.inr h.symm
          have hq : fe_qz R P (i + 1) d := fe_qz_s.mpr (Or.inr ⟨hi2, k, by omega, q5⟩)
          refine ih F'' (s ||| 2 ^ d) (fun d' a => ?_) (fun d' a1 a2 => ?_) (fun d' a1 a2 => ?_) (fun k' a1 a2 => ?_)
          · rcases (hb d').mp a with a | rfl
            · exact h1 d' a
            · exact ⟨hc, hq⟩
          · exact (hb d').mpr (Or.inl (h2 d' a1 a2))
          · exact (hb d').mpr (Or.inl (h3 d' a1 a2))
          · exact (hb d).mpr (Or.inr rfl)
        · have q6 := fe_B_neg q5
          unfold fe_hI at q6
          simp (maxSteps := 4000000) (disch := omega) only [fe_e98_0, fe_e98_1, fe_e98_2, fe_e98_3, fe_e98_6, fe_e98_9, fe_e98_10, fe_e98_13, fe_e98_14, fe_e98_15, fe_e98_16, fe_e98_19, fe_e98_22, fe_e98_23, fe_e98_24, fe_e98_27, fe_e98_28, fe_e98_29, fe_e98_30, fe_e98_33, fe_e98_36, fe_e98_37, fe_e98_39, fe_e98_40, fe_e98_43, fe_e98_46, fe_e98_47, fe_e98_50, fe_e98_51, fe_e98_52, fe_e98_55, fe_e98_56, fe_e98_58, fe_e98_59, fe_e98_62, fe_e98_63, fe_e98_64, fe_e98_67, fe_e98_68, fe_e98_71, fe_e98_72, fe_e98_73, fe_e98_74, fe_e98_75, fe_e98_78, fe_e98_79, fe_e98_80, fe_e98_81, fe_e98_82, fe_e98_85, fe_e98_87, fe_e98_88, fe_e98_89, fe_e98_90, fe_e98_91, fe_e98_92, fe_e98_95, fe_e98_98, fe_e98_99, fe_e98_99r, fe_e98_100, fe_e98_103, fe_e98_104, fe_e98_105, fe_e98_106, fe_e98_107, fe_e98_110, fe_e98_113, fe_e98_116, fe_e98_119, fe_e98_122, fe_e98_123, fe_e98_126, fe_e98_127, fe_e98_128, fe_e98_131, fe_e98_132, fe_e98_135, fe_e98_136, fe_e98_137, fe_e98_140, fe_e98_143, fe_e98_144, fe_e98_145, fe_e98_148, fe_e98_149, fe_e98_150, fe_e98_151, fe_e98_154, fe_e98_157, fe_e98_158, fe_e98_161, fe_e98_162, fe_e98_163, fe_e98_166, fe_e98_167, fe_e98_168, fe_e98_171, fe_e98_174, fe_e98_177, fe_e98_180, fe_e98_181, fe_e98_182, fe_e98_185, fe_e98_186, fe_e98_187, fe_e98_188, fe_e98_191, fe_e98_194, fe_e98_195, fe_e98_198, fe_e98_199, fe_e98_200, fe_e98_203, fe_e98_206, fe_e98_207, fe_e98_210, fe_e98_211, fe_e98_214, fe_e98_215, fe_e98_216, fe_e98_217, fe_e98_217r, fe_e98_218, fe_e98_221, fe_e98_222, fe_e98_223, fe_e98_226, fe_e98_229, fe_e98_232, Option.some.injEq, exists_eq_left', fe_KB_r, fe_KB_v, fe_z_add, fe_z_sub, fe_z_mul, fe_z_neg, fe_bi0, fe_bi1, fe_bibi, fe_bi01, fe_z01, fe_z11, true_and, and_true, if_true, if_false, ite_not, not_true_eq_false, not_false_eq_true, Bool.false_eq_true, Bool.true_eq_false, fe_z_mod, fe_z_eq, fe_z_lt, fe_z_le, fe_z_div, Int.reduceEq, Int.reduceLT, Int.reduceLE, Int.reduceNeg, ↓reduceIte, eq_self, Nat.reduceAdd, fe_bor, fe_tb_bi, fe_tb_0, fe_tb_1, fe_un_at, Nat.reduceEqDiff, or_false, or_true, true_or, false_or, Int.le_refl, fe_ob15, fe_g15_0, fe_p15_0, fe_g15_1, fe_g15_2, fe_g15_3, fe_g15_4, fe_g15_5, fe_g15_6, fe_g15_7, fe_g15_8, fe_g15_9, fe_g15_10, fe_g15_11, fe_g15_12, fe_p15_12, fe_g15_13, fe_g15_14, fe_g15_15, fe_g15_16, fe_g15_17, fe_g15_18, fe_p15_18, fe_g15_19, fe_p15_19, fe_g15_20, fe_g15_21, fe_p15_21, fe_aa16, fe_sa16, fe_ll16, fe_aa17, fe_sa17, fe_ll17, fe_aa18, fe_sa18, fe_ll18, fe_aa19, fe_sa19, fe_ll19, fe_aa20, fe_sa20, fe_ll20, fe_aa21, fe_sa21, fe_ll21, fe_aa22, fe_sa22, fe_ll22, fe_aa23, fe_sa23, fe_ll23, fe_aa24, fe_sa24, fe_ll24, fe_aa25, fe_sa25, fe_ll25, fe_aa26, fe_sa26, fe_ll26, fe_aa27, fe_sa27, fe_ll27, fe_aa28, fe_sa28, fe_ll28, fe_aa29, fe_sa29, fe_ll29, fe_aa30, fe_sa30, fe_ll30, fe_aa31, fe_sa31, fe_ll31, fe_aa32, fe_sa32, fe_ll32, fe_aa33, fe_sa33, q6]
          refine ih F'' s h1 h2 h3 (fun k' a1 a2 => ?_)
          by_cases hk' : k' = k
          · subst hk'
            exact absurd a2 q5
          · exact h4 k' (by omega) a2
      · next q =>
        rw [Bool.not_eq_false] at q
        refine hout F' s _ h1 h2 (fun d' a1 a2 => ?_)
        by_cases q3 : d' < d
        · exact h3 d' q3 a2
        · have : d' = d := by omega
          subst this
          exact q
  -- the cameras at a cell
  have L1 : ∀ i : Nat, i < 192 → (∀ F' S' J' (s : Nat) o2 o3, (∀ q : Nat, q < 4096 → (J' q = true ↔ fe_nd R P n (i + 1) q)) → (∀ d, s.testBit d = true ↔ d < n ∧ fe_qz R P (i + 1) d) → fe_WP E 98 29 [some (.ref (b + 15)), some (.int (fe_z ((i : Int) + 1))), o2, o3] [] (fe_mk b N c (fe_rc b (fe_un G 3 s) R P F' S' J' U o)) K) →
      ∀ S' J', (∀ q : Nat, q < 4096 → (J' q = true ↔ fe_nd R P n i q)) → ∀ d, d ≤ n → ∀ F' (s : Nat) o3, (∀ d', s.testBit d' = true → d' < n ∧ fe_qz R P (i + 1) d') → (∀ d', d' < n → fe_qz R P i d' → s.testBit d' = true) → (∀ d', d' < d → fe_qz R P (i + 1) d' → s.testBit d' = true) → fe_WP E 98 38 [some (.ref (b + 15)), some (.int (fe_z (i : Int))), some (.int (fe_z (d : Int))), o3] [] (fe_mk b N c (fe_rc b (fe_un G 3 s) R P F' S' J' U o)) K := by
    intro i hi hout S' J' hJ
    refine fe_down n ?_ ?_
    · intro F' s o3 h1 h2 h3
      simp (maxSteps := 4000000) (disch := omega) only [fe_e98_0, fe_e98_1, fe_e98_2, fe_e98_3, fe_e98_6, fe_e98_9, fe_e98_10, fe_e98_13, fe_e98_14, fe_e98_15, fe_e98_16, fe_e98_19, fe_e98_22, fe_e98_23, fe_e98_24, fe_e98_27, fe_e98_28, fe_e98_29, fe_e98_30, fe_e98_33, fe_e98_36, fe_e98_37, fe_e98_38, fe_e98_39, fe_e98_40, fe_e98_43, fe_e98_46, fe_e98_47, fe_e98_50, fe_e98_51, fe_e98_52, fe_e98_55, fe_e98_56, fe_e98_57, fe_e98_58, fe_e98_59, fe_e98_62, fe_e98_63, fe_e98_64, fe_e98_67, fe_e98_68, fe_e98_71, fe_e98_72, fe_e98_73, fe_e98_74, fe_e98_75, fe_e98_78, fe_e98_79, fe_e98_80, fe_e98_81, fe_e98_82, fe_e98_85, fe_e98_87, fe_e98_88, fe_e98_89, fe_e98_90, fe_e98_91, fe_e98_92, fe_e98_95, fe_e98_98, fe_e98_99, fe_e98_99r, fe_e98_100, fe_e98_103, fe_e98_104, fe_e98_105, fe_e98_106, fe_e98_107, fe_e98_110, fe_e98_113, fe_e98_116, fe_e98_119, fe_e98_123, fe_e98_126, fe_e98_127, fe_e98_128, fe_e98_131, fe_e98_132, fe_e98_135, fe_e98_136, fe_e98_137, fe_e98_140, fe_e98_143, fe_e98_144, fe_e98_145, fe_e98_148, fe_e98_149, fe_e98_150, fe_e98_151, fe_e98_154, fe_e98_157, fe_e98_158, fe_e98_161, fe_e98_162, fe_e98_163, fe_e98_166, fe_e98_167, fe_e98_168, fe_e98_171, fe_e98_174, fe_e98_177, fe_e98_180, fe_e98_181, fe_e98_182, fe_e98_185, fe_e98_186, fe_e98_187, fe_e98_188, fe_e98_191, fe_e98_194, fe_e98_195, fe_e98_198, fe_e98_199, fe_e98_200, fe_e98_203, fe_e98_206, fe_e98_207, fe_e98_210, fe_e98_211, fe_e98_214, fe_e98_215, fe_e98_216, fe_e98_217, fe_e98_217r, fe_e98_218, fe_e98_221, fe_e98_222, fe_e98_223, fe_e98_226, fe_e98_229, fe_e98_232, Option.some.injEq, exists_eq_left', fe_KB_r, fe_KB_v, fe_z_add, fe_z_sub, fe_z_mul, fe_z_neg, fe_bi0, fe_bi1, fe_bibi, fe_bi01, fe_z01, fe_z11, true_and, and_true, if_true, if_false, ite_not, not_true_eq_false, not_false_eq_true, Bool.false_eq_true, Bool.true_eq_false, fe_z_mod, fe_z_eq, fe_z_lt, fe_z_le, fe_z_div, Int.reduceEq, Int.reduceLT, Int.reduceLE, Int.reduceNeg, ↓reduceIte, eq_self, Nat.reduceAdd, fe_bor, fe_tb_bi, fe_tb_0, fe_tb_1, fe_un_at, Nat.reduceEqDiff, or_false, or_true, true_or, false_or, Int.le_refl, fe_ob15, fe_g15_0, fe_p15_0, fe_g15_1, fe_g15_2, fe_g15_3, fe_g15_4, fe_g15_5, fe_g15_6, fe_g15_7, fe_g15_8, fe_g15_9, fe_g15_10, fe_g15_11, fe_g15_12, fe_p15_12, fe_g15_13, fe_g15_14, fe_g15_15, fe_g15_16, fe_g15_17, fe_g15_18, fe_p15_18, fe_g15_19, fe_p15_19, fe_g15_20, fe_g15_21, fe_p15_21, fe_aa16, fe_sa16, fe_ll16, fe_aa17, fe_sa17, fe_ll17, fe_aa18, fe_sa18, fe_ll18, fe_aa19, fe_sa19, fe_ll19, fe_aa20, fe_sa20, fe_ll20, fe_aa21, fe_sa21, fe_ll21, fe_aa22, fe_sa22, fe_ll22, fe_aa23, fe_sa23, fe_ll23, fe_aa24, fe_sa24, fe_ll24, fe_aa25, fe_sa25, fe_ll25, fe_aa26, fe_sa26, fe_ll26, fe_aa27, fe_sa27, fe_ll27, fe_aa28, fe_sa28, fe_ll28, fe_aa29, fe_sa29, fe_ll29, fe_aa30, fe_sa30, fe_ll30, fe_aa31, fe_sa31, fe_ll31, fe_aa32, fe_sa32, fe_ll32, fe_aa33, fe_sa33, g1]
      exact L2 i hi hout F' S' J' s _ _ hJ (fun d' => ⟨h1 d', fun a => h3 d' a.1 a.2⟩)
    · intro d hc ih F' s o3 h1 h2 h3
      have ⟨hok, p3, p3', p5, p5', hw⟩ := hP d (by omega) (by omega)
      obtain ⟨L, hL⟩ := Int.eq_ofNat_of_zero_le (show 0 ≤ P 5 d by omega)
      rw [fe_e98_38]
      simp (maxSteps := 4000000) (disch := omega) only [fe_e98_0, fe_e98_1, fe_e98_2, fe_e98_3, fe_e98_6, fe_e98_9, fe_e98_10, fe_e98_13, fe_e98_14, fe_e98_15, fe_e98_16, fe_e98_19, fe_e98_22, fe_e98_23, fe_e98_24, fe_e98_27, fe_e98_28, fe_e98_29, fe_e98_30, fe_e98_33, fe_e98_36, fe_e98_37, fe_e98_39, fe_e98_40, fe_e98_43, fe_e98_46, fe_e98_47, fe_e98_50, fe_e98_51, fe_e98_52, fe_e98_55, fe_e98_56, fe_e98_58, fe_e98_59, fe_e98_62, fe_e98_63, fe_e98_64, fe_e98_67, fe_e98_68, fe_e98_71, fe_e98_72, fe_e98_73, fe_e98_74, fe_e98_75, fe_e98_78, fe_e98_79, fe_e98_80, fe_e98_81, fe_e98_82, fe_e98_85, fe_e98_87, fe_e98_88, fe_e98_89, fe_e98_90, fe_e98_91, fe_e98_92, fe_e98_95, fe_e98_98, fe_e98_99, fe_e98_99r, fe_e98_100, fe_e98_103, fe_e98_104, fe_e98_105, fe_e98_106, fe_e98_107, fe_e98_110, fe_e98_113, fe_e98_116, fe_e98_119, fe_e98_123, fe_e98_126, fe_e98_127, fe_e98_128, fe_e98_131, fe_e98_132, fe_e98_135, fe_e98_136, fe_e98_137, fe_e98_140, fe_e98_143, fe_e98_144, fe_e98_145, fe_e98_148, fe_e98_149, fe_e98_150, fe_e98_151, fe_e98_154, fe_e98_157, fe_e98_158, fe_e98_161, fe_e98_162, fe_e98_163, fe_e98_166, fe_e98_167, fe_e98_168, fe_e98_171, fe_e98_174, fe_e98_177, fe_e98_180, fe_e98_181, fe_e98_182, fe_e98_185, fe_e98_186, fe_e98_187, fe_e98_188, fe_e98_191, fe_e98_194, fe_e98_195, fe_e98_198, fe_e98_199, fe_e98_200, fe_e98_203, fe_e98_206, fe_e98_207, fe_e98_210, fe_e98_211, fe_e98_214, fe_e98_215, fe_e98_216, fe_e98_217, fe_e98_217r, fe_e98_218, fe_e98_221, fe_e98_222, fe_e98_223, fe_e98_226, fe_e98_229, fe_e98_232, Option.some.injEq, exists_eq_left', fe_KB_r, fe_KB_v, fe_z_add, fe_z_sub, fe_z_mul, fe_z_neg, fe_bi0, fe_bi1, fe_bibi, fe_bi01, fe_z01, fe_z11, true_and, and_true, if_true, if_false, ite_not, not_true_eq_false, not_false_eq_true, Bool.false_eq_true, Bool.true_eq_false, fe_z_mod, fe_z_eq, fe_z_lt, fe_z_le, fe_z_div, Int.reduceEq, Int.reduceLT, Int.reduceLE, Int.reduceNeg, ↓reduceIte, eq_self, Nat.reduceAdd, fe_bor, fe_tb_bi, fe_tb_0, fe_tb_1, fe_un_at, Nat.reduceEqDiff, or_false, or_true, true_or, false_or, Int.le_refl, fe_ob15, fe_g15_0, fe_p15_0, fe_g15_1, fe_g15_2, fe_g15_3, fe_g15_4, fe_g15_5, fe_g15_6, fe_g15_7, fe_g15_8, fe_g15_9, fe_g15_10, fe_g15_11, fe_g15_12, fe_p15_12, fe_g15_13, fe_g15_14, fe_g15_15, fe_g15_16, fe_g15_17, fe_g15_18, fe_p15_18, fe_g15_19, fe_p15_19, fe_g15_20, fe_g15_21, fe_p15_21, fe_aa16, fe_sa16, fe_ll16, fe_aa17, fe_sa17, fe_ll17, fe_aa18, fe_sa18, fe_ll18, fe_aa19, fe_sa19, fe_ll19, fe_aa20, fe_sa20, fe_ll20, fe_aa21, fe_sa21, fe_ll21, fe_aa22, fe_sa22, fe_ll22, fe_aa23, fe_sa23, fe_ll23, fe_aa24, fe_sa24, fe_ll24, fe_aa25, fe_sa25, fe_ll25, fe_aa26, fe_sa26, fe_ll26, fe_aa27, fe_sa27, fe_ll27, fe_aa28, fe_sa28, fe_ll28, fe_aa29, fe_sa29, fe_ll29, fe_aa30, fe_sa30, fe_ll30, fe_aa31, fe_sa31, fe_ll31, fe_aa32, fe_sa32, fe_ll32, fe_aa33, fe_sa33, g1]
      rw [if_neg (by omega)]
      split
      · next q =>
        refine L2 i hi hout F' S' J' s _ _ hJ (fun d' => ⟨h1 d', fun a => ?_⟩)
        rcases fe_qz_s.mp a.2 with a2 | a2
        · exact h2 d' a.1 a2
        · rw [a2.1] at q
          cases q
      · next q =>
        rw [Bool.not_eq_false] at q
        exact L1b i hi q J' S' _ d hc (fun F' s o3 a1 a2 a3 => ih F' s o3 a1 a2 a3) rfl L hL 0 (by omega) F' s h1 h2 h3 (fun k' a => by omega)
  -- the cells
  have LO : ∀ i, i ≤ 192 → ∀ F' S' J' (s : Nat) o2 o3, (∀ q : Nat, q < 4096 → (J' q = true ↔ fe_nd R P n i q)) → (∀ d, s.testBit d = true ↔ d < n ∧ fe_qz R P i d) → fe_WP E 98 29 [some (.ref (b + 15)), some (.int (fe_z (i : Int))), o2, o3] [] (fe_mk b N c (fe_rc b (fe_un G 3 s) R P F' S' J' U o)) K := by
    refine fe_down 192 ?_ ?_
    · intro F' S' J' s o2 o3 h1 h2
      rw [fe_e98_29]
      simp (maxSteps := 4000000) (disch := omega) only [fe_e98_30, fe_e98_33, Option.some.injEq, exists_eq_left', fe_KB_r, fe_KB_v, fe_z_add, fe_z_sub, fe_z_mul, fe_z_neg, fe_bi0, fe_bi1, fe_bibi, fe_bi01, fe_z01, fe_z11, true_and, and_true, if_true, if_false, ite_not, not_true_eq_false, not_false_eq_true, Bool.false_eq_true, Bool.true_eq_false, fe_z_mod, fe_z_eq, fe_z_lt, fe_z_le, fe_z_div, Int.reduceEq, Int.reduceLT, Int.reduceLE, Int.reduceNeg, ↓reduceIte, eq_self, Nat.reduceAdd, fe_bor, fe_tb_bi, fe_tb_0, fe_tb_1, fe_un_at, Nat.reduceEqDiff, or_false, or_true, true_or, false_or, Int.le_refl, Int.cast_ofNat_Int]
      simp (maxSteps := 4000000) (disch := omega) only [fe_e98_180, fe_e98_181, fe_e98_182, fe_e98_185, fe_e98_186, Option.some.injEq, exists_eq_left', fe_KB_r, fe_KB_v, fe_z_add, fe_z_sub, fe_z_mul, fe_z_neg, fe_bi0, fe_bi1, fe_bibi, fe_bi01, fe_z01, fe_z11, true_and, and_true, if_true, if_false, ite_not, not_true_eq_false, not_false_eq_true, Bool.false_eq_true, Bool.true_eq_false, fe_z_mod, fe_z_eq, fe_z_lt, fe_z_le, fe_z_div, Int.reduceEq, Int.reduceLT, Int.reduceLE, Int.reduceNeg, ↓reduceIte, eq_self, Nat.reduceAdd, fe_bor, fe_tb_bi, fe_tb_0, fe_tb_1, fe_un_at, Nat.reduceEqDiff, or_false, or_true, true_or, false_or, Int.le_refl, fe_ob15, fe_g15_0, fe_p15_0, fe_g15_1, fe_g15_2, fe_g15_3, fe_g15_4, fe_g15_5, fe_g15_6, fe_g15_7, fe_g15_8, fe_g15_9, fe_g15_10, fe_g15_11, fe_g15_12, fe_p15_12, fe_g15_13, fe_g15_14, fe_g15_15, fe_g15_16, fe_g15_17, fe_g15_18, fe_p15_18, fe_g15_19, fe_p15_19, fe_g15_20, fe_g15_21, fe_p15_21, fe_aa16, fe_sa16, fe_ll16, fe_aa17, fe_sa17, fe_ll17, fe_aa18, fe_sa18, fe_ll18, fe_aa19, fe_sa19, fe_ll19, fe_aa20, fe_sa20, fe_ll20, fe_aa21, fe_sa21, fe_ll21, fe_aa22, fe_sa22, fe_ll22, fe_aa23, fe_sa23, fe_ll23, fe_aa24, fe_sa24, fe_ll24, fe_aa25, fe_sa25, fe_ll25, fe_aa26, fe_sa26, fe_ll26, fe_aa27, fe_sa27, fe_ll27, fe_aa28, fe_sa28, fe_ll28, fe_aa29, fe_sa29, fe_ll29, fe_aa30, fe_sa30, fe_ll30, fe_aa31, fe_sa31, fe_ll31, fe_aa32, fe_sa32, fe_ll32, fe_aa33, fe_sa33]
      have hs : s = fe_shr R P n := fe_eq_bits (fun d => by rw [h2 d, fe_B_t])
      exact L4 F' S' J' s h1 hs 0 (by omega) U 0 _ _ (by omega) (fun q => by
        constructor
        · rintro ⟨j, hj, -⟩
          omega
        · rintro ⟨hj, -⟩
          omega) (fun j hj => by omega)
    · intro i hi ih F' S' J' s o2 o3 h1 h2
      rw [fe_e98_29]
      simp (maxSteps := 4000000) (disch := omega) only [fe_e98_0, fe_e98_1, fe_e98_2, fe_e98_3, fe_e98_6, fe_e98_9, fe_e98_10, fe_e98_13, fe_e98_14, fe_e98_15, fe_e98_16, fe_e98_19, fe_e98_22, fe_e98_23, fe_e98_24, fe_e98_27, fe_e98_28, fe_e98_30, fe_e98_33, fe_e98_36, fe_e98_37, fe_e98_39, fe_e98_40, fe_e98_43, fe_e98_46, fe_e98_47, fe_e98_50, fe_e98_51, fe_e98_52, fe_e98_55, fe_e98_56, fe_e98_57, fe_e98_58, fe_e98_59, fe_e98_62, fe_e98_63, fe_e98_64, fe_e98_67, fe_e98_68, fe_e98_71, fe_e98_72, fe_e98_73, fe_e98_74, fe_e98_75, fe_e98_78, fe_e98_79, fe_e98_80, fe_e98_81, fe_e98_82, fe_e98_85, fe_e98_87, fe_e98_88, fe_e98_89, fe_e98_90, fe_e98_91, fe_e98_92, fe_e98_95, fe_e98_98, fe_e98_99, fe_e98_99r, fe_e98_100, fe_e98_103, fe_e98_104, fe_e98_105, fe_e98_106, fe_e98_107, fe_e98_110, fe_e98_113, fe_e98_116, fe_e98_119, fe_e98_122, fe_e98_123, fe_e98_126, fe_e98_127, fe_e98_128, fe_e98_131, fe_e98_132, fe_e98_135, fe_e98_136, fe_e98_137, fe_e98_140, fe_e98_143, fe_e98_144, fe_e98_145, fe_e98_148, fe_e98_149, fe_e98_150, fe_e98_151, fe_e98_154, fe_e98_157, fe_e98_158, fe_e98_161, fe_e98_162, fe_e98_163, fe_e98_166, fe_e98_167, fe_e98_168, fe_e98_171, fe_e98_174, fe_e98_177, fe_e98_181, fe_e98_182, fe_e98_185, fe_e98_186, fe_e98_187, fe_e98_188, fe_e98_191, fe_e98_194, fe_e98_195, fe_e98_198, fe_e98_199, fe_e98_200, fe_e98_203, fe_e98_206, fe_e98_207, fe_e98_210, fe_e98_211, fe_e98_214, fe_e98_215, fe_e98_216, fe_e98_217, fe_e98_217r, fe_e98_218, fe_e98_221, fe_e98_222, fe_e98_223, fe_e98_226, fe_e98_229, fe_e98_232, Option.some.injEq, exists_eq_left', fe_KB_r, fe_KB_v, fe_z_add, fe_z_sub, fe_z_mul, fe_z_neg, fe_bi0, fe_bi1, fe_bibi, fe_bi01, fe_z01, fe_z11, true_and, and_true, if_true, if_false, ite_not, not_true_eq_false, not_false_eq_true, Bool.false_eq_true, Bool.true_eq_false, fe_z_mod, fe_z_eq, fe_z_lt, fe_z_le, fe_z_div, Int.reduceEq, Int.reduceLT, Int.reduceLE, Int.reduceNeg, ↓reduceIte, eq_self, Nat.reduceAdd, fe_bor, fe_tb_bi, fe_tb_0, fe_tb_1, fe_un_at, Nat.reduceEqDiff, or_false, or_true, true_or, false_or, Int.le_refl, fe_ob15, fe_g15_0, fe_p15_0, fe_g15_1, fe_g15_2, fe_g15_3, fe_g15_4, fe_g15_5, fe_g15_6, fe_g15_7, fe_g15_8, fe_g15_9, fe_g15_10, fe_g15_11, fe_g15_12, fe_p15_12, fe_g15_13, fe_g15_14, fe_g15_15, fe_g15_16, fe_g15_17, fe_g15_18, fe_p15_18, fe_g15_19, fe_p15_19, fe_g15_20, fe_g15_21, fe_p15_21, fe_aa16, fe_sa16, fe_ll16, fe_aa17, fe_sa17, fe_ll17, fe_aa18, fe_sa18, fe_ll18, fe_aa19, fe_sa19, fe_ll19, fe_aa20, fe_sa20, fe_ll20, fe_aa21, fe_sa21, fe_ll21, fe_aa22, fe_sa22, fe_ll22, fe_aa23, fe_sa23, fe_ll23, fe_aa24, fe_sa24, fe_ll24, fe_aa25, fe_sa25, fe_ll25, fe_aa26, fe_sa26, fe_ll26, fe_aa27, fe_sa27, fe_ll27, fe_aa28, fe_sa28, fe_ll28, fe_aa29, fe_sa29, fe_ll29, fe_aa30, fe_sa30, fe_ll30, fe_aa31, fe_sa31, fe_ll31, fe_aa32, fe_sa32, fe_ll32, fe_aa33, fe_sa33]
      rw [if_neg (by omega)]
      exact L1 i hi (fun F' S' J' s o2 o3 a1 a2 => ih F' S' J' s o2 o3 a1 a2) S' J' h1 0 (by omega) F' s _ (fun d' a => ⟨((h2 d').mp a).1, fe_qz_s.mpr (Or.inl ((h2 d').mp a).2)⟩) (fun d' a1 a2 => (h2 d').mpr ⟨a1, a2⟩) (fun d' a => by omega)
  -- all needs are taken back
  have L0 : ∀ i, i ≤ 4096 → ∀ J', (∀ j : Nat, j < i → J' j = false) → fe_WP E 98 2 [some (.ref (b + 15)), some (.int (fe_z (i : Int))), none, none] [] (fe_mk b N c (fe_rc b G R P F S J' U o)) K := by
    refine fe_down 4096 ?_ ?_
    · intro J' h1
      simp (maxSteps := 4000000) (disch := omega) only [fe_e98_0, fe_e98_1, fe_e98_2, fe_e98_3, fe_e98_6, fe_e98_9, fe_e98_10, fe_e98_13, fe_e98_14, fe_e98_15, fe_e98_16, fe_e98_19, fe_e98_22, fe_e98_23, fe_e98_24, fe_e98_27, fe_e98_28, fe_e98_30, fe_e98_33, fe_e98_36, fe_e98_37, fe_e98_38, fe_e98_39, fe_e98_40, fe_e98_43, fe_e98_46, fe_e98_47, fe_e98_50, fe_e98_51, fe_e98_52, fe_e98_55, fe_e98_56, fe_e98_57, fe_e98_58, fe_e98_59, fe_e98_62, fe_e98_63, fe_e98_64, fe_e98_67, fe_e98_68, fe_e98_71, fe_e98_72, fe_e98_73, fe_e98_74, fe_e98_75, fe_e98_78, fe_e98_79, fe_e98_80, fe_e98_81, fe_e98_82, fe_e98_85, fe_e98_87, fe_e98_88, fe_e98_89, fe_e98_90, fe_e98_91, fe_e98_92, fe_e98_95, fe_e98_98, fe_e98_99, fe_e98_99r, fe_e98_100, fe_e98_103, fe_e98_104, fe_e98_105, fe_e98_106, fe_e98_107, fe_e98_110, fe_e98_113, fe_e98_116, fe_e98_119, fe_e98_122, fe_e98_123, fe_e98_126, fe_e98_127, fe_e98_128, fe_e98_131, fe_e98_132, fe_e98_135, fe_e98_136, fe_e98_137, fe_e98_140, fe_e98_143, fe_e98_144, fe_e98_145, fe_e98_148, fe_e98_149, fe_e98_150, fe_e98_151, fe_e98_154, fe_e98_157, fe_e98_158, fe_e98_161, fe_e98_162, fe_e98_163, fe_e98_166, fe_e98_167, fe_e98_168, fe_e98_171, fe_e98_174, fe_e98_177, fe_e98_180, fe_e98_181, fe_e98_182, fe_e98_185, fe_e98_186, fe_e98_187, fe_e98_188, fe_e98_191, fe_e98_194, fe_e98_195, fe_e98_198, fe_e98_199, fe_e98_200, fe_e98_203, fe_e98_206, fe_e98_207, fe_e98_210, fe_e98_211, fe_e98_214, fe_e98_215, fe_e98_216, fe_e98_217, fe_e98_217r, fe_e98_218, fe_e98_221, fe_e98_222, fe_e98_223, fe_e98_226, fe_e98_229, fe_e98_232, Option.some.injEq, exists_eq_left', fe_KB_r, fe_KB_v, fe_z_add, fe_z_sub, fe_z_mul, fe_z_neg, fe_bi0, fe_bi1, fe_bibi, fe_bi01, fe_z01, fe_z11, true_and, and_true, if_true, if_false, ite_not, not_true_eq_false, not_false_eq_true, Bool.false_eq_true, Bool.true_eq_false, fe_z_mod, fe_z_eq, fe_z_lt, fe_z_le, fe_z_div, Int.reduceEq, Int.reduceLT, Int.reduceLE, Int.reduceNeg, ↓reduceIte, eq_self, Nat.reduceAdd, fe_bor, fe_tb_bi, fe_tb_0, fe_tb_1, fe_un_at, Nat.reduceEqDiff, or_false, or_true, true_or, false_or, Int.le_refl, fe_ob15, fe_g15_0, fe_p15_0, fe_g15_1, fe_g15_2, fe_g15_3, fe_g15_4, fe_g15_5, fe_g15_6, fe_g15_7, fe_g15_8, fe_g15_9, fe_g15_10, fe_g15_11, fe_g15_12, fe_p15_12, fe_g15_13, fe_g15_14, fe_g15_15, fe_g15_16, fe_g15_17, fe_g15_18, fe_p15_18, fe_g15_19, fe_p15_19, fe_g15_20, fe_g15_21, fe_p15_21, fe_aa16, fe_sa16, fe_ll16, fe_aa17, fe_sa17, fe_ll17, fe_aa18, fe_sa18, fe_ll18, fe_aa19, fe_sa19, fe_ll19, fe_aa20, fe_sa20, fe_ll20, fe_aa21, fe_sa21, fe_ll21, fe_aa22, fe_sa22, fe_ll22, fe_aa23, fe_sa23, fe_ll23, fe_aa24, fe_sa24, fe_ll24, fe_aa25, fe_sa25, fe_ll25, fe_aa26, fe_sa26, fe_ll26, fe_aa27, fe_sa27, fe_ll27, fe_aa28, fe_sa28, fe_ll28, fe_aa29, fe_sa29, fe_ll29, fe_aa30, fe_sa30, fe_ll30, fe_aa31, fe_sa31, fe_ll31, fe_aa32, fe_sa32, fe_ll32, fe_aa33, fe_sa33, Int.cast_ofNat_Int]
      refine LO 0 (by omega) F S J' 0 _ _ (fun q hq => ?_) (fun d => ?_)
      · rw [h1 q hq]
        constructor
        · intro h
          cases h
        · rintro ⟨cell, h, -⟩
          omega
      · rw [Nat.zero_testBit]
        constructor
        · intro h
          cases h
        · rintro ⟨-, cell, h, -⟩
          omega
    · intro i hi ih J' h1
      rw [fe_e98_2]
      simp (maxSteps := 4000000) (disch := omega) only [fe_e98_0, fe_e98_1, fe_e98_3, fe_e98_6, fe_e98_9, fe_e98_10, fe_e98_13, fe_e98_14, fe_e98_15, fe_e98_16, fe_e98_19, fe_e98_23, fe_e98_24, fe_e98_27, fe_e98_28, fe_e98_29, fe_e98_30, fe_e98_33, fe_e98_36, fe_e98_37, fe_e98_38, fe_e98_39, fe_e98_40, fe_e98_43, fe_e98_46, fe_e98_47, fe_e98_50, fe_e98_51, fe_e98_52, fe_e98_55, fe_e98_56, fe_e98_57, fe_e98_58, fe_e98_59, fe_e98_62, fe_e98_63, fe_e98_64, fe_e98_67, fe_e98_68, fe_e98_71, fe_e98_72, fe_e98_73, fe_e98_74, fe_e98_75, fe_e98_78, fe_e98_79, fe_e98_80, fe_e98_81, fe_e98_82, fe_e98_85, fe_e98_87, fe_e98_88, fe_e98_89, fe_e98_90, fe_e98_91, fe_e98_92, fe_e98_95, fe_e98_98, fe_e98_99, fe_e98_99r, fe_e98_100, fe_e98_103, fe_e98_104, fe_e98_105, fe_e98_106, fe_e98_107, fe_e98_110, fe_e98_113, fe_e98_116, fe_e98_119, fe_e98_122, fe_e98_123, fe_e98_126, fe_e98_127, fe_e98_128, fe_e98_131, fe_e98_132, fe_e98_135, fe_e98_136, fe_e98_137, fe_e98_140, fe_e98_143, fe_e98_144, fe_e98_145, fe_e98_148, fe_e98_149, fe_e98_150, fe_e98_151, fe_e98_154, fe_e98_157, fe_e98_158, fe_e98_161, fe_e98_162, fe_e98_163, fe_e98_166, fe_e98_167, fe_e98_168, fe_e98_171, fe_e98_174, fe_e98_177, fe_e98_180, fe_e98_181, fe_e98_182, fe_e98_185, fe_e98_186, fe_e98_187, fe_e98_188, fe_e98_191, fe_e98_194, fe_e98_195, fe_e98_198, fe_e98_199, fe_e98_200, fe_e98_203, fe_e98_206, fe_e98_207, fe_e98_210, fe_e98_211, fe_e98_214, fe_e98_215, fe_e98_216, fe_e98_217, fe_e98_217r, fe_e98_218, fe_e98_221, fe_e98_222, fe_e98_223, fe_e98_226, fe_e98_229, fe_e98_232, Option.some.injEq, exists_eq_left', fe_KB_r, fe_KB_v, fe_z_add, fe_z_sub, fe_z_mul, fe_z_neg, fe_bi0, fe_bi1, fe_bibi, fe_bi01, fe_z01, fe_z11, true_and, and_true, if_true, if_false, ite_not, not_true_eq_false, not_false_eq_true, Bool.false_eq_true, Bool.true_eq_false, fe_z_mod, fe_z_eq, fe_z_lt, fe_z_le, fe_z_div, Int.reduceEq, Int.reduceLT, Int.reduceLE, Int.reduceNeg, ↓reduceIte, eq_self, Nat.reduceAdd, fe_bor, fe_tb_bi, fe_tb_0, fe_tb_1, fe_un_at, Nat.reduceEqDiff, or_false, or_true, true_or, false_or, Int.le_refl, fe_ob15, fe_g15_0, fe_p15_0, fe_g15_1, fe_g15_2, fe_g15_3, fe_g15_4, fe_g15_5, fe_g15_6, fe_g15_7, fe_g15_8, fe_g15_9, fe_g15_10, fe_g15_11, fe_g15_12, fe_p15_12, fe_g15_13, fe_g15_14, fe_g15_15, fe_g15_16, fe_g15_17, fe_g15_18, fe_p15_18, fe_g15_19, fe_p15_19, fe_g15_20, fe_g15_21, fe_p15_21, fe_aa16, fe_sa16, fe_ll16, fe_aa17, fe_sa17, fe_ll17, fe_aa18, fe_sa18, fe_ll18, fe_aa19, fe_sa19, fe_ll19, fe_aa20, fe_sa20, fe_ll20, fe_aa21, fe_sa21, fe_ll21, fe_aa22, fe_sa22, fe_ll22, fe_aa23, fe_sa23, fe_ll23, fe_aa24, fe_sa24, fe_ll24, fe_aa25, fe_sa25, fe_ll25, fe_aa26, fe_sa26, fe_ll26, fe_aa27, fe_sa27, fe_ll27, fe_aa28, fe_sa28, fe_ll28, fe_aa29, fe_sa29, fe_ll29, fe_aa30, fe_sa30, fe_ll30, fe_aa31, fe_sa31, fe_ll31, fe_aa32, fe_sa32, fe_ll32, fe_aa33, fe_sa33]
      rw [if_neg (by omega)]
      refine ih (fe_up J' i false) (fun j hj => ?_)
      rw [fe_up_at]
      split
      · rfl
      · exact h1 j (by omega)
  simp (maxSteps := 4000000) (disch := omega) only [fe_e98_0, fe_e98_1, fe_e98_3, fe_e98_6, fe_e98_9, fe_e98_10, fe_e98_13, fe_e98_14, fe_e98_15, fe_e98_16, fe_e98_19, fe_e98_22, fe_e98_23, fe_e98_24, fe_e98_27, fe_e98_28, fe_e98_29, fe_e98_30, fe_e98_33, fe_e98_36, fe_e98_37, fe_e98_38, fe_e98_39, fe_e98_40, fe_e98_43, fe_e98_46, fe_e98_47, fe_e98_50, fe_e98_51, fe_e98_52, fe_e98_55, fe_e98_56, fe_e98_57, fe_e98_58, fe_e98_59, fe_e98_62, fe_e98_63, fe_e98_64, fe_e98_67, fe_e98_68, fe_e98_71, fe_e98_72, fe_e98_73, fe_e98_74, fe_e98_75, fe_e98_78, fe_e98_79, fe_e98_80, fe_e98_81, fe_e98_82, fe_e98_85, fe_e98_87, fe_e98_88, fe_e98_89, fe_e98_90, fe_e98_91, fe_e98_92, fe_e98_95, fe_e98_98, fe_e98_99, fe_e98_99r, fe_e98_100, fe_e98_103, fe_e98_104, fe_e98_105, fe_e98_106, fe_e98_107, fe_e98_110, fe_e98_113, fe_e98_116, fe_e98_119, fe_e98_122, fe_e98_123, fe_e98_126, fe_e98_127, fe_e98_128, fe_e98_131, fe_e98_132, fe_e98_135, fe_e98_136, fe_e98_137, fe_e98_140, fe_e98_143, fe_e98_144, fe_e98_145, fe_e98_148, fe_e98_149, fe_e98_150, fe_e98_151, fe_e98_154, fe_e98_157, fe_e98_158, fe_e98_161, fe_e98_162, fe_e98_163, fe_e98_166, fe_e98_167, fe_e98_168, fe_e98_171, fe_e98_174, fe_e98_177, fe_e98_180, fe_e98_181, fe_e98_182, fe_e98_185, fe_e98_186, fe_e98_187, fe_e98_188, fe_e98_191, fe_e98_194, fe_e98_195, fe_e98_198, fe_e98_199, fe_e98_200, fe_e98_203, fe_e98_206, fe_e98_207, fe_e98_210, fe_e98_211, fe_e98_214, fe_e98_215, fe_e98_216, fe_e98_217, fe_e98_217r, fe_e98_218, fe_e98_221, fe_e98_222, fe_e98_223, fe_e98_226, fe_e98_229, fe_e98_232, Option.some.injEq, exists_eq_left', fe_KB_r, fe_KB_v, fe_z_add, fe_z_sub, fe_z_mul, fe_z_neg, fe_bi0, fe_bi1, fe_bibi, fe_bi01, fe_z01, fe_z11, true_and, and_true, if_true, if_false, ite_not, not_true_eq_false, not_false_eq_true, Bool.false_eq_true, Bool.true_eq_false, fe_z_mod, fe_z_eq, fe_z_lt, fe_z_le, fe_z_div, Int.reduceEq, Int.reduceLT, Int.reduceLE, Int.reduceNeg, ↓reduceIte, eq_self, Nat.reduceAdd, fe_bor, fe_tb_bi, fe_tb_0, fe_tb_1, fe_un_at, Nat.reduceEqDiff, or_false, or_true, true_or, false_or, Int.le_refl]
  exact L0 0 (by omega) J (fun j hj => by omega)
end Fe36

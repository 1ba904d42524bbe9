/-! the law's loop -/
theorem fe_and31n (x : Int32) : x &&& fe_z 31 = fe_z ((x.toBitVec.toNat % 32 : Nat) : Int) := by
  have h31 : ∀ e, e < 32 → fe_bt (fe_z 31) e = decide (e < 5) := by decide +kernel
  refine fe_bt_ext fun e he => ?_
  rw [fe_bt_and, h31 e he, fe_bt_z _ _ he]
  have h5 := Nat.testBit_mod_two_pow x.toBitVec.toNat 5 e
  refine Eq.trans ?_ h5.symm
  rw [Bool.and_comm]
  rfl
theorem fe_inv_0 {b : Nat} {k1 k2 : Nat} : fe_inv b 0 0 (b + 34, k1, k2) (fun _ => 0) (fun k => if k = 7 then -1 else 0) (fun _ => 0) (fun _ _ => false) (0, (fun _ => none), (fun _ => 0)) (fun _ _ => 0) (fun _ _ => 0) (fun _ _ => false) (fun _ _ _ => 0) (fun _ => 0) (fun _ _ => false) (fun _ _ => 0) := by
  refine ⟨⟨⟨fun e he => absurd he (Nat.not_lt_zero _), fun a e k h => (by cases h), fun e he => absurd he (Nat.not_lt_zero _)⟩, rfl, rfl, by decide, rfl, by decide, fun e he => absurd he (Nat.not_lt_zero _), fun k k1 k2 => by omega⟩, ⟨rfl, by decide, rfl, by decide, fun ci k1 k2 => by omega, fun k k1 k2 => by omega⟩, fun e he => absurd he (Nat.not_lt_zero _), Or.inl rfl, fun h => absurd (show (0 : Int) = 1 from h) (by decide), ⟨rfl, rfl, rfl⟩, fun e he => absurd he (Nat.not_lt_zero _), fun k k1 k2 => by omega, ⟨Nat.le_refl _, fun e he => absurd he (Nat.not_lt_zero _)⟩, fun e cell _ _ _ _ => rfl⟩
theorem fe_ST_less {b q : Nat} {h : fe_H} (hs : fe_ST b (q + 1) h) : fe_ST b q h := by
  obtain ⟨n, m, N, B, D, M, V, A, Z, T, I, O, L, C, G, R, P, F, S, J, U, o, h1, h2, h3, h4⟩ := hs
  exact ⟨n, m, N, B, D, M, V, A, Z, T, I, O, L, C, G, R, P, F, S, J, U, o, h1, h2, by omega, by omega⟩
theorem fe_loop {E : fe_E} {K : fe_R → fe_H → Prop} {b : Nat} (hE : E.1 < b) (htw : E.2.2.2 < b) (hL : E.2.1 ≤ 3584) (hK : ∀ h', K (.inl (some (.int (fe_z 1)))) h') : ∀ q i : Nat, E.2.1 ≤ i + 7 * q + 6 → i ≤ 4000 → ∀ h o5 o6, fe_ST b q h → fe_WP E 131 23 [some (.ref E.1), some (.ref b), some (.ref (b + 15)), some (.ref (b + 33)), some (.int (fe_z (i : Int))), o5, o6] [] h K := by
  intro q
  induction q with
  | zero =>
    intro i h1 h2 h o5 o6 hs
    obtain ⟨n, m, N, B, D, M, V, A, Z, T, I, O, L, C, G, R, P, F, S, J, U, o, rfl, hi, h3, h4⟩ := hs
    have hT := hi.1.1
    rw [fe_e131_23]
    simp (maxSteps := 4000000) (disch := omega) only [fe_e131_25, fe_e131_26, fe_e131_27, fe_e131_29, fe_e131_30, fe_e131_1261, fe_e131_1262, Option.some.injEq, exists_eq_left', fe_KB_r, fe_KB_v, fe_z_add, fe_z_sub, fe_z_mul, fe_z_neg, fe_bi0, fe_bi1, fe_bibi, fe_bi01, fe_z01, fe_z11, true_and, and_true, if_true, if_false, ite_not, not_true_eq_false, not_false_eq_true, Bool.false_eq_true, Bool.true_eq_false, fe_z_mod, fe_z_eq, fe_z_lt, fe_z_le, fe_z_div, Int.reduceEq, Int.reduceLT, Int.reduceLE, Int.reduceNeg, ↓reduceIte, eq_self, Nat.reduceAdd, fe_bor, fe_tb_bi, fe_tb_0, fe_tb_1, fe_un_at, Nat.reduceEqDiff, or_false, or_true, true_or, false_or, Int.le_refl, fe_rl hT hE]
    rw [if_pos (by omega)]
    exact hK _
  | succ q ih =>
    intro i h1 h2 h o5 o6 hs
    have hs0 := hs
    obtain ⟨n, m, N, B, D, M, V, A, Z, T, I, O, L, C, G, R, P, F, S, J, U, o, rfl, hi, h3, h4⟩ := hs
    have hT := hi.1.1
    by_cases hj : i + 7 ≤ E.2.1
    · have next : ∀ h' o5 o6, fe_ST b q h' → fe_WP E 131 1255 [some (.ref E.1), some (.ref b), some (.ref (b + 15)), some (.ref (b + 33)), some (.int (fe_z (i : Int))), o5, o6] [] h' K := fun h' o5 o6 hs' => by
        simp (maxSteps := 4000000) (disch := omega) only [fe_e131_1255, fe_e131_1258, Option.some.injEq, exists_eq_left', fe_KB_r, fe_KB_v, fe_z_add, fe_z_sub, fe_z_mul, fe_z_neg, fe_bi0, fe_bi1, fe_bibi, fe_bi01, fe_z01, fe_z11, true_and, and_true, if_true, if_false, ite_not, not_true_eq_false, not_false_eq_true, Bool.false_eq_true, Bool.true_eq_false, fe_z_mod, fe_z_eq, fe_z_lt, fe_z_le, fe_z_div, Int.reduceEq, Int.reduceLT, Int.reduceLE, Int.reduceNeg, ↓reduceIte, eq_self, Nat.reduceAdd, fe_bor, fe_tb_bi, fe_tb_0, fe_tb_1, fe_un_at, Nat.reduceEqDiff, or_false, or_true, true_or, false_or, Int.le_refl]
        have := ih (i + 7) (by omega) (by omega) h' o5 o6 hs'
        rw [show ((i + 7 : Nat) : Int) = (i : Int) + 7 from rfl] at this
        exact this
      have x0 : fe_ia E (fe_mk b N (fe_cc b B D M V A Z T I O L C) (fe_rc b G R P F S J U o)) E.1 (fe_z (i : Int)) = some (fe_z (fe_sX E i 0)) := by
        have := fe_rd (E := E) (b := b) (N := N) (B := B) (D := D) (M := M) (V := V) (A := A) (Z := Z) (T := T) (I := I) (O := O) (L := L) (C := C) (G := G) (R := R) (P := P) (F := F) (S := S) (J := J) (U := U) (o := o) (i := i) (k := 0) hT hE (by omega) hL
        rw [show (i : Int) + ((0 : Nat) : Int) = (i : Int) by omega] at this
        exact this
      have dflt : fe_WP E 131 1255 [some (.ref E.1), some (.ref b), some (.ref (b + 15)), some (.ref (b + 33)), some (.int (fe_z (i : Int))), o5, o6] [] (fe_mk b N (fe_cc b B D M V A Z T I O L C) (fe_rc b G R P F S J U o)) K := next _ _ _ (fe_ST_less hs0)
      rw [fe_e131_23]
      simp (maxSteps := 4000000) (disch := omega) only [fe_e131_25, fe_e131_26, fe_e131_27, fe_e131_29, fe_e131_30, fe_e131_33, fe_e131_34, fe_e131_36, fe_e131_37, fe_e131_39, Option.some.injEq, exists_eq_left', fe_KB_r, fe_KB_v, fe_z_add, fe_z_sub, fe_z_mul, fe_z_neg, fe_bi0, fe_bi1, fe_bibi, fe_bi01, fe_z01, fe_z11, true_and, and_true, if_true, if_false, ite_not, not_true_eq_false, not_false_eq_true, Bool.false_eq_true, Bool.true_eq_false, fe_z_mod, fe_z_eq, fe_z_lt, fe_z_le, fe_z_div, Int.reduceEq, Int.reduceLT, Int.reduceLE, Int.reduceNeg, ↓reduceIte, eq_self, Nat.reduceAdd, fe_bor, fe_tb_bi, fe_tb_0, fe_tb_1, fe_un_at, Nat.reduceEqDiff, or_false, or_true, true_or, false_or, Int.le_refl, fe_rl hT hE, x0]
      rw [if_neg (by omega)]
      rw [fe_and31n]
      generalize hv : (fe_z (fe_sX E i 0)).toBitVec.toNat % 32 = v
      have hv32 : v < 32 := by omega
      clear hv
      have hvc : v = 0 ∨ v = 1 ∨ v = 2 ∨ v = 3 ∨ v = 4 ∨ v = 5 ∨ v = 6 ∨ v = 7 ∨ v = 8 ∨ v = 9 ∨ v = 10 ∨ v = 11 ∨ v = 12 ∨ v = 13 ∨ v = 14 ∨ v = 15 ∨ v = 16 ∨ 16 < v := by omega
      rcases hvc with rfl | rfl | rfl | rfl | rfl | rfl | rfl | rfl | rfl | rfl | rfl | rfl | rfl | rfl | rfl | rfl | rfl | hv16
      · show fe_WP E 131 40 _ [.int (fe_z 0)] _ K
        rw [fe_e131_40c0]
        exact fe_case0 hi hE htw hj hL h3 h4 next o5 o6
      · show fe_WP E 131 40 _ [.int (fe_z 1)] _ K
        rw [fe_e131_40c1]
        exact fe_case1 hi hE htw hj hL h3 h4 next o5 o6
      · show fe_WP E 131 40 _ [.int (fe_z 2)] _ K
        rw [fe_e131_40c2]
        exact fe_case2 hi hE htw hj hL h3 h4 next o5 o6
      · show fe_WP E 131 40 _ [.int (fe_z 3)] _ K
        rw [fe_e131_40c3]
        exact fe_case3 hi hE htw hj hL h3 h4 next o5 o6
      · show fe_WP E 131 40 _ [.int (fe_z 4)] _ K
        rw [fe_e131_40c4]
        exact fe_case4 hi hE htw hj hL h3 h4 next o5 o6
      · show fe_WP E 131 40 _ [.int (fe_z 5)] _ K
        rw [fe_e131_40c5]
        exact fe_case5 hi hE htw hj hL h3 h4 next o5 o6
      · show fe_WP E 131 40 _ [.int (fe_z 6)] _ K
        rw [fe_e131_40c6]
        exact fe_case6 hi hE htw hj hL h3 h4 next o5 o6
      · show fe_WP E 131 40 _ [.int (fe_z 7)] _ K
        rw [fe_e131_40c7]
        exact fe_case7 hi hE htw hj hL h3 h4 next o5 o6
      · show fe_WP E 131 40 _ [.int (fe_z 8)] _ K
        rw [fe_e131_40c8]
        exact fe_case8 hi hE htw hj hL h3 h4 next o5 o6
      · show fe_WP E 131 40 _ [.int (fe_z 9)] _ K
        rw [fe_e131_40c9]
        exact fe_case9 hi hE htw hj hL h3 h4 next o5 o6
      · show fe_WP E 131 40 _ [.int (fe_z 10)] _ K
        rw [fe_e131_40c10]
        exact fe_case10 hi hE htw hj hL h3 h4 next o5 o6
      · show fe_WP E 131 40 _ [.int (fe_z 11)] _ K
        rw [fe_e131_40c11]
        exact fe_case11 hi hE htw hj hL h3 h4 next o5 o6
      · show fe_WP E 131 40 _ [.int (fe_z 12)] _ K
        rw [fe_e131_40c12]
        exact fe_case12 hi hE htw hj hL h3 h4 next o5 o6
      · show fe_WP E 131 40 _ [.int (fe_z 13)] _ K
        rw [fe_e131_40c13]
        exact fe_case13 hi hE htw hj hL h3 h4 next o5 o6
      · show fe_WP E 131 40 _ [.int (fe_z 14)] _ K
        rw [fe_e131_40c14]
        exact fe_case14 hi hE htw hj hL h3 h4 next o5 o6
      · show fe_WP E 131 40 _ [.int (fe_z 15)] _ K
        rw [fe_e131_40c15]
        exact fe_case15 hi hE htw hj hL h3 h4 next o5 o6
      · show fe_WP E 131 40 _ [.int (fe_z 16)] _ K
        rw [fe_e131_40c16]
        exact fe_case16 hi hE htw hj hL h3 h4 next o5 o6
      · rw [fe_e131_40d (by rw [fe_z_toInt (by omega) (by omega)]; omega)]
        exact dflt
    · rw [fe_e131_23]
      simp (maxSteps := 4000000) (disch := omega) only [fe_e131_25, fe_e131_26, fe_e131_27, fe_e131_29, fe_e131_30, fe_e131_1261, fe_e131_1262, Option.some.injEq, exists_eq_left', fe_KB_r, fe_KB_v, fe_z_add, fe_z_sub, fe_z_mul, fe_z_neg, fe_bi0, fe_bi1, fe_bibi, fe_bi01, fe_z01, fe_z11, true_and, and_true, if_true, if_false, ite_not, not_true_eq_false, not_false_eq_true, Bool.false_eq_true, Bool.true_eq_false, fe_z_mod, fe_z_eq, fe_z_lt, fe_z_le, fe_z_div, Int.reduceEq, Int.reduceLT, Int.reduceLE, Int.reduceNeg, ↓reduceIte, eq_self, Nat.reduceAdd, fe_bor, fe_tb_bi, fe_tb_0, fe_tb_1, fe_un_at, Nat.reduceEqDiff, or_false, or_true, true_or, false_or, Int.le_refl, fe_rl hT hE]
      rw [if_pos (by omega)]
      exact hK _
/-- as fe_Law, where the static row lies ahead of what is made -/
def fe_Law2 : Prop := ∀ (b L : Nat) (xs : Nat → Int32) (tw sz : Nat), L ≤ 3584 → b < sz → tw < sz → ∃ (n : Nat) (h' : fe_H), fe_run (b, L, xs, tw) n 131 0 (fe_ent 131 [.ref b]) [] (fe_h1 sz) = some (.inl (some (.int 1)), h')
theorem fe_law : fe_Law2 := by
  intro a L xs tw b hL hb ht
  have w : fe_WP (a, L, xs, tw) 131 0 [some (.ref a), none, none, none, none, none, none] [] (fe_h1 b) (fun r _ => r = .inl (some (.int (fe_z 1)))) := by
    refine fe_begin (E := (a, L, xs, tw)) ?_
    refine fe_loop (E := (a, L, xs, tw)) hb ht hL (fun _ => rfl) 512 0 (by show L ≤ 0 + 7 * 512 + 6; omega) (by omega) _ _ _ ?_
    exact ⟨0, 0, _, _, _, _, _, _, _, _, _, _, _, _, _, _, _, _, _, _, _, _, rfl, fe_inv_0, Nat.le_of_ble_eq_true rfl, Nat.le_of_ble_eq_true rfl⟩
  obtain ⟨n, r, h', h1, h2⟩ := w
  have h2 : r = .inl (some (.int (fe_z 1))) := h2
  subst h2
  exact ⟨n, h', h1⟩

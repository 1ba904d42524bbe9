/-! the class: a new camera -/
def fe_q5 (h : fe_H) (k s : Nat) (c0 c1 c2 c3 c4 : Option fe_C) : fe_H := (h.1 + k, h.2.1 - k, h.2.2.1 - s, fun a => if a = h.1 then c0 else if a = h.1 + 1 then c1 else if a = h.1 + 2 then c2 else if a = h.1 + 3 then c3 else if a = h.1 + 4 then c4 else h.2.2.2 a)
section Fe53q
variable {E : fe_E} {K : fe_R → fe_H → Prop} {h : fe_H} {k s n a i ci : Nat} {c0 c1 c2 c3 c4 : Option fe_C} {c : fe_C}
theorem fe_q5_1 : (fe_q5 h k s c0 c1 c2 c3 c4).1 = h.1 + k := rfl
theorem fe_q5_nw (h1 : k + 1 ≤ h.2.1) (h2 : s + n ≤ h.2.2.1) : fe_nw (fe_q5 h k s c0 c1 c2 c3 c4) n = true := by
  show (decide (1 ≤ h.2.1 - k) && decide (n ≤ h.2.2.1 - s)) = true
  rw [Bool.and_eq_true, decide_eq_true_eq, decide_eq_true_eq]
  omega
theorem fe_q5_new (hf : ∀ a, h.1 ≤ a → fe_get h a = none) : fe_add h n c = fe_q5 h 1 n (some c) none none none none := by
  simp only [fe_add, fe_q5, Prod.mk.injEq, true_and]
  funext a
  have f := hf a
  simp only [fe_get] at f
  by_cases h0 : a = h.1
  · simp [h0]
  · simp only [if_neg h0]
    by_cases h9 : h.1 ≤ a
    · rw [f h9]
      repeat' split
      all_goals rfl
    · rw [if_neg (by omega), if_neg (by omega), if_neg (by omega), if_neg (by omega)]
theorem fe_q5_add1 : fe_add (fe_q5 h 1 s c0 none none none none) n c = fe_q5 h 2 (s + n) c0 (some c) none none none := by
  refine Prod.ext ?_ (Prod.ext ?_ (Prod.ext ?_ ?_))
  · show h.1 + 1 + 1 = h.1 + (1 + 1)
    omega
  · show h.2.1 - 1 - 1 = h.2.1 - (1 + 1)
    omega
  · show h.2.2.1 - s - n = h.2.2.1 - (s + n)
    omega
  funext a
  unfold fe_add fe_q5
  dsimp only
  by_cases hk : a = h.1 + 1
  · subst hk
    simp
  · simp only [if_neg hk]
theorem fe_q5_add2 : fe_add (fe_q5 h 2 s c0 c1 none none none) n c = fe_q5 h 3 (s + n) c0 c1 (some c) none none := by
  refine Prod.ext ?_ (Prod.ext ?_ (Prod.ext ?_ ?_))
  · show h.1 + 2 + 1 = h.1 + (2 + 1)
    omega
  · show h.2.1 - 2 - 1 = h.2.1 - (2 + 1)
    omega
  · show h.2.2.1 - s - n = h.2.2.1 - (s + n)
    omega
  funext a
  unfold fe_add fe_q5
  dsimp only
  by_cases hk : a = h.1 + 2
  · subst hk
    simp
  · simp only [if_neg hk]
theorem fe_q5_add3 : fe_add (fe_q5 h 3 s c0 c1 c2 none none) n c = fe_q5 h 4 (s + n) c0 c1 c2 (some c) none := by
  refine Prod.ext ?_ (Prod.ext ?_ (Prod.ext ?_ ?_))
  · show h.1 + 3 + 1 = h.1 + (3 + 1)
    omega
  · show h.2.1 - 3 - 1 = h.2.1 - (3 + 1)
    omega
  · show h.2.2.1 - s - n = h.2.2.1 - (s + n)
    omega
  funext a
  unfold fe_add fe_q5
  dsimp only
  by_cases hk : a = h.1 + 3
  · subst hk
    simp
  · simp only [if_neg hk]
theorem fe_q5_add4 : fe_add (fe_q5 h 4 s c0 c1 c2 c3 none) n c = fe_q5 h 5 (s + n) c0 c1 c2 c3 (some c) := by
  refine Prod.ext ?_ (Prod.ext ?_ (Prod.ext ?_ ?_))
  · show h.1 + 4 + 1 = h.1 + (4 + 1)
    omega
  · show h.2.1 - 4 - 1 = h.2.1 - (4 + 1)
    omega
  · show h.2.2.1 - s - n = h.2.2.1 - (s + n)
    omega
  funext a
  unfold fe_add fe_q5
  dsimp only
  by_cases hk : a = h.1 + 4
  · subst hk
    simp
  · simp only [if_neg hk]
theorem fe_q5_g0 : fe_get (fe_q5 h k s c0 c1 c2 c3 c4) (h.1) = c0 := by simp [fe_get, fe_q5]
theorem fe_q5_p0 : fe_put (fe_q5 h k s c0 c1 c2 c3 c4) (h.1) c = fe_q5 h k s (some c) c1 c2 c3 c4 := by
  simp only [fe_put, fe_q5, Prod.mk.injEq, true_and]
  funext a
  by_cases hk : a = h.1
  · subst hk
    simp
  · simp only [if_neg hk]
theorem fe_q5_g1 : fe_get (fe_q5 h k s c0 c1 c2 c3 c4) (h.1 + 1) = c1 := by simp [fe_get, fe_q5]
theorem fe_q5_p1 : fe_put (fe_q5 h k s c0 c1 c2 c3 c4) (h.1 + 1) c = fe_q5 h k s c0 (some c) c2 c3 c4 := by
  simp only [fe_put, fe_q5, Prod.mk.injEq, true_and]
  funext a
  by_cases hk : a = h.1 + 1
  · subst hk
    simp
  · simp only [if_neg hk]
theorem fe_q5_g2 : fe_get (fe_q5 h k s c0 c1 c2 c3 c4) (h.1 + 2) = c2 := by simp [fe_get, fe_q5]
theorem fe_q5_p2 : fe_put (fe_q5 h k s c0 c1 c2 c3 c4) (h.1 + 2) c = fe_q5 h k s c0 c1 (some c) c3 c4 := by
  simp only [fe_put, fe_q5, Prod.mk.injEq, true_and]
  funext a
  by_cases hk : a = h.1 + 2
  · subst hk
    simp
  · simp only [if_neg hk]
theorem fe_q5_g3 : fe_get (fe_q5 h k s c0 c1 c2 c3 c4) (h.1 + 3) = c3 := by simp [fe_get, fe_q5]
theorem fe_q5_p3 : fe_put (fe_q5 h k s c0 c1 c2 c3 c4) (h.1 + 3) c = fe_q5 h k s c0 c1 c2 (some c) c4 := by
  simp only [fe_put, fe_q5, Prod.mk.injEq, true_and]
  funext a
  by_cases hk : a = h.1 + 3
  · subst hk
    simp
  · simp only [if_neg hk]
theorem fe_q5_g4 : fe_get (fe_q5 h k s c0 c1 c2 c3 c4) (h.1 + 4) = c4 := by simp [fe_get, fe_q5]
theorem fe_q5_p4 : fe_put (fe_q5 h k s c0 c1 c2 c3 c4) (h.1 + 4) c = fe_q5 h k s c0 c1 c2 c3 (some c) := by
  simp only [fe_put, fe_q5, Prod.mk.injEq, true_and]
  funext a
  by_cases hk : a = h.1 + 4
  · subst hk
    simp
  · simp only [if_neg hk]
theorem fe_q5_gb (ha : a < h.1) : fe_get (fe_q5 h k s c0 c1 c2 c3 c4) a = fe_get h a := by
  simp only [fe_get, fe_q5]
  iterate 5 rw [if_neg (by omega)]
theorem fe_q5_pb (ha : a < h.1) : fe_put (fe_q5 h k s c0 c1 c2 c3 c4) a c = fe_q5 (fe_put h a c) k s c0 c1 c2 c3 c4 := by
  simp only [fe_put, fe_q5, Prod.mk.injEq, true_and]
  funext x
  by_cases hx : x = a
  · subst hx
    simp only [if_neg (show ¬ x = h.1 by omega), if_neg (show ¬ x = h.1 + 1 by omega), if_neg (show ¬ x = h.1 + 2 by omega), if_neg (show ¬ x = h.1 + 3 by omega), if_neg (show ¬ x = h.1 + 4 by omega), if_true]
  · simp only [if_neg hx]
theorem fe_q5_ext {h' : fe_H} (q : Nat) (hq : h.1 = q) (e1 : q + k = h'.1) (e2 : h.2.1 - k = h'.2.1) (e3 : h.2.2.1 - s = h'.2.2.1) (g0 : h'.2.2.2 q = c0) (g1 : h'.2.2.2 (q + 1) = c1) (g2 : h'.2.2.2 (q + 2) = c2) (g3 : h'.2.2.2 (q + 3) = c3) (g4 : h'.2.2.2 (q + 4) = c4) (gr : ∀ a, ¬ a = q → ¬ a = q + 1 → ¬ a = q + 2 → ¬ a = q + 3 → ¬ a = q + 4 → h'.2.2.2 a = h.2.2.2 a) : fe_q5 h k s c0 c1 c2 c3 c4 = h' := by
  subst hq
  obtain ⟨w1, w2, w3, w4⟩ := h'
  dsimp only at e1 e2 e3 g0 g1 g2 g3 g4 gr
  unfold fe_q5
  rw [e1, e2, e3]
  simp only [Prod.mk.injEq, true_and]
  funext a
  by_cases a0 : a = h.1
  · rw [if_pos a0, a0, g0]
  rw [if_neg a0]
  by_cases a1 : a = h.1 + 1
  · rw [if_pos a1, a1, g1]
  rw [if_neg a1]
  by_cases a2 : a = h.1 + 2
  · rw [if_pos a2, a2, g2]
  rw [if_neg a2]
  by_cases a3 : a = h.1 + 3
  · rw [if_pos a3, a3, g3]
  rw [if_neg a3]
  by_cases a4 : a = h.1 + 4
  · rw [if_pos a4, a4, g4]
  rw [if_neg a4]
  exact (gr a a0 a1 a2 a3 a4).symm
variable {v0 v1 v2 v3 v4 v5 v6 v7 v8 v9 v10 v11 w : Value}
theorem fe_q5_gf0 : fe_gf (fe_q5 h k s (some (fe_O 1 [v0, v1, v2, v3, v4, v5, v6, v7, v8, v9, v10, v11])) c1 c2 c3 c4) h.1 1 0 = some v0 := fe_gf_of fe_q5_g0
theorem fe_q5_pf0 : fe_pf (fe_q5 h k s (some (fe_O 1 [v0, v1, v2, v3, v4, v5, v6, v7, v8, v9, v10, v11])) c1 c2 c3 c4) h.1 1 0 w = some (fe_q5 h k s (some (fe_O 1 [w, v1, v2, v3, v4, v5, v6, v7, v8, v9, v10, v11])) c1 c2 c3 c4) := fe_pf_of fe_q5_g0 (Nat.le_of_ble_eq_true rfl) fe_q5_p0
theorem fe_q5_gf1 : fe_gf (fe_q5 h k s (some (fe_O 1 [v0, v1, v2, v3, v4, v5, v6, v7, v8, v9, v10, v11])) c1 c2 c3 c4) h.1 1 1 = some v1 := fe_gf_of fe_q5_g0
theorem fe_q5_pf1 : fe_pf (fe_q5 h k s (some (fe_O 1 [v0, v1, v2, v3, v4, v5, v6, v7, v8, v9, v10, v11])) c1 c2 c3 c4) h.1 1 1 w = some (fe_q5 h k s (some (fe_O 1 [v0, w, v2, v3, v4, v5, v6, v7, v8, v9, v10, v11])) c1 c2 c3 c4) := fe_pf_of fe_q5_g0 (Nat.le_of_ble_eq_true rfl) fe_q5_p0
theorem fe_q5_gf2 : fe_gf (fe_q5 h k s (some (fe_O 1 [v0, v1, v2, v3, v4, v5, v6, v7, v8, v9, v10, v11])) c1 c2 c3 c4) h.1 1 2 = some v2 := fe_gf_of fe_q5_g0
theorem fe_q5_pf2 : fe_pf (fe_q5 h k s (some (fe_O 1 [v0, v1, v2, v3, v4, v5, v6, v7, v8, v9, v10, v11])) c1 c2 c3 c4) h.1 1 2 w = some (fe_q5 h k s (some (fe_O 1 [v0, v1, w, v3, v4, v5, v6, v7, v8, v9, v10, v11])) c1 c2 c3 c4) := fe_pf_of fe_q5_g0 (Nat.le_of_ble_eq_true rfl) fe_q5_p0
theorem fe_q5_gf3 : fe_gf (fe_q5 h k s (some (fe_O 1 [v0, v1, v2, v3, v4, v5, v6, v7, v8, v9, v10, v11])) c1 c2 c3 c4) h.1 1 3 = some v3 := fe_gf_of fe_q5_g0
theorem fe_q5_pf3 : fe_pf (fe_q5 h k s (some (fe_O 1 [v0, v1, v2, v3, v4, v5, v6, v7, v8, v9, v10, v11])) c1 c2 c3 c4) h.1 1 3 w = some (fe_q5 h k s (some (fe_O 1 [v0, v1, v2, w, v4, v5, v6, v7, v8, v9, v10, v11])) c1 c2 c3 c4) := fe_pf_of fe_q5_g0 (Nat.le_of_ble_eq_true rfl) fe_q5_p0
theorem fe_q5_gf4 : fe_gf (fe_q5 h k s (some (fe_O 1 [v0, v1, v2, v3, v4, v5, v6, v7, v8, v9, v10, v11])) c1 c2 c3 c4) h.1 1 4 = some v4 := fe_gf_of fe_q5_g0
theorem fe_q5_pf4 : fe_pf (fe_q5 h k s (some (fe_O 1 [v0, v1, v2, v3, v4, v5, v6, v7, v8, v9, v10, v11])) c1 c2 c3 c4) h.1 1 4 w = some (fe_q5 h k s (some (fe_O 1 [v0, v1, v2, v3, w, v5, v6, v7, v8, v9, v10, v11])) c1 c2 c3 c4) := fe_pf_of fe_q5_g0 (Nat.le_of_ble_eq_true rfl) fe_q5_p0
theorem fe_q5_gf5 : fe_gf (fe_q5 h k s (some (fe_O 1 [v0, v1, v2, v3, v4, v5, v6, v7, v8, v9, v10, v11])) c1 c2 c3 c4) h.1 1 5 = some v5 := fe_gf_of fe_q5_g0
theorem fe_q5_pf5 : fe_pf (fe_q5 h k s (some (fe_O 1 [v0, v1, v2, v3, v4, v5, v6, v7, v8, v9, v10, v11])) c1 c2 c3 c4) h.1 1 5 w = some (fe_q5 h k s (some (fe_O 1 [v0, v1, v2, v3, v4, w, v6, v7, v8, v9, v10, v11])) c1 c2 c3 c4) := fe_pf_of fe_q5_g0 (Nat.le_of_ble_eq_true rfl) fe_q5_p0
theorem fe_q5_gf6 : fe_gf (fe_q5 h k s (some (fe_O 1 [v0, v1, v2, v3, v4, v5, v6, v7, v8, v9, v10, v11])) c1 c2 c3 c4) h.1 1 6 = some v6 := fe_gf_of fe_q5_g0
theorem fe_q5_pf6 : fe_pf (fe_q5 h k s (some (fe_O 1 [v0, v1, v2, v3, v4, v5, v6, v7, v8, v9, v10, v11])) c1 c2 c3 c4) h.1 1 6 w = some (fe_q5 h k s (some (fe_O 1 [v0, v1, v2, v3, v4, v5, w, v7, v8, v9, v10, v11])) c1 c2 c3 c4) := fe_pf_of fe_q5_g0 (Nat.le_of_ble_eq_true rfl) fe_q5_p0
theorem fe_q5_gf7 : fe_gf (fe_q5 h k s (some (fe_O 1 [v0, v1, v2, v3, v4, v5, v6, v7, v8, v9, v10, v11])) c1 c2 c3 c4) h.1 1 7 = some v7 := fe_gf_of fe_q5_g0
theorem fe_q5_pf7 : fe_pf (fe_q5 h k s (some (fe_O 1 [v0, v1, v2, v3, v4, v5, v6, v7, v8, v9, v10, v11])) c1 c2 c3 c4) h.1 1 7 w = some (fe_q5 h k s (some (fe_O 1 [v0, v1, v2, v3, v4, v5, v6, w, v8, v9, v10, v11])) c1 c2 c3 c4) := fe_pf_of fe_q5_g0 (Nat.le_of_ble_eq_true rfl) fe_q5_p0
theorem fe_q5_gf8 : fe_gf (fe_q5 h k s (some (fe_O 1 [v0, v1, v2, v3, v4, v5, v6, v7, v8, v9, v10, v11])) c1 c2 c3 c4) h.1 1 8 = some v8 := fe_gf_of fe_q5_g0
theorem fe_q5_pf8 : fe_pf (fe_q5 h k s (some (fe_O 1 [v0, v1, v2, v3, v4, v5, v6, v7, v8, v9, v10, v11])) c1 c2 c3 c4) h.1 1 8 w = some (fe_q5 h k s (some (fe_O 1 [v0, v1, v2, v3, v4, v5, v6, v7, w, v9, v10, v11])) c1 c2 c3 c4) := fe_pf_of fe_q5_g0 (Nat.le_of_ble_eq_true rfl) fe_q5_p0
theorem fe_q5_gf9 : fe_gf (fe_q5 h k s (some (fe_O 1 [v0, v1, v2, v3, v4, v5, v6, v7, v8, v9, v10, v11])) c1 c2 c3 c4) h.1 1 9 = some v9 := fe_gf_of fe_q5_g0
theorem fe_q5_pf9 : fe_pf (fe_q5 h k s (some (fe_O 1 [v0, v1, v2, v3, v4, v5, v6, v7, v8, v9, v10, v11])) c1 c2 c3 c4) h.1 1 9 w = some (fe_q5 h k s (some (fe_O 1 [v0, v1, v2, v3, v4, v5, v6, v7, v8, w, v10, v11])) c1 c2 c3 c4) := fe_pf_of fe_q5_g0 (Nat.le_of_ble_eq_true rfl) fe_q5_p0
theorem fe_q5_gf10 : fe_gf (fe_q5 h k s (some (fe_O 1 [v0, v1, v2, v3, v4, v5, v6, v7, v8, v9, v10, v11])) c1 c2 c3 c4) h.1 1 10 = some v10 := fe_gf_of fe_q5_g0
theorem fe_q5_pf10 : fe_pf (fe_q5 h k s (some (fe_O 1 [v0, v1, v2, v3, v4, v5, v6, v7, v8, v9, v10, v11])) c1 c2 c3 c4) h.1 1 10 w = some (fe_q5 h k s (some (fe_O 1 [v0, v1, v2, v3, v4, v5, v6, v7, v8, v9, w, v11])) c1 c2 c3 c4) := fe_pf_of fe_q5_g0 (Nat.le_of_ble_eq_true rfl) fe_q5_p0
theorem fe_q5_gf11 : fe_gf (fe_q5 h k s (some (fe_O 1 [v0, v1, v2, v3, v4, v5, v6, v7, v8, v9, v10, v11])) c1 c2 c3 c4) h.1 1 11 = some v11 := fe_gf_of fe_q5_g0
theorem fe_q5_pf11 : fe_pf (fe_q5 h k s (some (fe_O 1 [v0, v1, v2, v3, v4, v5, v6, v7, v8, v9, v10, v11])) c1 c2 c3 c4) h.1 1 11 w = some (fe_q5 h k s (some (fe_O 1 [v0, v1, v2, v3, v4, v5, v6, v7, v8, v9, v10, w])) c1 c2 c3 c4) := fe_pf_of fe_q5_g0 (Nat.le_of_ble_eq_true rfl) fe_q5_p0
theorem fe_q5_ob : fe_ob (fe_q5 h k s (some (fe_O 1 [v0, v1, v2, v3, v4, v5, v6, v7, v8, v9, v10, v11])) c1 c2 c3 c4) h.1 1 = true := fe_ob_of fe_q5_g0
theorem fe_q5_is {f : Int → Int} {j v : Int} (h0 : 0 ≤ j) (h1 : j < 8) : fe_is (fe_q5 h k s c0 (some (fe_rI 8 f)) c2 c3 c4) (h.1 + 1) (fe_z j) (fe_z v) = some (fe_q5 h k s c0 (some (fe_rI 8 (fe_up f j v))) c2 c3 c4) := fe_is_of fe_q5_g1 h0 h1 (by omega) fe_q5_p1
theorem fe_I8 : fe_I 8 (fun _ => 0) = fe_rI 8 (fun _ => 0) := rfl
theorem fe_I192 : fe_I 192 (fun _ => 0) = fe_rI 192 (fun _ => 0) := rfl
theorem fe_Z192 : fe_Z 192 (fun _ => false) = fe_rZ 192 (fun _ => false) := rfl
theorem fe_m4 {fl : Nat} {x y rc co : Int} {p : Bool} (r1 : 5 ≤ h.2.1) (r2 : 596 ≤ h.2.2.1) (hK : ∀ f1 f2 : Int → Int, (∀ j : Int, 0 ≤ j → j < 192 → f1 j = -1) → (∀ j : Int, 0 ≤ j → j < 192 → f2 j = -1) → K (.inl none) (fe_q5 h 5 596 (some (fe_O 1 [.ref fl, .int (fe_z x), .int (fe_z y), .int (fe_z rc), .int (fe_z co), .int (fe_bi p), .ref (h.1 + 1), .int (fe_z 0), .int (fe_z 0), .ref (h.1 + 2), .ref (h.1 + 3), .ref (h.1 + 4)])) (some (fe_rI 8 (fun _ => 0))) (some (fe_rZ 192 (fun _ => false))) (some (fe_rI 192 f1)) (some (fe_rI 192 f2)))) : fe_WP E 4 0 [some (.ref h.1), some (.ref fl), some (.int (fe_z x)), some (.int (fe_z y)), some (.int (fe_z rc)), some (.int (fe_z co)), some (.int (fe_bi p))] [] (fe_q5 h 1 12 (some (fe_O 1 [.null, .int (fe_z 0), .int (fe_z 0), .int (fe_z 0), .int (fe_z 0), .int (fe_z 0), .null, .int (fe_z 0), .int (fe_z 0), .null, .null, .null])) none none none none) K := by
  simp (maxSteps := 4000000) (disch := omega) only [fe_e4_0, fe_e4_1, fe_e4_4, fe_e4_5, fe_e4_6, fe_e4_9, fe_e4_10, fe_e4_11, fe_e4_14, fe_e4_15, fe_e4_16, fe_e4_19, fe_e4_20, fe_e4_22, fe_e4_25, fe_e4_26, fe_e4_28, fe_e4_31, fe_e4_32, fe_e4_34, fe_e4_37, fe_e4_38, fe_e4_40, fe_e4_42, fe_e4_45, fe_e4_46, fe_e4_47, fe_e4_50, fe_e4_51, fe_e4_52, fe_e4_55, fe_e4_56, fe_e4_59, fe_e4_61, fe_e4_64, fe_e4_65, fe_e4_68, fe_e4_70, fe_e4_73, fe_e4_74, fe_e4_77, fe_e4_79, fe_e4_82, fe_e4_83, fe_e4_86, fe_e4_87, fe_e4_90, fe_e4_91, fe_e4_94, fe_e4_95, fe_e4_98, Option.some.injEq, exists_eq_left', fe_KB_r, fe_KB_v, fe_z_add, fe_z_sub, fe_z_mul, fe_z_neg, fe_bi0, fe_bi1, fe_bibi, fe_bi01, fe_z01, fe_z11, true_and, and_true, if_true, if_false, ite_not, not_true_eq_false, not_false_eq_true, Bool.false_eq_true, Bool.true_eq_false, fe_z_mod, fe_z_eq, fe_z_lt, fe_z_le, fe_z_div, Int.reduceEq, Int.reduceLT, Int.reduceLE, Int.reduceNeg, ↓reduceIte, eq_self, Nat.reduceAdd, fe_bor, fe_tb_bi, fe_tb_0, fe_tb_1, fe_un_at, Nat.reduceEqDiff, or_false, or_true, true_or, false_or, Int.le_refl, fe_q5_gf0, fe_q5_pf0, fe_q5_gf1, fe_q5_pf1, fe_q5_gf2, fe_q5_pf2, fe_q5_gf3, fe_q5_pf3, fe_q5_gf4, fe_q5_pf4, fe_q5_gf5, fe_q5_pf5, fe_q5_gf6, fe_q5_pf6, fe_q5_gf7, fe_q5_pf7, fe_q5_gf8, fe_q5_pf8, fe_q5_gf9, fe_q5_pf9, fe_q5_gf10, fe_q5_pf10, fe_q5_gf11, fe_q5_pf11, Nat.reduceAdd, fe_I8, fe_I192, fe_Z192, fe_q5_1, fe_q5_nw, fe_q5_add1, fe_q5_add2, fe_q5_add3, fe_q5_add4]
  refine fe_m118 (n := 192) (f := fun _ => 0) fe_q5_g3 (by decide) (fun f1 h1 => ?_)
  rw [fe_q5_p3]
  simp (maxSteps := 4000000) (disch := omega) only [fe_e4_0, fe_e4_1, fe_e4_4, fe_e4_5, fe_e4_6, fe_e4_9, fe_e4_10, fe_e4_11, fe_e4_14, fe_e4_15, fe_e4_16, fe_e4_19, fe_e4_20, fe_e4_22, fe_e4_25, fe_e4_26, fe_e4_28, fe_e4_31, fe_e4_32, fe_e4_34, fe_e4_37, fe_e4_38, fe_e4_40, fe_e4_42, fe_e4_45, fe_e4_46, fe_e4_47, fe_e4_50, fe_e4_51, fe_e4_52, fe_e4_55, fe_e4_56, fe_e4_59, fe_e4_61, fe_e4_64, fe_e4_65, fe_e4_68, fe_e4_70, fe_e4_73, fe_e4_74, fe_e4_77, fe_e4_79, fe_e4_82, fe_e4_83, fe_e4_86, fe_e4_87, fe_e4_90, fe_e4_91, fe_e4_94, fe_e4_95, fe_e4_98, Option.some.injEq, exists_eq_left', fe_KB_r, fe_KB_v, fe_z_add, fe_z_sub, fe_z_mul, fe_z_neg, fe_bi0, fe_bi1, fe_bibi, fe_bi01, fe_z01, fe_z11, true_and, and_true, if_true, if_false, ite_not, not_true_eq_false, not_false_eq_true, Bool.false_eq_true, Bool.true_eq_false, fe_z_mod, fe_z_eq, fe_z_lt, fe_z_le, fe_z_div, Int.reduceEq, Int.reduceLT, Int.reduceLE, Int.reduceNeg, ↓reduceIte, eq_self, Nat.reduceAdd, fe_bor, fe_tb_bi, fe_tb_0, fe_tb_1, fe_un_at, Nat.reduceEqDiff, or_false, or_true, true_or, false_or, Int.le_refl, fe_q5_gf0, fe_q5_pf0, fe_q5_gf1, fe_q5_pf1, fe_q5_gf2, fe_q5_pf2, fe_q5_gf3, fe_q5_pf3, fe_q5_gf4, fe_q5_pf4, fe_q5_gf5, fe_q5_pf5, fe_q5_gf6, fe_q5_pf6, fe_q5_gf7, fe_q5_pf7, fe_q5_gf8, fe_q5_pf8, fe_q5_gf9, fe_q5_pf9, fe_q5_gf10, fe_q5_pf10, fe_q5_gf11, fe_q5_pf11, Nat.reduceAdd, fe_I8, fe_I192, fe_Z192]
  refine fe_m118 (n := 192) (f := fun _ => 0) fe_q5_g4 (by decide) (fun f2 h2 => ?_)
  rw [fe_q5_p4]
  simp (maxSteps := 4000000) (disch := omega) only [fe_e4_0, fe_e4_1, fe_e4_4, fe_e4_5, fe_e4_6, fe_e4_9, fe_e4_10, fe_e4_11, fe_e4_14, fe_e4_15, fe_e4_16, fe_e4_19, fe_e4_20, fe_e4_22, fe_e4_25, fe_e4_26, fe_e4_28, fe_e4_31, fe_e4_32, fe_e4_34, fe_e4_37, fe_e4_38, fe_e4_40, fe_e4_42, fe_e4_45, fe_e4_46, fe_e4_47, fe_e4_50, fe_e4_51, fe_e4_52, fe_e4_55, fe_e4_56, fe_e4_59, fe_e4_61, fe_e4_64, fe_e4_65, fe_e4_68, fe_e4_70, fe_e4_73, fe_e4_74, fe_e4_77, fe_e4_79, fe_e4_82, fe_e4_83, fe_e4_86, fe_e4_87, fe_e4_90, fe_e4_91, fe_e4_94, fe_e4_95, fe_e4_98, Option.some.injEq, exists_eq_left', fe_KB_r, fe_KB_v, fe_z_add, fe_z_sub, fe_z_mul, fe_z_neg, fe_bi0, fe_bi1, fe_bibi, fe_bi01, fe_z01, fe_z11, true_and, and_true, if_true, if_false, ite_not, not_true_eq_false, not_false_eq_true, Bool.false_eq_true, Bool.true_eq_false, fe_z_mod, fe_z_eq, fe_z_lt, fe_z_le, fe_z_div, Int.reduceEq, Int.reduceLT, Int.reduceLE, Int.reduceNeg, ↓reduceIte, eq_self, Nat.reduceAdd, fe_bor, fe_tb_bi, fe_tb_0, fe_tb_1, fe_un_at, Nat.reduceEqDiff, or_false, or_true, true_or, false_or, Int.le_refl, fe_q5_gf0, fe_q5_pf0, fe_q5_gf1, fe_q5_pf1, fe_q5_gf2, fe_q5_pf2, fe_q5_gf3, fe_q5_pf3, fe_q5_gf4, fe_q5_pf4, fe_q5_gf5, fe_q5_pf5, fe_q5_gf6, fe_q5_pf6, fe_q5_gf7, fe_q5_pf7, fe_q5_gf8, fe_q5_pf8, fe_q5_gf9, fe_q5_pf9, fe_q5_gf10, fe_q5_pf10, fe_q5_gf11, fe_q5_pf11, Nat.reduceAdd, fe_I8, fe_I192, fe_Z192]
  exact hK f1 f2 h1 h2
theorem fe_m5q {fl : Nat} {x y rc co w : Int} {p : Bool} (hw : 0 ≤ w ∧ w ≤ 7) : fe_WP E 5 0 [some (.ref h.1), some (.int (fe_z w))] [] (fe_q5 h 5 596 (some (fe_O 1 [.ref fl, .int (fe_z x), .int (fe_z y), .int (fe_z rc), .int (fe_z co), .int (fe_bi p), .ref (h.1 + 1), .int (fe_z 0), .int (fe_z 0), .ref (h.1 + 2), .ref (h.1 + 3), .ref (h.1 + 4)])) (some (fe_rI 8 (fun _ => 0))) c2 c3 c4) K ↔ K (.inl (some (.int (fe_z 1)))) (fe_q5 h 5 596 (some (fe_O 1 [.ref fl, .int (fe_z x), .int (fe_z y), .int (fe_z rc), .int (fe_z co), .int (fe_bi p), .ref (h.1 + 1), .int (fe_z 1), .int (fe_z ((2 ^ w.toNat : Nat) : Int)), .ref (h.1 + 2), .ref (h.1 + 3), .ref (h.1 + 4)])) (some (fe_rI 8 (fe_up (fun _ => 0) 0 w))) c2 c3 c4) := by
  have h0 : ∀ x : Nat, fe_z 0 ||| fe_z (x : Int) = fe_z (x : Int) := fun x => by
    have := fe_z_or 0 x
    rw [Nat.zero_or] at this
    exact this
  simp (maxSteps := 4000000) (disch := omega) only [fe_e5_0, fe_e5_1, fe_e5_4, fe_e5_6, fe_e5_9, fe_e5_10, fe_e5_11, fe_e5_12, fe_e5_15, fe_e5_16, fe_e5_19, fe_e5_20, fe_e5_21, fe_e5_22, fe_e5_22r, fe_e5_23, fe_e5_26, fe_e5_27, fe_e5_28, fe_e5_31, fe_e5_32, fe_e5_32r, fe_e5_33, fe_e5_36, fe_e5_37, fe_e5_38, fe_e5_39, fe_e5_40, fe_e5_43, fe_e5_44, fe_e5_47, Option.some.injEq, exists_eq_left', fe_KB_r, fe_KB_v, fe_z_add, fe_z_sub, fe_z_mul, fe_z_neg, fe_bi0, fe_bi1, fe_bibi, fe_bi01, fe_z01, fe_z11, true_and, and_true, if_true, if_false, ite_not, not_true_eq_false, not_false_eq_true, Bool.false_eq_true, Bool.true_eq_false, fe_z_mod, fe_z_eq, fe_z_lt, fe_z_le, fe_z_div, Int.reduceEq, Int.reduceLT, Int.reduceLE, Int.reduceNeg, ↓reduceIte, eq_self, Nat.reduceAdd, fe_bor, fe_tb_bi, fe_tb_0, fe_tb_1, fe_un_at, Nat.reduceEqDiff, or_false, or_true, true_or, false_or, Int.le_refl, fe_q5_gf0, fe_q5_pf0, fe_q5_gf1, fe_q5_pf1, fe_q5_gf2, fe_q5_pf2, fe_q5_gf3, fe_q5_pf3, fe_q5_gf4, fe_q5_pf4, fe_q5_gf5, fe_q5_pf5, fe_q5_gf6, fe_q5_pf6, fe_q5_gf7, fe_q5_pf7, fe_q5_gf8, fe_q5_pf8, fe_q5_gf9, fe_q5_pf9, fe_q5_gf10, fe_q5_pf10, fe_q5_gf11, fe_q5_pf11, Nat.reduceAdd, fe_I8, fe_I192, fe_Z192, fe_q5_is, fe_z_shl, h0, Int.reduceAdd]
end Fe53q
def fe_nI (x y rc co : Int) (p : Bool) (w : Int) : Nat → Int
  | 0 => x
  | 1 => y
  | 2 => rc
  | 3 => co
  | 4 => if p then 1 else 0
  | 5 => 1
  | _ => ((2 ^ w.toNat : Nat) : Int)
def fe_nT (T : fe_Et) (q : Nat) : fe_Et := (T.1 + 1, fun a => if q ≤ a ∧ a ≤ q + 4 then some (T.1, a - q) else T.2.1 a, fe_un T.2.2 T.1 q)
section Fe53
variable {E : fe_E} {b : Nat} {N : Nat × Nat × Nat} {r : Nat → Option fe_C} {B : Nat → Int} {D : Nat → Int → Int} {M : Int → Int64} {V : Nat → Int} {A : Int → Int} {Z : Nat → Int → Bool} {T : fe_Et} {I : Nat → Nat → Int} {O : Nat → Int → Int} {L : Nat → Int → Bool} {C : Nat → Nat → Int → Int} {K : fe_R → fe_H → Prop}
theorem fe_newheap {n : Nat} {x y rc co w : Int} {p : Bool} {f1 f2 : Int → Int} (hT : fe_wf b T) (t1 : T.1 = n) (hq : ∀ e, e < n → T.2.2 e + 4 < N.1) (hb : b + 34 ≤ N.1) : fe_q5 (fe_put (fe_put (fe_mk b N (fe_cc b B D M V A Z T I O L C) r) (b + 6) (fe_Q 12 (va_up (fun j => if j < T.1 then some (T.2.2 j) else none) n (some N.1)))) b (fe_O 6 [.ref (b + 1), .ref (b + 6), .int (fe_z ((n : Int) + 1)), .ref (b + 7), .ref (b + 11), .int (fe_z 0), .ref (b + 13)])) 5 596 (some (fe_O 1 [.ref (b + 1), .int (fe_z x), .int (fe_z y), .int (fe_z rc), .int (fe_z co), .int (fe_bi p), .ref (N.1 + 1), .int (fe_z 1), .int (fe_z ((2 ^ w.toNat : Nat) : Int)), .ref (N.1 + 2), .ref (N.1 + 3), .ref (N.1 + 4)])) (some (fe_rI 8 (fe_up (fun _ => 0) 0 w))) (some (fe_rZ 192 (fun _ => false))) (some (fe_rI 192 f1)) (some (fe_rI 192 f2)) = fe_mk b (N.1 + 5, N.2.1 - 5, N.2.2 - 596) (fe_cc b B D M (fe_un (fe_un V 0 ((n : Int) + 1)) 1 0) A Z (fe_nT T N.1) (fe_un I n (fe_nI x y rc co p w)) (fe_un O n (fe_up (fun _ => 0) 0 w)) (fe_un L n (fun _ => false)) (fe_un C n (fun k => if k = 0 then f1 else f2))) r := by
  have hne : ∀ k, k < 5 → ¬ (b + 15 ≤ N.1 + k ∧ N.1 + k ≤ b + 33) := fun k hk => by omega
  have hcc : ∀ k, k < 5 → fe_cc b B D M (fe_un (fe_un V 0 ((n : Int) + 1)) 1 0) A Z (fe_nT T N.1) (fe_un I n (fe_nI x y rc co p w)) (fe_un O n (fe_up (fun _ => 0) 0 w)) (fe_un L n (fun _ => false)) (fe_un C n (fun k => if k = 0 then f1 else f2)) (N.1 + k) = fe_eye b (fe_nT T N.1) (fe_un I n (fe_nI x y rc co p w)) (fe_un O n (fe_up (fun _ => 0) 0 w)) (fe_un L n (fun _ => false)) (fe_un C n (fun k => if k = 0 then f1 else f2)) (N.1 + k) := fun k hk => by
    simp only [fe_cc]
    iterate 15 rw [if_neg (by omega)]
  have hT' : ∀ k, k < 5 → (fe_nT T N.1).2.1 (N.1 + k) = some (n, k) := fun k hk => by
    simp only [fe_nT]
    rw [if_pos (by omega), t1]
    congr 2
    omega
  have hT2 : (fe_nT T N.1).2.2 n = N.1 := by
    simp only [fe_nT, t1, fe_un_at, if_true]
  refine fe_q5_ext N.1 rfl rfl rfl rfl ?_ ?_ ?_ ?_ ?_ (fun a a0 a1 a2 a3 a4 => ?_)
  · have e1 := hcc 0 (by omega)
    have e2 := hT' 0 (by omega)
    have e3 := hne 0 (by omega)
    simp only [Nat.add_zero] at e1 e2 e3
    refine (if_neg e3).trans (e1.trans ?_)
    simp only [fe_eye, e2, fe_eyo, hT2, fe_un_at, if_true, fe_nI, fe_bi_z]
  · refine (if_neg (hne 1 (by omega))).trans ((hcc 1 (by omega)).trans ?_)
    simp only [fe_eye, hT' 1 (by omega), fe_un_at, if_true]
  · refine (if_neg (hne 2 (by omega))).trans ((hcc 2 (by omega)).trans ?_)
    simp only [fe_eye, hT' 2 (by omega), fe_un_at, if_true]
  · refine (if_neg (hne 3 (by omega))).trans ((hcc 3 (by omega)).trans ?_)
    simp only [fe_eye, hT' 3 (by omega), fe_un_at, if_true]
  · refine (if_neg (hne 4 (by omega))).trans ((hcc 4 (by omega)).trans ?_)
    simp only [fe_eye, hT' 4 (by omega), fe_un_at, if_true, Nat.one_ne_zero, if_false]
  show (if b + 15 ≤ a ∧ a ≤ b + 33 then r a else fe_cc b B D M (fe_un (fe_un V 0 ((n : Int) + 1)) 1 0) A Z (fe_nT T N.1) (fe_un I n (fe_nI x y rc co p w)) (fe_un O n (fe_up (fun _ => 0) 0 w)) (fe_un L n (fun _ => false)) (fe_un C n (fun k => if k = 0 then f1 else f2)) a) = (if a = b then some (fe_O 6 [.ref (b + 1), .ref (b + 6), .int (fe_z ((n : Int) + 1)), .ref (b + 7), .ref (b + 11), .int (fe_z 0), .ref (b + 13)]) else if a = b + 6 then some (fe_Q 12 (va_up (fun j => if j < T.1 then some (T.2.2 j) else none) n (some N.1))) else if b + 15 ≤ a ∧ a ≤ b + 33 then r a else fe_cc b B D M V A Z T I O L C a)
  symm
  by_cases ab : a = b
  · subst ab
    rw [if_pos rfl, if_neg (by omega)]
    simp [fe_cc, fe_un]
  rw [if_neg ab]
  by_cases ab6 : a = b + 6
  · subst ab6
    rw [if_pos rfl, if_neg (by omega)]
    simp only [fe_cc]
    iterate 6 rw [if_neg (by omega)]
    simp only [if_true]
    congr 2
    funext j
    simp only [va_up, fe_nT, fe_un_at, t1]
    by_cases hj : j = n
    · subst hj
      simp
    · simp only [if_neg hj]
      by_cases hj2 : j < n
      · rw [if_pos hj2, if_pos (by omega)]
      · rw [if_neg hj2, if_neg (by omega)]
  rw [if_neg ab6]
  by_cases ar : b + 15 ≤ a ∧ a ≤ b + 33
  · rw [if_pos ar, if_pos ar]
  rw [if_neg ar, if_neg ar]
  have hey : fe_eye b (fe_nT T N.1) (fe_un I n (fe_nI x y rc co p w)) (fe_un O n (fe_up (fun _ => 0) 0 w)) (fe_un L n (fun _ => false)) (fe_un C n (fun k => if k = 0 then f1 else f2)) a = fe_eye b T I O L C a := by
    have hw : (fe_nT T N.1).2.1 a = T.2.1 a := by
      simp only [fe_nT]
      rw [if_neg (by omega)]
    simp only [fe_eye, hw]
    cases hW : T.2.1 a with
    | none => rfl
    | some z =>
      obtain ⟨e', k'⟩ := z
      obtain ⟨h5, h6, h7⟩ := hT.2.1 a e' k' hW
      have hne' : ¬ e' = n := by omega
      have hnt : (fe_nT T N.1).2.2 e' = T.2.2 e' := by
        simp only [fe_nT, fe_un_at, t1, if_neg hne']
      match k', h6 with
      | 0, _ => simp only [fe_eyo, fe_un_at, if_neg hne', hnt]
      | 1, _ => simp only [fe_un_at, if_neg hne']
      | 2, _ => simp only [fe_un_at, if_neg hne']
      | 3, _ => simp only [fe_un_at, if_neg hne']
      | 4, _ => simp only [fe_un_at, if_neg hne']
  simp only [fe_cc, if_neg ab, if_neg ab6, hey]
  simp [fe_un]
theorem fe_m44 {n m : Nat} {x y rc co w : Int} {p : Bool} (ho : fe_okk b n m V A T I O) (h1 : 0 ≤ x ∧ x ≤ 16) (h2 : 0 ≤ y ∧ y ≤ 12) (h3 : 1 ≤ rc ∧ rc ≤ 20) (h4 : 0 ≤ co ∧ co ≤ 10000) (h5 : 0 ≤ w ∧ w ≤ 7) (h6 : n < 12) (hq : ∀ e, e < n → T.2.2 e + 4 < N.1) (hb : b + 34 ≤ N.1) (r1 : 5 ≤ N.2.1) (r2 : 596 ≤ N.2.2) (hK : ∀ f1 f2 : Int → Int, (∀ j : Int, 0 ≤ j → j < 192 → f1 j = -1) → (∀ j : Int, 0 ≤ j → j < 192 → f2 j = -1) → K (.inl (some (.int (fe_z (n : Int))))) (fe_mk b (N.1 + 5, N.2.1 - 5, N.2.2 - 596) (fe_cc b B D M (fe_un (fe_un V 0 ((n : Int) + 1)) 1 0) A Z (fe_nT T N.1) (fe_un I n (fe_nI x y rc co p w)) (fe_un O n (fe_up (fun _ => 0) 0 w)) (fe_un L n (fun _ => false)) (fe_un C n (fun k => if k = 0 then f1 else f2))) r)) : fe_WP E 44 0 [some (.ref b), some (.int (fe_z x)), some (.int (fe_z y)), some (.int (fe_z rc)), some (.int (fe_z co)), some (.int (fe_bi p)), some (.int (fe_z w)), none] [] (fe_mk b N (fe_cc b B D M V A Z T I O L C) r) K := by
  have ⟨hT, t1, v0, hn, v3, hm, hE, hA⟩ := ho
  have h7 : (n : Int) < 12 := by omega
  have hfresh : ∀ a, ((fe_mk b N (fe_cc b B D M V A Z T I O L C) r)).1 ≤ a → fe_get (fe_mk b N (fe_cc b B D M V A Z T I O L C) r) a = none := fun a ha => by
    have ha : N.1 ≤ a := ha
    rw [fe_mk_gc (by omega)]
    simp only [fe_cc]
    iterate 15 rw [if_neg (by omega)]
    unfold fe_eye
    cases hW : T.2.1 a with
    | none => rfl
    | some z =>
      obtain ⟨e', k'⟩ := z
      obtain ⟨h5, h6, h7⟩ := hT.2.1 a e' k' hW
      have := hq e' (by omega)
      omega
  have hnw : fe_nw (fe_mk b N (fe_cc b B D M V A Z T I O L C) r) 12 = true := by
    show (decide (1 ≤ N.2.1) && decide (12 ≤ N.2.2)) = true
    rw [Bool.and_eq_true, decide_eq_true_eq, decide_eq_true_eq]
    omega
  have hg0 : fe_get (fe_mk b N (fe_cc b B D M V A Z T I O L C) r) b = some (fe_O 6 [.ref (b + 1), .ref (b + 6), .int (fe_z (n : Int)), .ref (b + 7), .ref (b + 11), .int (fe_z (V 1)), .ref (b + 13)]) := by
    rw [← v0]
    exact fe_G0
  have hg6 : fe_get (fe_mk b N (fe_cc b B D M V A Z T I O L C) r) (b + 6) = some (fe_Q 12 (fun j => if j < T.1 then some (T.2.2 j) else none)) := fe_G6
  have hnh := fun f1 f2 => fe_newheap (b := b) (N := N) (r := r) (B := B) (D := D) (M := M) (V := V) (A := A) (Z := Z) (I := I) (O := O) (L := L) (C := C) (x := x) (y := y) (rc := rc) (co := co) (w := w) (p := p) (f1 := f1) (f2 := f2) hT t1 hq hb
  have hr1 : ((fe_mk b N (fe_cc b B D M V A Z T I O L C) r)).1 = N.1 := rfl
  have hr2 : 5 ≤ ((fe_mk b N (fe_cc b B D M V A Z T I O L C) r)).2.1 := r1
  have hr3 : 596 ≤ ((fe_mk b N (fe_cc b B D M V A Z T I O L C) r)).2.2.1 := r2
  simp (maxSteps := 4000000) (disch := omega) only [fe_e44_0, fe_e44_1, fe_e44_2, fe_e44_4, fe_e44_7, fe_e44_8, fe_e44_9, fe_e44_11, fe_e44_14, fe_e44_15, fe_e44_16, fe_e44_18, fe_e44_21, fe_e44_23, fe_e44_24, fe_e44_27, fe_e44_30, fe_e44_32, fe_e44_33, fe_e44_35, fe_e44_38, fe_e44_39, fe_e44_42, fe_e44_44, fe_e44_60, fe_e44_60r, fe_e44_61, fe_e44_62, fe_e44_65, fe_e44_66, fe_e44_67, fe_e44_68, fe_e44_70, fe_e44_72, fe_e44_75, fe_e44_77, fe_e44_79, fe_e44_81, fe_e44_84, fe_e44_85, fe_e44_86, fe_e44_89, fe_e44_90, fe_e44_93, fe_e44_95, fe_e44_96, fe_e44_97, fe_e44_97r, fe_e44_98, fe_e44_101, fe_e44_102, fe_e44_103, fe_e44_106, fe_e44_107, fe_e44_108, fe_e44_111, fe_e44_112, fe_e44_115, fe_e44_116, fe_e44_117, Option.some.injEq, exists_eq_left', fe_KB_r, fe_KB_v, fe_z_add, fe_z_sub, fe_z_mul, fe_z_neg, fe_bi0, fe_bi1, fe_bibi, fe_bi01, fe_z01, fe_z11, true_and, and_true, if_true, if_false, ite_not, not_true_eq_false, not_false_eq_true, Bool.false_eq_true, Bool.true_eq_false, fe_z_mod, fe_z_eq, fe_z_lt, fe_z_le, fe_z_div, Int.reduceEq, Int.reduceLT, Int.reduceLE, Int.reduceNeg, ↓reduceIte, eq_self, Nat.reduceAdd, fe_bor, fe_tb_bi, fe_tb_0, fe_tb_1, fe_un_at, Nat.reduceEqDiff, or_false, or_true, true_or, false_or, Int.le_refl, fe_ob0, fe_g0_0, fe_g0_1, fe_g0_2, fe_p0_2, fe_g0_3, fe_g0_4, fe_g0_5, fe_p0_5, fe_g0_6, fe_ob1, fe_g1_0, fe_g1_1, fe_g1_2, fe_g1_3, fe_ob5, fe_g5_0, fe_p5_0, fe_g5_1, fe_p5_1, fe_g5_2, fe_p5_2, fe_g5_3, fe_p5_3, fe_g5_4, fe_p5_4, fe_g5_5, fe_p5_5, fe_g5_6, fe_p5_6, fe_g5_7, fe_p5_7, fe_g5_8, fe_p5_8, fe_g5_9, fe_p5_9, fe_ob7, fe_g7_0, fe_g7_1, fe_g7_2, fe_ob11, fe_g11_0, fe_g11_1, fe_p11_1, fe_ob13, fe_g13_0, fe_g13_1, fe_p13_1, fe_g13_2, fe_p13_2, fe_g13_3, fe_p13_3, fe_g13_4, fe_p13_4, fe_g13_5, fe_p13_5, fe_aa2, fe_sa2, fe_ll2, fe_aa3, fe_sa3, fe_ll3, fe_aa4, fe_sa4, fe_ll4, fe_aa8, fe_sa8, fe_ll8, fe_aa9, fe_sa9, fe_ll9, fe_aa10, fe_sa10, fe_ll10, fe_aa12, fe_sa12, fe_aa14, fe_sa14, fe_ll14, fe_aa6, fe_aa6n, fe_ll6, fe_obE, fe_gE_0, fe_gE_1, fe_gE_2, fe_gE_3, fe_gE_4, fe_gE_5, fe_gE_6, fe_gE_7, fe_gE_8, fe_gE_9, fe_gE_10, fe_gE_11, fe_pE_7, fe_pE_8, fe_aE1, fe_sE1, fe_lE1, fe_aE2, fe_sE2, fe_aE3, fe_sE3, fe_lE3, fe_aE4, fe_sE4, fe_lE4, v0, h7, fe_m60 (x := x) (y := 0) (z := 16) (by omega) (by omega) (by omega) h1, fe_m60 (x := y) (y := 0) (z := 12) (by omega) (by omega) (by omega) h2, fe_m60 (x := rc) (y := 1) (z := 20) (by omega) (by omega) (by omega) h3, fe_m60 (x := co) (y := 0) (z := 10000) (by omega) (by omega) (by omega) h4, fe_m60 (x := w) (y := 0) (z := 7) (by omega) (by omega) (by omega) h5]
  generalize hhh : (fe_mk b N (fe_cc b B D M V A Z T I O L C) r) = h at hfresh hnw hg0 hg6 hnh hr1 hr2 hr3 ⊢
  clear hhh
  rw [fe_e44_57, fe_q5_new hfresh]
  have gb : ∀ {k s : Nat} {c0 c1 c2 c3 c4 : Option fe_C} {i : Nat}, fe_gf (fe_q5 h k s c0 c1 c2 c3 c4) b 6 i = [Value.ref (b + 1), .ref (b + 6), .int (fe_z (n : Int)), .ref (b + 7), .ref (b + 11), .int (fe_z (V 1)), .ref (b + 13)][i]? := fun {k s c0 c1 c2 c3 c4 i} => fe_gf_of (by rw [fe_q5_gb (by omega)]; exact hg0)
  have g0 : ∀ {k s : Nat} {c0 c1 c2 c3 c4 : Option fe_C}, fe_gf (fe_q5 h k s c0 c1 c2 c3 c4) b 6 0 = some (.ref (b + 1)) := gb
  have g1 : ∀ {k s : Nat} {c0 c1 c2 c3 c4 : Option fe_C}, fe_gf (fe_q5 h k s c0 c1 c2 c3 c4) b 6 1 = some (.ref (b + 6)) := gb
  have g2 : ∀ {k s : Nat} {c0 c1 c2 c3 c4 : Option fe_C}, fe_gf (fe_q5 h k s c0 c1 c2 c3 c4) b 6 2 = some (.int (fe_z (n : Int))) := gb
  refine ⟨hnw, ?_⟩
  simp (maxSteps := 4000000) (disch := omega) only [fe_e44_0, fe_e44_1, fe_e44_2, fe_e44_4, fe_e44_7, fe_e44_8, fe_e44_9, fe_e44_11, fe_e44_14, fe_e44_15, fe_e44_16, fe_e44_18, fe_e44_21, fe_e44_23, fe_e44_24, fe_e44_27, fe_e44_30, fe_e44_32, fe_e44_33, fe_e44_35, fe_e44_38, fe_e44_39, fe_e44_42, fe_e44_44, fe_e44_60, fe_e44_60r, fe_e44_61, fe_e44_62, fe_e44_65, fe_e44_66, fe_e44_67, fe_e44_68, fe_e44_70, fe_e44_72, fe_e44_75, fe_e44_77, fe_e44_79, fe_e44_81, fe_e44_84, fe_e44_85, fe_e44_86, fe_e44_89, fe_e44_90, fe_e44_93, fe_e44_95, fe_e44_96, fe_e44_97, fe_e44_97r, fe_e44_98, fe_e44_101, fe_e44_102, fe_e44_103, fe_e44_106, fe_e44_107, fe_e44_108, fe_e44_111, fe_e44_112, fe_e44_115, fe_e44_116, fe_e44_117, Option.some.injEq, exists_eq_left', fe_KB_r, fe_KB_v, fe_z_add, fe_z_sub, fe_z_mul, fe_z_neg, fe_bi0, fe_bi1, fe_bibi, fe_bi01, fe_z01, fe_z11, true_and, and_true, if_true, if_false, ite_not, not_true_eq_false, not_false_eq_true, Bool.false_eq_true, Bool.true_eq_false, fe_z_mod, fe_z_eq, fe_z_lt, fe_z_le, fe_z_div, Int.reduceEq, Int.reduceLT, Int.reduceLE, Int.reduceNeg, ↓reduceIte, eq_self, Nat.reduceAdd, fe_bor, fe_tb_bi, fe_tb_0, fe_tb_1, fe_un_at, Nat.reduceEqDiff, or_false, or_true, true_or, false_or, Int.le_refl, g0, fe_q5_ob]
  refine fe_m4 hr2 hr3 (fun f1 f2 q1 q2 => ?_)
  simp (maxSteps := 4000000) (disch := omega) only [fe_e44_0, fe_e44_1, fe_e44_2, fe_e44_4, fe_e44_7, fe_e44_8, fe_e44_9, fe_e44_11, fe_e44_14, fe_e44_15, fe_e44_16, fe_e44_18, fe_e44_21, fe_e44_23, fe_e44_24, fe_e44_27, fe_e44_30, fe_e44_32, fe_e44_33, fe_e44_35, fe_e44_38, fe_e44_39, fe_e44_42, fe_e44_44, fe_e44_60, fe_e44_60r, fe_e44_61, fe_e44_62, fe_e44_65, fe_e44_66, fe_e44_67, fe_e44_68, fe_e44_70, fe_e44_72, fe_e44_75, fe_e44_77, fe_e44_79, fe_e44_81, fe_e44_84, fe_e44_85, fe_e44_86, fe_e44_89, fe_e44_90, fe_e44_93, fe_e44_95, fe_e44_96, fe_e44_97, fe_e44_97r, fe_e44_98, fe_e44_101, fe_e44_102, fe_e44_103, fe_e44_106, fe_e44_107, fe_e44_108, fe_e44_111, fe_e44_112, fe_e44_115, fe_e44_116, fe_e44_117, Option.some.injEq, exists_eq_left', fe_KB_r, fe_KB_v, fe_z_add, fe_z_sub, fe_z_mul, fe_z_neg, fe_bi0, fe_bi1, fe_bibi, fe_bi01, fe_z01, fe_z11, true_and, and_true, if_true, if_false, ite_not, not_true_eq_false, not_false_eq_true, Bool.false_eq_true, Bool.true_eq_false, fe_z_mod, fe_z_eq, fe_z_lt, fe_z_le, fe_z_div, Int.reduceEq, Int.reduceLT, Int.reduceLE, Int.reduceNeg, ↓reduceIte, eq_self, Nat.reduceAdd, fe_bor, fe_tb_bi, fe_tb_0, fe_tb_1, fe_un_at, Nat.reduceEqDiff, or_false, or_true, true_or, false_or, Int.le_refl, g1, g2, fe_q5_ob, fe_m5q h5]
  have hqs : ∀ {c1 c2 c3 c4 : Option fe_C} {fs : List Value}, fe_qs (fe_q5 h 5 596 (some (fe_O 1 fs)) c1 c2 c3 c4) (b + 6) (fe_z (n : Int)) h.1 = some (fe_q5 (fe_put h (b + 6) (fe_Q 12 (va_up (fun j => if j < T.1 then some (T.2.2 j) else none) n (some N.1)))) 5 596 (some (fe_O 1 fs)) c1 c2 c3 c4) := fun {c1 c2 c3 c4 fs} => by
    have e1 : fe_get (fe_q5 h 5 596 (some (fe_O 1 fs)) c1 c2 c3 c4) (b + 6) = some (fe_Q 12 (fun j => if j < T.1 then some (T.2.2 j) else none)) := by
      rw [fe_q5_gb (by omega)]
      exact hg6
    have e2 : fe_get (fe_q5 h 5 596 (some (fe_O 1 fs)) c1 c2 c3 c4) h.1 = some (fe_O 1 fs) := fe_q5_g0
    have hi : fe_inb (fe_z (n : Int)) 12 = true := fe_z_inb (by omega) (by omega) (by omega)
    simp only [fe_qs, e1, e2, hi, if_true, fe_z_nat (a := (n : Int)) (by omega) (by omega), Int.toNat_natCast]
    rw [fe_q5_pb (by omega), hr1]
  rw [hqs]
  generalize hh2 : fe_put h (b + 6) (fe_Q 12 (va_up (fun j => if j < T.1 then some (T.2.2 j) else none) n (some N.1))) = h2 at hnh ⊢
  have k1 : h2.1 = N.1 := by rw [← hh2]; exact hr1
  have k0 : fe_get h2 b = some (fe_O 6 [.ref (b + 1), .ref (b + 6), .int (fe_z (n : Int)), .ref (b + 7), .ref (b + 11), .int (fe_z (V 1)), .ref (b + 13)]) := by
    rw [← hh2, fe_get_put_ne _ _ (by omega)]
    exact hg0
  clear hh2
  have hb2 : b < h2.1 := by omega
  have kq : ∀ c0 c1 c2 c3 c4 : Option fe_C, fe_get (fe_q5 h2 5 596 c0 c1 c2 c3 c4) b = some (fe_O 6 [.ref (b + 1), .ref (b + 6), .int (fe_z (n : Int)), .ref (b + 7), .ref (b + 11), .int (fe_z (V 1)), .ref (b + 13)]) := fun c0 c1 c2 c3 c4 => by
    rw [fe_q5_gb hb2]
    exact k0
  have p2 : ∀ {c0 c1 c2 c3 c4 : Option fe_C}, fe_pf (fe_q5 h2 5 596 c0 c1 c2 c3 c4) b 6 2 (.int (fe_z ((n : Int) + 1))) = some (fe_q5 (fe_put h2 b (fe_O 6 [.ref (b + 1), .ref (b + 6), .int (fe_z ((n : Int) + 1)), .ref (b + 7), .ref (b + 11), .int (fe_z (V 1)), .ref (b + 13)])) 5 596 c0 c1 c2 c3 c4) := fun {c0 c1 c2 c3 c4} => fe_pf_of (by rw [fe_q5_gb hb2]; exact k0) (Nat.le_of_ble_eq_true rfl) (fe_q5_pb hb2)
  have g3 : ∀ {c0 c1 c2 c3 c4 : Option fe_C}, fe_gf (fe_q5 h2 5 596 c0 c1 c2 c3 c4) b 6 2 = some (.int (fe_z (n : Int))) := fun {c0 c1 c2 c3 c4} => fe_gf_of (kq c0 c1 c2 c3 c4)
  simp (maxSteps := 4000000) (disch := omega) only [fe_e44_0, fe_e44_1, fe_e44_2, fe_e44_4, fe_e44_7, fe_e44_8, fe_e44_9, fe_e44_11, fe_e44_14, fe_e44_15, fe_e44_16, fe_e44_18, fe_e44_21, fe_e44_23, fe_e44_24, fe_e44_27, fe_e44_30, fe_e44_32, fe_e44_33, fe_e44_35, fe_e44_38, fe_e44_39, fe_e44_42, fe_e44_44, fe_e44_60, fe_e44_60r, fe_e44_61, fe_e44_62, fe_e44_65, fe_e44_66, fe_e44_67, fe_e44_68, fe_e44_70, fe_e44_72, fe_e44_75, fe_e44_77, fe_e44_79, fe_e44_81, fe_e44_84, fe_e44_85, fe_e44_86, fe_e44_89, fe_e44_90, fe_e44_93, fe_e44_95, fe_e44_96, fe_e44_97, fe_e44_97r, fe_e44_98, fe_e44_101, fe_e44_102, fe_e44_103, fe_e44_106, fe_e44_107, fe_e44_108, fe_e44_111, fe_e44_112, fe_e44_115, fe_e44_116, fe_e44_117, Option.some.injEq, exists_eq_left', fe_KB_r, fe_KB_v, fe_z_add, fe_z_sub, fe_z_mul, fe_z_neg, fe_bi0, fe_bi1, fe_bibi, fe_bi01, fe_z01, fe_z11, true_and, and_true, if_true, if_false, ite_not, not_true_eq_false, not_false_eq_true, Bool.false_eq_true, Bool.true_eq_false, fe_z_mod, fe_z_eq, fe_z_lt, fe_z_le, fe_z_div, Int.reduceEq, Int.reduceLT, Int.reduceLE, Int.reduceNeg, ↓reduceIte, eq_self, Nat.reduceAdd, fe_bor, fe_tb_bi, fe_tb_0, fe_tb_1, fe_un_at, Nat.reduceEqDiff, or_false, or_true, true_or, false_or, Int.le_refl, g3, p2]
  have hb1 : ∀ u, b < (fe_put h2 b u).1 := fun u => by
    show b < h2.1
    omega
  have m0 : ∀ {c0 c1 c2 c3 c4 : Option fe_C} {u : fe_C}, fe_get (fe_q5 (fe_put h2 b u) 5 596 c0 c1 c2 c3 c4) b = some u := fun {c0 c1 c2 c3 c4 u} => by
    rw [fe_q5_gb (hb1 u), fe_get_put]
  have p5 : ∀ {c0 c1 c2 c3 c4 : Option fe_C}, fe_pf (fe_q5 (fe_put h2 b (fe_O 6 [.ref (b + 1), .ref (b + 6), .int (fe_z ((n : Int) + 1)), .ref (b + 7), .ref (b + 11), .int (fe_z (V 1)), .ref (b + 13)])) 5 596 c0 c1 c2 c3 c4) b 6 5 (.int (fe_z 0)) = some (fe_q5 (fe_put h2 b (fe_O 6 [.ref (b + 1), .ref (b + 6), .int (fe_z ((n : Int) + 1)), .ref (b + 7), .ref (b + 11), .int (fe_z 0), .ref (b + 13)])) 5 596 c0 c1 c2 c3 c4) := fun {c0 c1 c2 c3 c4} => fe_pf_of m0 (Nat.le_of_ble_eq_true rfl) (by rw [fe_q5_pb (hb1 _), fe_put_put]; rfl)
  have g4 : ∀ {c0 c1 c2 c3 c4 : Option fe_C}, fe_gf (fe_q5 (fe_put h2 b (fe_O 6 [.ref (b + 1), .ref (b + 6), .int (fe_z ((n : Int) + 1)), .ref (b + 7), .ref (b + 11), .int (fe_z 0), .ref (b + 13)])) 5 596 c0 c1 c2 c3 c4) b 6 2 = some (.int (fe_z ((n : Int) + 1))) := fun {c0 c1 c2 c3 c4} => fe_gf_of m0
  simp (maxSteps := 4000000) (disch := omega) only [fe_e44_0, fe_e44_1, fe_e44_2, fe_e44_4, fe_e44_7, fe_e44_8, fe_e44_9, fe_e44_11, fe_e44_14, fe_e44_15, fe_e44_16, fe_e44_18, fe_e44_21, fe_e44_23, fe_e44_24, fe_e44_27, fe_e44_30, fe_e44_32, fe_e44_33, fe_e44_35, fe_e44_38, fe_e44_39, fe_e44_42, fe_e44_44, fe_e44_60, fe_e44_60r, fe_e44_61, fe_e44_62, fe_e44_65, fe_e44_66, fe_e44_67, fe_e44_68, fe_e44_70, fe_e44_72, fe_e44_75, fe_e44_77, fe_e44_79, fe_e44_81, fe_e44_84, fe_e44_85, fe_e44_86, fe_e44_89, fe_e44_90, fe_e44_93, fe_e44_95, fe_e44_96, fe_e44_97, fe_e44_97r, fe_e44_98, fe_e44_101, fe_e44_102, fe_e44_103, fe_e44_106, fe_e44_107, fe_e44_108, fe_e44_111, fe_e44_112, fe_e44_115, fe_e44_116, fe_e44_117, Option.some.injEq, exists_eq_left', fe_KB_r, fe_KB_v, fe_z_add, fe_z_sub, fe_z_mul, fe_z_neg, fe_bi0, fe_bi1, fe_bibi, fe_bi01, fe_z01, fe_z11, true_and, and_true, if_true, if_false, ite_not, not_true_eq_false, not_false_eq_true, Bool.false_eq_true, Bool.true_eq_false, fe_z_mod, fe_z_eq, fe_z_lt, fe_z_le, fe_z_div, Int.reduceEq, Int.reduceLT, Int.reduceLE, Int.reduceNeg, ↓reduceIte, eq_self, Nat.reduceAdd, fe_bor, fe_tb_bi, fe_tb_0, fe_tb_1, fe_un_at, Nat.reduceEqDiff, or_false, or_true, true_or, false_or, Int.le_refl, p5, g4]
  rw [hr1, hnh f1 f2, show (n : Int) + 1 - 1 = (n : Int) by omega]
  exact hK f1 f2 q1 q2
theorem fe_m44x {x y rc co w : Int} {p : Bool} (x1 : -2147483648 ≤ x ∧ x ≤ 2147483647) (x2 : -2147483648 ≤ y ∧ y ≤ 2147483647) (x3 : -2147483648 ≤ rc ∧ rc ≤ 2147483647) (x4 : -2147483648 ≤ co ∧ co ≤ 2147483647) (x5 : -2147483648 ≤ w ∧ w ≤ 2147483647) (hn : ¬ ((0 ≤ x ∧ x ≤ 16) ∧ (0 ≤ y ∧ y ≤ 12) ∧ (1 ≤ rc ∧ rc ≤ 20) ∧ (0 ≤ co ∧ co ≤ 10000) ∧ (0 ≤ w ∧ w ≤ 7))) (hN : 1 ≤ N.2.1 ∧ 6 ≤ N.2.2) : fe_WP E 44 0 [some (.ref b), some (.int (fe_z x)), some (.int (fe_z y)), some (.int (fe_z rc)), some (.int (fe_z co)), some (.int (fe_bi p)), some (.int (fe_z w)), none] [] (fe_mk b N (fe_cc b B D M V A Z T I O L C) r) K ↔ K (.inr (1, N.1)) (fe_mk b (fe_nN N) (fe_cc b B D M V A Z T I O L C) r) := by
  by_cases h1 : 0 ≤ x ∧ x ≤ 16
  · by_cases h2 : 0 ≤ y ∧ y ≤ 12
    · by_cases h3 : 1 ≤ rc ∧ rc ≤ 20
      · by_cases h4 : 0 ≤ co ∧ co ≤ 10000
        · have h5 : ¬ (0 ≤ w ∧ w ≤ 7) := fun h => hn ⟨h1, h2, h3, h4, h⟩
          simp (maxSteps := 4000000) (disch := omega) only [fe_e44_0, fe_e44_1, fe_e44_2, fe_e44_4, fe_e44_7, fe_e44_8, fe_e44_9, fe_e44_11, fe_e44_14, fe_e44_15, fe_e44_16, fe_e44_18, fe_e44_21, fe_e44_23, fe_e44_24, fe_e44_27, fe_e44_30, fe_e44_32, fe_e44_33, fe_e44_35, fe_e44_39, fe_e44_42, fe_e44_44, fe_e44_47, fe_e44_57, fe_e44_60, fe_e44_60r, fe_e44_61, fe_e44_62, fe_e44_65, fe_e44_66, fe_e44_67, fe_e44_68, fe_e44_70, fe_e44_72, fe_e44_75, fe_e44_77, fe_e44_79, fe_e44_81, fe_e44_84, fe_e44_85, fe_e44_86, fe_e44_89, fe_e44_90, fe_e44_93, fe_e44_95, fe_e44_96, fe_e44_97, fe_e44_97r, fe_e44_98, fe_e44_101, fe_e44_102, fe_e44_103, fe_e44_106, fe_e44_107, fe_e44_108, fe_e44_111, fe_e44_112, fe_e44_115, fe_e44_116, fe_e44_117, Option.some.injEq, exists_eq_left', fe_KB_r, fe_KB_v, fe_z_add, fe_z_sub, fe_z_mul, fe_z_neg, fe_bi0, fe_bi1, fe_bibi, fe_bi01, fe_z01, fe_z11, true_and, and_true, if_true, if_false, ite_not, not_true_eq_false, not_false_eq_true, Bool.false_eq_true, Bool.true_eq_false, fe_z_mod, fe_z_eq, fe_z_lt, fe_z_le, fe_z_div, Int.reduceEq, Int.reduceLT, Int.reduceLE, Int.reduceNeg, ↓reduceIte, eq_self, Nat.reduceAdd, fe_bor, fe_tb_bi, fe_tb_0, fe_tb_1, fe_un_at, Nat.reduceEqDiff, or_false, or_true, true_or, false_or, Int.le_refl, fe_m60 (x := x) (y := 0) (z := 16) (by omega) (by omega) (by omega) h1, fe_m60 (x := y) (y := 0) (z := 12) (by omega) (by omega) (by omega) h2, fe_m60 (x := rc) (y := 1) (z := 20) (by omega) (by omega) (by omega) h3, fe_m60 (x := co) (y := 0) (z := 10000) (by omega) (by omega) (by omega) h4, fe_m60x (x := w) (y := 0) (z := 7) (by omega) (by omega) (by omega) h5 hN, fe_kx44]
        · simp (maxSteps := 4000000) (disch := omega) only [fe_e44_0, fe_e44_1, fe_e44_2, fe_e44_4, fe_e44_7, fe_e44_8, fe_e44_9, fe_e44_11, fe_e44_14, fe_e44_15, fe_e44_16, fe_e44_18, fe_e44_21, fe_e44_23, fe_e44_24, fe_e44_27, fe_e44_32, fe_e44_33, fe_e44_35, fe_e44_38, fe_e44_39, fe_e44_42, fe_e44_44, fe_e44_47, fe_e44_57, fe_e44_60, fe_e44_60r, fe_e44_61, fe_e44_62, fe_e44_65, fe_e44_66, fe_e44_67, fe_e44_68, fe_e44_70, fe_e44_72, fe_e44_75, fe_e44_77, fe_e44_79, fe_e44_81, fe_e44_84, fe_e44_85, fe_e44_86, fe_e44_89, fe_e44_90, fe_e44_93, fe_e44_95, fe_e44_96, fe_e44_97, fe_e44_97r, fe_e44_98, fe_e44_101, fe_e44_102, fe_e44_103, fe_e44_106, fe_e44_107, fe_e44_108, fe_e44_111, fe_e44_112, fe_e44_115, fe_e44_116, fe_e44_117, Option.some.injEq, exists_eq_left', fe_KB_r, fe_KB_v, fe_z_add, fe_z_sub, fe_z_mul, fe_z_neg, fe_bi0, fe_bi1, fe_bibi, fe_bi01, fe_z01, fe_z11, true_and, and_true, if_true, if_false, ite_not, not_true_eq_false, not_false_eq_true, Bool.false_eq_true, Bool.true_eq_false, fe_z_mod, fe_z_eq, fe_z_lt, fe_z_le, fe_z_div, Int.reduceEq, Int.reduceLT, Int.reduceLE, Int.reduceNeg, ↓reduceIte, eq_self, Nat.reduceAdd, fe_bor, fe_tb_bi, fe_tb_0, fe_tb_1, fe_un_at, Nat.reduceEqDiff, or_false, or_true, true_or, false_or, Int.le_refl, fe_m60 (x := x) (y := 0) (z := 16) (by omega) (by omega) (by omega) h1, fe_m60 (x := y) (y := 0) (z := 12) (by omega) (by omega) (by omega) h2, fe_m60 (x := rc) (y := 1) (z := 20) (by omega) (by omega) (by omega) h3, fe_m60x (x := co) (y := 0) (z := 10000) (by omega) (by omega) (by omega) h4 hN, fe_kx44]
      · simp (maxSteps := 4000000) (disch := omega) only [fe_e44_0, fe_e44_1, fe_e44_2, fe_e44_4, fe_e44_7, fe_e44_8, fe_e44_9, fe_e44_11, fe_e44_14, fe_e44_15, fe_e44_16, fe_e44_18, fe_e44_23, fe_e44_24, fe_e44_27, fe_e44_30, fe_e44_32, fe_e44_33, fe_e44_35, fe_e44_38, fe_e44_39, fe_e44_42, fe_e44_44, fe_e44_47, fe_e44_57, fe_e44_60, fe_e44_60r, fe_e44_61, fe_e44_62, fe_e44_65, fe_e44_66, fe_e44_67, fe_e44_68, fe_e44_70, fe_e44_72, fe_e44_75, fe_e44_77, fe_e44_79, fe_e44_81, fe_e44_84, fe_e44_85, fe_e44_86, fe_e44_89, fe_e44_90, fe_e44_93, fe_e44_95, fe_e44_96, fe_e44_97, fe_e44_97r, fe_e44_98, fe_e44_101, fe_e44_102, fe_e44_103, fe_e44_106, fe_e44_107, fe_e44_108, fe_e44_111, fe_e44_112, fe_e44_115, fe_e44_116, fe_e44_117, Option.some.injEq, exists_eq_left', fe_KB_r, fe_KB_v, fe_z_add, fe_z_sub, fe_z_mul, fe_z_neg, fe_bi0, fe_bi1, fe_bibi, fe_bi01, fe_z01, fe_z11, true_and, and_true, if_true, if_false, ite_not, not_true_eq_false, not_false_eq_true, Bool.false_eq_true, Bool.true_eq_false, fe_z_mod, fe_z_eq, fe_z_lt, fe_z_le, fe_z_div, Int.reduceEq, Int.reduceLT, Int.reduceLE, Int.reduceNeg, ↓reduceIte, eq_self, Nat.reduceAdd, fe_bor, fe_tb_bi, fe_tb_0, fe_tb_1, fe_un_at, Nat.reduceEqDiff, or_false, or_true, true_or, false_or, Int.le_refl, fe_m60 (x := x) (y := 0) (z := 16) (by omega) (by omega) (by omega) h1, fe_m60 (x := y) (y := 0) (z := 12) (by omega) (by omega) (by omega) h2, fe_m60x (x := rc) (y := 1) (z := 20) (by omega) (by omega) (by omega) h3 hN, fe_kx44]
    · simp (maxSteps := 4000000) (disch := omega) only [fe_e44_0, fe_e44_1, fe_e44_2, fe_e44_4, fe_e44_7, fe_e44_8, fe_e44_9, fe_e44_11, fe_e44_15, fe_e44_16, fe_e44_18, fe_e44_21, fe_e44_23, fe_e44_24, fe_e44_27, fe_e44_30, fe_e44_32, fe_e44_33, fe_e44_35, fe_e44_38, fe_e44_39, fe_e44_42, fe_e44_44, fe_e44_47, fe_e44_57, fe_e44_60, fe_e44_60r, fe_e44_61, fe_e44_62, fe_e44_65, fe_e44_66, fe_e44_67, fe_e44_68, fe_e44_70, fe_e44_72, fe_e44_75, fe_e44_77, fe_e44_79, fe_e44_81, fe_e44_84, fe_e44_85, fe_e44_86, fe_e44_89, fe_e44_90, fe_e44_93, fe_e44_95, fe_e44_96, fe_e44_97, fe_e44_97r, fe_e44_98, fe_e44_101, fe_e44_102, fe_e44_103, fe_e44_106, fe_e44_107, fe_e44_108, fe_e44_111, fe_e44_112, fe_e44_115, fe_e44_116, fe_e44_117, Option.some.injEq, exists_eq_left', fe_KB_r, fe_KB_v, fe_z_add, fe_z_sub, fe_z_mul, fe_z_neg, fe_bi0, fe_bi1, fe_bibi, fe_bi01, fe_z01, fe_z11, true_and, and_true, if_true, if_false, ite_not, not_true_eq_false, not_false_eq_true, Bool.false_eq_true, Bool.true_eq_false, fe_z_mod, fe_z_eq, fe_z_lt, fe_z_le, fe_z_div, Int.reduceEq, Int.reduceLT, Int.reduceLE, Int.reduceNeg, ↓reduceIte, eq_self, Nat.reduceAdd, fe_bor, fe_tb_bi, fe_tb_0, fe_tb_1, fe_un_at, Nat.reduceEqDiff, or_false, or_true, true_or, false_or, Int.le_refl, fe_m60 (x := x) (y := 0) (z := 16) (by omega) (by omega) (by omega) h1, fe_m60x (x := y) (y := 0) (z := 12) (by omega) (by omega) (by omega) h2 hN, fe_kx44]
  · simp (maxSteps := 4000000) (disch := omega) only [fe_e44_0, fe_e44_1, fe_e44_2, fe_e44_4, fe_e44_8, fe_e44_9, fe_e44_11, fe_e44_14, fe_e44_15, fe_e44_16, fe_e44_18, fe_e44_21, fe_e44_23, fe_e44_24, fe_e44_27, fe_e44_30, fe_e44_32, fe_e44_33, fe_e44_35, fe_e44_38, fe_e44_39, fe_e44_42, fe_e44_44, fe_e44_47, fe_e44_57, fe_e44_60, fe_e44_60r, fe_e44_61, fe_e44_62, fe_e44_65, fe_e44_66, fe_e44_67, fe_e44_68, fe_e44_70, fe_e44_72, fe_e44_75, fe_e44_77, fe_e44_79, fe_e44_81, fe_e44_84, fe_e44_85, fe_e44_86, fe_e44_89, fe_e44_90, fe_e44_93, fe_e44_95, fe_e44_96, fe_e44_97, fe_e44_97r, fe_e44_98, fe_e44_101, fe_e44_102, fe_e44_103, fe_e44_106, fe_e44_107, fe_e44_108, fe_e44_111, fe_e44_112, fe_e44_115, fe_e44_116, fe_e44_117, Option.some.injEq, exists_eq_left', fe_KB_r, fe_KB_v, fe_z_add, fe_z_sub, fe_z_mul, fe_z_neg, fe_bi0, fe_bi1, fe_bibi, fe_bi01, fe_z01, fe_z11, true_and, and_true, if_true, if_false, ite_not, not_true_eq_false, not_false_eq_true, Bool.false_eq_true, Bool.true_eq_false, fe_z_mod, fe_z_eq, fe_z_lt, fe_z_le, fe_z_div, Int.reduceEq, Int.reduceLT, Int.reduceLE, Int.reduceNeg, ↓reduceIte, eq_self, Nat.reduceAdd, fe_bor, fe_tb_bi, fe_tb_0, fe_tb_1, fe_un_at, Nat.reduceEqDiff, or_false, or_true, true_or, false_or, Int.le_refl, fe_m60x (x := x) (y := 0) (z := 16) (by omega) (by omega) (by omega) h1 hN, fe_kx44]
theorem fe_m44y {n m : Nat} {x y rc co w : Int} {p : Bool} (ho : fe_okk b n m V A T I O) (h1 : 0 ≤ x ∧ x ≤ 16) (h2 : 0 ≤ y ∧ y ≤ 12) (h3 : 1 ≤ rc ∧ rc ≤ 20) (h4 : 0 ≤ co ∧ co ≤ 10000) (h5 : 0 ≤ w ∧ w ≤ 7) (h6 : n = 12) (hN : 1 ≤ N.2.1 ∧ 6 ≤ N.2.2) : fe_WP E 44 0 [some (.ref b), some (.int (fe_z x)), some (.int (fe_z y)), some (.int (fe_z rc)), some (.int (fe_z co)), some (.int (fe_bi p)), some (.int (fe_z w)), none] [] (fe_mk b N (fe_cc b B D M V A Z T I O L C) r) K ↔ K (.inr (2, N.1)) (fe_mk b (fe_nN N) (fe_cc b B D M V A Z T I O L C) r) := by
  have ⟨hT, t1, v0, hn, v3, hm, hE, hA⟩ := ho
  have h7 : V 0 = 12 := by omega
  simp (maxSteps := 4000000) (disch := omega) only [fe_e44_0, fe_e44_1, fe_e44_2, fe_e44_4, fe_e44_7, fe_e44_8, fe_e44_9, fe_e44_11, fe_e44_14, fe_e44_15, fe_e44_16, fe_e44_18, fe_e44_21, fe_e44_23, fe_e44_24, fe_e44_27, fe_e44_30, fe_e44_32, fe_e44_33, fe_e44_35, fe_e44_38, fe_e44_39, fe_e44_42, fe_e44_44, fe_e44_47, fe_e44_60, fe_e44_60r, fe_e44_61, fe_e44_62, fe_e44_65, fe_e44_66, fe_e44_67, fe_e44_68, fe_e44_70, fe_e44_72, fe_e44_75, fe_e44_77, fe_e44_79, fe_e44_81, fe_e44_84, fe_e44_85, fe_e44_86, fe_e44_89, fe_e44_90, fe_e44_93, fe_e44_95, fe_e44_96, fe_e44_97, fe_e44_97r, fe_e44_98, fe_e44_101, fe_e44_102, fe_e44_103, fe_e44_106, fe_e44_107, fe_e44_108, fe_e44_111, fe_e44_112, fe_e44_115, fe_e44_116, fe_e44_117, Option.some.injEq, exists_eq_left', fe_KB_r, fe_KB_v, fe_z_add, fe_z_sub, fe_z_mul, fe_z_neg, fe_bi0, fe_bi1, fe_bibi, fe_bi01, fe_z01, fe_z11, true_and, and_true, if_true, if_false, ite_not, not_true_eq_false, not_false_eq_true, Bool.false_eq_true, Bool.true_eq_false, fe_z_mod, fe_z_eq, fe_z_lt, fe_z_le, fe_z_div, Int.reduceEq, Int.reduceLT, Int.reduceLE, Int.reduceNeg, ↓reduceIte, eq_self, Nat.reduceAdd, fe_bor, fe_tb_bi, fe_tb_0, fe_tb_1, fe_un_at, Nat.reduceEqDiff, or_false, or_true, true_or, false_or, Int.le_refl, fe_ob0, fe_g0_0, fe_g0_1, fe_g0_2, fe_p0_2, fe_g0_3, fe_g0_4, fe_g0_5, fe_p0_5, fe_g0_6, fe_ob1, fe_g1_0, fe_g1_1, fe_g1_2, fe_g1_3, fe_ob5, fe_g5_0, fe_p5_0, fe_g5_1, fe_p5_1, fe_g5_2, fe_p5_2, fe_g5_3, fe_p5_3, fe_g5_4, fe_p5_4, fe_g5_5, fe_p5_5, fe_g5_6, fe_p5_6, fe_g5_7, fe_p5_7, fe_g5_8, fe_p5_8, fe_g5_9, fe_p5_9, fe_ob7, fe_g7_0, fe_g7_1, fe_g7_2, fe_ob11, fe_g11_0, fe_g11_1, fe_p11_1, fe_ob13, fe_g13_0, fe_g13_1, fe_p13_1, fe_g13_2, fe_p13_2, fe_g13_3, fe_p13_3, fe_g13_4, fe_p13_4, fe_g13_5, fe_p13_5, fe_aa2, fe_sa2, fe_ll2, fe_aa3, fe_sa3, fe_ll3, fe_aa4, fe_sa4, fe_ll4, fe_aa8, fe_sa8, fe_ll8, fe_aa9, fe_sa9, fe_ll9, fe_aa10, fe_sa10, fe_ll10, fe_aa12, fe_sa12, fe_aa14, fe_sa14, fe_ll14, fe_aa6, fe_aa6n, fe_ll6, fe_obE, fe_gE_0, fe_gE_1, fe_gE_2, fe_gE_3, fe_gE_4, fe_gE_5, fe_gE_6, fe_gE_7, fe_gE_8, fe_gE_9, fe_gE_10, fe_gE_11, fe_pE_7, fe_pE_8, fe_aE1, fe_sE1, fe_lE1, fe_aE2, fe_sE2, fe_aE3, fe_sE3, fe_lE3, fe_aE4, fe_sE4, fe_lE4, h7, fe_m60 (x := x) (y := 0) (z := 16) (by omega) (by omega) (by omega) h1, fe_m60 (x := y) (y := 0) (z := 12) (by omega) (by omega) (by omega) h2, fe_m60 (x := rc) (y := 1) (z := 20) (by omega) (by omega) (by omega) h3, fe_m60 (x := co) (y := 0) (z := 10000) (by omega) (by omega) (by omega) h4, fe_m60 (x := w) (y := 0) (z := 7) (by omega) (by omega) (by omega) h5, fe_nw_mk hN, fe_burn_mk]
  exact Iff.rfl
end Fe53

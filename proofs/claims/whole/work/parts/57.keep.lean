/-! what each call keeps -/
section Fe57
variable {E : fe_E} {b : Nat} {N : Nat × Nat × Nat} {B : Nat → Int} {D : Nat → Int → Int} {M : Int → Int64} {V : Nat → Int} {A : Int → Int} {Z : Nat → Int → Bool} {T : fe_Et} {I : Nat → Nat → Int} {O : Nat → Int → Int} {L : Nat → Int → Bool} {C : Nat → Nat → Int → Int} {G : Nat → Int} {R : Nat → Int → Bool} {P F : Nat → Int → Int} {S J : Int → Bool} {U : Int → Int} {o : Int → Int64} {K : fe_R → fe_H → Prop}
variable {n m : Nat}
/-- a call that asks, or that throws -/
theorem fe_inv_q {N' : Nat × Nat × Nat} {M' : Int → Int64} {V' : Nat → Int} {C' : Nat → Nat → Int → Int} {G' : Nat → Int} (hi : fe_inv b n m N M V A Z T I O L C G R P) (hN : N.1 ≤ N'.1) (hC : fe_ch n Z I C') (h0 : V' 0 = V 0) (h3 : V' 3 = V 3) (h1 : V' 1 = 0 ∨ V' 1 = 1) (hp : V' 1 = 1 → fe_pok Z I O L n V' M') (g1 : G' 1 = G 1) (g4 : G' 4 = G 4) : fe_inv b n m N' M' V' A Z T I O L C' G' R P := by
  obtain ⟨ho, hr, hC0, hv1, hpk, hz, hc, hA, ⟨hb1, hb2⟩, hmk⟩ := hi
  obtain ⟨hT, t1, v0, hn, v3, hm, hE, hAk⟩ := ho
  obtain ⟨r1, r2, r3, r4, r5, r6⟩ := hr
  exact ⟨⟨hT, t1, by rw [h0]; exact v0, hn, by rw [h3]; exact v3, hm, hE, hAk⟩, ⟨by rw [g1]; exact r1, r2, by rw [g4]; exact r3, r4, r5, r6⟩, hC, h1, hp, hz, hc, hA, ⟨by omega, fun e he => by have := hb2 e he; omega⟩, hmk⟩
theorem fe_inv_shut {V' : Nat → Int} {C' : Nat → Nat → Int → Int} {f : Int → Bool} (hi : fe_inv b n m N M V A Z T I O L C G R P) (hC : fe_ch n (fe_un Z 0 f) I C') (h0 : ∀ k, ¬ k = 1 → V' k = V k) (h1 : V' 1 = 0 ∨ V' = V ∧ fe_un Z 0 f = Z) : fe_inv b n m N M V' A (fe_un Z 0 f) T I O L C' (fe_un G 0 0) (fe_un R 0 f) P := by
  obtain ⟨ho, hr, hC0, hv1, hpk, ⟨z0, z1, z2⟩, hc, hA, hb, hmk⟩ := hi
  obtain ⟨hT, t1, v0, hn, v3, hm, hE, hAk⟩ := ho
  refine ⟨⟨hT, t1, by rw [h0 0 (by decide)]; exact v0, hn, by rw [h0 3 (by decide)]; exact v3, hm, hE, hAk⟩, hr, hC, ?_, ?_, ⟨rfl, z1, z2⟩, hc, hA, hb, hmk⟩
  · rcases h1 with h1 | ⟨h1, -⟩
    · exact Or.inl h1
    · rw [h1]
      exact hv1
  · intro h
    rcases h1 with h1 | ⟨h1, h2⟩
    · rw [h1] at h
      cases h
    · rw [h1, h2]
      rw [h1] at h
      exact hpk h
theorem fe_inv_tell {f : Int → Bool} (hi : fe_inv b n m N M V A Z T I O L C G R P) : fe_inv b n m N M (fe_un V 1 0) A (fe_un Z 1 f) T I O L C (fe_un G 0 0) (fe_un R 1 f) P := by
  obtain ⟨ho, hr, hC0, hv1, hpk, ⟨z0, z1, z2⟩, hc, hA, hb, hmk⟩ := hi
  exact ⟨ho, hr, hC0, Or.inl rfl, fun h => absurd (show (0 : Int) = 1 from h) (by decide), ⟨z0, rfl, z2⟩, hc, hA, hb, hmk⟩
theorem fe_inv_hide {f : Int → Bool} (hi : fe_inv b n m N M V A Z T I O L C G R P) : fe_inv b n m N M (fe_un V 1 0) A (fe_un Z 2 f) T I O L C (fe_un G 0 0) (fe_un R 2 f) P := by
  obtain ⟨ho, hr, hC0, hv1, hpk, ⟨z0, z1, z2⟩, hc, hA, hb, hmk⟩ := hi
  exact ⟨ho, hr, hC0, Or.inl rfl, fun h => absurd (show (0 : Int) = 1 from h) (by decide), ⟨z0, z1, rfl⟩, hc, hA, hb, hmk⟩
theorem fe_inv_mask {e : Nat} {x : Int} {p : Bool} (hi : fe_inv b n m N M V A Z T I O L C G R P) (he : e < n) (hx : 0 ≤ x ∧ x ≤ 191) : fe_inv b n m N M (fe_un V 1 0) A Z T I O (fe_un L e (fe_up (L e) x p)) C (fe_un G 0 0) (fe_un R 4 (fe_up (R 4) (192 * (e : Int) + x) p)) P := by
  obtain ⟨ho, hr, hC0, hv1, hpk, ⟨z0, z1, z2⟩, hc, hA, hb, hmk⟩ := hi
  refine ⟨ho, hr, hC0, Or.inl rfl, fun h => absurd (show (0 : Int) = 1 from h) (by decide), ⟨z0, z1, z2⟩, ?_, hA, hb, ?_⟩
  · intro e' he'
    obtain ⟨c1, c2, c3⟩ := hc e' he'
    refine ⟨c1, c2, fun cell k1 k2 => ?_⟩
    show fe_un L e (fe_up (L e) x p) e' cell = fe_up (R 4) (192 * (e : Int) + x) p (192 * (e' : Int) + cell)
    rw [fe_un_at, fe_up_at]
    by_cases hee : e' = e
    · subst hee
      rw [if_pos rfl, fe_up_at]
      by_cases hcx : cell = x
      · rw [if_pos hcx, if_pos (by omega)]
      · rw [if_neg hcx, if_neg (by omega)]
        exact c3 cell k1 k2
    · rw [if_neg hee, if_neg (by omega)]
      exact c3 cell k1 k2
  · intro e' cell h1 h2 h3 h4
    show fe_up (R 4) (192 * (e : Int) + x) p (192 * e' + cell) = false
    rw [fe_up_at, if_neg (by omega)]
    exact hmk e' cell h1 h2 h3 h4
theorem fe_inv_turn {e : Nat} {w : Int} {I' : Nat → Nat → Int} (hi : fe_inv b n m N M V A Z T I O L C G R P) (he : e < n) (hw : 0 ≤ w ∧ w ≤ 7) (h8 : I e 5 < 8) (i1 : ∀ e', ¬ e' = e → I' e' = I e') (i2 : ∀ k, k < 5 → I' e k = I e k) (i3 : I' e 5 = I e 5 + 1) (i4 : ∀ q : Nat, I e 6 = (q : Int) → I' e 6 = ((q ||| 2 ^ w.toNat : Nat) : Int)) : fe_inv b n m N M (fe_un V 1 0) A Z T I' (fe_un O e (fe_up (O e) (I e 5) w)) L C (fe_un G 0 0) R (fe_un (fe_un P 4 (fe_up (P 4) (8 * (e : Int) + P 5 e) w)) 5 (fe_up (P 5) e (P 5 e + 1))) := by
  obtain ⟨ho, hr, hC0, hv1, hpk, ⟨z0, z1, z2⟩, hc, hA, hb, hmk⟩ := hi
  obtain ⟨hT, t1, v0, hn, v3, hm, hE, hAk⟩ := ho
  obtain ⟨r1, r2, r3, r4, r5, r6⟩ := hr
  have ⟨⟨c0, c1, c2, c3, c4, c5⟩, cO, cL⟩ := hc e he
  have p4 : ∀ z, (fe_un (fe_un P 4 (fe_up (P 4) (8 * (e : Int) + P 5 e) w)) 5 (fe_up (P 5) e (P 5 e + 1))) 4 z = if z = 8 * (e : Int) + P 5 e then w else P 4 z := fun z => rfl
  have p5 : ∀ z, (fe_un (fe_un P 4 (fe_up (P 4) (8 * (e : Int) + P 5 e) w)) 5 (fe_up (P 5) e (P 5 e + 1))) 5 z = if z = (e : Int) then P 5 e + 1 else P 5 z := fun z => rfl
  have hI : ∀ e', e' < n → (∀ k, k < 5 → I' e' k = I e' k) := fun e' he' k hk => by
    by_cases hee : e' = e
    · subst hee
      exact i2 k hk
    · rw [i1 e' hee]
  have hsb : ∀ e' cell, e' < n → fe_sb Z I' e' cell = fe_sb Z I e' cell := fun e' cell he' => by
    unfold fe_sb
    rw [hI e' he' 0 (by decide), hI e' he' 1 (by decide), hI e' he' 2 (by decide), hI e' he' 4 (by decide)]
  have hhb : ∀ e' cell, e' < n → fe_hb Z I' e' cell = fe_hb Z I e' cell := fun e' cell he' => by
    unfold fe_hb
    rw [hI e' he' 0 (by decide), hI e' he' 1 (by decide), hI e' he' 2 (by decide), hI e' he' 4 (by decide)]
  refine ⟨⟨hT, t1, v0, hn, v3, hm, ?_, hAk⟩, ⟨r1, r2, r3, r4, ?_, r6⟩, ?_, Or.inl rfl, fun h => absurd (show (0 : Int) = 1 from h) (by decide), ⟨z0, z1, z2⟩, ?_, hA, hb, hmk⟩
  · intro e' he'
    have ⟨a1, a2, a3, a4, a5, q, q1, q2, q3⟩ := hE e' he'
    by_cases hee : e' = e
    · subst hee
      refine ⟨by rw [i2 0 (by decide), i2 1 (by decide), i2 2 (by decide)]; exact a1, by rw [i2 3 (by decide)]; exact a2, by rw [i2 4 (by decide)]; exact a3, by omega, fun k k1 k2 => ?_, q ||| 2 ^ w.toNat, ?_, i4 q q2, fun z => ?_⟩
      · rw [fe_un_at, if_pos rfl, fe_up_at]
        split
        · omega
        · exact a5 k k1 (by omega)
      · have hw8 : 2 ^ w.toNat < 2 ^ 8 := Nat.pow_lt_pow_right (by omega) (by omega)
        exact Nat.or_lt_two_pow (n := 8) q1 hw8
      · rw [Nat.testBit_or, Bool.or_eq_true, q3 z, Nat.testBit_two_pow, decide_eq_true_eq, fe_un_at, if_pos rfl]
        constructor
        · rintro (⟨k, k1, k2⟩ | h)
          · refine ⟨k, by omega, ?_⟩
            rw [fe_up_at, if_neg (by omega)]
            exact k2
          · refine ⟨(I e' 5).toNat, by omega, ?_⟩
            rw [fe_up_at, if_pos (by omega)]
            omega
        · rintro ⟨k, k1, k2⟩
          rw [fe_up_at] at k2
          split at k2
          · exact Or.inr (by omega)
          · exact Or.inl ⟨k, by omega, k2⟩
    · rw [i1 e' hee, fe_un_at, if_neg hee]
      exact hE e' he'
  · intro ci k1 k2
    have ⟨b1, b2, b3, b4, b5, b6⟩ := r5 ci k1 k2
    refine ⟨b1, b2, b3, ?_, ?_, fun k k3 k4 => ?_⟩
    · rw [p5]
      split
      · next h =>
        subst h
        omega
      · exact b4
    · rw [p5]
      split
      · next h =>
        subst h
        omega
      · exact b5
    · rw [p5] at k4
      rw [p4]
      split
      · omega
      · next h9 =>
        refine b6 k k3 ?_
        split at k4
        · next h =>
          subst h
          omega
        · exact k4
  · intro e' he' cell k1 k2
    rw [hsb e' cell he', hhb e' cell he']
    exact hC0 e' he' cell k1 k2
  · intro e' he'
    obtain ⟨⟨d0, d1, d2, d3, d4, d5⟩, dO, dL⟩ := hc e' he'
    refine ⟨⟨by rw [hI e' he' 0 (by decide)]; exact d0, by rw [hI e' he' 1 (by decide)]; exact d1, by rw [hI e' he' 2 (by decide)]; exact d2, by rw [hI e' he' 3 (by decide)]; exact d3, by rw [hI e' he' 4 (by decide)]; exact d4, ?_⟩, fun k k1 k2 => ?_, dL⟩
    · rw [p5]
      by_cases hee : e' = e
      · subst hee
        rw [if_pos rfl, i3, d5]
      · rw [if_neg (by omega), i1 e' hee]
        exact d5
    · rw [p5] at k2
      rw [p4, fe_un_at]
      have b5 := (r5 e' (by omega) (by omega)).2.2.2.2.1
      have b5' := (r5 e (by omega) (by omega)).2.2.2.2.1
      have b4' := (r5 e (by omega) (by omega)).2.2.2.1
      by_cases hee : e' = e
      · subst hee
        rw [if_pos rfl] at k2
        rw [if_pos rfl, fe_up_at]
        by_cases hk : k = I e' 5
        · rw [if_pos hk, if_pos (by omega)]
        · rw [if_neg hk, if_neg (by omega)]
          exact dO k k1 (by omega)
      · rw [if_neg (by omega)] at k2
        rw [if_neg hee, if_neg (by omega)]
        exact dO k k1 k2
theorem fe_inv_turn0 (hi : fe_inv b n m N M V A Z T I O L C G R P) : fe_inv b n m N M (fe_un V 1 0) A Z T I O L C (fe_un G 0 0) R P := by
  obtain ⟨ho, hr, hC0, hv1, hpk, hz, hc, hA, hb, hmk⟩ := hi
  exact ⟨ho, hr, hC0, Or.inl rfl, fun h => absurd (show (0 : Int) = 1 from h) (by decide), hz, hc, hA, hb, hmk⟩
theorem fe_inv_step {x : Int} (hi : fe_inv b n m N M V A Z T I O L C G R P) (h6 : m < 60) (hx : 0 ≤ x ∧ x ≤ 191) : fe_inv b n (m + 1) N M (fe_un V 3 ((m : Int) + 1)) (fe_up A (m : Int) x) Z T I O L C (fe_un (fe_un G 0 0) 4 (G 4 + 1)) R (fe_un P 6 (fe_up (P 6) (G 4) x)) := by
  obtain ⟨ho, hr, hC0, hv1, hpk, hz, hc, hA, hb, hmk⟩ := hi
  obtain ⟨hT, t1, v0, hn, v3, hm, hE, hAk⟩ := ho
  obtain ⟨r1, r2, r3, r4, r5, r6⟩ := hr
  refine ⟨⟨hT, t1, v0, hn, rfl, by omega, hE, fun k k1 k2 => ?_⟩, ⟨r1, r2, ?_, by omega, r5, fun k k1 k2 => ?_⟩, hC0, hv1, hpk, hz, hc, fun k k1 k2 => ?_, hb, hmk⟩
  · rw [fe_up_at]
    split
    · omega
    · exact hAk k k1 (by omega)
  · show G 4 + 1 = ((m + 1 : Nat) : Int)
    rw [r3]
    rfl
  · show 0 ≤ fe_up (P 6) (G 4) x k ∧ fe_up (P 6) (G 4) x k < 192
    rw [fe_up_at]
    split
    · omega
    · exact r6 k k1 (by omega)
  · show fe_up A (m : Int) x k = fe_up (P 6) (G 4) x k
    rw [fe_up_at, fe_up_at, r3]
    split
    · rfl
    · exact hA k k1 (by omega)
theorem fe_inv_stand (hi : fe_inv b n m N M V A Z T I O L C G R P) : fe_inv b n 0 N M (fe_un V 3 0) A Z T I O L C (fe_un (fe_un G 0 0) 4 0) R P := by
  obtain ⟨ho, hr, hC0, hv1, hpk, hz, hc, hA, hb, hmk⟩ := hi
  obtain ⟨hT, t1, v0, hn, v3, hm, hE, hAk⟩ := ho
  obtain ⟨r1, r2, r3, r4, r5, r6⟩ := hr
  exact ⟨⟨hT, t1, v0, hn, rfl, by omega, hE, fun k k1 k2 => by omega⟩, ⟨r1, r2, rfl, by omega, r5, fun k k1 k2 => by omega⟩, hC0, hv1, hpk, hz, hc, fun k k1 k2 => by omega, hb, hmk⟩
theorem fe_inv_cam {x y rc co w : Int} {p : Bool} {f1 f2 : Int → Int} (hi : fe_inv b n m N M V A Z T I O L C G R P) (h1 : 0 ≤ x ∧ x ≤ 16) (h2 : 0 ≤ y ∧ y ≤ 12) (h3 : 1 ≤ rc ∧ rc ≤ 20) (h4 : 0 ≤ co ∧ co ≤ 10000) (h5 : 0 ≤ w ∧ w ≤ 7) (h6 : n < 12) (q1 : ∀ j : Int, 0 ≤ j → j < 192 → f1 j = -1) (q2 : ∀ j : Int, 0 ≤ j → j < 192 → f2 j = -1) : fe_inv b (n + 1) m (N.1 + 5, N.2.1 - 5, N.2.2 - 596) M (fe_un (fe_un V 0 ((n : Int) + 1)) 1 0) A Z (fe_nT T N.1) (fe_un I n (fe_nI x y rc co p w)) (fe_un O n (fe_up (fun _ => 0) 0 w)) (fe_un L n (fun _ => false)) (fe_un C n (fun k => if k = 0 then f1 else f2)) (fe_un (fe_un G 0 0) 1 (G 1 + 1)) (fe_un R 3 (fe_up (R 3) (G 1) p)) (fe_un (fe_un (fe_un (fe_un (fe_un (fe_un P 0 (fe_up (P 0) (G 1) x)) 1 (fe_up (P 1) (G 1) y)) 2 (fe_up (P 2) (G 1) rc)) 3 (fe_up (P 3) (G 1) co)) 4 (fe_up (P 4) (8 * G 1) w)) 5 (fe_up (P 5) (G 1) 1)) := by
  obtain ⟨ho, hr, hC0, hv1, hpk, ⟨z0, z1, z2⟩, hc, hA, ⟨hb1, hb2⟩, hmk⟩ := hi
  obtain ⟨hT, t1, v0, hn, v3, hm, hE, hAk⟩ := ho
  obtain ⟨r1, r2, r3, r4, r5, r6⟩ := hr
  generalize hP' : (fe_un (fe_un (fe_un (fe_un (fe_un (fe_un P 0 (fe_up (P 0) (G 1) x)) 1 (fe_up (P 1) (G 1) y)) 2 (fe_up (P 2) (G 1) rc)) 3 (fe_up (P 3) (G 1) co)) 4 (fe_up (P 4) (8 * G 1) w)) 5 (fe_up (P 5) (G 1) 1)) = P'
  have p0 : ∀ z, P' 0 z = if z = (n : Int) then x else P 0 z := fun z => by rw [← hP', ← r1]; rfl
  have p1 : ∀ z, P' 1 z = if z = (n : Int) then y else P 1 z := fun z => by rw [← hP', ← r1]; rfl
  have p2 : ∀ z, P' 2 z = if z = (n : Int) then rc else P 2 z := fun z => by rw [← hP', ← r1]; rfl
  have p3 : ∀ z, P' 3 z = if z = (n : Int) then co else P 3 z := fun z => by rw [← hP', ← r1]; rfl
  have p4 : ∀ z, P' 4 z = if z = 8 * (n : Int) then w else P 4 z := fun z => by rw [← hP', ← r1]; rfl
  have p5 : ∀ z, P' 5 z = if z = (n : Int) then 1 else P 5 z := fun z => by rw [← hP', ← r1]; rfl
  have p6 : ∀ z, P' 6 z = P 6 z := fun z => by rw [← hP']; rfl
  clear hP'
  have hR3 : ∀ z, (fe_un R 3 (fe_up (R 3) (G 1) p)) 3 z = if z = (n : Int) then p else R 3 z := fun z => by rw [← r1]; rfl
  have hwf : fe_wf b (fe_nT T N.1) := by
    refine ⟨fun e he k hk => ?_, fun a e k h => ?_, fun e he => ?_⟩
    · have he : e < T.1 + 1 := he
      simp only [fe_nT, fe_un_at]
      by_cases hee : e = T.1
      · rw [if_pos hee, if_pos (by omega), hee]
        congr 2
        omega
      · rw [if_neg hee]
        have h9 := hb2 e (by omega)
        rw [if_neg (by omega)]
        exact hT.1 e (by omega) k hk
    · simp only [fe_nT, fe_un_at] at h ⊢
      by_cases ha : N.1 ≤ a ∧ a ≤ N.1 + 4
      · rw [if_pos ha] at h
        simp only [Option.some.injEq, Prod.mk.injEq] at h
        obtain ⟨rfl, rfl⟩ := h
        rw [if_pos rfl]
        omega
      · rw [if_neg ha] at h
        obtain ⟨w1, w2, w3⟩ := hT.2.1 a e k h
        rw [if_neg (by omega)]
        exact ⟨by omega, w2, w3⟩
    · have he : e < T.1 + 1 := he
      simp only [fe_nT, fe_un_at]
      by_cases hee : e = T.1
      · rw [if_pos hee]
        exact hb1
      · rw [if_neg hee]
        exact hT.2.2 e (by omega)
  refine ⟨⟨hwf, by show T.1 + 1 = n + 1; omega, by show (n : Int) + 1 = ((n + 1 : Nat) : Int); rfl, by omega, v3, hm, fun e he => ?_, hAk⟩, ⟨by show G 1 + 1 = ((n + 1 : Nat) : Int); rw [r1]; rfl, by omega, r3, r4, fun ci k1 k2 => ?_, fun k k1 k2 => by rw [p6]; exact r6 k k1 k2⟩, fun e he cell k1 k2 => ?_, Or.inl rfl, fun h => absurd (show (0 : Int) = 1 from h) (by decide), ⟨z0, z1, z2⟩, fun e he => ?_, fun k k1 k2 => by rw [p6]; exact hA k k1 k2, ⟨by show b + 34 ≤ N.1 + 5; omega, fun e he => ?_⟩, fun e cell k1 k2 k3 k4 => hmk e cell (by omega) k2 k3 k4⟩
  · by_cases hee : e = n
    · subst hee
      simp only [fe_un_at, if_true]
      refine ⟨⟨h1.1, h1.2, h2.1, h2.2, h3.1, h3.2⟩, h4, ?_, ⟨by show (1 : Int) ≤ 1; omega, by show (1 : Int) ≤ 8; omega⟩, fun k k1 k2 => ?_, 2 ^ w.toNat, ?_, rfl, fun z => ?_⟩
      · cases p
        · exact Or.inl rfl
        · exact Or.inr rfl
      · rw [fe_up_at]
        split <;> omega
      · exact Nat.pow_lt_pow_right (a := 2) (n := 8) (by omega) (by omega)
      · rw [Nat.testBit_two_pow, decide_eq_true_eq]
        constructor
        · intro h
          refine ⟨0, by show ((0 : Nat) : Int) < 1; decide, ?_⟩
          show fe_up (fun _ => (0 : Int)) 0 w 0 = z
          rw [fe_up_at, if_pos rfl]
          omega
        · rintro ⟨k, k1, k2⟩
          have k1 : (k : Int) < 1 := k1
          have : k = 0 := by omega
          subst this
          have k2 : fe_up (fun _ => (0 : Int)) 0 w 0 = z := k2
          rw [fe_up_at, if_pos rfl] at k2
          omega
    · simp only [fe_un_at, if_neg hee]
      exact hE e (by omega)
  · have hci : ci < (n : Int) + 1 := k2
    unfold fe_okc
    rw [p0, p1, p2, p3, p5]
    by_cases hcn : ci = (n : Int)
    · rw [if_pos hcn, if_pos hcn, if_pos hcn, if_pos hcn, if_pos hcn]
      refine ⟨⟨h1.1, h1.2, h2.1, h2.2, h3.1, h3.2⟩, h4.1, h4.2, by omega, by omega, fun k k3 k4 => ?_⟩
      rw [p4, if_pos (by omega)]
      omega
    · rw [if_neg hcn, if_neg hcn, if_neg hcn, if_neg hcn, if_neg hcn]
      have ⟨b1, b2, b3, b4, b5, b6⟩ := r5 ci k1 (by omega)
      refine ⟨b1, b2, b3, b4, b5, fun k k3 k4 => ?_⟩
      rw [p4, if_neg (by omega)]
      exact b6 k k3 k4
  · by_cases hee : e = n
    · subst hee
      simp only [fe_un_at, if_true, Nat.one_ne_zero, if_false]
      exact ⟨Or.inl (q1 cell k1 k2), Or.inl (q2 cell k1 k2)⟩
    · have := hC0 e (by omega) cell k1 k2
      unfold fe_sb fe_hb
      simp only [fe_un_at, if_neg hee]
      exact this
  · by_cases hee : e = n
    · subst hee
      simp only [fe_un_at, if_true]
      refine ⟨⟨by rw [p0, if_pos rfl]; rfl, by rw [p1, if_pos rfl]; rfl, by rw [p2, if_pos rfl]; rfl, by rw [p3, if_pos rfl]; rfl, ?_, by rw [p5, if_pos rfl]; rfl⟩, fun k k1 k2 => ?_, fun cell k1 k2 => ?_⟩
      · show decide ((if p = true then (1 : Int) else 0) = 1) = fe_up (R 3) (G 1) p (e : Int)
        rw [fe_up_at, if_pos r1.symm]
        cases p <;> rfl
      · rw [p5, if_pos rfl] at k2
        rw [fe_up_at, if_pos (by omega), p4, if_pos (by omega)]
      · exact (hmk e cell (by omega) (by omega) k1 k2).symm
    · obtain ⟨⟨d0, d1, d2, d3, d4, d5⟩, dO, dL⟩ := hc e (by omega)
      have hen : ¬ (e : Int) = (n : Int) := by omega
      have b5 := (r5 e (by omega) (by omega)).2.2.2.2.1
      simp only [fe_un_at, if_neg hee]
      refine ⟨⟨by rw [p0, if_neg hen]; exact d0, by rw [p1, if_neg hen]; exact d1, by rw [p2, if_neg hen]; exact d2, by rw [p3, if_neg hen]; exact d3, ?_, by rw [p5, if_neg hen]; exact d5⟩, fun k k1 k2 => ?_, fun cell k1 k2 => dL cell k1 k2⟩
      · have := hR3 e
        rw [if_neg hen] at this
        rw [d4]
        exact this.symm
      · rw [p5, if_neg hen] at k2
        rw [p4, if_neg (by omega)]
        exact dO k k1 k2
  · show (fe_nT T N.1).2.2 e + 4 < N.1 + 5
    simp only [fe_nT, fe_un_at]
    split
    · omega
    · have := hb2 e (by omega)
      omega
end Fe57

/-! class and reference side by side -/
def fe_cpl (n : Nat) (I : Nat → Nat → Int) (O : Nat → Int → Int) (L : Nat → Int → Bool) (R : Nat → Int → Bool) (P : Nat → Int → Int) : Prop := ∀ e : Nat, e < n → (I e 0 = P 0 e ∧ I e 1 = P 1 e ∧ I e 2 = P 2 e ∧ I e 3 = P 3 e ∧ decide (I e 4 = 1) = R 3 e ∧ I e 5 = P 5 e) ∧ (∀ k : Int, 0 ≤ k → k < P 5 e → O e k = P 4 (8 * (e : Int) + k)) ∧ (∀ cell : Int, 0 ≤ cell → cell < 192 → L e cell = R 4 (192 * (e : Int) + cell))
def fe_inv (b n m : Nat) (N : Nat × Nat × Nat) (M : Int → Int64) (V : Nat → Int) (A : Int → Int) (Z : Nat → Int → Bool) (T : fe_Et) (I : Nat → Nat → Int) (O : Nat → Int → Int) (L : Nat → Int → Bool) (C : Nat → Nat → Int → Int) (G : Nat → Int) (R : Nat → Int → Bool) (P : Nat → Int → Int) : Prop := fe_okk b n m V A T I O ∧ fe_okr n m G P ∧ fe_ch n Z I C ∧ (V 1 = 0 ∨ V 1 = 1) ∧ (V 1 = 1 → fe_pok Z I O L n V M) ∧ (Z 0 = R 0 ∧ Z 1 = R 1 ∧ Z 2 = R 2) ∧ fe_cpl n I O L R P ∧ (∀ k : Int, 0 ≤ k → k < m → A k = P 6 k) ∧ (b + 34 ≤ N.1 ∧ ∀ e, e < n → T.2.2 e + 4 < N.1) ∧ (∀ e cell : Int, (n : Int) ≤ e → e < 12 → 0 ≤ cell → cell < 192 → R 4 (192 * e + cell) = false)
/-- what stands between two calls, with room for so many -/
def fe_ST (b q : Nat) (h : fe_H) : Prop := ∃ (n m : Nat) (N : Nat × Nat × Nat) (B : Nat → Int) (D : Nat → Int → Int) (M : Int → Int64) (V : Nat → Int) (A : Int → Int) (Z : Nat → Int → Bool) (T : fe_Et) (I : Nat → Nat → Int) (O : Nat → Int → Int) (L : Nat → Int → Bool) (C : Nat → Nat → Int → Int) (G : Nat → Int) (R : Nat → Int → Bool) (P F : Nat → Int → Int) (S J : Int → Bool) (U : Int → Int) (o : Int → Int64), h = (fe_mk b N (fe_cc b B D M V A Z T I O L C) (fe_rc b G R P F S J U o)) ∧ fe_inv b n m N M V A Z T I O L C G R P ∧ 5 * q ≤ N.2.1 ∧ 596 * q ≤ N.2.2
def fe_sX (E : fe_E) (i k : Nat) : Int := (E.2.2.1 (i + k)).toInt
theorem fe_sX_bd {E : fe_E} {i k : Nat} : -2147483648 ≤ fe_sX E i k ∧ fe_sX E i k ≤ 2147483647 := by
  unfold fe_sX
  have h1 := Int32.le_toInt (E.2.2.1 (i + k))
  have h2 := Int32.toInt_lt (E.2.2.1 (i + k))
  omega
theorem fe_fol_congr {g g' : Nat → Nat → Bool} {n m : Nat} (h : ∀ t, t < m → ∀ c, c < n → g t c = g' t c) : ∀ t, t ≤ m → fe_fol g n t = fe_fol g' n t := by
  intro t
  induction t with
  | zero => intro _; rfl
  | succ t ih =>
    intro ht
    have h1 := ih (by omega)
    have hl : ∀ k, k ≤ n → fe_lst (g t) k = fe_lst (g' t) k := fun k => by
      induction k with
      | zero => intro _; rfl
      | succ k ihk =>
        intro hk
        simp only [fe_lst]
        rw [ihk (by omega), h t (by omega) k (by omega)]
    have hb := fe_fol_bd (g := g') (n := n) (t := t)
    have hw : fe_wh (g t) n (fe_fol g' n t 5) = fe_wh (g' t) n (fe_fol g' n t 5) := by
      unfold fe_wh
      rw [hl n (Nat.le_refl _)]
      by_cases h0 : 0 ≤ fe_fol g' n t 5
      · rw [h t (by omega) (fe_fol g' n t 5).toNat (by omega)]
      · rw [if_neg (fun q => h0 q.1), if_neg (fun q => h0 q.1)]
    simp only [fe_fol]
    rw [h1]
    funext k
    unfold fe_fs
    rw [hw]
section Fe56
variable {E : fe_E} {b : Nat} {N : Nat × Nat × Nat} {B : Nat → Int} {D : Nat → Int → Int} {M : Int → Int64} {V : Nat → Int} {A : Int → Int} {Z : Nat → Int → Bool} {T : fe_Et} {I : Nat → Nat → Int} {O : Nat → Int → Int} {L : Nat → Int → Bool} {C : Nat → Nat → Int → Int} {G : Nat → Int} {R : Nat → Int → Bool} {P F : Nat → Int → Int} {S J : Int → Bool} {U : Int → Int} {o : Int → Int64} {K : fe_R → fe_H → Prop}
theorem fe_none {E' : Nat} (hT : fe_wf b T) (hE : E' < b) : fe_get (fe_mk b N (fe_cc b B D M V A Z T I O L C) (fe_rc b G R P F S J U o)) E' = none := by
  rw [fe_mk_gc (by omega)]
  simp only [fe_cc]
  iterate 15 rw [if_neg (by omega)]
  unfold fe_eye
  cases hW : T.2.1 E' with
  | none => rfl
  | some z =>
    obtain ⟨e', k'⟩ := z
    obtain ⟨h5, h6, h7⟩ := hT.2.1 E' e' k' hW
    have := hT.2.2 e' h5
    omega
theorem fe_rd {i k : Nat} (hT : fe_wf b T) (hE : E.1 < b) (hk : i + k < E.2.1) (hL : E.2.1 ≤ 3584) : fe_ia E (fe_mk b N (fe_cc b B D M V A Z T I O L C) (fe_rc b G R P F S J U o)) E.1 (fe_z ((i : Int) + (k : Int))) = some (fe_z (fe_sX E i k)) := by
  have e1 : (i : Int) + (k : Int) = ((i + k : Nat) : Int) := by omega
  rw [e1]
  have hi : fe_inb (fe_z ((i + k : Nat) : Int)) E.2.1 = true := fe_z_inb (by omega) (by omega) (by omega)
  simp only [fe_ia, fe_none hT hE, hi, and_self, if_true, fe_z_nat (a := ((i + k : Nat) : Int)) (by omega) (by omega), Int.toNat_natCast]
  congr 1
  exact fe_z_of _
theorem fe_rl (hT : fe_wf b T) (hE : E.1 < b) : fe_ln E (fe_mk b N (fe_cc b B D M V A Z T I O L C) (fe_rc b G R P F S J U o)) E.1 = some E.2.1 := by
  simp only [fe_ln, fe_none hT hE, if_true]
variable {n m : Nat}
theorem fe_cO {e t : Nat} (hr : fe_okr n m G P) (hc : fe_cpl n I O L R P) (he : e < n) : O e ((t : Int) % I e 5) = P 4 (8 * (e : Int) + (t : Int) % P 5 e) := by
  have ⟨g1, hn, g4, hm, hP, hW⟩ := hr
  have ⟨hok, p3, p3', p5, p5', hw⟩ := hP e (by omega) (by omega)
  obtain ⟨⟨c0, c1, c2, c3, c4, c5⟩, cO, cL⟩ := hc e he
  rw [c5]
  exact cO _ (Int.emod_nonneg _ (by omega)) (Int.emod_lt_of_pos _ (by omega))
theorem fe_cO2 {e : Nat} {t : Int} (hr : fe_okr n m G P) (hc : fe_cpl n I O L R P) (he : e < n) : O e (t % I e 5) = P 4 (8 * (e : Int) + t % P 5 e) := by
  have ⟨g1, hn, g4, hm, hP, hW⟩ := hr
  have ⟨hok, p3, p3', p5, p5', hw⟩ := hP e (by omega) (by omega)
  obtain ⟨⟨c0, c1, c2, c3, c4, c5⟩, cO, cL⟩ := hc e he
  rw [c5]
  exact cO _ (Int.emod_nonneg _ (by omega)) (Int.emod_lt_of_pos _ (by omega))
theorem fe_cS {e : Nat} {cell w : Int} (hz : Z 0 = R 0) (hc : fe_cpl n I O L R P) (he : e < n) (h1 : 0 ≤ cell) (h2 : cell < 192) : fe_vS Z I L e cell w ↔ fe_sI R P e cell w := by
  obtain ⟨⟨c0, c1, c2, c3, c4, c5⟩, cO, cL⟩ := hc e he
  unfold fe_vS fe_sI
  rw [cL cell h1 h2, hz, c0, c1, c2, c4]
theorem fe_cH {e : Nat} {cell w : Int} (hz : Z 0 = R 0) (hc : fe_cpl n I O L R P) (he : e < n) (h1 : 0 ≤ cell) (h2 : cell < 192) : fe_vH Z I L e cell w ↔ fe_hI R P e cell w := by
  obtain ⟨⟨c0, c1, c2, c3, c4, c5⟩, cO, cL⟩ := hc e he
  unfold fe_vH fe_hI
  rw [cL cell h1 h2, hz, c0, c1, c2, c4]
theorem fe_ckw {cell t : Nat} (hr : fe_okr n m G P) (hz : Z 0 = R 0) (hc : fe_cpl n I O L R P) (h2 : cell < 192) : fe_kw Z I O L n cell t = fe_who R P n cell t := by
  unfold fe_kw fe_who
  refine fe_bits_congr (fun e he => fe_B_congr ?_)
  rw [fe_cO hr hc he]
  exact fe_cS hz hc he (by omega) (by omega)
theorem fe_cnd {i q : Nat} (hr : fe_okr n m G P) (hz : Z 0 = R 0) (hz1 : Z 1 = R 1) (hc : fe_cpl n I O L R P) (hi : i ≤ 192) : fe_knd Z I O L n i q ↔ fe_nd R P n i q := by
  unfold fe_knd fe_nd
  constructor
  · rintro ⟨cell, a1, a2, a3, t, a4, a5⟩
    exact ⟨cell, a1, by rw [← hz1]; exact a2, by rw [← hz]; exact a3, t, a4, by rw [a5]; exact fe_ckw hr hz hc (by omega)⟩
  · rintro ⟨cell, a1, a2, a3, t, a4, a5⟩
    exact ⟨cell, a1, by rw [hz1]; exact a2, by rw [hz]; exact a3, t, a4, by rw [a5]; exact (fe_ckw hr hz hc (by omega)).symm⟩
theorem fe_csh (hr : fe_okr n m G P) (hz : Z 0 = R 0) (hz2 : Z 2 = R 2) (hc : fe_cpl n I O L R P) : fe_ksh Z I O L n 192 = fe_shr R P n := by
  have ⟨g1, hn, g4, hm, hP, hW⟩ := hr
  unfold fe_ksh fe_shr
  refine fe_bits_congr (fun e he => fe_B_congr ?_)
  obtain ⟨⟨c0, c1, c2, c3, c4, c5⟩, cO, cL⟩ := hc e he
  unfold fe_qz fe_q1
  constructor
  · rintro ⟨cell, a1, a2, k, a3, a4⟩
    rw [c5] at a3
    rw [cO k (by omega) a3] at a4
    exact ⟨cell, a1, by rw [← hz2]; exact a2, k, a3, (fe_cH hz hc he (by omega) (by omega)).mp a4⟩
  · rintro ⟨cell, a1, a2, k, a3, a4⟩
    refine ⟨cell, a1, by rw [hz2]; exact a2, k, by rw [c5]; exact a3, ?_⟩
    rw [cO k (by omega) a3]
    exact (fe_cH hz hc he (by omega) (by omega)).mpr a4
theorem fe_cgd {p : Bool} {s : Nat} (hr : fe_okr n m G P) (hz : Z 0 = R 0) (hz1 : Z 1 = R 1) (hz2 : Z 2 = R 2) (hc : fe_cpl n I O L R P) : fe_gd (fe_knd Z I O L n 192) (fe_ksh Z I O L n 192) n p s = fe_gd (fe_nd R P n 192) (fe_shr R P n) n p s := by
  rw [fe_csh hr hz hz2 hc, show fe_knd Z I O L n 192 = fe_nd R P n 192 from funext (fun q => propext (fe_cnd hr hz hz1 hc (Nat.le_refl _)))]
theorem fe_cE {x : Int32} {cell : Nat} (hz : Z 0 = R 0) (hc : fe_cpl n I O L R P) (h2 : cell < 192) : fe_kE Z I O L n x cell ↔ fe_sE R P n x cell := by
  unfold fe_kE fe_sE
  constructor
  · rintro ⟨e, he, a2, k, a3, a4⟩
    obtain ⟨⟨c0, c1, c2, c3, c4, c5⟩, cO, cL⟩ := hc e he
    rw [c5] at a3
    rw [cO k (by omega) a3] at a4
    exact ⟨e, he, a2, k, a3, (fe_cS hz hc he (by omega) (by omega)).mp a4⟩
  · rintro ⟨e, he, a2, k, a3, a4⟩
    obtain ⟨⟨c0, c1, c2, c3, c4, c5⟩, cO, cL⟩ := hc e he
    refine ⟨e, he, a2, k, by rw [c5]; exact a3, ?_⟩
    rw [cO k (by omega) a3]
    exact (fe_cS hz hc he (by omega) (by omega)).mpr a4
theorem fe_cJ {x : Int32} {cell : Int} {t : Nat} (hr : fe_okr n m G P) (hz : Z 0 = R 0) (hc : fe_cpl n I O L R P) (h1 : 0 ≤ cell) (h2 : cell < 192) : ¬ fe_bits (fun e => fe_B (fe_kT Z I O L n x cell t e)) 12 = 0 ↔ fe_sJ R P n x cell t := by
  have ⟨g1, hn, g4, hm, hP, hW⟩ := hr
  unfold fe_sJ
  constructor
  · intro h
    refine Classical.byContradiction (fun hno => h ?_)
    apply Nat.eq_of_testBit_eq
    intro j
    rw [fe_bits_test, Nat.zero_testBit]
    rw [fe_B_neg (fun hk => hno ⟨j, hk.1, hk.2.1, by
      have := hk.2.2
      rw [fe_cO hr hc hk.1] at this
      exact (fe_cS hz hc hk.1 h1 h2).mp this⟩), Bool.and_false]
  · rintro ⟨e, he, a2, a3⟩ h
    have hb := fe_bits_test (f := fun e => fe_B (fe_kT Z I O L n x cell t e)) (n := 12) (i := e)
    rw [h, Nat.zero_testBit, decide_eq_true (show e < 12 by omega), Bool.true_and] at hb
    have := fe_B_f.mp hb.symm
    refine this ⟨he, a2, ?_⟩
    rw [fe_cO hr hc he]
    exact (fe_cS hz hc he h1 h2).mpr a3
theorem fe_cF {x : Int32} {what : Int} (hr : fe_okr n m G P) (hz : Z 0 = R 0) (hc : fe_cpl n I O L R P) (hA : ∀ k : Int, 0 ≤ k → k < m → A k = P 6 k) : fe_fov (fe_fol (fun t e => fe_B (fe_kT Z I O L n x (A t) t e)) n m) what = fe_fov (fe_fol (fe_fg R P x) n m) what := by
  have ⟨g1, hn, g4, hm, hP, hW⟩ := hr
  rw [fe_fol_congr (g' := fe_fg R P x) (m := m) (fun t ht e he => ?_) m (Nat.le_refl _)]
  unfold fe_fg
  apply fe_B_congr
  have w := hW t (by omega) (by omega)
  rw [hA t (by omega) (by omega)]
  unfold fe_kT
  rw [fe_cO hr hc he]
  constructor
  · rintro ⟨-, a2, a3⟩
    exact ⟨a2, (fe_cS hz hc he w.1 w.2).mp a3⟩
  · rintro ⟨a2, a3⟩
    exact ⟨he, a2, (fe_cS hz hc he w.1 w.2).mpr a3⟩
theorem fe_csum {f : Nat → Bool} (hc : fe_cpl n I O L R P) : fe_sum (fun e => if f e then I e 3 else 0) n = fe_sum (fun e => if f e then P 3 e else 0) n := by
  have : ∀ k, k ≤ n → fe_sum (fun e => if f e then I e 3 else 0) k = fe_sum (fun e => if f e then P 3 e else 0) k := fun k => by
    induction k with
    | zero => intro _; rfl
    | succ k ih =>
      intro hk
      simp only [fe_sum]
      rw [ih (by omega), (hc k (by omega)).1.2.2.2.1]
  exact this n (Nat.le_refl _)
theorem fe_cnt_congr {f g : Nat → Bool} {k : Nat} (h : ∀ i, i < k → f i = g i) : fe_cnt f k = fe_cnt g k := by
  induction k with
  | zero => rfl
  | succ k ih =>
    simp only [fe_cnt]
    rw [ih (fun i hi => h i (by omega)), h k (by omega)]
end Fe56

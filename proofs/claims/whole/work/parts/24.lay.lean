/-! the picture of the heap: printed by program (wip/gen/lay.py) -/
/-- eyes: how many, who owns an address, where each lies -/
abbrev fe_Et : Type := Nat × (Nat → Option (Nat × Nat)) × (Nat → Nat)
def fe_rI (n : Nat) (f : Int → Int) : fe_C := fe_I n (fun j => fe_z (f (j : Int)))
def fe_rZ (n : Nat) (f : Int → Bool) : fe_C := fe_Z n (fun j => f (j : Int))
def fe_rJ (n : Nat) (f : Int → Int64) : fe_C := fe_J n (fun j => f (j : Int))
def fe_eyo (b : Nat) (T : fe_Et) (I : Nat → Nat → Int) (e : Nat) : fe_C := fe_O 1 [.ref (b + 1), .int (fe_z (I e 0)), .int (fe_z (I e 1)), .int (fe_z (I e 2)), .int (fe_z (I e 3)), .int (fe_z (I e 4)), .ref (T.2.2 e + 1), .int (fe_z (I e 5)), .int (fe_z (I e 6)), .ref (T.2.2 e + 2), .ref (T.2.2 e + 3), .ref (T.2.2 e + 4)]
def fe_eye (b : Nat) (T : fe_Et) (I : Nat → Nat → Int) (O : Nat → Int → Int) (L : Nat → Int → Bool) (C : Nat → Nat → Int → Int) (a : Nat) : Option fe_C := match T.2.1 a with
  | some (e, 0) => some (fe_eyo b T I e)
  | some (e, 1) => some (fe_rI 8 (O e))
  | some (e, 2) => some (fe_rZ 192 (L e))
  | some (e, 3) => some (fe_rI 192 (C e 0))
  | some (e, 4) => some (fe_rI 192 (C e 1))
  | _ => none
def fe_cc (b : Nat) (B : Nat → Int) (D : Nat → Int → Int) (M : Int → Int64) (V : Nat → Int) (A : Int → Int) (Z : Nat → Int → Bool) (T : fe_Et) (I : Nat → Nat → Int) (O : Nat → Int → Int) (L : Nat → Int → Bool) (C : Nat → Nat → Int → Int) (a : Nat) : Option fe_C :=
  if a = b then some (fe_O 6 [.ref (b + 1), .ref (b + 6), .int (fe_z (V 0)), .ref (b + 7), .ref (b + 11), .int (fe_z (V 1)), .ref (b + 13)])
  else if a = b + 1 then some (fe_O 2 [.ref (b + 2), .ref (b + 3), .ref (b + 4), .ref (b + 5)])
  else if a = b + 2 then some (fe_rZ 192 (Z 0))
  else if a = b + 3 then some (fe_rZ 192 (Z 1))
  else if a = b + 4 then some (fe_rZ 192 (Z 2))
  else if a = b + 5 then some (fe_O 0 [.int (fe_z (B 0)), .int (fe_z (B 1)), .int (fe_z (B 2)), .int (fe_z (B 3)), .int (fe_z (B 4)), .int (fe_z (B 5)), .int (fe_z (B 6)), .int (fe_z (B 7)), .int (fe_z (B 8)), .int (fe_z (B 9))])
  else if a = b + 6 then some (fe_Q 12 (fun j => if j < T.1 then some (T.2.2 j) else none))
  else if a = b + 7 then some (fe_O 5 [.ref (b + 8), .ref (b + 9), .ref (b + 10)])
  else if a = b + 8 then some (fe_rI 24 (D 0))
  else if a = b + 9 then some (fe_rI 5 (D 1))
  else if a = b + 10 then some (fe_rI 7 (D 2))
  else if a = b + 11 then some (fe_O 3 [.ref (b + 12), .int (fe_z (V 2))])
  else if a = b + 12 then some (fe_rJ 64 M)
  else if a = b + 13 then some (fe_O 4 [.ref (b + 14), .int (fe_z (V 3)), .int (fe_z (V 4)), .int (fe_z (V 5)), .int (fe_z (V 6)), .int (fe_z (V 7))])
  else if a = b + 14 then some (fe_rI 60 A)
  else fe_eye b T I O L C a
def fe_rc (b : Nat) (G : Nat → Int) (R : Nat → Int → Bool) (P : Nat → Int → Int) (F : Nat → Int → Int) (S J : Int → Bool) (U : Int → Int) (o : Int → Int64) (a : Nat) : Option fe_C :=
  if a = b + 15 then some (fe_O 7 [.int (fe_z (G 0)), .ref (b + 16), .ref (b + 17), .ref (b + 18), .ref (b + 19), .ref (b + 20), .ref (b + 21), .ref (b + 22), .ref (b + 23), .ref (b + 24), .ref (b + 25), .ref (b + 26), .int (fe_z (G 1)), .ref (b + 27), .ref (b + 28), .ref (b + 29), .ref (b + 30), .ref (b + 31), .int (fe_z (G 2)), .int (fe_z (G 3)), .ref (b + 32), .int (fe_z (G 4))])
  else if a = b + 16 then some (fe_rZ 192 (R 0))
  else if a = b + 17 then some (fe_rZ 192 (R 1))
  else if a = b + 18 then some (fe_rZ 192 (R 2))
  else if a = b + 19 then some (fe_rI 12 (P 0))
  else if a = b + 20 then some (fe_rI 12 (P 1))
  else if a = b + 21 then some (fe_rI 12 (P 2))
  else if a = b + 22 then some (fe_rI 12 (P 3))
  else if a = b + 23 then some (fe_rZ 12 (R 3))
  else if a = b + 24 then some (fe_rI 96 (P 4))
  else if a = b + 25 then some (fe_rI 12 (P 5))
  else if a = b + 26 then some (fe_rZ 2304 (R 4))
  else if a = b + 27 then some (fe_rI 5 (F 0))
  else if a = b + 28 then some (fe_rI 5 (F 1))
  else if a = b + 29 then some (fe_rZ 96 S)
  else if a = b + 30 then some (fe_rZ 4096 J)
  else if a = b + 31 then some (fe_rI 4096 U)
  else if a = b + 32 then some (fe_rI 60 (P 6))
  else if a = b + 33 then some (fe_rJ 1 o)
  else none
def fe_mk (b : Nat) (N : Nat × Nat × Nat) (c r : Nat → Option fe_C) : fe_H := (N.1, N.2.1, N.2.2, fun a => if b + 15 ≤ a ∧ a ≤ b + 33 then r a else c a)
def fe_wf (b : Nat) (T : fe_Et) : Prop := (∀ e, e < T.1 → ∀ k, k < 5 → T.2.1 (T.2.2 e + k) = some (e, k)) ∧ (∀ a e k, T.2.1 a = some (e, k) → e < T.1 ∧ k < 5 ∧ a = T.2.2 e + k) ∧ (∀ e, e < T.1 → b + 34 ≤ T.2.2 e)
section FeL
variable {E : fe_E} {b : Nat} {N : Nat × Nat × Nat} {c r : Nat → Option fe_C} {h h' : fe_H} {a k ci n : Nat} {i v : Int} {x : Int32} {fs : List Value}
theorem fe_gf_of (hg : fe_get h a = some (fe_O ci fs)) : fe_gf h a ci k = fs[k]? := by simp only [fe_gf, hg, if_true]
theorem fe_pf_of {w : Value} (hg : fe_get h a = some (fe_O ci fs)) (hk : k < fs.length) (hp : fe_put h a (fe_O ci (fs.set k w)) = h') : fe_pf h a ci k w = some h' := by simp only [fe_pf, hg, hk, and_self, if_true, hp]
theorem fe_ob_of (hg : fe_get h a = some (fe_O ci fs)) : fe_ob h a ci = true := by simp only [fe_ob, hg, decide_true]
theorem fe_ia_of {f : Int → Int} (hg : fe_get h a = some (fe_rI n f)) (h0 : 0 ≤ i) (h1 : i < n) (h2 : i ≤ 2147483647) : fe_ia E h a (fe_z i) = some (fe_z (f i)) := by
  simp only [fe_ia, hg, fe_rI, fe_z_inb h0 h1 h2, if_true, fe_z_nat h0 h2, Int.toNat_of_nonneg h0]
theorem fe_za_of {f : Int → Bool} (hg : fe_get h a = some (fe_rZ n f)) (h0 : 0 ≤ i) (h1 : i < n) (h2 : i ≤ 2147483647) : fe_za h a (fe_z i) = some (f i) := by
  simp only [fe_za, hg, fe_rZ, fe_z_inb h0 h1 h2, if_true, fe_z_nat h0 h2, Int.toNat_of_nonneg h0]
theorem fe_ja_of {f : Int → Int64} (hg : fe_get h a = some (fe_rJ n f)) (h0 : 0 ≤ i) (h1 : i < n) (h2 : i ≤ 2147483647) : fe_ja E h a (fe_z i) = some (f i) := by
  simp only [fe_ja, hg, fe_rJ, fe_z_inb h0 h1 h2, if_true, fe_z_nat h0 h2, Int.toNat_of_nonneg h0]
theorem fe_lnI {f : Int → Int} (hg : fe_get h a = some (fe_rI n f)) : fe_ln E h a = some n := by simp only [fe_ln, hg, fe_rI]
theorem fe_lnZ {f : Int → Bool} (hg : fe_get h a = some (fe_rZ n f)) : fe_ln E h a = some n := by simp only [fe_ln, hg, fe_rZ]
theorem fe_is_of {f : Int → Int} (hg : fe_get h a = some (fe_rI n f)) (h0 : 0 ≤ i) (h1 : i < n) (h2 : i ≤ 2147483647) (hp : fe_put h a (fe_rI n (fe_up f i v)) = h') : fe_is h a (fe_z i) (fe_z v) = some h' := by
  subst hp
  simp only [fe_is, hg, fe_rI, fe_z_inb h0 h1 h2, if_true, fe_z_nat h0 h2]
  have : upd (fun j => fe_z (f (j : Int))) i.toNat (fe_z v) = fun j : Nat => fe_z (fe_up f i v j) := by
    funext j
    simp only [upd, fe_up]
    by_cases hj : j = i.toNat
    · have : (j : Int) = i := by omega
      simp [hj, this, Int.toNat_of_nonneg h0]
    · have : ¬ (j : Int) = i := by omega
      simp [hj, this]
  rw [this]
theorem fe_zs_of {f : Int → Bool} (hg : fe_get h a = some (fe_rZ n f)) (h0 : 0 ≤ i) (h1 : i < n) (h2 : i ≤ 2147483647) (hp : fe_put h a (fe_rZ n (fe_up f i (fe_tb x))) = h') : fe_zs h a (fe_z i) x = some h' := by
  subst hp
  simp only [fe_zs, hg, fe_rZ, fe_z_inb h0 h1 h2, if_true, fe_z_nat h0 h2]
  have : fe_ub (fun j => f (j : Int)) i.toNat (fe_tb x) = fun j : Nat => fe_up f i (fe_tb x) j := by
    funext j
    simp only [fe_ub, fe_up]
    by_cases hj : j = i.toNat
    · have : (j : Int) = i := by omega
      simp [hj, this, Int.toNat_of_nonneg h0]
    · have : ¬ (j : Int) = i := by omega
      simp [hj, this]
  rw [this]
theorem fe_js_of {f : Int → Int64} {w : Int64} (hg : fe_get h a = some (fe_rJ n f)) (h0 : 0 ≤ i) (h1 : i < n) (h2 : i ≤ 2147483647) (hp : fe_put h a (fe_rJ n (fe_up f i w)) = h') : fe_js h a (fe_z i) w = some h' := by
  subst hp
  simp only [fe_js, hg, fe_rJ, fe_z_inb h0 h1 h2, if_true, fe_z_nat h0 h2]
  have : vp_updL (fun j => f (j : Int)) i.toNat w = fun j : Nat => fe_up f i w j := by
    funext j
    simp only [vp_updL, fe_up]
    by_cases hj : j = i.toNat
    · have : (j : Int) = i := by omega
      simp [hj, this, Int.toNat_of_nonneg h0]
    · have : ¬ (j : Int) = i := by omega
      simp [hj, this]
  rw [this]
theorem fe_mk_c {c' : Nat → Option fe_C} {y : fe_C} (k : Nat) (hk : ¬ (b + 15 ≤ k ∧ k ≤ b + 33)) (h1 : c' k = some y) (h2 : ∀ a, ¬ a = k → c' a = c a) : fe_put (fe_mk b N c r) k y = fe_mk b N c' r := by
  simp only [fe_put, fe_mk, Prod.mk.injEq, true_and]
  funext a
  by_cases ha : a = k
  · subst ha
    simp [hk, h1]
  · simp [ha, h2 a ha]
theorem fe_mk_r {r' : Nat → Option fe_C} {y : fe_C} (k : Nat) (hk : b + 15 ≤ k ∧ k ≤ b + 33) (h1 : r' k = some y) (h2 : ∀ a, ¬ a = k → r' a = r a) : fe_put (fe_mk b N c r) k y = fe_mk b N c r' := by
  simp only [fe_put, fe_mk, Prod.mk.injEq, true_and]
  funext a
  by_cases ha : a = k
  · subst ha
    simp [hk, h1]
  · simp [ha, h2 a ha]
theorem fe_mk_gc (hk : ¬ (b + 15 ≤ a ∧ a ≤ b + 33)) : fe_get (fe_mk b N c r) a = c a := by simp only [fe_get, fe_mk, if_neg hk]
theorem fe_mk_gr (hk : b + 15 ≤ a ∧ a ≤ b + 33) : fe_get (fe_mk b N c r) a = r a := by simp only [fe_get, fe_mk, if_pos hk]
end FeL
section FeLc
variable {E : fe_E} {b : Nat} {N : Nat × Nat × Nat} {r : Nat → Option fe_C} {B : Nat → Int} {D : Nat → Int → Int} {M : Int → Int64} {V : Nat → Int} {A : Int → Int} {Z : Nat → Int → Bool} {T : fe_Et} {I : Nat → Nat → Int} {O : Nat → Int → Int} {L : Nat → Int → Bool} {C : Nat → Nat → Int → Int} {i v : Int} {x : Int32} {e : Nat}
theorem fe_G0 : fe_get (fe_mk b N (fe_cc b B D M V A Z T I O L C) r) (b) = some (fe_O 6 [.ref (b + 1), .ref (b + 6), .int (fe_z (V 0)), .ref (b + 7), .ref (b + 11), .int (fe_z (V 1)), .ref (b + 13)]) := by
  rw [fe_mk_gc (by omega)]
  simp [fe_cc]
theorem fe_ob0 : fe_ob (fe_mk b N (fe_cc b B D M V A Z T I O L C) r) (b) 6 = true := fe_ob_of fe_G0
theorem fe_g0_0 : fe_gf (fe_mk b N (fe_cc b B D M V A Z T I O L C) r) (b) 6 0 = some (.ref (b + 1)) := fe_gf_of fe_G0
theorem fe_g0_1 : fe_gf (fe_mk b N (fe_cc b B D M V A Z T I O L C) r) (b) 6 1 = some (.ref (b + 6)) := fe_gf_of fe_G0
theorem fe_g0_2 : fe_gf (fe_mk b N (fe_cc b B D M V A Z T I O L C) r) (b) 6 2 = some (.int (fe_z (V 0))) := fe_gf_of fe_G0
theorem fe_p0_2  : fe_pf (fe_mk b N (fe_cc b B D M V A Z T I O L C) r) (b) 6 2 (.int (fe_z v)) = some (fe_mk b N (fe_cc b B D M (fe_un V 0 v) A Z T I O L C) r) := fe_pf_of fe_G0 (Nat.le_of_ble_eq_true rfl) (fe_mk_c (b) (by omega) (by simp [fe_cc, fe_un]) (fun a ha => by simp [fe_cc, fe_un, ha]))
theorem fe_g0_3 : fe_gf (fe_mk b N (fe_cc b B D M V A Z T I O L C) r) (b) 6 3 = some (.ref (b + 7)) := fe_gf_of fe_G0
theorem fe_g0_4 : fe_gf (fe_mk b N (fe_cc b B D M V A Z T I O L C) r) (b) 6 4 = some (.ref (b + 11)) := fe_gf_of fe_G0
theorem fe_g0_5 : fe_gf (fe_mk b N (fe_cc b B D M V A Z T I O L C) r) (b) 6 5 = some (.int (fe_z (V 1))) := fe_gf_of fe_G0
theorem fe_p0_5  : fe_pf (fe_mk b N (fe_cc b B D M V A Z T I O L C) r) (b) 6 5 (.int (fe_z v)) = some (fe_mk b N (fe_cc b B D M (fe_un V 1 v) A Z T I O L C) r) := fe_pf_of fe_G0 (Nat.le_of_ble_eq_true rfl) (fe_mk_c (b) (by omega) (by simp [fe_cc, fe_un]) (fun a ha => by simp [fe_cc, fe_un, ha]))
theorem fe_g0_6 : fe_gf (fe_mk b N (fe_cc b B D M V A Z T I O L C) r) (b) 6 6 = some (.ref (b + 13)) := fe_gf_of fe_G0
theorem fe_G1 : fe_get (fe_mk b N (fe_cc b B D M V A Z T I O L C) r) (b + 1) = some (fe_O 2 [.ref (b + 2), .ref (b + 3), .ref (b + 4), .ref (b + 5)]) := by
  rw [fe_mk_gc (by omega)]
  simp [fe_cc]
theorem fe_ob1 : fe_ob (fe_mk b N (fe_cc b B D M V A Z T I O L C) r) (b + 1) 2 = true := fe_ob_of fe_G1
theorem fe_g1_0 : fe_gf (fe_mk b N (fe_cc b B D M V A Z T I O L C) r) (b + 1) 2 0 = some (.ref (b + 2)) := fe_gf_of fe_G1
theorem fe_g1_1 : fe_gf (fe_mk b N (fe_cc b B D M V A Z T I O L C) r) (b + 1) 2 1 = some (.ref (b + 3)) := fe_gf_of fe_G1
theorem fe_g1_2 : fe_gf (fe_mk b N (fe_cc b B D M V A Z T I O L C) r) (b + 1) 2 2 = some (.ref (b + 4)) := fe_gf_of fe_G1
theorem fe_g1_3 : fe_gf (fe_mk b N (fe_cc b B D M V A Z T I O L C) r) (b + 1) 2 3 = some (.ref (b + 5)) := fe_gf_of fe_G1
theorem fe_G5 : fe_get (fe_mk b N (fe_cc b B D M V A Z T I O L C) r) (b + 5) = some (fe_O 0 [.int (fe_z (B 0)), .int (fe_z (B 1)), .int (fe_z (B 2)), .int (fe_z (B 3)), .int (fe_z (B 4)), .int (fe_z (B 5)), .int (fe_z (B 6)), .int (fe_z (B 7)), .int (fe_z (B 8)), .int (fe_z (B 9))]) := by
  rw [fe_mk_gc (by omega)]
  simp [fe_cc]
theorem fe_ob5 : fe_ob (fe_mk b N (fe_cc b B D M V A Z T I O L C) r) (b + 5) 0 = true := fe_ob_of fe_G5
theorem fe_g5_0 : fe_gf (fe_mk b N (fe_cc b B D M V A Z T I O L C) r) (b + 5) 0 0 = some (.int (fe_z (B 0))) := fe_gf_of fe_G5
theorem fe_p5_0  : fe_pf (fe_mk b N (fe_cc b B D M V A Z T I O L C) r) (b + 5) 0 0 (.int (fe_z v)) = some (fe_mk b N (fe_cc b (fe_un B 0 v) D M V A Z T I O L C) r) := fe_pf_of fe_G5 (Nat.le_of_ble_eq_true rfl) (fe_mk_c (b + 5) (by omega) (by simp [fe_cc, fe_un]) (fun a ha => by simp [fe_cc, fe_un, ha]))
theorem fe_g5_1 : fe_gf (fe_mk b N (fe_cc b B D M V A Z T I O L C) r) (b + 5) 0 1 = some (.int (fe_z (B 1))) := fe_gf_of fe_G5
theorem fe_p5_1  : fe_pf (fe_mk b N (fe_cc b B D M V A Z T I O L C) r) (b + 5) 0 1 (.int (fe_z v)) = some (fe_mk b N (fe_cc b (fe_un B 1 v) D M V A Z T I O L C) r) := fe_pf_of fe_G5 (Nat.le_of_ble_eq_true rfl) (fe_mk_c (b + 5) (by omega) (by simp [fe_cc, fe_un]) (fun a ha => by simp [fe_cc, fe_un, ha]))
theorem fe_g5_2 : fe_gf (fe_mk b N (fe_cc b B D M V A Z T I O L C) r) (b + 5) 0 2 = some (.int (fe_z (B 2))) := fe_gf_of fe_G5
theorem fe_p5_2  : fe_pf (fe_mk b N (fe_cc b B D M V A Z T I O L C) r) (b + 5) 0 2 (.int (fe_z v)) = some (fe_mk b N (fe_cc b (fe_un B 2 v) D M V A Z T I O L C) r) := fe_pf_of fe_G5 (Nat.le_of_ble_eq_true rfl) (fe_mk_c (b + 5) (by omega) (by simp [fe_cc, fe_un]) (fun a ha => by simp [fe_cc, fe_un, ha]))
theorem fe_g5_3 : fe_gf (fe_mk b N (fe_cc b B D M V A Z T I O L C) r) (b + 5) 0 3 = some (.int (fe_z (B 3))) := fe_gf_of fe_G5
theorem fe_p5_3  : fe_pf (fe_mk b N (fe_cc b B D M V A Z T I O L C) r) (b + 5) 0 3 (.int (fe_z v)) = some (fe_mk b N (fe_cc b (fe_un B 3 v) D M V A Z T I O L C) r) := fe_pf_of fe_G5 (Nat.le_of_ble_eq_true rfl) (fe_mk_c (b + 5) (by omega) (by simp [fe_cc, fe_un]) (fun a ha => by simp [fe_cc, fe_un, ha]))
theorem fe_g5_4 : fe_gf (fe_mk b N (fe_cc b B D M V A Z T I O L C) r) (b + 5) 0 4 = some (.int (fe_z (B 4))) := fe_gf_of fe_G5
theorem fe_p5_4  : fe_pf (fe_mk b N (fe_cc b B D M V A Z T I O L C) r) (b + 5) 0 4 (.int (fe_z v)) = some (fe_mk b N (fe_cc b (fe_un B 4 v) D M V A Z T I O L C) r) := fe_pf_of fe_G5 (Nat.le_of_ble_eq_true rfl) (fe_mk_c (b + 5) (by omega) (by simp [fe_cc, fe_un]) (fun a ha => by simp [fe_cc, fe_un, ha]))
theorem fe_g5_5 : fe_gf (fe_mk b N (fe_cc b B D M V A Z T I O L C) r) (b + 5) 0 5 = some (.int (fe_z (B 5))) := fe_gf_of fe_G5
theorem fe_p5_5  : fe_pf (fe_mk b N (fe_cc b B D M V A Z T I O L C) r) (b + 5) 0 5 (.int (fe_z v)) = some (fe_mk b N (fe_cc b (fe_un B 5 v) D M V A Z T I O L C) r) := fe_pf_of fe_G5 (Nat.le_of_ble_eq_true rfl) (fe_mk_c (b + 5) (by omega) (by simp [fe_cc, fe_un]) (fun a ha => by simp [fe_cc, fe_un, ha]))
theorem fe_g5_6 : fe_gf (fe_mk b N (fe_cc b B D M V A Z T I O L C) r) (b + 5) 0 6 = some (.int (fe_z (B 6))) := fe_gf_of fe_G5
theorem fe_p5_6  : fe_pf (fe_mk b N (fe_cc b B D M V A Z T I O L C) r) (b + 5) 0 6 (.int (fe_z v)) = some (fe_mk b N (fe_cc b (fe_un B 6 v) D M V A Z T I O L C) r) := fe_pf_of fe_G5 (Nat.le_of_ble_eq_true rfl) (fe_mk_c (b + 5) (by omega) (by simp [fe_cc, fe_un]) (fun a ha => by simp [fe_cc, fe_un, ha]))
theorem fe_g5_7 : fe_gf (fe_mk b N (fe_cc b B D M V A Z T I O L C) r) (b + 5) 0 7 = some (.int (fe_z (B 7))) := fe_gf_of fe_G5
theorem fe_p5_7  : fe_pf (fe_mk b N (fe_cc b B D M V A Z T I O L C) r) (b + 5) 0 7 (.int (fe_z v)) = some (fe_mk b N (fe_cc b (fe_un B 7 v) D M V A Z T I O L C) r) := fe_pf_of fe_G5 (Nat.le_of_ble_eq_true rfl) (fe_mk_c (b + 5) (by omega) (by simp [fe_cc, fe_un]) (fun a ha => by simp [fe_cc, fe_un, ha]))
theorem fe_g5_8 : fe_gf (fe_mk b N (fe_cc b B D M V A Z T I O L C) r) (b + 5) 0 8 = some (.int (fe_z (B 8))) := fe_gf_of fe_G5
theorem fe_p5_8  : fe_pf (fe_mk b N (fe_cc b B D M V A Z T I O L C) r) (b + 5) 0 8 (.int (fe_z v)) = some (fe_mk b N (fe_cc b (fe_un B 8 v) D M V A Z T I O L C) r) := fe_pf_of fe_G5 (Nat.le_of_ble_eq_true rfl) (fe_mk_c (b + 5) (by omega) (by simp [fe_cc, fe_un]) (fun a ha => by simp [fe_cc, fe_un, ha]))
theorem fe_g5_9 : fe_gf (fe_mk b N (fe_cc b B D M V A Z T I O L C) r) (b + 5) 0 9 = some (.int (fe_z (B 9))) := fe_gf_of fe_G5
theorem fe_p5_9  : fe_pf (fe_mk b N (fe_cc b B D M V A Z T I O L C) r) (b + 5) 0 9 (.int (fe_z v)) = some (fe_mk b N (fe_cc b (fe_un B 9 v) D M V A Z T I O L C) r) := fe_pf_of fe_G5 (Nat.le_of_ble_eq_true rfl) (fe_mk_c (b + 5) (by omega) (by simp [fe_cc, fe_un]) (fun a ha => by simp [fe_cc, fe_un, ha]))
theorem fe_G7 : fe_get (fe_mk b N (fe_cc b B D M V A Z T I O L C) r) (b + 7) = some (fe_O 5 [.ref (b + 8), .ref (b + 9), .ref (b + 10)]) := by
  rw [fe_mk_gc (by omega)]
  simp [fe_cc]
theorem fe_ob7 : fe_ob (fe_mk b N (fe_cc b B D M V A Z T I O L C) r) (b + 7) 5 = true := fe_ob_of fe_G7
theorem fe_g7_0 : fe_gf (fe_mk b N (fe_cc b B D M V A Z T I O L C) r) (b + 7) 5 0 = some (.ref (b + 8)) := fe_gf_of fe_G7
theorem fe_g7_1 : fe_gf (fe_mk b N (fe_cc b B D M V A Z T I O L C) r) (b + 7) 5 1 = some (.ref (b + 9)) := fe_gf_of fe_G7
theorem fe_g7_2 : fe_gf (fe_mk b N (fe_cc b B D M V A Z T I O L C) r) (b + 7) 5 2 = some (.ref (b + 10)) := fe_gf_of fe_G7
theorem fe_G11 : fe_get (fe_mk b N (fe_cc b B D M V A Z T I O L C) r) (b + 11) = some (fe_O 3 [.ref (b + 12), .int (fe_z (V 2))]) := by
  rw [fe_mk_gc (by omega)]
  simp [fe_cc]
theorem fe_ob11 : fe_ob (fe_mk b N (fe_cc b B D M V A Z T I O L C) r) (b + 11) 3 = true := fe_ob_of fe_G11
theorem fe_g11_0 : fe_gf (fe_mk b N (fe_cc b B D M V A Z T I O L C) r) (b + 11) 3 0 = some (.ref (b + 12)) := fe_gf_of fe_G11
theorem fe_g11_1 : fe_gf (fe_mk b N (fe_cc b B D M V A Z T I O L C) r) (b + 11) 3 1 = some (.int (fe_z (V 2))) := fe_gf_of fe_G11
theorem fe_p11_1  : fe_pf (fe_mk b N (fe_cc b B D M V A Z T I O L C) r) (b + 11) 3 1 (.int (fe_z v)) = some (fe_mk b N (fe_cc b B D M (fe_un V 2 v) A Z T I O L C) r) := fe_pf_of fe_G11 (Nat.le_of_ble_eq_true rfl) (fe_mk_c (b + 11) (by omega) (by simp [fe_cc, fe_un]) (fun a ha => by simp [fe_cc, fe_un, ha]))
theorem fe_G13 : fe_get (fe_mk b N (fe_cc b B D M V A Z T I O L C) r) (b + 13) = some (fe_O 4 [.ref (b + 14), .int (fe_z (V 3)), .int (fe_z (V 4)), .int (fe_z (V 5)), .int (fe_z (V 6)), .int (fe_z (V 7))]) := by
  rw [fe_mk_gc (by omega)]
  simp [fe_cc]
theorem fe_ob13 : fe_ob (fe_mk b N (fe_cc b B D M V A Z T I O L C) r) (b + 13) 4 = true := fe_ob_of fe_G13
theorem fe_g13_0 : fe_gf (fe_mk b N (fe_cc b B D M V A Z T I O L C) r) (b + 13) 4 0 = some (.ref (b + 14)) := fe_gf_of fe_G13
theorem fe_g13_1 : fe_gf (fe_mk b N (fe_cc b B D M V A Z T I O L C) r) (b + 13) 4 1 = some (.int (fe_z (V 3))) := fe_gf_of fe_G13
theorem fe_p13_1  : fe_pf (fe_mk b N (fe_cc b B D M V A Z T I O L C) r) (b + 13) 4 1 (.int (fe_z v)) = some (fe_mk b N (fe_cc b B D M (fe_un V 3 v) A Z T I O L C) r) := fe_pf_of fe_G13 (Nat.le_of_ble_eq_true rfl) (fe_mk_c (b + 13) (by omega) (by simp [fe_cc, fe_un]) (fun a ha => by simp [fe_cc, fe_un, ha]))
theorem fe_g13_2 : fe_gf (fe_mk b N (fe_cc b B D M V A Z T I O L C) r) (b + 13) 4 2 = some (.int (fe_z (V 4))) := fe_gf_of fe_G13
theorem fe_p13_2  : fe_pf (fe_mk b N (fe_cc b B D M V A Z T I O L C) r) (b + 13) 4 2 (.int (fe_z v)) = some (fe_mk b N (fe_cc b B D M (fe_un V 4 v) A Z T I O L C) r) := fe_pf_of fe_G13 (Nat.le_of_ble_eq_true rfl) (fe_mk_c (b + 13) (by omega) (by simp [fe_cc, fe_un]) (fun a ha => by simp [fe_cc, fe_un, ha]))
theorem fe_g13_3 : fe_gf (fe_mk b N (fe_cc b B D M V A Z T I O L C) r) (b + 13) 4 3 = some (.int (fe_z (V 5))) := fe_gf_of fe_G13
theorem fe_p13_3  : fe_pf (fe_mk b N (fe_cc b B D M V A Z T I O L C) r) (b + 13) 4 3 (.int (fe_z v)) = some (fe_mk b N (fe_cc b B D M (fe_un V 5 v) A Z T I O L C) r) := fe_pf_of fe_G13 (Nat.le_of_ble_eq_true rfl) (fe_mk_c (b + 13) (by omega) (by simp [fe_cc, fe_un]) (fun a ha => by simp [fe_cc, fe_un, ha]))
theorem fe_g13_4 : fe_gf (fe_mk b N (fe_cc b B D M V A Z T I O L C) r) (b + 13) 4 4 = some (.int (fe_z (V 6))) := fe_gf_of fe_G13
theorem fe_p13_4  : fe_pf (fe_mk b N (fe_cc b B D M V A Z T I O L C) r) (b + 13) 4 4 (.int (fe_z v)) = some (fe_mk b N (fe_cc b B D M (fe_un V 6 v) A Z T I O L C) r) := fe_pf_of fe_G13 (Nat.le_of_ble_eq_true rfl) (fe_mk_c (b + 13) (by omega) (by simp [fe_cc, fe_un]) (fun a ha => by simp [fe_cc, fe_un, ha]))
theorem fe_g13_5 : fe_gf (fe_mk b N (fe_cc b B D M V A Z T I O L C) r) (b + 13) 4 5 = some (.int (fe_z (V 7))) := fe_gf_of fe_G13
theorem fe_p13_5  : fe_pf (fe_mk b N (fe_cc b B D M V A Z T I O L C) r) (b + 13) 4 5 (.int (fe_z v)) = some (fe_mk b N (fe_cc b B D M (fe_un V 7 v) A Z T I O L C) r) := fe_pf_of fe_G13 (Nat.le_of_ble_eq_true rfl) (fe_mk_c (b + 13) (by omega) (by simp [fe_cc, fe_un]) (fun a ha => by simp [fe_cc, fe_un, ha]))
theorem fe_G2 : fe_get (fe_mk b N (fe_cc b B D M V A Z T I O L C) r) (b + 2) = some (fe_rZ 192 (Z 0)) := by
  rw [fe_mk_gc (by omega)]
  simp [fe_cc]
theorem fe_P2 {f : Int → Bool} : fe_put (fe_mk b N (fe_cc b B D M V A Z T I O L C) r) (b + 2) (fe_rZ 192 f) = (fe_mk b N (fe_cc b B D M V A (fe_un Z 0 (f)) T I O L C) r) :=
  fe_mk_c (b + 2) (by omega) (by simp [fe_cc, fe_un]) (fun a ha => by simp [fe_cc, fe_un, ha])
theorem fe_aa2 (h0 : 0 ≤ i) (h1 : i < 192) : fe_za (fe_mk b N (fe_cc b B D M V A Z T I O L C) r) (b + 2) (fe_z i) = some (Z 0 i) := fe_za_of fe_G2 h0 h1 (by omega)
theorem fe_sa2 (h0 : 0 ≤ i) (h1 : i < 192) : fe_zs (fe_mk b N (fe_cc b B D M V A Z T I O L C) r) (b + 2) (fe_z i) x = some (fe_mk b N (fe_cc b B D M V A (fe_un Z 0 (fe_up (Z 0) i (fe_tb x))) T I O L C) r) := fe_zs_of fe_G2 h0 h1 (by omega) fe_P2
theorem fe_ll2 : fe_ln E (fe_mk b N (fe_cc b B D M V A Z T I O L C) r) (b + 2) = some 192 := fe_lnZ fe_G2
theorem fe_G3 : fe_get (fe_mk b N (fe_cc b B D M V A Z T I O L C) r) (b + 3) = some (fe_rZ 192 (Z 1)) := by
  rw [fe_mk_gc (by omega)]
  simp [fe_cc]
theorem fe_P3 {f : Int → Bool} : fe_put (fe_mk b N (fe_cc b B D M V A Z T I O L C) r) (b + 3) (fe_rZ 192 f) = (fe_mk b N (fe_cc b B D M V A (fe_un Z 1 (f)) T I O L C) r) :=
  fe_mk_c (b + 3) (by omega) (by simp [fe_cc, fe_un]) (fun a ha => by simp [fe_cc, fe_un, ha])
theorem fe_aa3 (h0 : 0 ≤ i) (h1 : i < 192) : fe_za (fe_mk b N (fe_cc b B D M V A Z T I O L C) r) (b + 3) (fe_z i) = some (Z 1 i) := fe_za_of fe_G3 h0 h1 (by omega)
theorem fe_sa3 (h0 : 0 ≤ i) (h1 : i < 192) : fe_zs (fe_mk b N (fe_cc b B D M V A Z T I O L C) r) (b + 3) (fe_z i) x = some (fe_mk b N (fe_cc b B D M V A (fe_un Z 1 (fe_up (Z 1) i (fe_tb x))) T I O L C) r) := fe_zs_of fe_G3 h0 h1 (by omega) fe_P3
theorem fe_ll3 : fe_ln E (fe_mk b N (fe_cc b B D M V A Z T I O L C) r) (b + 3) = some 192 := fe_lnZ fe_G3
theorem fe_G4 : fe_get (fe_mk b N (fe_cc b B D M V A Z T I O L C) r) (b + 4) = some (fe_rZ 192 (Z 2)) := by
  rw [fe_mk_gc (by omega)]
  simp [fe_cc]
theorem fe_P4 {f : Int → Bool} : fe_put (fe_mk b N (fe_cc b B D M V A Z T I O L C) r) (b + 4) (fe_rZ 192 f) = (fe_mk b N (fe_cc b B D M V A (fe_un Z 2 (f)) T I O L C) r) :=
  fe_mk_c (b + 4) (by omega) (by simp [fe_cc, fe_un]) (fun a ha => by simp [fe_cc, fe_un, ha])
theorem fe_aa4 (h0 : 0 ≤ i) (h1 : i < 192) : fe_za (fe_mk b N (fe_cc b B D M V A Z T I O L C) r) (b + 4) (fe_z i) = some (Z 2 i) := fe_za_of fe_G4 h0 h1 (by omega)
theorem fe_sa4 (h0 : 0 ≤ i) (h1 : i < 192) : fe_zs (fe_mk b N (fe_cc b B D M V A Z T I O L C) r) (b + 4) (fe_z i) x = some (fe_mk b N (fe_cc b B D M V A (fe_un Z 2 (fe_up (Z 2) i (fe_tb x))) T I O L C) r) := fe_zs_of fe_G4 h0 h1 (by omega) fe_P4
theorem fe_ll4 : fe_ln E (fe_mk b N (fe_cc b B D M V A Z T I O L C) r) (b + 4) = some 192 := fe_lnZ fe_G4
theorem fe_G8 : fe_get (fe_mk b N (fe_cc b B D M V A Z T I O L C) r) (b + 8) = some (fe_rI 24 (D 0)) := by
  rw [fe_mk_gc (by omega)]
  simp [fe_cc]
theorem fe_P8 {f : Int → Int} : fe_put (fe_mk b N (fe_cc b B D M V A Z T I O L C) r) (b + 8) (fe_rI 24 f) = (fe_mk b N (fe_cc b B (fe_un D 0 (f)) M V A Z T I O L C) r) :=
  fe_mk_c (b + 8) (by omega) (by simp [fe_cc, fe_un]) (fun a ha => by simp [fe_cc, fe_un, ha])
theorem fe_aa8 (h0 : 0 ≤ i) (h1 : i < 24) : fe_ia E (fe_mk b N (fe_cc b B D M V A Z T I O L C) r) (b + 8) (fe_z i) = some (fe_z (D 0 i)) := fe_ia_of fe_G8 h0 h1 (by omega)
theorem fe_sa8 (h0 : 0 ≤ i) (h1 : i < 24) : fe_is (fe_mk b N (fe_cc b B D M V A Z T I O L C) r) (b + 8) (fe_z i) (fe_z v) = some (fe_mk b N (fe_cc b B (fe_un D 0 (fe_up (D 0) i v)) M V A Z T I O L C) r) := fe_is_of fe_G8 h0 h1 (by omega) fe_P8
theorem fe_ll8 : fe_ln E (fe_mk b N (fe_cc b B D M V A Z T I O L C) r) (b + 8) = some 24 := fe_lnI fe_G8
theorem fe_G9 : fe_get (fe_mk b N (fe_cc b B D M V A Z T I O L C) r) (b + 9) = some (fe_rI 5 (D 1)) := by
  rw [fe_mk_gc (by omega)]
  simp [fe_cc]
theorem fe_P9 {f : Int → Int} : fe_put (fe_mk b N (fe_cc b B D M V A Z T I O L C) r) (b + 9) (fe_rI 5 f) = (fe_mk b N (fe_cc b B (fe_un D 1 (f)) M V A Z T I O L C) r) :=
  fe_mk_c (b + 9) (by omega) (by simp [fe_cc, fe_un]) (fun a ha => by simp [fe_cc, fe_un, ha])
theorem fe_aa9 (h0 : 0 ≤ i) (h1 : i < 5) : fe_ia E (fe_mk b N (fe_cc b B D M V A Z T I O L C) r) (b + 9) (fe_z i) = some (fe_z (D 1 i)) := fe_ia_of fe_G9 h0 h1 (by omega)
theorem fe_sa9 (h0 : 0 ≤ i) (h1 : i < 5) : fe_is (fe_mk b N (fe_cc b B D M V A Z T I O L C) r) (b + 9) (fe_z i) (fe_z v) = some (fe_mk b N (fe_cc b B (fe_un D 1 (fe_up (D 1) i v)) M V A Z T I O L C) r) := fe_is_of fe_G9 h0 h1 (by omega) fe_P9
theorem fe_ll9 : fe_ln E (fe_mk b N (fe_cc b B D M V A Z T I O L C) r) (b + 9) = some 5 := fe_lnI fe_G9
theorem fe_G10 : fe_get (fe_mk b N (fe_cc b B D M V A Z T I O L C) r) (b + 10) = some (fe_rI 7 (D 2)) := by
  rw [fe_mk_gc (by omega)]
  simp [fe_cc]
theorem fe_P10 {f : Int → Int} : fe_put (fe_mk b N (fe_cc b B D M V A Z T I O L C) r) (b + 10) (fe_rI 7 f) = (fe_mk b N (fe_cc b B (fe_un D 2 (f)) M V A Z T I O L C) r) :=
  fe_mk_c (b + 10) (by omega) (by simp [fe_cc, fe_un]) (fun a ha => by simp [fe_cc, fe_un, ha])
theorem fe_aa10 (h0 : 0 ≤ i) (h1 : i < 7) : fe_ia E (fe_mk b N (fe_cc b B D M V A Z T I O L C) r) (b + 10) (fe_z i) = some (fe_z (D 2 i)) := fe_ia_of fe_G10 h0 h1 (by omega)
theorem fe_sa10 (h0 : 0 ≤ i) (h1 : i < 7) : fe_is (fe_mk b N (fe_cc b B D M V A Z T I O L C) r) (b + 10) (fe_z i) (fe_z v) = some (fe_mk b N (fe_cc b B (fe_un D 2 (fe_up (D 2) i v)) M V A Z T I O L C) r) := fe_is_of fe_G10 h0 h1 (by omega) fe_P10
theorem fe_ll10 : fe_ln E (fe_mk b N (fe_cc b B D M V A Z T I O L C) r) (b + 10) = some 7 := fe_lnI fe_G10
theorem fe_G12 : fe_get (fe_mk b N (fe_cc b B D M V A Z T I O L C) r) (b + 12) = some (fe_rJ 64 M) := by
  rw [fe_mk_gc (by omega)]
  simp [fe_cc]
theorem fe_P12 {f : Int → Int64} : fe_put (fe_mk b N (fe_cc b B D M V A Z T I O L C) r) (b + 12) (fe_rJ 64 f) = (fe_mk b N (fe_cc b B D (f) V A Z T I O L C) r) :=
  fe_mk_c (b + 12) (by omega) (by simp [fe_cc, fe_un]) (fun a ha => by simp [fe_cc, fe_un, ha])
theorem fe_aa12 (h0 : 0 ≤ i) (h1 : i < 64) : fe_ja E (fe_mk b N (fe_cc b B D M V A Z T I O L C) r) (b + 12) (fe_z i) = some (M i) := fe_ja_of fe_G12 h0 h1 (by omega)
theorem fe_sa12 (h0 : 0 ≤ i) (h1 : i < 64) {w : Int64} : fe_js (fe_mk b N (fe_cc b B D M V A Z T I O L C) r) (b + 12) (fe_z i) w = some (fe_mk b N (fe_cc b B D (fe_up (M) i w) V A Z T I O L C) r) := fe_js_of fe_G12 h0 h1 (by omega) fe_P12
theorem fe_G14 : fe_get (fe_mk b N (fe_cc b B D M V A Z T I O L C) r) (b + 14) = some (fe_rI 60 A) := by
  rw [fe_mk_gc (by omega)]
  simp [fe_cc]
theorem fe_P14 {f : Int → Int} : fe_put (fe_mk b N (fe_cc b B D M V A Z T I O L C) r) (b + 14) (fe_rI 60 f) = (fe_mk b N (fe_cc b B D M V (f) Z T I O L C) r) :=
  fe_mk_c (b + 14) (by omega) (by simp [fe_cc, fe_un]) (fun a ha => by simp [fe_cc, fe_un, ha])
theorem fe_aa14 (h0 : 0 ≤ i) (h1 : i < 60) : fe_ia E (fe_mk b N (fe_cc b B D M V A Z T I O L C) r) (b + 14) (fe_z i) = some (fe_z (A i)) := fe_ia_of fe_G14 h0 h1 (by omega)
theorem fe_sa14 (h0 : 0 ≤ i) (h1 : i < 60) : fe_is (fe_mk b N (fe_cc b B D M V A Z T I O L C) r) (b + 14) (fe_z i) (fe_z v) = some (fe_mk b N (fe_cc b B D M V (fe_up (A) i v) Z T I O L C) r) := fe_is_of fe_G14 h0 h1 (by omega) fe_P14
theorem fe_ll14 : fe_ln E (fe_mk b N (fe_cc b B D M V A Z T I O L C) r) (b + 14) = some 60 := fe_lnI fe_G14
theorem fe_G6 : fe_get (fe_mk b N (fe_cc b B D M V A Z T I O L C) r) (b + 6) = some (fe_Q 12 (fun j => if j < T.1 then some (T.2.2 j) else none)) := by
  rw [fe_mk_gc (by omega)]
  simp [fe_cc]
theorem fe_aa6 (h0 : e < T.1) (h1 : e < 12) : fe_qa (fe_mk b N (fe_cc b B D M V A Z T I O L C) r) (b + 6) (fe_z (e : Int)) = some (.ref (T.2.2 e)) := by
  have hi : fe_inb (fe_z (e : Int)) 12 = true := fe_z_inb (by omega) (by omega) (by omega)
  simp only [fe_qa, fe_G6, hi, if_true, fe_z_nat (a := (e : Int)) (by omega) (by omega), Int.toNat_natCast, h0, va_rf]
theorem fe_aa6n (h0 : ¬ e < T.1) (h1 : e < 12) : fe_qa (fe_mk b N (fe_cc b B D M V A Z T I O L C) r) (b + 6) (fe_z (e : Int)) = some .null := by
  have hi : fe_inb (fe_z (e : Int)) 12 = true := fe_z_inb (by omega) (by omega) (by omega)
  simp only [fe_qa, fe_G6, hi, if_true, fe_z_nat (a := (e : Int)) (by omega) (by omega), Int.toNat_natCast, if_neg h0, va_rf]
theorem fe_ll6 : fe_ln E (fe_mk b N (fe_cc b B D M V A Z T I O L C) r) (b + 6) = some 12 := by
  simp only [fe_ln, fe_G6]
theorem fe_cce (hT : fe_wf b T) (he : e < T.1) {k : Nat} (hk : k < 5) : fe_get (fe_mk b N (fe_cc b B D M V A Z T I O L C) r) (T.2.2 e + k) = fe_eye b T I O L C (T.2.2 e + k) := by
  have h3 := hT.2.2 e he
  rw [fe_mk_gc (by omega)]
  simp only [fe_cc]
  iterate 15 rw [if_neg (by omega)]
theorem fe_GE0 (hT : fe_wf b T) (he : e < T.1) : fe_get (fe_mk b N (fe_cc b B D M V A Z T I O L C) r) (T.2.2 e) = some (fe_eyo b T I e) := by
  have h1 := hT.1 e he 0 (by omega)
  have h2 := fe_cce (N := N) (r := r) (B := B) (D := D) (M := M) (V := V) (A := A) (Z := Z) (I := I) (O := O) (L := L) (C := C) hT he (k := 0) (by omega)
  simp only [Nat.add_zero] at h1 h2
  rw [h2]
  simp only [fe_eye, h1]
theorem fe_GE1 (hT : fe_wf b T) (he : e < T.1) : fe_get (fe_mk b N (fe_cc b B D M V A Z T I O L C) r) (T.2.2 e + 1) = some (fe_rI 8 (O e)) := by
  have h1 := hT.1 e he 1 (by omega)
  have h2 := fe_cce (N := N) (r := r) (B := B) (D := D) (M := M) (V := V) (A := A) (Z := Z) (I := I) (O := O) (L := L) (C := C) hT he (k := 1) (by omega)
  rw [h2]
  simp only [fe_eye, h1]
theorem fe_GE2 (hT : fe_wf b T) (he : e < T.1) : fe_get (fe_mk b N (fe_cc b B D M V A Z T I O L C) r) (T.2.2 e + 2) = some (fe_rZ 192 (L e)) := by
  have h1 := hT.1 e he 2 (by omega)
  have h2 := fe_cce (N := N) (r := r) (B := B) (D := D) (M := M) (V := V) (A := A) (Z := Z) (I := I) (O := O) (L := L) (C := C) hT he (k := 2) (by omega)
  rw [h2]
  simp only [fe_eye, h1]
theorem fe_GE3 (hT : fe_wf b T) (he : e < T.1) : fe_get (fe_mk b N (fe_cc b B D M V A Z T I O L C) r) (T.2.2 e + 3) = some (fe_rI 192 (C e 0)) := by
  have h1 := hT.1 e he 3 (by omega)
  have h2 := fe_cce (N := N) (r := r) (B := B) (D := D) (M := M) (V := V) (A := A) (Z := Z) (I := I) (O := O) (L := L) (C := C) hT he (k := 3) (by omega)
  rw [h2]
  simp only [fe_eye, h1]
theorem fe_GE4 (hT : fe_wf b T) (he : e < T.1) : fe_get (fe_mk b N (fe_cc b B D M V A Z T I O L C) r) (T.2.2 e + 4) = some (fe_rI 192 (C e 1)) := by
  have h1 := hT.1 e he 4 (by omega)
  have h2 := fe_cce (N := N) (r := r) (B := B) (D := D) (M := M) (V := V) (A := A) (Z := Z) (I := I) (O := O) (L := L) (C := C) hT he (k := 4) (by omega)
  rw [h2]
  simp only [fe_eye, h1]
theorem fe_obE (hT : fe_wf b T) (he : e < T.1) : fe_ob (fe_mk b N (fe_cc b B D M V A Z T I O L C) r) (T.2.2 e) 1 = true := fe_ob_of (fe_GE0 hT he)
theorem fe_gE_0 (hT : fe_wf b T) (he : e < T.1) : fe_gf (fe_mk b N (fe_cc b B D M V A Z T I O L C) r) (T.2.2 e) 1 0 = some (.ref (b + 1)) := fe_gf_of (fe_GE0 hT he)
theorem fe_gE_1 (hT : fe_wf b T) (he : e < T.1) : fe_gf (fe_mk b N (fe_cc b B D M V A Z T I O L C) r) (T.2.2 e) 1 1 = some (.int (fe_z (I e 0))) := fe_gf_of (fe_GE0 hT he)
theorem fe_gE_2 (hT : fe_wf b T) (he : e < T.1) : fe_gf (fe_mk b N (fe_cc b B D M V A Z T I O L C) r) (T.2.2 e) 1 2 = some (.int (fe_z (I e 1))) := fe_gf_of (fe_GE0 hT he)
theorem fe_gE_3 (hT : fe_wf b T) (he : e < T.1) : fe_gf (fe_mk b N (fe_cc b B D M V A Z T I O L C) r) (T.2.2 e) 1 3 = some (.int (fe_z (I e 2))) := fe_gf_of (fe_GE0 hT he)
theorem fe_gE_4 (hT : fe_wf b T) (he : e < T.1) : fe_gf (fe_mk b N (fe_cc b B D M V A Z T I O L C) r) (T.2.2 e) 1 4 = some (.int (fe_z (I e 3))) := fe_gf_of (fe_GE0 hT he)
theorem fe_gE_5 (hT : fe_wf b T) (he : e < T.1) : fe_gf (fe_mk b N (fe_cc b B D M V A Z T I O L C) r) (T.2.2 e) 1 5 = some (.int (fe_z (I e 4))) := fe_gf_of (fe_GE0 hT he)
theorem fe_gE_6 (hT : fe_wf b T) (he : e < T.1) : fe_gf (fe_mk b N (fe_cc b B D M V A Z T I O L C) r) (T.2.2 e) 1 6 = some (.ref (T.2.2 e + 1)) := fe_gf_of (fe_GE0 hT he)
theorem fe_gE_7 (hT : fe_wf b T) (he : e < T.1) : fe_gf (fe_mk b N (fe_cc b B D M V A Z T I O L C) r) (T.2.2 e) 1 7 = some (.int (fe_z (I e 5))) := fe_gf_of (fe_GE0 hT he)
theorem fe_gE_8 (hT : fe_wf b T) (he : e < T.1) : fe_gf (fe_mk b N (fe_cc b B D M V A Z T I O L C) r) (T.2.2 e) 1 8 = some (.int (fe_z (I e 6))) := fe_gf_of (fe_GE0 hT he)
theorem fe_gE_9 (hT : fe_wf b T) (he : e < T.1) : fe_gf (fe_mk b N (fe_cc b B D M V A Z T I O L C) r) (T.2.2 e) 1 9 = some (.ref (T.2.2 e + 2)) := fe_gf_of (fe_GE0 hT he)
theorem fe_gE_10 (hT : fe_wf b T) (he : e < T.1) : fe_gf (fe_mk b N (fe_cc b B D M V A Z T I O L C) r) (T.2.2 e) 1 10 = some (.ref (T.2.2 e + 3)) := fe_gf_of (fe_GE0 hT he)
theorem fe_gE_11 (hT : fe_wf b T) (he : e < T.1) : fe_gf (fe_mk b N (fe_cc b B D M V A Z T I O L C) r) (T.2.2 e) 1 11 = some (.ref (T.2.2 e + 4)) := fe_gf_of (fe_GE0 hT he)
theorem fe_PE1 (hT : fe_wf b T) (he : e < T.1) {f : Int → Int} : fe_put (fe_mk b N (fe_cc b B D M V A Z T I O L C) r) (T.2.2 e + 1) (fe_rI 8 f) = (fe_mk b N (fe_cc b B D M V A Z T I (fe_un O e f) L C) r) := by
  have h3 := hT.2.2 e he
  refine fe_mk_c (T.2.2 e + 1) (by omega) ?_ (fun a ha => ?_)
  · simp only [fe_cc]
    iterate 15 rw [if_neg (by omega)]
    have h1 := hT.1 e he 1 (by omega)
    simp only [fe_eye, h1, fe_eyo, fe_un, if_true]
    try rfl
  · simp only [fe_cc]
    suffices hs : fe_eye b T I (fe_un O e f) L C a = fe_eye b T I O L C a by rw [hs]
    simp only [fe_eye]
    cases hW : T.2.1 a with
    | none => rfl
    | some q =>
      obtain ⟨e', k'⟩ := q
      obtain ⟨h5, h6, h7⟩ := hT.2.1 a e' k' hW
      by_cases hee : e' = e
      · subst hee
        have hk : ¬ k' = 1 := fun hk => ha (by subst hk; exact h7)
        match k', hk, h6 with
        | 0, hk, _ => first | exact absurd rfl hk | simp [fe_eyo, fe_un]
        | 1, hk, _ => first | exact absurd rfl hk | simp [fe_eyo, fe_un]
        | 2, hk, _ => first | exact absurd rfl hk | simp [fe_eyo, fe_un]
        | 3, hk, _ => first | exact absurd rfl hk | simp [fe_eyo, fe_un]
        | 4, hk, _ => first | exact absurd rfl hk | simp [fe_eyo, fe_un]
      · match k', h6 with
        | 0, _ => simp [fe_eyo, fe_un, hee]
        | 1, _ => simp [fe_un, hee]
        | 2, _ => simp [fe_un, hee]
        | 3, _ => simp [fe_un, hee]
        | 4, _ => simp [fe_un, hee]
theorem fe_PE2 (hT : fe_wf b T) (he : e < T.1) {f : Int → Bool} : fe_put (fe_mk b N (fe_cc b B D M V A Z T I O L C) r) (T.2.2 e + 2) (fe_rZ 192 f) = (fe_mk b N (fe_cc b B D M V A Z T I O (fe_un L e f) C) r) := by
  have h3 := hT.2.2 e he
  refine fe_mk_c (T.2.2 e + 2) (by omega) ?_ (fun a ha => ?_)
  · simp only [fe_cc]
    iterate 15 rw [if_neg (by omega)]
    have h1 := hT.1 e he 2 (by omega)
    simp only [fe_eye, h1, fe_eyo, fe_un, if_true]
    try rfl
  · simp only [fe_cc]
    suffices hs : fe_eye b T I O (fe_un L e f) C a = fe_eye b T I O L C a by rw [hs]
    simp only [fe_eye]
    cases hW : T.2.1 a with
    | none => rfl
    | some q =>
      obtain ⟨e', k'⟩ := q
      obtain ⟨h5, h6, h7⟩ := hT.2.1 a e' k' hW
      by_cases hee : e' = e
      · subst hee
        have hk : ¬ k' = 2 := fun hk => ha (by subst hk; exact h7)
        match k', hk, h6 with
        | 0, hk, _ => first | exact absurd rfl hk | simp [fe_eyo, fe_un]
        | 1, hk, _ => first | exact absurd rfl hk | simp [fe_eyo, fe_un]
        | 2, hk, _ => first | exact absurd rfl hk | simp [fe_eyo, fe_un]
        | 3, hk, _ => first | exact absurd rfl hk | simp [fe_eyo, fe_un]
        | 4, hk, _ => first | exact absurd rfl hk | simp [fe_eyo, fe_un]
      · match k', h6 with
        | 0, _ => simp [fe_eyo, fe_un, hee]
        | 1, _ => simp [fe_un, hee]
        | 2, _ => simp [fe_un, hee]
        | 3, _ => simp [fe_un, hee]
        | 4, _ => simp [fe_un, hee]
theorem fe_PE3 (hT : fe_wf b T) (he : e < T.1) {f : Int → Int} : fe_put (fe_mk b N (fe_cc b B D M V A Z T I O L C) r) (T.2.2 e + 3) (fe_rI 192 f) = (fe_mk b N (fe_cc b B D M V A Z T I O L (fe_un C e (fe_un (C e) 0 f))) r) := by
  have h3 := hT.2.2 e he
  refine fe_mk_c (T.2.2 e + 3) (by omega) ?_ (fun a ha => ?_)
  · simp only [fe_cc]
    iterate 15 rw [if_neg (by omega)]
    have h1 := hT.1 e he 3 (by omega)
    simp only [fe_eye, h1, fe_eyo, fe_un, if_true]
    try rfl
  · simp only [fe_cc]
    suffices hs : fe_eye b T I O L (fe_un C e (fe_un (C e) 0 f)) a = fe_eye b T I O L C a by rw [hs]
    simp only [fe_eye]
    cases hW : T.2.1 a with
    | none => rfl
    | some q =>
      obtain ⟨e', k'⟩ := q
      obtain ⟨h5, h6, h7⟩ := hT.2.1 a e' k' hW
      by_cases hee : e' = e
      · subst hee
        have hk : ¬ k' = 3 := fun hk => ha (by subst hk; exact h7)
        match k', hk, h6 with
        | 0, hk, _ => first | exact absurd rfl hk | simp [fe_eyo, fe_un]
        | 1, hk, _ => first | exact absurd rfl hk | simp [fe_eyo, fe_un]
        | 2, hk, _ => first | exact absurd rfl hk | simp [fe_eyo, fe_un]
        | 3, hk, _ => first | exact absurd rfl hk | simp [fe_eyo, fe_un]
        | 4, hk, _ => first | exact absurd rfl hk | simp [fe_eyo, fe_un]
      · match k', h6 with
        | 0, _ => simp [fe_eyo, fe_un, hee]
        | 1, _ => simp [fe_un, hee]
        | 2, _ => simp [fe_un, hee]
        | 3, _ => simp [fe_un, hee]
        | 4, _ => simp [fe_un, hee]
theorem fe_PE4 (hT : fe_wf b T) (he : e < T.1) {f : Int → Int} : fe_put (fe_mk b N (fe_cc b B D M V A Z T I O L C) r) (T.2.2 e + 4) (fe_rI 192 f) = (fe_mk b N (fe_cc b B D M V A Z T I O L (fe_un C e (fe_un (C e) 1 f))) r) := by
  have h3 := hT.2.2 e he
  refine fe_mk_c (T.2.2 e + 4) (by omega) ?_ (fun a ha => ?_)
  · simp only [fe_cc]
    iterate 15 rw [if_neg (by omega)]
    have h1 := hT.1 e he 4 (by omega)
    simp only [fe_eye, h1, fe_eyo, fe_un, if_true]
    try rfl
  · simp only [fe_cc]
    suffices hs : fe_eye b T I O L (fe_un C e (fe_un (C e) 1 f)) a = fe_eye b T I O L C a by rw [hs]
    simp only [fe_eye]
    cases hW : T.2.1 a with
    | none => rfl
    | some q =>
      obtain ⟨e', k'⟩ := q
      obtain ⟨h5, h6, h7⟩ := hT.2.1 a e' k' hW
      by_cases hee : e' = e
      · subst hee
        have hk : ¬ k' = 4 := fun hk => ha (by subst hk; exact h7)
        match k', hk, h6 with
        | 0, hk, _ => first | exact absurd rfl hk | simp [fe_eyo, fe_un]
        | 1, hk, _ => first | exact absurd rfl hk | simp [fe_eyo, fe_un]
        | 2, hk, _ => first | exact absurd rfl hk | simp [fe_eyo, fe_un]
        | 3, hk, _ => first | exact absurd rfl hk | simp [fe_eyo, fe_un]
        | 4, hk, _ => first | exact absurd rfl hk | simp [fe_eyo, fe_un]
      · match k', h6 with
        | 0, _ => simp [fe_eyo, fe_un, hee]
        | 1, _ => simp [fe_un, hee]
        | 2, _ => simp [fe_un, hee]
        | 3, _ => simp [fe_un, hee]
        | 4, _ => simp [fe_un, hee]
theorem fe_PE0_5 (hT : fe_wf b T) (he : e < T.1) : fe_put (fe_mk b N (fe_cc b B D M V A Z T I O L C) r) (T.2.2 e) (fe_O 1 [.ref (b + 1), .int (fe_z (I e 0)), .int (fe_z (I e 1)), .int (fe_z (I e 2)), .int (fe_z (I e 3)), .int (fe_z (I e 4)), .ref (T.2.2 e + 1), .int (fe_z v), .int (fe_z (I e 6)), .ref (T.2.2 e + 2), .ref (T.2.2 e + 3), .ref (T.2.2 e + 4)]) = (fe_mk b N (fe_cc b B D M V A Z T (fe_un I e (fe_un (I e) 5 v)) O L C) r) := by
  have h3 := hT.2.2 e he
  refine fe_mk_c (T.2.2 e) (by omega) ?_ (fun a ha => ?_)
  · simp only [fe_cc]
    iterate 15 rw [if_neg (by omega)]
    have h1 := hT.1 e he 0 (by omega)
    simp only [Nat.add_zero] at h1
    simp only [fe_eye, h1, fe_eyo, fe_un, if_true]
    try rfl
  · simp only [fe_cc]
    suffices hs : fe_eye b T (fe_un I e (fe_un (I e) 5 v)) O L C a = fe_eye b T I O L C a by rw [hs]
    simp only [fe_eye]
    cases hW : T.2.1 a with
    | none => rfl
    | some q =>
      obtain ⟨e', k'⟩ := q
      obtain ⟨h5, h6, h7⟩ := hT.2.1 a e' k' hW
      by_cases hee : e' = e
      · subst hee
        have hk : ¬ k' = 0 := fun hk => ha (by subst hk; exact h7)
        match k', hk, h6 with
        | 0, hk, _ => first | exact absurd rfl hk | simp [fe_eyo, fe_un]
        | 1, hk, _ => first | exact absurd rfl hk | simp [fe_eyo, fe_un]
        | 2, hk, _ => first | exact absurd rfl hk | simp [fe_eyo, fe_un]
        | 3, hk, _ => first | exact absurd rfl hk | simp [fe_eyo, fe_un]
        | 4, hk, _ => first | exact absurd rfl hk | simp [fe_eyo, fe_un]
      · match k', h6 with
        | 0, _ => simp [fe_eyo, fe_un, hee]
        | 1, _ => simp [fe_un, hee]
        | 2, _ => simp [fe_un, hee]
        | 3, _ => simp [fe_un, hee]
        | 4, _ => simp [fe_un, hee]
theorem fe_PE0_6 (hT : fe_wf b T) (he : e < T.1) : fe_put (fe_mk b N (fe_cc b B D M V A Z T I O L C) r) (T.2.2 e) (fe_O 1 [.ref (b + 1), .int (fe_z (I e 0)), .int (fe_z (I e 1)), .int (fe_z (I e 2)), .int (fe_z (I e 3)), .int (fe_z (I e 4)), .ref (T.2.2 e + 1), .int (fe_z (I e 5)), .int (fe_z v), .ref (T.2.2 e + 2), .ref (T.2.2 e + 3), .ref (T.2.2 e + 4)]) = (fe_mk b N (fe_cc b B D M V A Z T (fe_un I e (fe_un (I e) 6 v)) O L C) r) := by
  have h3 := hT.2.2 e he
  refine fe_mk_c (T.2.2 e) (by omega) ?_ (fun a ha => ?_)
  · simp only [fe_cc]
    iterate 15 rw [if_neg (by omega)]
    have h1 := hT.1 e he 0 (by omega)
    simp only [Nat.add_zero] at h1
    simp only [fe_eye, h1, fe_eyo, fe_un, if_true]
    try rfl
  · simp only [fe_cc]
    suffices hs : fe_eye b T (fe_un I e (fe_un (I e) 6 v)) O L C a = fe_eye b T I O L C a by rw [hs]
    simp only [fe_eye]
    cases hW : T.2.1 a with
    | none => rfl
    | some q =>
      obtain ⟨e', k'⟩ := q
      obtain ⟨h5, h6, h7⟩ := hT.2.1 a e' k' hW
      by_cases hee : e' = e
      · subst hee
        have hk : ¬ k' = 0 := fun hk => ha (by subst hk; exact h7)
        match k', hk, h6 with
        | 0, hk, _ => first | exact absurd rfl hk | simp [fe_eyo, fe_un]
        | 1, hk, _ => first | exact absurd rfl hk | simp [fe_eyo, fe_un]
        | 2, hk, _ => first | exact absurd rfl hk | simp [fe_eyo, fe_un]
        | 3, hk, _ => first | exact absurd rfl hk | simp [fe_eyo, fe_un]
        | 4, hk, _ => first | exact absurd rfl hk | simp [fe_eyo, fe_un]
      · match k', h6 with
        | 0, _ => simp [fe_eyo, fe_un, hee]
        | 1, _ => simp [fe_un, hee]
        | 2, _ => simp [fe_un, hee]
        | 3, _ => simp [fe_un, hee]
        | 4, _ => simp [fe_un, hee]
theorem fe_pE_7 (hT : fe_wf b T) (he : e < T.1) : fe_pf (fe_mk b N (fe_cc b B D M V A Z T I O L C) r) (T.2.2 e) 1 7 (.int (fe_z v)) = some (fe_mk b N (fe_cc b B D M V A Z T (fe_un I e (fe_un (I e) 5 v)) O L C) r) := fe_pf_of (fe_GE0 hT he) (Nat.le_of_ble_eq_true rfl) (fe_PE0_5 hT he)
theorem fe_pE_8 (hT : fe_wf b T) (he : e < T.1) : fe_pf (fe_mk b N (fe_cc b B D M V A Z T I O L C) r) (T.2.2 e) 1 8 (.int (fe_z v)) = some (fe_mk b N (fe_cc b B D M V A Z T (fe_un I e (fe_un (I e) 6 v)) O L C) r) := fe_pf_of (fe_GE0 hT he) (Nat.le_of_ble_eq_true rfl) (fe_PE0_6 hT he)
theorem fe_aE1 (hT : fe_wf b T) (he : e < T.1) (h0 : 0 ≤ i) (h1 : i < 8) : fe_ia E (fe_mk b N (fe_cc b B D M V A Z T I O L C) r) (T.2.2 e + 1) (fe_z i) = some (fe_z (O e i)) := fe_ia_of (fe_GE1 hT he) h0 h1 (by omega)
theorem fe_sE1 (hT : fe_wf b T) (he : e < T.1) (h0 : 0 ≤ i) (h1 : i < 8) : fe_is (fe_mk b N (fe_cc b B D M V A Z T I O L C) r) (T.2.2 e + 1) (fe_z i) (fe_z v) = some (fe_mk b N (fe_cc b B D M V A Z T I (fe_un O e (fe_up (O e) i v)) L C) r) := fe_is_of (fe_GE1 hT he) h0 h1 (by omega) (fe_PE1 hT he)
theorem fe_lE1 (hT : fe_wf b T) (he : e < T.1) : fe_ln E (fe_mk b N (fe_cc b B D M V A Z T I O L C) r) (T.2.2 e + 1) = some 8 := fe_lnI (fe_GE1 hT he)
theorem fe_aE2 (hT : fe_wf b T) (he : e < T.1) (h0 : 0 ≤ i) (h1 : i < 192) : fe_za (fe_mk b N (fe_cc b B D M V A Z T I O L C) r) (T.2.2 e + 2) (fe_z i) = some (L e i) := fe_za_of (fe_GE2 hT he) h0 h1 (by omega)
theorem fe_sE2 (hT : fe_wf b T) (he : e < T.1) (h0 : 0 ≤ i) (h1 : i < 192) : fe_zs (fe_mk b N (fe_cc b B D M V A Z T I O L C) r) (T.2.2 e + 2) (fe_z i) x = some (fe_mk b N (fe_cc b B D M V A Z T I O (fe_un L e (fe_up (L e) i (fe_tb x))) C) r) := fe_zs_of (fe_GE2 hT he) h0 h1 (by omega) (fe_PE2 hT he)
theorem fe_aE3 (hT : fe_wf b T) (he : e < T.1) (h0 : 0 ≤ i) (h1 : i < 192) : fe_ia E (fe_mk b N (fe_cc b B D M V A Z T I O L C) r) (T.2.2 e + 3) (fe_z i) = some (fe_z (C e 0 i)) := fe_ia_of (fe_GE3 hT he) h0 h1 (by omega)
theorem fe_sE3 (hT : fe_wf b T) (he : e < T.1) (h0 : 0 ≤ i) (h1 : i < 192) : fe_is (fe_mk b N (fe_cc b B D M V A Z T I O L C) r) (T.2.2 e + 3) (fe_z i) (fe_z v) = some (fe_mk b N (fe_cc b B D M V A Z T I O L (fe_un C e (fe_un (C e) 0 (fe_up (C e 0) i v)))) r) := fe_is_of (fe_GE3 hT he) h0 h1 (by omega) (fe_PE3 hT he)
theorem fe_lE3 (hT : fe_wf b T) (he : e < T.1) : fe_ln E (fe_mk b N (fe_cc b B D M V A Z T I O L C) r) (T.2.2 e + 3) = some 192 := fe_lnI (fe_GE3 hT he)
theorem fe_aE4 (hT : fe_wf b T) (he : e < T.1) (h0 : 0 ≤ i) (h1 : i < 192) : fe_ia E (fe_mk b N (fe_cc b B D M V A Z T I O L C) r) (T.2.2 e + 4) (fe_z i) = some (fe_z (C e 1 i)) := fe_ia_of (fe_GE4 hT he) h0 h1 (by omega)
theorem fe_sE4 (hT : fe_wf b T) (he : e < T.1) (h0 : 0 ≤ i) (h1 : i < 192) : fe_is (fe_mk b N (fe_cc b B D M V A Z T I O L C) r) (T.2.2 e + 4) (fe_z i) (fe_z v) = some (fe_mk b N (fe_cc b B D M V A Z T I O L (fe_un C e (fe_un (C e) 1 (fe_up (C e 1) i v)))) r) := fe_is_of (fe_GE4 hT he) h0 h1 (by omega) (fe_PE4 hT he)
theorem fe_lE4 (hT : fe_wf b T) (he : e < T.1) : fe_ln E (fe_mk b N (fe_cc b B D M V A Z T I O L C) r) (T.2.2 e + 4) = some 192 := fe_lnI (fe_GE4 hT he)
end FeLc
section FeLr
variable {E : fe_E} {b : Nat} {N : Nat × Nat × Nat} {c : Nat → Option fe_C} {G : Nat → Int} {R : Nat → Int → Bool} {P F : Nat → Int → Int} {S J : Int → Bool} {U : Int → Int} {o : Int → Int64} {i v : Int} {x : Int32}
theorem fe_G15 : fe_get (fe_mk b N c (fe_rc b G R P F S J U o)) (b + 15) = some (fe_O 7 [.int (fe_z (G 0)), .ref (b + 16), .ref (b + 17), .ref (b + 18), .ref (b + 19), .ref (b + 20), .ref (b + 21), .ref (b + 22), .ref (b + 23), .ref (b + 24), .ref (b + 25), .ref (b + 26), .int (fe_z (G 1)), .ref (b + 27), .ref (b + 28), .ref (b + 29), .ref (b + 30), .ref (b + 31), .int (fe_z (G 2)), .int (fe_z (G 3)), .ref (b + 32), .int (fe_z (G 4))]) := by
  rw [fe_mk_gr (by omega)]
  simp [fe_rc]
theorem fe_ob15 : fe_ob (fe_mk b N c (fe_rc b G R P F S J U o)) (b + 15) 7 = true := fe_ob_of fe_G15
theorem fe_g15_0 : fe_gf (fe_mk b N c (fe_rc b G R P F S J U o)) (b + 15) 7 0 = some (.int (fe_z (G 0))) := fe_gf_of fe_G15
theorem fe_p15_0  : fe_pf (fe_mk b N c (fe_rc b G R P F S J U o)) (b + 15) 7 0 (.int (fe_z v)) = some (fe_mk b N c (fe_rc b (fe_un G 0 v) R P F S J U o)) := fe_pf_of fe_G15 (Nat.le_of_ble_eq_true rfl) (fe_mk_r (b + 15) (by omega) (by simp [fe_rc, fe_un]) (fun a ha => by simp [fe_rc, fe_un, ha]))
theorem fe_g15_1 : fe_gf (fe_mk b N c (fe_rc b G R P F S J U o)) (b + 15) 7 1 = some (.ref (b + 16)) := fe_gf_of fe_G15
theorem fe_g15_2 : fe_gf (fe_mk b N c (fe_rc b G R P F S J U o)) (b + 15) 7 2 = some (.ref (b + 17)) := fe_gf_of fe_G15
theorem fe_g15_3 : fe_gf (fe_mk b N c (fe_rc b G R P F S J U o)) (b + 15) 7 3 = some (.ref (b + 18)) := fe_gf_of fe_G15
theorem fe_g15_4 : fe_gf (fe_mk b N c (fe_rc b G R P F S J U o)) (b + 15) 7 4 = some (.ref (b + 19)) := fe_gf_of fe_G15
theorem fe_g15_5 : fe_gf (fe_mk b N c (fe_rc b G R P F S J U o)) (b + 15) 7 5 = some (.ref (b + 20)) := fe_gf_of fe_G15
theorem fe_g15_6 : fe_gf (fe_mk b N c (fe_rc b G R P F S J U o)) (b + 15) 7 6 = some (.ref (b + 21)) := fe_gf_of fe_G15
theorem fe_g15_7 : fe_gf (fe_mk b N c (fe_rc b G R P F S J U o)) (b + 15) 7 7 = some (.ref (b + 22)) := fe_gf_of fe_G15
theorem fe_g15_8 : fe_gf (fe_mk b N c (fe_rc b G R P F S J U o)) (b + 15) 7 8 = some (.ref (b + 23)) := fe_gf_of fe_G15
theorem fe_g15_9 : fe_gf (fe_mk b N c (fe_rc b G R P F S J U o)) (b + 15) 7 9 = some (.ref (b + 24)) := fe_gf_of fe_G15
theorem fe_g15_10 : fe_gf (fe_mk b N c (fe_rc b G R P F S J U o)) (b + 15) 7 10 = some (.ref (b + 25)) := fe_gf_of fe_G15
theorem fe_g15_11 : fe_gf (fe_mk b N c (fe_rc b G R P F S J U o)) (b + 15) 7 11 = some (.ref (b + 26)) := fe_gf_of fe_G15
theorem fe_g15_12 : fe_gf (fe_mk b N c (fe_rc b G R P F S J U o)) (b + 15) 7 12 = some (.int (fe_z (G 1))) := fe_gf_of fe_G15
theorem fe_p15_12  : fe_pf (fe_mk b N c (fe_rc b G R P F S J U o)) (b + 15) 7 12 (.int (fe_z v)) = some (fe_mk b N c (fe_rc b (fe_un G 1 v) R P F S J U o)) := fe_pf_of fe_G15 (Nat.le_of_ble_eq_true rfl) (fe_mk_r (b + 15) (by omega) (by simp [fe_rc, fe_un]) (fun a ha => by simp [fe_rc, fe_un, ha]))
theorem fe_g15_13 : fe_gf (fe_mk b N c (fe_rc b G R P F S J U o)) (b + 15) 7 13 = some (.ref (b + 27)) := fe_gf_of fe_G15
theorem fe_g15_14 : fe_gf (fe_mk b N c (fe_rc b G R P F S J U o)) (b + 15) 7 14 = some (.ref (b + 28)) := fe_gf_of fe_G15
theorem fe_g15_15 : fe_gf (fe_mk b N c (fe_rc b G R P F S J U o)) (b + 15) 7 15 = some (.ref (b + 29)) := fe_gf_of fe_G15
theorem fe_g15_16 : fe_gf (fe_mk b N c (fe_rc b G R P F S J U o)) (b + 15) 7 16 = some (.ref (b + 30)) := fe_gf_of fe_G15
theorem fe_g15_17 : fe_gf (fe_mk b N c (fe_rc b G R P F S J U o)) (b + 15) 7 17 = some (.ref (b + 31)) := fe_gf_of fe_G15
theorem fe_g15_18 : fe_gf (fe_mk b N c (fe_rc b G R P F S J U o)) (b + 15) 7 18 = some (.int (fe_z (G 2))) := fe_gf_of fe_G15
theorem fe_p15_18  : fe_pf (fe_mk b N c (fe_rc b G R P F S J U o)) (b + 15) 7 18 (.int (fe_z v)) = some (fe_mk b N c (fe_rc b (fe_un G 2 v) R P F S J U o)) := fe_pf_of fe_G15 (Nat.le_of_ble_eq_true rfl) (fe_mk_r (b + 15) (by omega) (by simp [fe_rc, fe_un]) (fun a ha => by simp [fe_rc, fe_un, ha]))
theorem fe_g15_19 : fe_gf (fe_mk b N c (fe_rc b G R P F S J U o)) (b + 15) 7 19 = some (.int (fe_z (G 3))) := fe_gf_of fe_G15
theorem fe_p15_19  : fe_pf (fe_mk b N c (fe_rc b G R P F S J U o)) (b + 15) 7 19 (.int (fe_z v)) = some (fe_mk b N c (fe_rc b (fe_un G 3 v) R P F S J U o)) := fe_pf_of fe_G15 (Nat.le_of_ble_eq_true rfl) (fe_mk_r (b + 15) (by omega) (by simp [fe_rc, fe_un]) (fun a ha => by simp [fe_rc, fe_un, ha]))
theorem fe_g15_20 : fe_gf (fe_mk b N c (fe_rc b G R P F S J U o)) (b + 15) 7 20 = some (.ref (b + 32)) := fe_gf_of fe_G15
theorem fe_g15_21 : fe_gf (fe_mk b N c (fe_rc b G R P F S J U o)) (b + 15) 7 21 = some (.int (fe_z (G 4))) := fe_gf_of fe_G15
theorem fe_p15_21  : fe_pf (fe_mk b N c (fe_rc b G R P F S J U o)) (b + 15) 7 21 (.int (fe_z v)) = some (fe_mk b N c (fe_rc b (fe_un G 4 v) R P F S J U o)) := fe_pf_of fe_G15 (Nat.le_of_ble_eq_true rfl) (fe_mk_r (b + 15) (by omega) (by simp [fe_rc, fe_un]) (fun a ha => by simp [fe_rc, fe_un, ha]))
theorem fe_G16 : fe_get (fe_mk b N c (fe_rc b G R P F S J U o)) (b + 16) = some (fe_rZ 192 (R 0)) := by
  rw [fe_mk_gr (by omega)]
  simp [fe_rc]
theorem fe_P16 {f : Int → Bool} : fe_put (fe_mk b N c (fe_rc b G R P F S J U o)) (b + 16) (fe_rZ 192 f) = (fe_mk b N c (fe_rc b G (fe_un R 0 (f)) P F S J U o)) :=
  fe_mk_r (b + 16) (by omega) (by simp [fe_rc, fe_un]) (fun a ha => by simp [fe_rc, fe_un, ha])
theorem fe_aa16 (h0 : 0 ≤ i) (h1 : i < 192) : fe_za (fe_mk b N c (fe_rc b G R P F S J U o)) (b + 16) (fe_z i) = some (R 0 i) := fe_za_of fe_G16 h0 h1 (by omega)
theorem fe_sa16 (h0 : 0 ≤ i) (h1 : i < 192) : fe_zs (fe_mk b N c (fe_rc b G R P F S J U o)) (b + 16) (fe_z i) x = some (fe_mk b N c (fe_rc b G (fe_un R 0 (fe_up (R 0) i (fe_tb x))) P F S J U o)) := fe_zs_of fe_G16 h0 h1 (by omega) fe_P16
theorem fe_ll16 : fe_ln E (fe_mk b N c (fe_rc b G R P F S J U o)) (b + 16) = some 192 := fe_lnZ fe_G16
theorem fe_G17 : fe_get (fe_mk b N c (fe_rc b G R P F S J U o)) (b + 17) = some (fe_rZ 192 (R 1)) := by
  rw [fe_mk_gr (by omega)]
  simp [fe_rc]
theorem fe_P17 {f : Int → Bool} : fe_put (fe_mk b N c (fe_rc b G R P F S J U o)) (b + 17) (fe_rZ 192 f) = (fe_mk b N c (fe_rc b G (fe_un R 1 (f)) P F S J U o)) :=
  fe_mk_r (b + 17) (by omega) (by simp [fe_rc, fe_un]) (fun a ha => by simp [fe_rc, fe_un, ha])
theorem fe_aa17 (h0 : 0 ≤ i) (h1 : i < 192) : fe_za (fe_mk b N c (fe_rc b G R P F S J U o)) (b + 17) (fe_z i) = some (R 1 i) := fe_za_of fe_G17 h0 h1 (by omega)
theorem fe_sa17 (h0 : 0 ≤ i) (h1 : i < 192) : fe_zs (fe_mk b N c (fe_rc b G R P F S J U o)) (b + 17) (fe_z i) x = some (fe_mk b N c (fe_rc b G (fe_un R 1 (fe_up (R 1) i (fe_tb x))) P F S J U o)) := fe_zs_of fe_G17 h0 h1 (by omega) fe_P17
theorem fe_ll17 : fe_ln E (fe_mk b N c (fe_rc b G R P F S J U o)) (b + 17) = some 192 := fe_lnZ fe_G17
theorem fe_G18 : fe_get (fe_mk b N c (fe_rc b G R P F S J U o)) (b + 18) = some (fe_rZ 192 (R 2)) := by
  rw [fe_mk_gr (by omega)]
  simp [fe_rc]
theorem fe_P18 {f : Int → Bool} : fe_put (fe_mk b N c (fe_rc b G R P F S J U o)) (b + 18) (fe_rZ 192 f) = (fe_mk b N c (fe_rc b G (fe_un R 2 (f)) P F S J U o)) :=
  fe_mk_r (b + 18) (by omega) (by simp [fe_rc, fe_un]) (fun a ha => by simp [fe_rc, fe_un, ha])
theorem fe_aa18 (h0 : 0 ≤ i) (h1 : i < 192) : fe_za (fe_mk b N c (fe_rc b G R P F S J U o)) (b + 18) (fe_z i) = some (R 2 i) := fe_za_of fe_G18 h0 h1 (by omega)
theorem fe_sa18 (h0 : 0 ≤ i) (h1 : i < 192) : fe_zs (fe_mk b N c (fe_rc b G R P F S J U o)) (b + 18) (fe_z i) x = some (fe_mk b N c (fe_rc b G (fe_un R 2 (fe_up (R 2) i (fe_tb x))) P F S J U o)) := fe_zs_of fe_G18 h0 h1 (by omega) fe_P18
theorem fe_ll18 : fe_ln E (fe_mk b N c (fe_rc b G R P F S J U o)) (b + 18) = some 192 := fe_lnZ fe_G18
theorem fe_G19 : fe_get (fe_mk b N c (fe_rc b G R P F S J U o)) (b + 19) = some (fe_rI 12 (P 0)) := by
  rw [fe_mk_gr (by omega)]
  simp [fe_rc]
theorem fe_P19 {f : Int → Int} : fe_put (fe_mk b N c (fe_rc b G R P F S J U o)) (b + 19) (fe_rI 12 f) = (fe_mk b N c (fe_rc b G R (fe_un P 0 (f)) F S J U o)) :=
  fe_mk_r (b + 19) (by omega) (by simp [fe_rc, fe_un]) (fun a ha => by simp [fe_rc, fe_un, ha])
theorem fe_aa19 (h0 : 0 ≤ i) (h1 : i < 12) : fe_ia E (fe_mk b N c (fe_rc b G R P F S J U o)) (b + 19) (fe_z i) = some (fe_z (P 0 i)) := fe_ia_of fe_G19 h0 h1 (by omega)
theorem fe_sa19 (h0 : 0 ≤ i) (h1 : i < 12) : fe_is (fe_mk b N c (fe_rc b G R P F S J U o)) (b + 19) (fe_z i) (fe_z v) = some (fe_mk b N c (fe_rc b G R (fe_un P 0 (fe_up (P 0) i v)) F S J U o)) := fe_is_of fe_G19 h0 h1 (by omega) fe_P19
theorem fe_ll19 : fe_ln E (fe_mk b N c (fe_rc b G R P F S J U o)) (b + 19) = some 12 := fe_lnI fe_G19
theorem fe_G20 : fe_get (fe_mk b N c (fe_rc b G R P F S J U o)) (b + 20) = some (fe_rI 12 (P 1)) := by
  rw [fe_mk_gr (by omega)]
  simp [fe_rc]
theorem fe_P20 {f : Int → Int} : fe_put (fe_mk b N c (fe_rc b G R P F S J U o)) (b + 20) (fe_rI 12 f) = (fe_mk b N c (fe_rc b G R (fe_un P 1 (f)) F S J U o)) :=
  fe_mk_r (b + 20) (by omega) (by simp [fe_rc, fe_un]) (fun a ha => by simp [fe_rc, fe_un, ha])
theorem fe_aa20 (h0 : 0 ≤ i) (h1 : i < 12) : fe_ia E (fe_mk b N c (fe_rc b G R P F S J U o)) (b + 20) (fe_z i) = some (fe_z (P 1 i)) := fe_ia_of fe_G20 h0 h1 (by omega)
theorem fe_sa20 (h0 : 0 ≤ i) (h1 : i < 12) : fe_is (fe_mk b N c (fe_rc b G R P F S J U o)) (b + 20) (fe_z i) (fe_z v) = some (fe_mk b N c (fe_rc b G R (fe_un P 1 (fe_up (P 1) i v)) F S J U o)) := fe_is_of fe_G20 h0 h1 (by omega) fe_P20
theorem fe_ll20 : fe_ln E (fe_mk b N c (fe_rc b G R P F S J U o)) (b + 20) = some 12 := fe_lnI fe_G20
theorem fe_G21 : fe_get (fe_mk b N c (fe_rc b G R P F S J U o)) (b + 21) = some (fe_rI 12 (P 2)) := by
  rw [fe_mk_gr (by omega)]
  simp [fe_rc]
theorem fe_P21 {f : Int → Int} : fe_put (fe_mk b N c (fe_rc b G R P F S J U o)) (b + 21) (fe_rI 12 f) = (fe_mk b N c (fe_rc b G R (fe_un P 2 (f)) F S J U o)) :=
  fe_mk_r (b + 21) (by omega) (by simp [fe_rc, fe_un]) (fun a ha => by simp [fe_rc, fe_un, ha])
theorem fe_aa21 (h0 : 0 ≤ i) (h1 : i < 12) : fe_ia E (fe_mk b N c (fe_rc b G R P F S J U o)) (b + 21) (fe_z i) = some (fe_z (P 2 i)) := fe_ia_of fe_G21 h0 h1 (by omega)
theorem fe_sa21 (h0 : 0 ≤ i) (h1 : i < 12) : fe_is (fe_mk b N c (fe_rc b G R P F S J U o)) (b + 21) (fe_z i) (fe_z v) = some (fe_mk b N c (fe_rc b G R (fe_un P 2 (fe_up (P 2) i v)) F S J U o)) := fe_is_of fe_G21 h0 h1 (by omega) fe_P21
theorem fe_ll21 : fe_ln E (fe_mk b N c (fe_rc b G R P F S J U o)) (b + 21) = some 12 := fe_lnI fe_G21
theorem fe_G22 : fe_get (fe_mk b N c (fe_rc b G R P F S J U o)) (b + 22) = some (fe_rI 12 (P 3)) := by
  rw [fe_mk_gr (by omega)]
  simp [fe_rc]
theorem fe_P22 {f : Int → Int} : fe_put (fe_mk b N c (fe_rc b G R P F S J U o)) (b + 22) (fe_rI 12 f) = (fe_mk b N c (fe_rc b G R (fe_un P 3 (f)) F S J U o)) :=
  fe_mk_r (b + 22) (by omega) (by simp [fe_rc, fe_un]) (fun a ha => by simp [fe_rc, fe_un, ha])
theorem fe_aa22 (h0 : 0 ≤ i) (h1 : i < 12) : fe_ia E (fe_mk b N c (fe_rc b G R P F S J U o)) (b + 22) (fe_z i) = some (fe_z (P 3 i)) := fe_ia_of fe_G22 h0 h1 (by omega)
theorem fe_sa22 (h0 : 0 ≤ i) (h1 : i < 12) : fe_is (fe_mk b N c (fe_rc b G R P F S J U o)) (b + 22) (fe_z i) (fe_z v) = some (fe_mk b N c (fe_rc b G R (fe_un P 3 (fe_up (P 3) i v)) F S J U o)) := fe_is_of fe_G22 h0 h1 (by omega) fe_P22
theorem fe_ll22 : fe_ln E (fe_mk b N c (fe_rc b G R P F S J U o)) (b + 22) = some 12 := fe_lnI fe_G22
theorem fe_G23 : fe_get (fe_mk b N c (fe_rc b G R P F S J U o)) (b + 23) = some (fe_rZ 12 (R 3)) := by
  rw [fe_mk_gr (by omega)]
  simp [fe_rc]
theorem fe_P23 {f : Int → Bool} : fe_put (fe_mk b N c (fe_rc b G R P F S J U o)) (b + 23) (fe_rZ 12 f) = (fe_mk b N c (fe_rc b G (fe_un R 3 (f)) P F S J U o)) :=
  fe_mk_r (b + 23) (by omega) (by simp [fe_rc, fe_un]) (fun a ha => by simp [fe_rc, fe_un, ha])
theorem fe_aa23 (h0 : 0 ≤ i) (h1 : i < 12) : fe_za (fe_mk b N c (fe_rc b G R P F S J U o)) (b + 23) (fe_z i) = some (R 3 i) := fe_za_of fe_G23 h0 h1 (by omega)
theorem fe_sa23 (h0 : 0 ≤ i) (h1 : i < 12) : fe_zs (fe_mk b N c (fe_rc b G R P F S J U o)) (b + 23) (fe_z i) x = some (fe_mk b N c (fe_rc b G (fe_un R 3 (fe_up (R 3) i (fe_tb x))) P F S J U o)) := fe_zs_of fe_G23 h0 h1 (by omega) fe_P23
theorem fe_ll23 : fe_ln E (fe_mk b N c (fe_rc b G R P F S J U o)) (b + 23) = some 12 := fe_lnZ fe_G23
theorem fe_G24 : fe_get (fe_mk b N c (fe_rc b G R P F S J U o)) (b + 24) = some (fe_rI 96 (P 4)) := by
  rw [fe_mk_gr (by omega)]
  simp [fe_rc]
theorem fe_P24 {f : Int → Int} : fe_put (fe_mk b N c (fe_rc b G R P F S J U o)) (b + 24) (fe_rI 96 f) = (fe_mk b N c (fe_rc b G R (fe_un P 4 (f)) F S J U o)) :=
  fe_mk_r (b + 24) (by omega) (by simp [fe_rc, fe_un]) (fun a ha => by simp [fe_rc, fe_un, ha])
theorem fe_aa24 (h0 : 0 ≤ i) (h1 : i < 96) : fe_ia E (fe_mk b N c (fe_rc b G R P F S J U o)) (b + 24) (fe_z i) = some (fe_z (P 4 i)) := fe_ia_of fe_G24 h0 h1 (by omega)
theorem fe_sa24 (h0 : 0 ≤ i) (h1 : i < 96) : fe_is (fe_mk b N c (fe_rc b G R P F S J U o)) (b + 24) (fe_z i) (fe_z v) = some (fe_mk b N c (fe_rc b G R (fe_un P 4 (fe_up (P 4) i v)) F S J U o)) := fe_is_of fe_G24 h0 h1 (by omega) fe_P24
theorem fe_ll24 : fe_ln E (fe_mk b N c (fe_rc b G R P F S J U o)) (b + 24) = some 96 := fe_lnI fe_G24
theorem fe_G25 : fe_get (fe_mk b N c (fe_rc b G R P F S J U o)) (b + 25) = some (fe_rI 12 (P 5)) := by
  rw [fe_mk_gr (by omega)]
  simp [fe_rc]
theorem fe_P25 {f : Int → Int} : fe_put (fe_mk b N c (fe_rc b G R P F S J U o)) (b + 25) (fe_rI 12 f) = (fe_mk b N c (fe_rc b G R (fe_un P 5 (f)) F S J U o)) :=
  fe_mk_r (b + 25) (by omega) (by simp [fe_rc, fe_un]) (fun a ha => by simp [fe_rc, fe_un, ha])
theorem fe_aa25 (h0 : 0 ≤ i) (h1 : i < 12) : fe_ia E (fe_mk b N c (fe_rc b G R P F S J U o)) (b + 25) (fe_z i) = some (fe_z (P 5 i)) := fe_ia_of fe_G25 h0 h1 (by omega)
theorem fe_sa25 (h0 : 0 ≤ i) (h1 : i < 12) : fe_is (fe_mk b N c (fe_rc b G R P F S J U o)) (b + 25) (fe_z i) (fe_z v) = some (fe_mk b N c (fe_rc b G R (fe_un P 5 (fe_up (P 5) i v)) F S J U o)) := fe_is_of fe_G25 h0 h1 (by omega) fe_P25
theorem fe_ll25 : fe_ln E (fe_mk b N c (fe_rc b G R P F S J U o)) (b + 25) = some 12 := fe_lnI fe_G25
theorem fe_G26 : fe_get (fe_mk b N c (fe_rc b G R P F S J U o)) (b + 26) = some (fe_rZ 2304 (R 4)) := by
  rw [fe_mk_gr (by omega)]
  simp [fe_rc]
theorem fe_P26 {f : Int → Bool} : fe_put (fe_mk b N c (fe_rc b G R P F S J U o)) (b + 26) (fe_rZ 2304 f) = (fe_mk b N c (fe_rc b G (fe_un R 4 (f)) P F S J U o)) :=
  fe_mk_r (b + 26) (by omega) (by simp [fe_rc, fe_un]) (fun a ha => by simp [fe_rc, fe_un, ha])
theorem fe_aa26 (h0 : 0 ≤ i) (h1 : i < 2304) : fe_za (fe_mk b N c (fe_rc b G R P F S J U o)) (b + 26) (fe_z i) = some (R 4 i) := fe_za_of fe_G26 h0 h1 (by omega)
theorem fe_sa26 (h0 : 0 ≤ i) (h1 : i < 2304) : fe_zs (fe_mk b N c (fe_rc b G R P F S J U o)) (b + 26) (fe_z i) x = some (fe_mk b N c (fe_rc b G (fe_un R 4 (fe_up (R 4) i (fe_tb x))) P F S J U o)) := fe_zs_of fe_G26 h0 h1 (by omega) fe_P26
theorem fe_ll26 : fe_ln E (fe_mk b N c (fe_rc b G R P F S J U o)) (b + 26) = some 2304 := fe_lnZ fe_G26
theorem fe_G27 : fe_get (fe_mk b N c (fe_rc b G R P F S J U o)) (b + 27) = some (fe_rI 5 (F 0)) := by
  rw [fe_mk_gr (by omega)]
  simp [fe_rc]
theorem fe_P27 {f : Int → Int} : fe_put (fe_mk b N c (fe_rc b G R P F S J U o)) (b + 27) (fe_rI 5 f) = (fe_mk b N c (fe_rc b G R P (fe_un F 0 (f)) S J U o)) :=
  fe_mk_r (b + 27) (by omega) (by simp [fe_rc, fe_un]) (fun a ha => by simp [fe_rc, fe_un, ha])
theorem fe_aa27 (h0 : 0 ≤ i) (h1 : i < 5) : fe_ia E (fe_mk b N c (fe_rc b G R P F S J U o)) (b + 27) (fe_z i) = some (fe_z (F 0 i)) := fe_ia_of fe_G27 h0 h1 (by omega)
theorem fe_sa27 (h0 : 0 ≤ i) (h1 : i < 5) : fe_is (fe_mk b N c (fe_rc b G R P F S J U o)) (b + 27) (fe_z i) (fe_z v) = some (fe_mk b N c (fe_rc b G R P (fe_un F 0 (fe_up (F 0) i v)) S J U o)) := fe_is_of fe_G27 h0 h1 (by omega) fe_P27
theorem fe_ll27 : fe_ln E (fe_mk b N c (fe_rc b G R P F S J U o)) (b + 27) = some 5 := fe_lnI fe_G27
theorem fe_G28 : fe_get (fe_mk b N c (fe_rc b G R P F S J U o)) (b + 28) = some (fe_rI 5 (F 1)) := by
  rw [fe_mk_gr (by omega)]
  simp [fe_rc]
theorem fe_P28 {f : Int → Int} : fe_put (fe_mk b N c (fe_rc b G R P F S J U o)) (b + 28) (fe_rI 5 f) = (fe_mk b N c (fe_rc b G R P (fe_un F 1 (f)) S J U o)) :=
  fe_mk_r (b + 28) (by omega) (by simp [fe_rc, fe_un]) (fun a ha => by simp [fe_rc, fe_un, ha])
theorem fe_aa28 (h0 : 0 ≤ i) (h1 : i < 5) : fe_ia E (fe_mk b N c (fe_rc b G R P F S J U o)) (b + 28) (fe_z i) = some (fe_z (F 1 i)) := fe_ia_of fe_G28 h0 h1 (by omega)
theorem fe_sa28 (h0 : 0 ≤ i) (h1 : i < 5) : fe_is (fe_mk b N c (fe_rc b G R P F S J U o)) (b + 28) (fe_z i) (fe_z v) = some (fe_mk b N c (fe_rc b G R P (fe_un F 1 (fe_up (F 1) i v)) S J U o)) := fe_is_of fe_G28 h0 h1 (by omega) fe_P28
theorem fe_ll28 : fe_ln E (fe_mk b N c (fe_rc b G R P F S J U o)) (b + 28) = some 5 := fe_lnI fe_G28
theorem fe_G29 : fe_get (fe_mk b N c (fe_rc b G R P F S J U o)) (b + 29) = some (fe_rZ 96 S) := by
  rw [fe_mk_gr (by omega)]
  simp [fe_rc]
theorem fe_P29 {f : Int → Bool} : fe_put (fe_mk b N c (fe_rc b G R P F S J U o)) (b + 29) (fe_rZ 96 f) = (fe_mk b N c (fe_rc b G R P F (f) J U o)) :=
  fe_mk_r (b + 29) (by omega) (by simp [fe_rc, fe_un]) (fun a ha => by simp [fe_rc, fe_un, ha])
theorem fe_aa29 (h0 : 0 ≤ i) (h1 : i < 96) : fe_za (fe_mk b N c (fe_rc b G R P F S J U o)) (b + 29) (fe_z i) = some (S i) := fe_za_of fe_G29 h0 h1 (by omega)
theorem fe_sa29 (h0 : 0 ≤ i) (h1 : i < 96) : fe_zs (fe_mk b N c (fe_rc b G R P F S J U o)) (b + 29) (fe_z i) x = some (fe_mk b N c (fe_rc b G R P F (fe_up (S) i (fe_tb x)) J U o)) := fe_zs_of fe_G29 h0 h1 (by omega) fe_P29
theorem fe_ll29 : fe_ln E (fe_mk b N c (fe_rc b G R P F S J U o)) (b + 29) = some 96 := fe_lnZ fe_G29
theorem fe_G30 : fe_get (fe_mk b N c (fe_rc b G R P F S J U o)) (b + 30) = some (fe_rZ 4096 J) := by
  rw [fe_mk_gr (by omega)]
  simp [fe_rc]
theorem fe_P30 {f : Int → Bool} : fe_put (fe_mk b N c (fe_rc b G R P F S J U o)) (b + 30) (fe_rZ 4096 f) = (fe_mk b N c (fe_rc b G R P F S (f) U o)) :=
  fe_mk_r (b + 30) (by omega) (by simp [fe_rc, fe_un]) (fun a ha => by simp [fe_rc, fe_un, ha])
theorem fe_aa30 (h0 : 0 ≤ i) (h1 : i < 4096) : fe_za (fe_mk b N c (fe_rc b G R P F S J U o)) (b + 30) (fe_z i) = some (J i) := fe_za_of fe_G30 h0 h1 (by omega)
theorem fe_sa30 (h0 : 0 ≤ i) (h1 : i < 4096) : fe_zs (fe_mk b N c (fe_rc b G R P F S J U o)) (b + 30) (fe_z i) x = some (fe_mk b N c (fe_rc b G R P F S (fe_up (J) i (fe_tb x)) U o)) := fe_zs_of fe_G30 h0 h1 (by omega) fe_P30
theorem fe_ll30 : fe_ln E (fe_mk b N c (fe_rc b G R P F S J U o)) (b + 30) = some 4096 := fe_lnZ fe_G30
theorem fe_G31 : fe_get (fe_mk b N c (fe_rc b G R P F S J U o)) (b + 31) = some (fe_rI 4096 U) := by
  rw [fe_mk_gr (by omega)]
  simp [fe_rc]
theorem fe_P31 {f : Int → Int} : fe_put (fe_mk b N c (fe_rc b G R P F S J U o)) (b + 31) (fe_rI 4096 f) = (fe_mk b N c (fe_rc b G R P F S J (f) o)) :=
  fe_mk_r (b + 31) (by omega) (by simp [fe_rc, fe_un]) (fun a ha => by simp [fe_rc, fe_un, ha])
theorem fe_aa31 (h0 : 0 ≤ i) (h1 : i < 4096) : fe_ia E (fe_mk b N c (fe_rc b G R P F S J U o)) (b + 31) (fe_z i) = some (fe_z (U i)) := fe_ia_of fe_G31 h0 h1 (by omega)
theorem fe_sa31 (h0 : 0 ≤ i) (h1 : i < 4096) : fe_is (fe_mk b N c (fe_rc b G R P F S J U o)) (b + 31) (fe_z i) (fe_z v) = some (fe_mk b N c (fe_rc b G R P F S J (fe_up (U) i v) o)) := fe_is_of fe_G31 h0 h1 (by omega) fe_P31
theorem fe_ll31 : fe_ln E (fe_mk b N c (fe_rc b G R P F S J U o)) (b + 31) = some 4096 := fe_lnI fe_G31
theorem fe_G32 : fe_get (fe_mk b N c (fe_rc b G R P F S J U o)) (b + 32) = some (fe_rI 60 (P 6)) := by
  rw [fe_mk_gr (by omega)]
  simp [fe_rc]
theorem fe_P32 {f : Int → Int} : fe_put (fe_mk b N c (fe_rc b G R P F S J U o)) (b + 32) (fe_rI 60 f) = (fe_mk b N c (fe_rc b G R (fe_un P 6 (f)) F S J U o)) :=
  fe_mk_r (b + 32) (by omega) (by simp [fe_rc, fe_un]) (fun a ha => by simp [fe_rc, fe_un, ha])
theorem fe_aa32 (h0 : 0 ≤ i) (h1 : i < 60) : fe_ia E (fe_mk b N c (fe_rc b G R P F S J U o)) (b + 32) (fe_z i) = some (fe_z (P 6 i)) := fe_ia_of fe_G32 h0 h1 (by omega)
theorem fe_sa32 (h0 : 0 ≤ i) (h1 : i < 60) : fe_is (fe_mk b N c (fe_rc b G R P F S J U o)) (b + 32) (fe_z i) (fe_z v) = some (fe_mk b N c (fe_rc b G R (fe_un P 6 (fe_up (P 6) i v)) F S J U o)) := fe_is_of fe_G32 h0 h1 (by omega) fe_P32
theorem fe_ll32 : fe_ln E (fe_mk b N c (fe_rc b G R P F S J U o)) (b + 32) = some 60 := fe_lnI fe_G32
theorem fe_G33 : fe_get (fe_mk b N c (fe_rc b G R P F S J U o)) (b + 33) = some (fe_rJ 1 o) := by
  rw [fe_mk_gr (by omega)]
  simp [fe_rc]
theorem fe_P33 {f : Int → Int64} : fe_put (fe_mk b N c (fe_rc b G R P F S J U o)) (b + 33) (fe_rJ 1 f) = (fe_mk b N c (fe_rc b G R P F S J U f)) :=
  fe_mk_r (b + 33) (by omega) (by simp [fe_rc]) (fun a ha => by simp [fe_rc, ha])
theorem fe_aa33  : fe_ja E (fe_mk b N c (fe_rc b G R P F S J U o)) (b + 33) (fe_z 0) = some (o 0) := fe_ja_of fe_G33 (by omega) (by omega) (by omega)
theorem fe_sa33 {w : Int64} : fe_js (fe_mk b N c (fe_rc b G R P F S J U o)) (b + 33) (fe_z 0) w = some (fe_mk b N c (fe_rc b G R P F S J U (fe_up o 0 w))) := fe_js_of fe_G33 (by omega) (by omega) (by omega) fe_P33
end FeLr

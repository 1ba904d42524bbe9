/-! the reference: serves, cheapest, unseen, blind, follow -/
theorem fe_and0 {x y : Int32} : x &&& y = fe_z 0 ↔ ∀ e, e < 32 → ¬ (fe_bt x e = true ∧ fe_bt y e = true) := by
  have h0 : ∀ e, e < 32 → fe_bt (fe_z 0) e = false := by decide +kernel
  constructor
  · intro h e he ⟨a1, a2⟩
    have := h0 e he
    rw [← h, fe_bt_and, a1, a2] at this
    cases this
  · intro h
    refine fe_bt_ext fun e he => ?_
    rw [fe_bt_and, h0 e he]
    cases h1 : fe_bt x e with
    | false => rfl
    | true =>
      cases h2 : fe_bt y e with
      | false => rfl
      | true => exact absurd ⟨h1, h2⟩ (h e he)
theorem fe_clr {s c : Nat} (hc : c < 31) (h : s.testBit c = true) : fe_z (s : Int) &&& (fe_z ((2 ^ c : Nat) : Int) ^^^ fe_z (-1)) = fe_z ((s ^^^ 2 ^ c : Nat) : Int) := by
  refine fe_bt_ext fun e he => ?_
  rw [fe_bt_and, fe_bt_not _ _ he, fe_bt_z _ _ he, fe_bt_z _ _ he, fe_bt_z _ _ he, Nat.testBit_xor, Nat.testBit_two_pow]
  by_cases hce : c = e
  · subst hce
    simp [h]
  · simp [hce]
/-- a set serves: needs and showers given -/
def fe_srv (Nd : Nat → Prop) (sh s : Nat) : Prop := s &&& sh = 0 ∧ ∀ q, Nd q → ¬ q &&& s = 0
def fe_gd (Nd : Nat → Prop) (sh n : Nat) (safe : Bool) (s : Nat) : Prop := fe_srv Nd sh s ∧ (safe = true → ∀ c, c < n → s.testBit c = true → fe_srv Nd sh (s ^^^ 2 ^ c))
/-- the count of bits, as the machine counts them -/
def fe_bc (x0 : Int32) : Int32 :=
  let x1 := x0 - ((x0.toUInt32 >>> ((fe_z 1).toUInt32 &&& Int32.toUInt32 31)).toInt32 &&& fe_z 1431655765)
  let x2 := (x1 &&& fe_z 858993459) + ((x1.toUInt32 >>> ((fe_z 2).toUInt32 &&& Int32.toUInt32 31)).toInt32 &&& fe_z 858993459)
  let x3 := (x2 + (x2.toUInt32 >>> ((fe_z 4).toUInt32 &&& Int32.toUInt32 31)).toInt32) &&& fe_z 252645135
  let x4 := x3 + (x3.toUInt32 >>> ((fe_z 8).toUInt32 &&& Int32.toUInt32 31)).toInt32
  let x5 := x4 + (x4.toUInt32 >>> ((fe_z 16).toUInt32 &&& Int32.toUInt32 31)).toInt32
  x5 &&& fe_z 63
/-- the cheapest of the first sets -/
def fe_chp (good : Nat → Bool) (cost : Nat → Int) : Nat → Int
  | 0 => -1
  | m + 1 => if (fe_chp good cost m < 0 ∨ cost m < cost (fe_chp good cost m).toNat ∨ cost m = cost (fe_chp good cost m).toNat ∧ fe_bc (fe_z (m : Int)) < fe_bc (fe_z (fe_chp good cost m))) ∧ good m = true then (m : Int) else fe_chp good cost m
theorem fe_chp_bd {good : Nat → Bool} {cost : Nat → Int} {m : Nat} : -1 ≤ fe_chp good cost m ∧ fe_chp good cost m < m := by
  induction m with
  | zero => simp [fe_chp]
  | succ m ih =>
    simp only [fe_chp]
    split <;> omega
/-- gaps: the longest row, the row, whether ever -/
def fe_gap (f : Nat → Bool) : Nat → Int × Int × Bool
  | 0 => (0, 0, false)
  | t + 1 => (max (fe_gap f t).1 (if f t then 0 else (fe_gap f t).2.1 + 1), (if f t then 0 else (fe_gap f t).2.1 + 1), (fe_gap f t).2.2 || f t)
theorem fe_gap_bd {f : Nat → Bool} {t : Nat} : 0 ≤ (fe_gap f t).1 ∧ (fe_gap f t).1 ≤ t ∧ 0 ≤ (fe_gap f t).2.1 ∧ (fe_gap f t).2.1 ≤ t := by
  induction t with
  | zero => simp [fe_gap]
  | succ t ih =>
    simp only [fe_gap]
    split <;> omega
def fe_uns (f : Nat → Bool) : Int := if (fe_gap f 1680).2.2 then (fe_gap f 1680).1 else -1
/-- the least camera -/
def fe_lst (f : Nat → Bool) : Nat → Int
  | 0 => -1
  | n + 1 => if 0 ≤ fe_lst f n then fe_lst f n else if f n then (n : Int) else -1
theorem fe_lst_bd {f : Nat → Bool} {n : Nat} : -1 ≤ fe_lst f n ∧ fe_lst f n < n := by
  induction n with
  | zero => simp [fe_lst]
  | succ n ih =>
    simp only [fe_lst]
    split
    · omega
    · split <;> omega
/-- who follows -/
def fe_wh (f : Nat → Bool) (n : Nat) (l : Int) : Int := if 0 ≤ l ∧ f l.toNat = true then l else fe_lst f n
theorem fe_wh_bd {f : Nat → Bool} {n : Nat} {l : Int} (h : l < n) : -1 ≤ fe_wh f n l ∧ fe_wh f n l < n := by
  unfold fe_wh
  split
  · omega
  · exact fe_lst_bd
/-- many, row, longest, turns, first, latest -/
def fe_fs (f : Nat → Bool) (n : Nat) (q : Nat → Int) : Nat → Int
  | 0 => if fe_wh f n (q 5) < 0 then q 0 else q 0 + 1
  | 1 => if fe_wh f n (q 5) < 0 then q 1 + 1 else 0
  | 2 => max (q 2) (if fe_wh f n (q 5) < 0 then q 1 + 1 else 0)
  | 3 => if fe_wh f n (q 5) < 0 then q 3 else q 3 + (if 0 ≤ q 5 ∧ ¬ fe_wh f n (q 5) = q 5 then 1 else 0)
  | 4 => if fe_wh f n (q 5) < 0 then q 4 else if q 4 < 0 then fe_wh f n (q 5) else q 4
  | _ => if fe_wh f n (q 5) < 0 then q 5 else fe_wh f n (q 5)
def fe_fol (g : Nat → Nat → Bool) (n : Nat) : Nat → Nat → Int
  | 0 => fun k => if k < 4 then 0 else -1
  | t + 1 => fe_fs (g t) n (fe_fol g n t)
theorem fe_fol_bd {g : Nat → Nat → Bool} {n t : Nat} : (0 ≤ fe_fol g n t 0 ∧ fe_fol g n t 0 ≤ t) ∧ (0 ≤ fe_fol g n t 1 ∧ fe_fol g n t 1 ≤ t) ∧ (0 ≤ fe_fol g n t 2 ∧ fe_fol g n t 2 ≤ t) ∧ (0 ≤ fe_fol g n t 3 ∧ fe_fol g n t 3 ≤ t) ∧ (-1 ≤ fe_fol g n t 4 ∧ fe_fol g n t 4 < n) ∧ (-1 ≤ fe_fol g n t 5 ∧ fe_fol g n t 5 < n) ∧ (fe_fol g n t 4 < 0 ↔ fe_fol g n t 5 < 0) := by
  induction t with
  | zero =>
    simp [fe_fol]
    omega
  | succ t ih =>
    obtain ⟨i0, i1, i2, i3, i4, i5, i6⟩ := ih
    have hw := fe_wh_bd (f := g t) (n := n) (l := fe_fol g n t 5) i5.2
    simp only [fe_fol, fe_fs]
    generalize fe_wh (g t) n (fe_fol g n t 5) = w at hw
    refine ⟨?_, ?_, ?_, ?_, ?_, ?_, ?_⟩
    · split <;> omega
    · split <;> omega
    · split <;> omega
    · split
      · omega
      · split <;> omega
    · split
      · omega
      · split <;> omega
    · split <;> omega
    · split
      · omega
      · split <;> omega
def fe_fov (q : Nat → Int) (what : Int) : Int := if what = 0 then q 0 else if what = 1 then q 2 else if what = 2 then q 3 else q 4
def fe_sJ (R : Nat → Int → Bool) (P : Nat → Int → Int) (n : Nat) (x : Int32) (cell : Int) (t : Nat) : Prop := ∃ c : Nat, c < n ∧ fe_bt x c = true ∧ fe_sI R P c cell (P 4 (8 * (c : Int) + (t : Int) % P 5 c))
def fe_sE (R : Nat → Int → Bool) (P : Nat → Int → Int) (n : Nat) (x : Int32) (cell : Int) : Prop := ∃ c : Nat, c < n ∧ fe_bt x c = true ∧ ∃ k : Nat, (k : Int) < P 5 c ∧ fe_sI R P c cell (P 4 (8 * (c : Int) + k))
section Fe37
variable {E : fe_E} {b : Nat} {N : Nat × Nat × Nat} {c : Nat → Option fe_C} {G : Nat → Int} {R : Nat → Int → Bool} {P F : Nat → Int → Int} {S J : Int → Bool} {U : Int → Int} {o : Int → Int64} {K : fe_R → fe_H → Prop}
theorem fe_m114 {h : fe_H} {x : Int32} : fe_WP E 114 0 [some (.int x)] [] h K ↔ K (.inl (some (.int (fe_bc x)))) h := by
  simp only [fe_e114_0, fe_e114_1, fe_e114_2, fe_e114_3, fe_e114_4, fe_e114_7, fe_e114_8, fe_e114_9, fe_e114_10, fe_e114_11, fe_e114_14, fe_e114_15, fe_e114_16, fe_e114_17, fe_e114_18, fe_e114_21, fe_e114_22, fe_e114_23, fe_e114_24, fe_e114_25, fe_e114_26, fe_e114_27, fe_e114_28, fe_e114_29, fe_e114_32, fe_e114_33, fe_e114_34, fe_e114_35, fe_e114_36, fe_e114_38, fe_e114_39, fe_e114_40, fe_e114_41, fe_e114_42, fe_e114_43, fe_e114_45, fe_e114_46, fe_e114_47, fe_e114_48, fe_e114_49, fe_e114_51, fe_e114_52]
  rfl
theorem fe_m99 {Nd : Nat → Prop} {r s sh : Nat} (hs : s < 4096) (hg2 : G 2 = (r : Int)) (hg3 : G 3 = (sh : Int)) (hr : r ≤ 4096) (hU : ∀ q : Nat, (∃ j : Nat, j < r ∧ U j = (q : Int)) ↔ Nd q) (hU2 : ∀ j : Nat, j < r → ∃ q : Nat, q < 4096 ∧ U j = (q : Int)) : fe_WP E 99 0 [some (.ref (b + 15)), some (.int (fe_z (s : Int))), none] [] (fe_mk b N c (fe_rc b G R P F S J U o)) K ↔ K (.inl (some (.int (fe_bi (fe_B (fe_srv Nd sh s)))))) (fe_mk b N c (fe_rc b G R P F S J U o)) := by
  refine fe_iff fun K hK => ?_
  have a0 : (s &&& sh) ≤ s := Nat.and_le_left
  simp (maxSteps := 4000000) (disch := omega) only [fe_e99_0, fe_e99_1, fe_e99_2, fe_e99_5, fe_e99_6, fe_e99_9, fe_e99_10, fe_e99_11, fe_e99_12, fe_e99_14, fe_e99_15, fe_e99_18, fe_e99_21, fe_e99_22, fe_e99_25, fe_e99_26, fe_e99_27, fe_e99_28, fe_e99_29, fe_e99_32, fe_e99_33, fe_e99_34, fe_e99_37, fe_e99_40, fe_e99_41, Option.some.injEq, exists_eq_left', fe_KB_r, fe_KB_v, fe_z_add, fe_z_sub, fe_z_mul, fe_z_neg, fe_bi0, fe_bi1, fe_bibi, fe_bi01, fe_z01, fe_z11, true_and, and_true, if_true, if_false, ite_not, not_true_eq_false, not_false_eq_true, Bool.false_eq_true, Bool.true_eq_false, fe_z_mod, fe_z_eq, fe_z_lt, fe_z_le, fe_z_div, Int.reduceEq, Int.reduceLT, Int.reduceLE, Int.reduceNeg, ↓reduceIte, eq_self, Nat.reduceAdd, fe_bor, fe_tb_bi, fe_tb_0, fe_tb_1, fe_un_at, Nat.reduceEqDiff, or_false, or_true, true_or, false_or, Int.le_refl, fe_ob15, fe_g15_0, fe_p15_0, fe_g15_1, fe_g15_2, fe_g15_3, fe_g15_4, fe_g15_5, fe_g15_6, fe_g15_7, fe_g15_8, fe_g15_9, fe_g15_10, fe_g15_11, fe_g15_12, fe_p15_12, fe_g15_13, fe_g15_14, fe_g15_15, fe_g15_16, fe_g15_17, fe_g15_18, fe_p15_18, fe_g15_19, fe_p15_19, fe_g15_20, fe_g15_21, fe_p15_21, fe_aa16, fe_sa16, fe_ll16, fe_aa17, fe_sa17, fe_ll17, fe_aa18, fe_sa18, fe_ll18, fe_aa19, fe_sa19, fe_ll19, fe_aa20, fe_sa20, fe_ll20, fe_aa21, fe_sa21, fe_ll21, fe_aa22, fe_sa22, fe_ll22, fe_aa23, fe_sa23, fe_ll23, fe_aa24, fe_sa24, fe_ll24, fe_aa25, fe_sa25, fe_ll25, fe_aa26, fe_sa26, fe_ll26, fe_aa27, fe_sa27, fe_ll27, fe_aa28, fe_sa28, fe_ll28, fe_aa29, fe_sa29, fe_ll29, fe_aa30, fe_sa30, fe_ll30, fe_aa31, fe_sa31, fe_ll31, fe_aa32, fe_sa32, fe_ll32, fe_aa33, fe_sa33, hg3, fe_z_and]
  by_cases h0 : s &&& sh = 0
  · have h0' : ((s &&& sh : Nat) : Int) = 0 := by omega
    rw [if_pos h0']
    have Lp : ∀ i, i ≤ r → (∀ j : Nat, j < i → ∀ q : Nat, U j = (q : Int) → ¬ q &&& s = 0) → fe_WP E 99 13 [some (.ref (b + 15)), some (.int (fe_z (s : Int))), some (.int (fe_z (i : Int)))] [] (fe_mk b N c (fe_rc b G R P F S J U o)) K := by
      refine fe_down r ?_ ?_
      · intro g
        simp (maxSteps := 4000000) (disch := omega) only [fe_e99_0, fe_e99_1, fe_e99_2, fe_e99_5, fe_e99_6, fe_e99_9, fe_e99_10, fe_e99_11, fe_e99_12, fe_e99_13, fe_e99_14, fe_e99_15, fe_e99_18, fe_e99_21, fe_e99_22, fe_e99_25, fe_e99_26, fe_e99_27, fe_e99_28, fe_e99_29, fe_e99_32, fe_e99_33, fe_e99_34, fe_e99_37, fe_e99_40, fe_e99_41, Option.some.injEq, exists_eq_left', fe_KB_r, fe_KB_v, fe_z_add, fe_z_sub, fe_z_mul, fe_z_neg, fe_bi0, fe_bi1, fe_bibi, fe_bi01, fe_z01, fe_z11, true_and, and_true, if_true, if_false, ite_not, not_true_eq_false, not_false_eq_true, Bool.false_eq_true, Bool.true_eq_false, fe_z_mod, fe_z_eq, fe_z_lt, fe_z_le, fe_z_div, Int.reduceEq, Int.reduceLT, Int.reduceLE, Int.reduceNeg, ↓reduceIte, eq_self, Nat.reduceAdd, fe_bor, fe_tb_bi, fe_tb_0, fe_tb_1, fe_un_at, Nat.reduceEqDiff, or_false, or_true, true_or, false_or, Int.le_refl, fe_ob15, fe_g15_0, fe_p15_0, fe_g15_1, fe_g15_2, fe_g15_3, fe_g15_4, fe_g15_5, fe_g15_6, fe_g15_7, fe_g15_8, fe_g15_9, fe_g15_10, fe_g15_11, fe_g15_12, fe_p15_12, fe_g15_13, fe_g15_14, fe_g15_15, fe_g15_16, fe_g15_17, fe_g15_18, fe_p15_18, fe_g15_19, fe_p15_19, fe_g15_20, fe_g15_21, fe_p15_21, fe_aa16, fe_sa16, fe_ll16, fe_aa17, fe_sa17, fe_ll17, fe_aa18, fe_sa18, fe_ll18, fe_aa19, fe_sa19, fe_ll19, fe_aa20, fe_sa20, fe_ll20, fe_aa21, fe_sa21, fe_ll21, fe_aa22, fe_sa22, fe_ll22, fe_aa23, fe_sa23, fe_ll23, fe_aa24, fe_sa24, fe_ll24, fe_aa25, fe_sa25, fe_ll25, fe_aa26, fe_sa26, fe_ll26, fe_aa27, fe_sa27, fe_ll27, fe_aa28, fe_sa28, fe_ll28, fe_aa29, fe_sa29, fe_ll29, fe_aa30, fe_sa30, fe_ll30, fe_aa31, fe_sa31, fe_ll31, fe_aa32, fe_sa32, fe_ll32, fe_aa33, fe_sa33, hg2]
        rw [fe_B_pos ⟨h0, fun q hq => by
          obtain ⟨j, hj, hq2⟩ := (hU q).mpr hq
          exact g j hj q hq2⟩] at hK
        exact hK
      · intro i hi ih g
        obtain ⟨q, hq, hUq⟩ := hU2 i hi
        have a1 : (q &&& s) ≤ q := Nat.and_le_left
        rw [fe_e99_13]
        simp (maxSteps := 4000000) (disch := omega) only [fe_e99_0, fe_e99_1, fe_e99_2, fe_e99_5, fe_e99_6, fe_e99_9, fe_e99_10, fe_e99_11, fe_e99_12, fe_e99_14, fe_e99_15, fe_e99_18, fe_e99_21, fe_e99_22, fe_e99_25, fe_e99_26, fe_e99_27, fe_e99_28, fe_e99_29, fe_e99_32, fe_e99_33, fe_e99_34, fe_e99_37, fe_e99_40, fe_e99_41, Option.some.injEq, exists_eq_left', fe_KB_r, fe_KB_v, fe_z_add, fe_z_sub, fe_z_mul, fe_z_neg, fe_bi0, fe_bi1, fe_bibi, fe_bi01, fe_z01, fe_z11, true_and, and_true, if_true, if_false, ite_not, not_true_eq_false, not_false_eq_true, Bool.false_eq_true, Bool.true_eq_false, fe_z_mod, fe_z_eq, fe_z_lt, fe_z_le, fe_z_div, Int.reduceEq, Int.reduceLT, Int.reduceLE, Int.reduceNeg, ↓reduceIte, eq_self, Nat.reduceAdd, fe_bor, fe_tb_bi, fe_tb_0, fe_tb_1, fe_un_at, Nat.reduceEqDiff, or_false, or_true, true_or, false_or, Int.le_refl, fe_ob15, fe_g15_0, fe_p15_0, fe_g15_1, fe_g15_2, fe_g15_3, fe_g15_4, fe_g15_5, fe_g15_6, fe_g15_7, fe_g15_8, fe_g15_9, fe_g15_10, fe_g15_11, fe_g15_12, fe_p15_12, fe_g15_13, fe_g15_14, fe_g15_15, fe_g15_16, fe_g15_17, fe_g15_18, fe_p15_18, fe_g15_19, fe_p15_19, fe_g15_20, fe_g15_21, fe_p15_21, fe_aa16, fe_sa16, fe_ll16, fe_aa17, fe_sa17, fe_ll17, fe_aa18, fe_sa18, fe_ll18, fe_aa19, fe_sa19, fe_ll19, fe_aa20, fe_sa20, fe_ll20, fe_aa21, fe_sa21, fe_ll21, fe_aa22, fe_sa22, fe_ll22, fe_aa23, fe_sa23, fe_ll23, fe_aa24, fe_sa24, fe_ll24, fe_aa25, fe_sa25, fe_ll25, fe_aa26, fe_sa26, fe_ll26, fe_aa27, fe_sa27, fe_ll27, fe_aa28, fe_sa28, fe_ll28, fe_aa29, fe_sa29, fe_ll29, fe_aa30, fe_sa30, fe_ll30, fe_aa31, fe_sa31, fe_ll31, fe_aa32, fe_sa32, fe_ll32, fe_aa33, fe_sa33, hg2, hUq, fe_z_and]
        rw [if_neg (by omega)]
        split
        · next q0 =>
          have q0' : q &&& s = 0 := by omega
          rw [fe_B_neg (fun h => h.2 q ((hU q).mp ⟨i, hi, hUq⟩) q0')] at hK
          exact hK
        · next q0 =>
          refine ih (fun j hj z hz => ?_)
          by_cases hji : j < i
          · exact g j hji z hz
          · have : j = i := by omega
            subst this
            have : z = q := by omega
            subst this
            omega
    exact Lp 0 (by omega) (fun j hj => by omega)
  · have h0' : ¬ ((s &&& sh : Nat) : Int) = 0 := by omega
    rw [if_neg h0']
    rw [fe_B_neg (fun h => h0 h.1)] at hK
    exact hK
theorem fe_m100 {Nd : Nat → Prop} {n r s sh : Nat} {p : Bool} (hg1 : G 1 = (n : Int)) (hn : n ≤ 12) (hs : s < 4096) (hg2 : G 2 = (r : Int)) (hg3 : G 3 = (sh : Int)) (hr : r ≤ 4096) (hU : ∀ q : Nat, (∃ j : Nat, j < r ∧ U j = (q : Int)) ↔ Nd q) (hU2 : ∀ j : Nat, j < r → ∃ q : Nat, q < 4096 ∧ U j = (q : Int)) : fe_WP E 100 0 [some (.ref (b + 15)), some (.int (fe_z (s : Int))), some (.int (fe_bi p)), none] [] (fe_mk b N c (fe_rc b G R P F S J U o)) K ↔ K (.inl (some (.int (fe_bi (fe_B (fe_gd Nd sh n p s)))))) (fe_mk b N c (fe_rc b G R P F S J U o)) := by
  refine fe_iff fun K hK => ?_
  simp (maxSteps := 4000000) (disch := omega) only [fe_e100_0, fe_e100_1, fe_e100_2, fe_e100_5, fe_e100_8, fe_e100_9, fe_e100_10, fe_e100_11, fe_e100_13, fe_e100_14, fe_e100_17, fe_e100_20, fe_e100_21, fe_e100_24, fe_e100_25, fe_e100_26, fe_e100_27, fe_e100_28, fe_e100_29, fe_e100_30, fe_e100_33, fe_e100_34, fe_e100_35, fe_e100_36, fe_e100_37, fe_e100_38, fe_e100_39, fe_e100_40, fe_e100_41, fe_e100_44, fe_e100_47, fe_e100_48, fe_e100_49, fe_e100_52, fe_e100_55, fe_e100_56, Option.some.injEq, exists_eq_left', fe_KB_r, fe_KB_v, fe_z_add, fe_z_sub, fe_z_mul, fe_z_neg, fe_bi0, fe_bi1, fe_bibi, fe_bi01, fe_z01, fe_z11, true_and, and_true, if_true, if_false, ite_not, not_true_eq_false, not_false_eq_true, Bool.false_eq_true, Bool.true_eq_false, fe_z_mod, fe_z_eq, fe_z_lt, fe_z_le, fe_z_div, Int.reduceEq, Int.reduceLT, Int.reduceLE, Int.reduceNeg, ↓reduceIte, eq_self, Nat.reduceAdd, fe_bor, fe_tb_bi, fe_tb_0, fe_tb_1, fe_un_at, Nat.reduceEqDiff, or_false, or_true, true_or, false_or, Int.le_refl, fe_ob15, fe_g15_0, fe_p15_0, fe_g15_1, fe_g15_2, fe_g15_3, fe_g15_4, fe_g15_5, fe_g15_6, fe_g15_7, fe_g15_8, fe_g15_9, fe_g15_10, fe_g15_11, fe_g15_12, fe_p15_12, fe_g15_13, fe_g15_14, fe_g15_15, fe_g15_16, fe_g15_17, fe_g15_18, fe_p15_18, fe_g15_19, fe_p15_19, fe_g15_20, fe_g15_21, fe_p15_21, fe_aa16, fe_sa16, fe_ll16, fe_aa17, fe_sa17, fe_ll17, fe_aa18, fe_sa18, fe_ll18, fe_aa19, fe_sa19, fe_ll19, fe_aa20, fe_sa20, fe_ll20, fe_aa21, fe_sa21, fe_ll21, fe_aa22, fe_sa22, fe_ll22, fe_aa23, fe_sa23, fe_ll23, fe_aa24, fe_sa24, fe_ll24, fe_aa25, fe_sa25, fe_ll25, fe_aa26, fe_sa26, fe_ll26, fe_aa27, fe_sa27, fe_ll27, fe_aa28, fe_sa28, fe_ll28, fe_aa29, fe_sa29, fe_ll29, fe_aa30, fe_sa30, fe_ll30, fe_aa31, fe_sa31, fe_ll31, fe_aa32, fe_sa32, fe_ll32, fe_aa33, fe_sa33, fe_m99 hs hg2 hg3 hr hU hU2]
  by_cases h0 : fe_srv Nd sh s
  · rw [fe_B_pos h0]
    simp only [Bool.true_eq_false, if_false]
    cases p with
    | false =>
      simp (maxSteps := 4000000) (disch := omega) only [fe_e100_0, fe_e100_1, fe_e100_2, fe_e100_5, fe_e100_8, fe_e100_9, fe_e100_10, fe_e100_11, fe_e100_12, fe_e100_13, fe_e100_14, fe_e100_17, fe_e100_20, fe_e100_21, fe_e100_24, fe_e100_25, fe_e100_26, fe_e100_27, fe_e100_28, fe_e100_29, fe_e100_30, fe_e100_33, fe_e100_34, fe_e100_35, fe_e100_36, fe_e100_37, fe_e100_38, fe_e100_39, fe_e100_40, fe_e100_41, fe_e100_44, fe_e100_47, fe_e100_48, fe_e100_49, fe_e100_52, fe_e100_55, fe_e100_56, Option.some.injEq, exists_eq_left', fe_KB_r, fe_KB_v, fe_z_add, fe_z_sub, fe_z_mul, fe_z_neg, fe_bi0, fe_bi1, fe_bibi, fe_bi01, fe_z01, fe_z11, true_and, and_true, if_true, if_false, ite_not, not_true_eq_false, not_false_eq_true, Bool.false_eq_true, Bool.true_eq_false, fe_z_mod, fe_z_eq, fe_z_lt, fe_z_le, fe_z_div, Int.reduceEq, Int.reduceLT, Int.reduceLE, Int.reduceNeg, ↓reduceIte, eq_self, Nat.reduceAdd, fe_bor, fe_tb_bi, fe_tb_0, fe_tb_1, fe_un_at, Nat.reduceEqDiff, or_false, or_true, true_or, false_or, Int.le_refl, fe_ob15, fe_g15_0, fe_p15_0, fe_g15_1, fe_g15_2, fe_g15_3, fe_g15_4, fe_g15_5, fe_g15_6, fe_g15_7, fe_g15_8, fe_g15_9, fe_g15_10, fe_g15_11, fe_g15_12, fe_p15_12, fe_g15_13, fe_g15_14, fe_g15_15, fe_g15_16, fe_g15_17, fe_g15_18, fe_p15_18, fe_g15_19, fe_p15_19, fe_g15_20, fe_g15_21, fe_p15_21, fe_aa16, fe_sa16, fe_ll16, fe_aa17, fe_sa17, fe_ll17, fe_aa18, fe_sa18, fe_ll18, fe_aa19, fe_sa19, fe_ll19, fe_aa20, fe_sa20, fe_ll20, fe_aa21, fe_sa21, fe_ll21, fe_aa22, fe_sa22, fe_ll22, fe_aa23, fe_sa23, fe_ll23, fe_aa24, fe_sa24, fe_ll24, fe_aa25, fe_sa25, fe_ll25, fe_aa26, fe_sa26, fe_ll26, fe_aa27, fe_sa27, fe_ll27, fe_aa28, fe_sa28, fe_ll28, fe_aa29, fe_sa29, fe_ll29, fe_aa30, fe_sa30, fe_ll30, fe_aa31, fe_sa31, fe_ll31, fe_aa32, fe_sa32, fe_ll32, fe_aa33, fe_sa33, hg1]
      rw [fe_B_pos ⟨h0, fun h => by cases h⟩] at hK
      split
      · exact hK
      · exact hK
    | true =>
      have Lp : ∀ i, i ≤ n → (∀ c, c < i → s.testBit c = true → fe_srv Nd sh (s ^^^ 2 ^ c)) → fe_WP E 100 12 [some (.ref (b + 15)), some (.int (fe_z (s : Int))), some (.int (fe_bi true)), some (.int (fe_z (i : Int)))] [] (fe_mk b N c (fe_rc b G R P F S J U o)) K := by
        refine fe_down n ?_ ?_
        · intro g
          simp (maxSteps := 4000000) (disch := omega) only [fe_e100_0, fe_e100_1, fe_e100_2, fe_e100_5, fe_e100_8, fe_e100_9, fe_e100_10, fe_e100_11, fe_e100_12, fe_e100_13, fe_e100_14, fe_e100_17, fe_e100_20, fe_e100_21, fe_e100_24, fe_e100_25, fe_e100_26, fe_e100_27, fe_e100_28, fe_e100_29, fe_e100_30, fe_e100_33, fe_e100_34, fe_e100_35, fe_e100_36, fe_e100_37, fe_e100_38, fe_e100_39, fe_e100_40, fe_e100_41, fe_e100_44, fe_e100_47, fe_e100_48, fe_e100_49, fe_e100_52, fe_e100_55, fe_e100_56, Option.some.injEq, exists_eq_left', fe_KB_r, fe_KB_v, fe_z_add, fe_z_sub, fe_z_mul, fe_z_neg, fe_bi0, fe_bi1, fe_bibi, fe_bi01, fe_z01, fe_z11, true_and, and_true, if_true, if_false, ite_not, not_true_eq_false, not_false_eq_true, Bool.false_eq_true, Bool.true_eq_false, fe_z_mod, fe_z_eq, fe_z_lt, fe_z_le, fe_z_div, Int.reduceEq, Int.reduceLT, Int.reduceLE, Int.reduceNeg, ↓reduceIte, eq_self, Nat.reduceAdd, fe_bor, fe_tb_bi, fe_tb_0, fe_tb_1, fe_un_at, Nat.reduceEqDiff, or_false, or_true, true_or, false_or, Int.le_refl, fe_ob15, fe_g15_0, fe_p15_0, fe_g15_1, fe_g15_2, fe_g15_3, fe_g15_4, fe_g15_5, fe_g15_6, fe_g15_7, fe_g15_8, fe_g15_9, fe_g15_10, fe_g15_11, fe_g15_12, fe_p15_12, fe_g15_13, fe_g15_14, fe_g15_15, fe_g15_16, fe_g15_17, fe_g15_18, fe_p15_18, fe_g15_19, fe_p15_19, fe_g15_20, fe_g15_21, fe_p15_21, fe_aa16, fe_sa16, fe_ll16, fe_aa17, fe_sa17, fe_ll17, fe_aa18, fe_sa18, fe_ll18, fe_aa19, fe_sa19, fe_ll19, fe_aa20, fe_sa20, fe_ll20, fe_aa21, fe_sa21, fe_ll21, fe_aa22, fe_sa22, fe_ll22, fe_aa23, fe_sa23, fe_ll23, fe_aa24, fe_sa24, fe_ll24, fe_aa25, fe_sa25, fe_ll25, fe_aa26, fe_sa26, fe_ll26, fe_aa27, fe_sa27, fe_ll27, fe_aa28, fe_sa28, fe_ll28, fe_aa29, fe_sa29, fe_ll29, fe_aa30, fe_sa30, fe_ll30, fe_aa31, fe_sa31, fe_ll31, fe_aa32, fe_sa32, fe_ll32, fe_aa33, fe_sa33, hg1]
          rw [fe_B_pos ⟨h0, fun _ => g⟩] at hK
          exact hK
        · intro i hi ih g
          have step : (s.testBit i = true → fe_srv Nd sh (s ^^^ 2 ^ i)) → fe_WP E 100 12 [some (.ref (b + 15)), some (.int (fe_z (s : Int))), some (.int (fe_bi true)), some (.int (fe_z ((i : Int) + 1)))] [] (fe_mk b N c (fe_rc b G R P F S J U o)) K := fun q => ih (fun c hc hb => by
            by_cases hci : c < i
            · exact g c hci hb
            · have : c = i := by omega
              subst this
              exact q hb)
          rw [fe_e100_12]
          by_cases hb : s.testBit i = true
          · have hx : (s ^^^ 2 ^ i) < 4096 := by
              have : 2 ^ i < 2 ^ 12 := Nat.pow_lt_pow_right (by omega) (by omega)
              exact Nat.xor_lt_two_pow (n := 12) hs this
            simp (maxSteps := 4000000) (disch := omega) only [fe_e100_0, fe_e100_1, fe_e100_2, fe_e100_5, fe_e100_8, fe_e100_9, fe_e100_10, fe_e100_11, fe_e100_13, fe_e100_14, fe_e100_17, fe_e100_20, fe_e100_21, fe_e100_24, fe_e100_25, fe_e100_26, fe_e100_27, fe_e100_28, fe_e100_29, fe_e100_30, fe_e100_33, fe_e100_34, fe_e100_35, fe_e100_36, fe_e100_37, fe_e100_38, fe_e100_39, fe_e100_40, fe_e100_41, fe_e100_44, fe_e100_47, fe_e100_48, fe_e100_49, fe_e100_52, fe_e100_55, fe_e100_56, Option.some.injEq, exists_eq_left', fe_KB_r, fe_KB_v, fe_z_add, fe_z_sub, fe_z_mul, fe_z_neg, fe_bi0, fe_bi1, fe_bibi, fe_bi01, fe_z01, fe_z11, true_and, and_true, if_true, if_false, ite_not, not_true_eq_false, not_false_eq_true, Bool.false_eq_true, Bool.true_eq_false, fe_z_mod, fe_z_eq, fe_z_lt, fe_z_le, fe_z_div, Int.reduceEq, Int.reduceLT, Int.reduceLE, Int.reduceNeg, ↓reduceIte, eq_self, Nat.reduceAdd, fe_bor, fe_tb_bi, fe_tb_0, fe_tb_1, fe_un_at, Nat.reduceEqDiff, or_false, or_true, true_or, false_or, Int.le_refl, fe_ob15, fe_g15_0, fe_p15_0, fe_g15_1, fe_g15_2, fe_g15_3, fe_g15_4, fe_g15_5, fe_g15_6, fe_g15_7, fe_g15_8, fe_g15_9, fe_g15_10, fe_g15_11, fe_g15_12, fe_p15_12, fe_g15_13, fe_g15_14, fe_g15_15, fe_g15_16, fe_g15_17, fe_g15_18, fe_p15_18, fe_g15_19, fe_p15_19, fe_g15_20, fe_g15_21, fe_p15_21, fe_aa16, fe_sa16, fe_ll16, fe_aa17, fe_sa17, fe_ll17, fe_aa18, fe_sa18, fe_ll18, fe_aa19, fe_sa19, fe_ll19, fe_aa20, fe_sa20, fe_ll20, fe_aa21, fe_sa21, fe_ll21, fe_aa22, fe_sa22, fe_ll22, fe_aa23, fe_sa23, fe_ll23, fe_aa24, fe_sa24, fe_ll24, fe_aa25, fe_sa25, fe_ll25, fe_aa26, fe_sa26, fe_ll26, fe_aa27, fe_sa27, fe_ll27, fe_aa28, fe_sa28, fe_ll28, fe_aa29, fe_sa29, fe_ll29, fe_aa30, fe_sa30, fe_ll30, fe_aa31, fe_sa31, fe_ll31, fe_aa32, fe_sa32, fe_ll32, fe_aa33, fe_sa33, hg1, fe_z_bit, Int.toNat_natCast, fe_bt_z, hb, fe_z_shl, fe_clr, fe_m99 hx hg2 hg3 hr hU hU2]
            rw [if_neg (by omega)]
            by_cases h1 : fe_srv Nd sh (s ^^^ 2 ^ i)
            · rw [fe_B_pos h1]
              exact step (fun _ => h1)
            · rw [fe_B_neg h1]
              rw [fe_B_neg (fun h => h1 (h.2 rfl i hi hb))] at hK
              exact hK
          · rw [Bool.not_eq_true] at hb
            simp (maxSteps := 4000000) (disch := omega) only [fe_e100_0, fe_e100_1, fe_e100_2, fe_e100_5, fe_e100_8, fe_e100_9, fe_e100_10, fe_e100_11, fe_e100_13, fe_e100_14, fe_e100_17, fe_e100_20, fe_e100_21, fe_e100_24, fe_e100_25, fe_e100_26, fe_e100_27, fe_e100_28, fe_e100_29, fe_e100_30, fe_e100_33, fe_e100_34, fe_e100_35, fe_e100_36, fe_e100_37, fe_e100_38, fe_e100_39, fe_e100_40, fe_e100_41, fe_e100_44, fe_e100_47, fe_e100_48, fe_e100_49, fe_e100_52, fe_e100_55, fe_e100_56, Option.some.injEq, exists_eq_left', fe_KB_r, fe_KB_v, fe_z_add, fe_z_sub, fe_z_mul, fe_z_neg, fe_bi0, fe_bi1, fe_bibi, fe_bi01, fe_z01, fe_z11, true_and, and_true, if_true, if_false, ite_not, not_true_eq_false, not_false_eq_true, Bool.false_eq_true, Bool.true_eq_false, fe_z_mod, fe_z_eq, fe_z_lt, fe_z_le, fe_z_div, Int.reduceEq, Int.reduceLT, Int.reduceLE, Int.reduceNeg, ↓reduceIte, eq_self, Nat.reduceAdd, fe_bor, fe_tb_bi, fe_tb_0, fe_tb_1, fe_un_at, Nat.reduceEqDiff, or_false, or_true, true_or, false_or, Int.le_refl, fe_ob15, fe_g15_0, fe_p15_0, fe_g15_1, fe_g15_2, fe_g15_3, fe_g15_4, fe_g15_5, fe_g15_6, fe_g15_7, fe_g15_8, fe_g15_9, fe_g15_10, fe_g15_11, fe_g15_12, fe_p15_12, fe_g15_13, fe_g15_14, fe_g15_15, fe_g15_16, fe_g15_17, fe_g15_18, fe_p15_18, fe_g15_19, fe_p15_19, fe_g15_20, fe_g15_21, fe_p15_21, fe_aa16, fe_sa16, fe_ll16, fe_aa17, fe_sa17, fe_ll17, fe_aa18, fe_sa18, fe_ll18, fe_aa19, fe_sa19, fe_ll19, fe_aa20, fe_sa20, fe_ll20, fe_aa21, fe_sa21, fe_ll21, fe_aa22, fe_sa22, fe_ll22, fe_aa23, fe_sa23, fe_ll23, fe_aa24, fe_sa24, fe_ll24, fe_aa25, fe_sa25, fe_ll25, fe_aa26, fe_sa26, fe_ll26, fe_aa27, fe_sa27, fe_ll27, fe_aa28, fe_sa28, fe_ll28, fe_aa29, fe_sa29, fe_ll29, fe_aa30, fe_sa30, fe_ll30, fe_aa31, fe_sa31, fe_ll31, fe_aa32, fe_sa32, fe_ll32, fe_aa33, fe_sa33, hg1, fe_z_bit, Int.toNat_natCast, fe_bt_z, hb]
            rw [if_neg (by omega)]
            exact step (fun h => by rw [hb] at h; cases h)
      exact Lp 0 (by omega) (fun c hc => by omega)
  · rw [fe_B_neg h0]
    rw [fe_B_neg (fun h => h0 h.1)] at hK
    exact hK
theorem fe_m102 {n m : Nat} {x : Int32} {p : Bool} (ho : fe_okr n m G P) (hK : ∀ F' S' J' U' G', G' 0 = 0 → G' 1 = G 1 → G' 4 = G 4 → K (.inl (some (.int (fe_bi (fe_B (fe_gd (fe_nd R P n 192) (fe_shr R P n) n p (fe_bits (fun e => fe_bt x e) n))))))) (fe_mk b N c (fe_rc b G' R P F' S' J' U' o))) : fe_WP E 102 0 [some (.ref (b + 15)), some (.int x), some (.int (fe_bi p))] [] (fe_mk b N c (fe_rc b G R P F S J U o)) K := by
  have ho2 : fe_okr n m (fe_un G 0 0) P := ho
  have ⟨g1, hn, g4, hm, hP, hW⟩ := ho
  simp (maxSteps := 4000000) (disch := omega) only [fe_e102_0, fe_e102_1, fe_e102_2, fe_e102_5, fe_e102_6, fe_e102_9, fe_e102_10, fe_e102_11, fe_e102_12, fe_e102_15, fe_e102_16, fe_e102_19, Option.some.injEq, exists_eq_left', fe_KB_r, fe_KB_v, fe_z_add, fe_z_sub, fe_z_mul, fe_z_neg, fe_bi0, fe_bi1, fe_bibi, fe_bi01, fe_z01, fe_z11, true_and, and_true, if_true, if_false, ite_not, not_true_eq_false, not_false_eq_true, Bool.false_eq_true, Bool.true_eq_false, fe_z_mod, fe_z_eq, fe_z_lt, fe_z_le, fe_z_div, Int.reduceEq, Int.reduceLT, Int.reduceLE, Int.reduceNeg, ↓reduceIte, eq_self, Nat.reduceAdd, fe_bor, fe_tb_bi, fe_tb_0, fe_tb_1, fe_un_at, Nat.reduceEqDiff, or_false, or_true, true_or, false_or, Int.le_refl, fe_ob15, fe_g15_0, fe_p15_0, fe_g15_1, fe_g15_2, fe_g15_3, fe_g15_4, fe_g15_5, fe_g15_6, fe_g15_7, fe_g15_8, fe_g15_9, fe_g15_10, fe_g15_11, fe_g15_12, fe_p15_12, fe_g15_13, fe_g15_14, fe_g15_15, fe_g15_16, fe_g15_17, fe_g15_18, fe_p15_18, fe_g15_19, fe_p15_19, fe_g15_20, fe_g15_21, fe_p15_21, fe_aa16, fe_sa16, fe_ll16, fe_aa17, fe_sa17, fe_ll17, fe_aa18, fe_sa18, fe_ll18, fe_aa19, fe_sa19, fe_ll19, fe_aa20, fe_sa20, fe_ll20, fe_aa21, fe_sa21, fe_ll21, fe_aa22, fe_sa22, fe_ll22, fe_aa23, fe_sa23, fe_ll23, fe_aa24, fe_sa24, fe_ll24, fe_aa25, fe_sa25, fe_ll25, fe_aa26, fe_sa26, fe_ll26, fe_aa27, fe_sa27, fe_ll27, fe_aa28, fe_sa28, fe_ll28, fe_aa29, fe_sa29, fe_ll29, fe_aa30, fe_sa30, fe_ll30, fe_aa31, fe_sa31, fe_ll31, fe_aa32, fe_sa32, fe_ll32, fe_aa33, fe_sa33]
  refine fe_m98 ho2 (fun F' S' J' U' r s h1 h2 h3 h4 => ?_)
  have hb : fe_bits (fun e => fe_bt x e) n < 4096 := Nat.lt_of_lt_of_le fe_bits_lt (Nat.pow_le_pow_right (by omega) hn)
  simp (maxSteps := 4000000) (disch := omega) only [fe_e102_0, fe_e102_1, fe_e102_2, fe_e102_5, fe_e102_6, fe_e102_9, fe_e102_10, fe_e102_11, fe_e102_12, fe_e102_15, fe_e102_16, fe_e102_19, Option.some.injEq, exists_eq_left', fe_KB_r, fe_KB_v, fe_z_add, fe_z_sub, fe_z_mul, fe_z_neg, fe_bi0, fe_bi1, fe_bibi, fe_bi01, fe_z01, fe_z11, true_and, and_true, if_true, if_false, ite_not, not_true_eq_false, not_false_eq_true, Bool.false_eq_true, Bool.true_eq_false, fe_z_mod, fe_z_eq, fe_z_lt, fe_z_le, fe_z_div, Int.reduceEq, Int.reduceLT, Int.reduceLE, Int.reduceNeg, ↓reduceIte, eq_self, Nat.reduceAdd, fe_bor, fe_tb_bi, fe_tb_0, fe_tb_1, fe_un_at, Nat.reduceEqDiff, or_false, or_true, true_or, false_or, Int.le_refl, fe_ob15, fe_g15_0, fe_p15_0, fe_g15_1, fe_g15_2, fe_g15_3, fe_g15_4, fe_g15_5, fe_g15_6, fe_g15_7, fe_g15_8, fe_g15_9, fe_g15_10, fe_g15_11, fe_g15_12, fe_p15_12, fe_g15_13, fe_g15_14, fe_g15_15, fe_g15_16, fe_g15_17, fe_g15_18, fe_p15_18, fe_g15_19, fe_p15_19, fe_g15_20, fe_g15_21, fe_p15_21, fe_aa16, fe_sa16, fe_ll16, fe_aa17, fe_sa17, fe_ll17, fe_aa18, fe_sa18, fe_ll18, fe_aa19, fe_sa19, fe_ll19, fe_aa20, fe_sa20, fe_ll20, fe_aa21, fe_sa21, fe_ll21, fe_aa22, fe_sa22, fe_ll22, fe_aa23, fe_sa23, fe_ll23, fe_aa24, fe_sa24, fe_ll24, fe_aa25, fe_sa25, fe_ll25, fe_aa26, fe_sa26, fe_ll26, fe_aa27, fe_sa27, fe_ll27, fe_aa28, fe_sa28, fe_ll28, fe_aa29, fe_sa29, fe_ll29, fe_aa30, fe_sa30, fe_ll30, fe_aa31, fe_sa31, fe_ll31, fe_aa32, fe_sa32, fe_ll32, fe_aa33, fe_sa33, fe_m101 (n := n) (show (fe_un (fe_un (fe_un G 0 0) 3 s) 2 r) 1 = (n : Int) from g1) hn, fe_m100 (n := n) (r := r) (sh := s) (Nd := fe_nd R P n 192) (show (fe_un (fe_un (fe_un G 0 0) 3 s) 2 r) 1 = (n : Int) from g1) hn hb rfl rfl h1 h2 h3]
  rw [h4]
  exact hK F' S' J' U' _ rfl rfl rfl
theorem fe_m104 {n m : Nat} {p : Bool} (ho : fe_okr n m G P) (hK : ∀ F' S' J' U' G', G' 0 = 0 → G' 1 = G 1 → G' 4 = G 4 → K (.inl (some (.int (fe_z (fe_chp (fun s => fe_B (fe_gd (fe_nd R P n 192) (fe_shr R P n) n p s)) (fun s => fe_sum (fun e => if s.testBit e then P 3 e else 0) n) (2 ^ n)))))) (fe_mk b N c (fe_rc b G' R P F' S' J' U' o))) : fe_WP E 104 0 [some (.ref (b + 15)), some (.int (fe_bi p)), none, none, none] [] (fe_mk b N c (fe_rc b G R P F S J U o)) K := by
  have ho2 : fe_okr n m (fe_un G 0 0) P := ho
  have ⟨g1, hn, g4, hm, hP, hW⟩ := ho
  simp (maxSteps := 4000000) (disch := omega) only [fe_e104_0, fe_e104_1, fe_e104_2, fe_e104_5, fe_e104_6, fe_e104_9, fe_e104_10, fe_e104_11, fe_e104_12, fe_e104_14, fe_e104_15, fe_e104_16, fe_e104_19, fe_e104_20, fe_e104_23, fe_e104_24, fe_e104_27, fe_e104_28, fe_e104_29, fe_e104_32, fe_e104_33, fe_e104_34, fe_e104_37, fe_e104_38, fe_e104_40, fe_e104_42, fe_e104_45, fe_e104_47, fe_e104_50, fe_e104_51, fe_e104_54, fe_e104_55, fe_e104_58, fe_e104_61, fe_e104_64, fe_e104_65, fe_e104_66, fe_e104_67, fe_e104_70, fe_e104_73, fe_e104_74, fe_e104_75, fe_e104_78, fe_e104_81, fe_e104_82, Option.some.injEq, exists_eq_left', fe_KB_r, fe_KB_v, fe_z_add, fe_z_sub, fe_z_mul, fe_z_neg, fe_bi0, fe_bi1, fe_bibi, fe_bi01, fe_z01, fe_z11, true_and, and_true, if_true, if_false, ite_not, not_true_eq_false, not_false_eq_true, Bool.false_eq_true, Bool.true_eq_false, fe_z_mod, fe_z_eq, fe_z_lt, fe_z_le, fe_z_div, Int.reduceEq, Int.reduceLT, Int.reduceLE, Int.reduceNeg, ↓reduceIte, eq_self, Nat.reduceAdd, fe_bor, fe_tb_bi, fe_tb_0, fe_tb_1, fe_un_at, Nat.reduceEqDiff, or_false, or_true, true_or, false_or, Int.le_refl, fe_ob15, fe_g15_0, fe_p15_0, fe_g15_1, fe_g15_2, fe_g15_3, fe_g15_4, fe_g15_5, fe_g15_6, fe_g15_7, fe_g15_8, fe_g15_9, fe_g15_10, fe_g15_11, fe_g15_12, fe_p15_12, fe_g15_13, fe_g15_14, fe_g15_15, fe_g15_16, fe_g15_17, fe_g15_18, fe_p15_18, fe_g15_19, fe_p15_19, fe_g15_20, fe_g15_21, fe_p15_21, fe_aa16, fe_sa16, fe_ll16, fe_aa17, fe_sa17, fe_ll17, fe_aa18, fe_sa18, fe_ll18, fe_aa19, fe_sa19, fe_ll19, fe_aa20, fe_sa20, fe_ll20, fe_aa21, fe_sa21, fe_ll21, fe_aa22, fe_sa22, fe_ll22, fe_aa23, fe_sa23, fe_ll23, fe_aa24, fe_sa24, fe_ll24, fe_aa25, fe_sa25, fe_ll25, fe_aa26, fe_sa26, fe_ll26, fe_aa27, fe_sa27, fe_ll27, fe_aa28, fe_sa28, fe_ll28, fe_aa29, fe_sa29, fe_ll29, fe_aa30, fe_sa30, fe_ll30, fe_aa31, fe_sa31, fe_ll31, fe_aa32, fe_sa32, fe_ll32, fe_aa33, fe_sa33]
  refine fe_m98 ho2 (fun F' S' J' U' r s h1 h2 h3 h4 => ?_)
  generalize hG' : fe_un (fe_un (fe_un G 0 0) 3 (s : Int)) 2 (r : Int) = G'
  have e0 : G' 0 = 0 := by rw [← hG']; rfl
  have e1 : G' 1 = (n : Int) := by rw [← hG']; exact g1
  have e2 : G' 2 = (r : Int) := by rw [← hG']; rfl
  have e3 : G' 3 = (s : Int) := by rw [← hG']; rfl
  have e4 : G' 4 = (m : Int) := by rw [← hG']; exact g4
  have ho3 : fe_okr n m G' P := ⟨e1, hn, e4, hm, hP, hW⟩
  clear hG'
  have h2n : 2 ^ n ≤ 4096 := Nat.pow_le_pow_right (n := 2) (i := n) (j := 12) (by omega) hn
  generalize hM : 2 ^ n = M at h2n hK
  have cb : ∀ f : Nat → Bool, 0 ≤ fe_sum (fun e => if f e then P 3 e else 0) n ∧ fe_sum (fun e => if f e then P 3 e else 0) n ≤ 120000 := fun f => by
    have := fe_sum_bd (f := fun e => if f e then P 3 e else 0) (n := n) (z := 10000) (fun k hk => by
      have := hP k (by omega) (by omega)
      split <;> omega)
    omega
  have cs : ∀ q : Nat, q < 4096 → fe_sum (fun e => if fe_bt (fe_z (q : Int)) e then P 3 e else 0) n = fe_sum (fun e => if q.testBit e then P 3 e else 0) n := fun q hq => by
    have : ∀ k, k ≤ 12 → fe_sum (fun e => if fe_bt (fe_z (q : Int)) e then P 3 e else 0) k = fe_sum (fun e => if q.testBit e then P 3 e else 0) k := fun k => by
      induction k with
      | zero => intro _; rfl
      | succ k ih =>
        intro hk
        simp only [fe_sum]
        rw [ih (by omega), fe_bt_z _ _ (by omega)]
    exact this n hn
  have Lp : ∀ i, i ≤ M → ∀ o4, fe_WP E 104 13 [some (.ref (b + 15)), some (.int (fe_bi p)), some (.int (fe_z (fe_chp (fun s => fe_B (fe_gd (fe_nd R P n 192) (fe_shr R P n) n p s)) (fun s => fe_sum (fun e => if s.testBit e then P 3 e else 0) n) i))), some (.int (fe_z (i : Int))), o4] [] (fe_mk b N c (fe_rc b G' R P F' S' J' U' o)) K := by
    refine fe_down M ?_ ?_
    · intro o4
      simp (maxSteps := 4000000) (disch := omega) only [fe_e104_0, fe_e104_1, fe_e104_2, fe_e104_5, fe_e104_6, fe_e104_9, fe_e104_10, fe_e104_11, fe_e104_12, fe_e104_13, fe_e104_14, fe_e104_15, fe_e104_16, fe_e104_19, fe_e104_20, fe_e104_23, fe_e104_24, fe_e104_27, fe_e104_28, fe_e104_29, fe_e104_32, fe_e104_33, fe_e104_34, fe_e104_37, fe_e104_38, fe_e104_40, fe_e104_42, fe_e104_45, fe_e104_47, fe_e104_50, fe_e104_51, fe_e104_54, fe_e104_55, fe_e104_58, fe_e104_61, fe_e104_64, fe_e104_65, fe_e104_66, fe_e104_67, fe_e104_70, fe_e104_73, fe_e104_74, fe_e104_75, fe_e104_78, fe_e104_81, fe_e104_82, Option.some.injEq, exists_eq_left', fe_KB_r, fe_KB_v, fe_z_add, fe_z_sub, fe_z_mul, fe_z_neg, fe_bi0, fe_bi1, fe_bibi, fe_bi01, fe_z01, fe_z11, true_and, and_true, if_true, if_false, ite_not, not_true_eq_false, not_false_eq_true, Bool.false_eq_true, Bool.true_eq_false, fe_z_mod, fe_z_eq, fe_z_lt, fe_z_le, fe_z_div, Int.reduceEq, Int.reduceLT, Int.reduceLE, Int.reduceNeg, ↓reduceIte, eq_self, Nat.reduceAdd, fe_bor, fe_tb_bi, fe_tb_0, fe_tb_1, fe_un_at, Nat.reduceEqDiff, or_false, or_true, true_or, false_or, Int.le_refl, fe_ob15, fe_g15_0, fe_p15_0, fe_g15_1, fe_g15_2, fe_g15_3, fe_g15_4, fe_g15_5, fe_g15_6, fe_g15_7, fe_g15_8, fe_g15_9, fe_g15_10, fe_g15_11, fe_g15_12, fe_p15_12, fe_g15_13, fe_g15_14, fe_g15_15, fe_g15_16, fe_g15_17, fe_g15_18, fe_p15_18, fe_g15_19, fe_p15_19, fe_g15_20, fe_g15_21, fe_p15_21, fe_aa16, fe_sa16, fe_ll16, fe_aa17, fe_sa17, fe_ll17, fe_aa18, fe_sa18, fe_ll18, fe_aa19, fe_sa19, fe_ll19, fe_aa20, fe_sa20, fe_ll20, fe_aa21, fe_sa21, fe_ll21, fe_aa22, fe_sa22, fe_ll22, fe_aa23, fe_sa23, fe_ll23, fe_aa24, fe_sa24, fe_ll24, fe_aa25, fe_sa25, fe_ll25, fe_aa26, fe_sa26, fe_ll26, fe_aa27, fe_sa27, fe_ll27, fe_aa28, fe_sa28, fe_ll28, fe_aa29, fe_sa29, fe_ll29, fe_aa30, fe_sa30, fe_ll30, fe_aa31, fe_sa31, fe_ll31, fe_aa32, fe_sa32, fe_ll32, fe_aa33, fe_sa33, e1, fe_z_shl, Int.toNat_natCast, hM]
      exact hK F' S' J' U' G' e0 (e1.trans g1.symm) (e4.trans g4.symm)
    · intro i hi ih o4
      simp only [fe_cs, fe_chp] at ih
      have bd := fe_chp_bd (good := fun s => fe_B (fe_gd (fe_nd R P n 192) (fe_shr R P n) n p s)) (cost := fun s => fe_sum (fun e => if s.testBit e then P 3 e else 0) n) (m := i)
      generalize hbst : fe_chp (fun s => fe_B (fe_gd (fe_nd R P n 192) (fe_shr R P n) n p s)) (fun s => fe_sum (fun e => if s.testBit e then P 3 e else 0) n) i = best at ih bd ⊢
      have i4 : i < 4096 := by omega
      have hgood := fun (K : fe_R → fe_H → Prop) => fe_m100 (E := E) (b := b) (N := N) (c := c) (R := R) (P := P) (F := F') (S := S') (J := J') (o := o) (p := p) (K := K) (n := n) (r := r) (s := i) (sh := s) (Nd := fe_nd R P n 192) e1 hn i4 e2 e3 h1 h2 h3
      have tri : (best < 0 ∨ fe_sum (fun e => if i.testBit e then P 3 e else 0) n < fe_sum (fun e => if best.toNat.testBit e then P 3 e else 0) n ∨ fe_sum (fun e => if i.testBit e then P 3 e else 0) n = fe_sum (fun e => if best.toNat.testBit e then P 3 e else 0) n ∧ fe_bc (fe_z (i : Int)) < fe_bc (fe_z best)) → ∀ o4, fe_WP E 104 64 [some (.ref (b + 15)), some (.int (fe_bi p)), some (.int (fe_z best)), some (.int (fe_z (i : Int))), o4] [] (fe_mk b N c (fe_rc b G' R P F' S' J' U' o)) K := fun hb o4 => by
        simp (maxSteps := 4000000) (disch := omega) only [fe_e104_0, fe_e104_1, fe_e104_2, fe_e104_5, fe_e104_6, fe_e104_9, fe_e104_10, fe_e104_11, fe_e104_12, fe_e104_14, fe_e104_15, fe_e104_16, fe_e104_19, fe_e104_20, fe_e104_23, fe_e104_24, fe_e104_27, fe_e104_28, fe_e104_29, fe_e104_32, fe_e104_33, fe_e104_34, fe_e104_37, fe_e104_38, fe_e104_40, fe_e104_42, fe_e104_45, fe_e104_47, fe_e104_50, fe_e104_51, fe_e104_54, fe_e104_55, fe_e104_58, fe_e104_61, fe_e104_64, fe_e104_65, fe_e104_66, fe_e104_67, fe_e104_70, fe_e104_73, fe_e104_74, fe_e104_75, fe_e104_78, fe_e104_81, fe_e104_82, Option.some.injEq, exists_eq_left', fe_KB_r, fe_KB_v, fe_z_add, fe_z_sub, fe_z_mul, fe_z_neg, fe_bi0, fe_bi1, fe_bibi, fe_bi01, fe_z01, fe_z11, true_and, and_true, if_true, if_false, ite_not, not_true_eq_false, not_false_eq_true, Bool.false_eq_true, Bool.true_eq_false, fe_z_mod, fe_z_eq, fe_z_lt, fe_z_le, fe_z_div, Int.reduceEq, Int.reduceLT, Int.reduceLE, Int.reduceNeg, ↓reduceIte, eq_self, Nat.reduceAdd, fe_bor, fe_tb_bi, fe_tb_0, fe_tb_1, fe_un_at, Nat.reduceEqDiff, or_false, or_true, true_or, false_or, Int.le_refl, fe_ob15, fe_g15_0, fe_p15_0, fe_g15_1, fe_g15_2, fe_g15_3, fe_g15_4, fe_g15_5, fe_g15_6, fe_g15_7, fe_g15_8, fe_g15_9, fe_g15_10, fe_g15_11, fe_g15_12, fe_p15_12, fe_g15_13, fe_g15_14, fe_g15_15, fe_g15_16, fe_g15_17, fe_g15_18, fe_p15_18, fe_g15_19, fe_p15_19, fe_g15_20, fe_g15_21, fe_p15_21, fe_aa16, fe_sa16, fe_ll16, fe_aa17, fe_sa17, fe_ll17, fe_aa18, fe_sa18, fe_ll18, fe_aa19, fe_sa19, fe_ll19, fe_aa20, fe_sa20, fe_ll20, fe_aa21, fe_sa21, fe_ll21, fe_aa22, fe_sa22, fe_ll22, fe_aa23, fe_sa23, fe_ll23, fe_aa24, fe_sa24, fe_ll24, fe_aa25, fe_sa25, fe_ll25, fe_aa26, fe_sa26, fe_ll26, fe_aa27, fe_sa27, fe_ll27, fe_aa28, fe_sa28, fe_ll28, fe_aa29, fe_sa29, fe_ll29, fe_aa30, fe_sa30, fe_ll30, fe_aa31, fe_sa31, fe_ll31, fe_aa32, fe_sa32, fe_ll32, fe_aa33, fe_sa33, hgood]
        have ih4 := ih o4
        rw [h4]
        by_cases hq : fe_gd (fe_nd R P n 192) (fe_shr R P n) n p i
        · rw [if_pos ⟨hb, fe_B_pos hq⟩] at ih4
          rw [fe_B_pos hq]
          exact ih4
        · rw [if_neg (fun h => hq (fe_B_t.mp h.2))] at ih4
          rw [fe_B_neg hq]
          exact ih4
      have skip : ¬ (best < 0 ∨ fe_sum (fun e => if i.testBit e then P 3 e else 0) n < fe_sum (fun e => if best.toNat.testBit e then P 3 e else 0) n ∨ fe_sum (fun e => if i.testBit e then P 3 e else 0) n = fe_sum (fun e => if best.toNat.testBit e then P 3 e else 0) n ∧ fe_bc (fe_z (i : Int)) < fe_bc (fe_z best)) → ∀ o4, fe_WP E 104 13 [some (.ref (b + 15)), some (.int (fe_bi p)), some (.int (fe_z best)), some (.int (fe_z ((i : Int) + 1))), o4] [] (fe_mk b N c (fe_rc b G' R P F' S' J' U' o)) K := fun hb o4 => by
        have ih4 := ih o4
        rw [if_neg (fun h => hb h.1)] at ih4
        exact ih4
      rw [fe_e104_13]
      by_cases hneg : best < 0
      · simp (maxSteps := 4000000) (disch := omega) only [fe_e104_0, fe_e104_1, fe_e104_2, fe_e104_5, fe_e104_6, fe_e104_9, fe_e104_10, fe_e104_11, fe_e104_12, fe_e104_14, fe_e104_15, fe_e104_16, fe_e104_19, fe_e104_20, fe_e104_23, fe_e104_24, fe_e104_27, fe_e104_28, fe_e104_29, fe_e104_32, fe_e104_33, fe_e104_34, fe_e104_37, fe_e104_38, fe_e104_40, fe_e104_42, fe_e104_45, fe_e104_47, fe_e104_50, fe_e104_51, fe_e104_54, fe_e104_55, fe_e104_58, fe_e104_61, fe_e104_65, fe_e104_66, fe_e104_67, fe_e104_70, fe_e104_73, fe_e104_74, fe_e104_75, fe_e104_78, fe_e104_81, fe_e104_82, Option.some.injEq, exists_eq_left', fe_KB_r, fe_KB_v, fe_z_add, fe_z_sub, fe_z_mul, fe_z_neg, fe_bi0, fe_bi1, fe_bibi, fe_bi01, fe_z01, fe_z11, true_and, and_true, if_true, if_false, ite_not, not_true_eq_false, not_false_eq_true, Bool.false_eq_true, Bool.true_eq_false, fe_z_mod, fe_z_eq, fe_z_lt, fe_z_le, fe_z_div, Int.reduceEq, Int.reduceLT, Int.reduceLE, Int.reduceNeg, ↓reduceIte, eq_self, Nat.reduceAdd, fe_bor, fe_tb_bi, fe_tb_0, fe_tb_1, fe_un_at, Nat.reduceEqDiff, or_false, or_true, true_or, false_or, Int.le_refl, fe_ob15, fe_g15_0, fe_p15_0, fe_g15_1, fe_g15_2, fe_g15_3, fe_g15_4, fe_g15_5, fe_g15_6, fe_g15_7, fe_g15_8, fe_g15_9, fe_g15_10, fe_g15_11, fe_g15_12, fe_p15_12, fe_g15_13, fe_g15_14, fe_g15_15, fe_g15_16, fe_g15_17, fe_g15_18, fe_p15_18, fe_g15_19, fe_p15_19, fe_g15_20, fe_g15_21, fe_p15_21, fe_aa16, fe_sa16, fe_ll16, fe_aa17, fe_sa17, fe_ll17, fe_aa18, fe_sa18, fe_ll18, fe_aa19, fe_sa19, fe_ll19, fe_aa20, fe_sa20, fe_ll20, fe_aa21, fe_sa21, fe_ll21, fe_aa22, fe_sa22, fe_ll22, fe_aa23, fe_sa23, fe_ll23, fe_aa24, fe_sa24, fe_ll24, fe_aa25, fe_sa25, fe_ll25, fe_aa26, fe_sa26, fe_ll26, fe_aa27, fe_sa27, fe_ll27, fe_aa28, fe_sa28, fe_ll28, fe_aa29, fe_sa29, fe_ll29, fe_aa30, fe_sa30, fe_ll30, fe_aa31, fe_sa31, fe_ll31, fe_aa32, fe_sa32, fe_ll32, fe_aa33, fe_sa33, e1, fe_z_shl, Int.toNat_natCast, hM, hneg]
        rw [if_neg (by omega)]
        exact tri (Or.inl hneg) _
      · obtain ⟨q, rfl⟩ := Int.eq_ofNat_of_zero_le (show 0 ≤ best by omega)
        have c1 := cb (fun e => i.testBit e)
        have c2 := cb (fun e => q.testBit e)
        simp only [Int.toNat_natCast] at tri skip
        simp (maxSteps := 4000000) (disch := omega) only [fe_e104_0, fe_e104_1, fe_e104_2, fe_e104_5, fe_e104_6, fe_e104_9, fe_e104_10, fe_e104_11, fe_e104_12, fe_e104_14, fe_e104_15, fe_e104_16, fe_e104_19, fe_e104_20, fe_e104_23, fe_e104_24, fe_e104_27, fe_e104_28, fe_e104_29, fe_e104_32, fe_e104_33, fe_e104_34, fe_e104_37, fe_e104_38, fe_e104_40, fe_e104_42, fe_e104_45, fe_e104_47, fe_e104_50, fe_e104_51, fe_e104_54, fe_e104_55, fe_e104_58, fe_e104_61, fe_e104_65, fe_e104_66, fe_e104_67, fe_e104_70, fe_e104_73, fe_e104_74, fe_e104_75, fe_e104_78, fe_e104_81, fe_e104_82, Option.some.injEq, exists_eq_left', fe_KB_r, fe_KB_v, fe_z_add, fe_z_sub, fe_z_mul, fe_z_neg, fe_bi0, fe_bi1, fe_bibi, fe_bi01, fe_z01, fe_z11, true_and, and_true, if_true, if_false, ite_not, not_true_eq_false, not_false_eq_true, Bool.false_eq_true, Bool.true_eq_false, fe_z_mod, fe_z_eq, fe_z_lt, fe_z_le, fe_z_div, Int.reduceEq, Int.reduceLT, Int.reduceLE, Int.reduceNeg, ↓reduceIte, eq_self, Nat.reduceAdd, fe_bor, fe_tb_bi, fe_tb_0, fe_tb_1, fe_un_at, Nat.reduceEqDiff, or_false, or_true, true_or, false_or, Int.le_refl, fe_ob15, fe_g15_0, fe_p15_0, fe_g15_1, fe_g15_2, fe_g15_3, fe_g15_4, fe_g15_5, fe_g15_6, fe_g15_7, fe_g15_8, fe_g15_9, fe_g15_10, fe_g15_11, fe_g15_12, fe_p15_12, fe_g15_13, fe_g15_14, fe_g15_15, fe_g15_16, fe_g15_17, fe_g15_18, fe_p15_18, fe_g15_19, fe_p15_19, fe_g15_20, fe_g15_21, fe_p15_21, fe_aa16, fe_sa16, fe_ll16, fe_aa17, fe_sa17, fe_ll17, fe_aa18, fe_sa18, fe_ll18, fe_aa19, fe_sa19, fe_ll19, fe_aa20, fe_sa20, fe_ll20, fe_aa21, fe_sa21, fe_ll21, fe_aa22, fe_sa22, fe_ll22, fe_aa23, fe_sa23, fe_ll23, fe_aa24, fe_sa24, fe_ll24, fe_aa25, fe_sa25, fe_ll25, fe_aa26, fe_sa26, fe_ll26, fe_aa27, fe_sa27, fe_ll27, fe_aa28, fe_sa28, fe_ll28, fe_aa29, fe_sa29, fe_ll29, fe_aa30, fe_sa30, fe_ll30, fe_aa31, fe_sa31, fe_ll31, fe_aa32, fe_sa32, fe_ll32, fe_aa33, fe_sa33, e1, fe_z_shl, Int.toNat_natCast, hM, hneg, fe_m103 ho3, cs i (by omega), cs q (by omega), fe_m114]
        rw [if_neg (by omega)]
        split
        · next q1 => exact skip (by omega) _
        · next q1 =>
          split
          · next q2 =>
            split
            · next q3 => exact tri (Or.inr (Or.inr ⟨by omega, q3⟩)) _
            · next q3 => exact skip (fun h => by rcases h with h | h | h <;> first | omega | exact q3 h.2) _
          · next q2 => exact tri (Or.inr (Or.inl (by omega))) _
  simp (maxSteps := 4000000) (disch := omega) only [fe_e104_0, fe_e104_1, fe_e104_2, fe_e104_5, fe_e104_6, fe_e104_9, fe_e104_10, fe_e104_11, fe_e104_12, fe_e104_14, fe_e104_15, fe_e104_16, fe_e104_19, fe_e104_20, fe_e104_23, fe_e104_24, fe_e104_27, fe_e104_28, fe_e104_29, fe_e104_32, fe_e104_33, fe_e104_34, fe_e104_37, fe_e104_38, fe_e104_40, fe_e104_42, fe_e104_45, fe_e104_47, fe_e104_50, fe_e104_51, fe_e104_54, fe_e104_55, fe_e104_58, fe_e104_61, fe_e104_64, fe_e104_65, fe_e104_66, fe_e104_67, fe_e104_70, fe_e104_73, fe_e104_74, fe_e104_75, fe_e104_78, fe_e104_81, fe_e104_82, Option.some.injEq, exists_eq_left', fe_KB_r, fe_KB_v, fe_z_add, fe_z_sub, fe_z_mul, fe_z_neg, fe_bi0, fe_bi1, fe_bibi, fe_bi01, fe_z01, fe_z11, true_and, and_true, if_true, if_false, ite_not, not_true_eq_false, not_false_eq_true, Bool.false_eq_true, Bool.true_eq_false, fe_z_mod, fe_z_eq, fe_z_lt, fe_z_le, fe_z_div, Int.reduceEq, Int.reduceLT, Int.reduceLE, Int.reduceNeg, ↓reduceIte, eq_self, Nat.reduceAdd, fe_bor, fe_tb_bi, fe_tb_0, fe_tb_1, fe_un_at, Nat.reduceEqDiff, or_false, or_true, true_or, false_or, Int.le_refl]
  exact Lp 0 (Nat.zero_le _) _
theorem fe_m106 {n m : Nat} {cell : Int} {x : Int32} (ho : fe_okr n m G P) (hc : 0 ≤ cell ∧ cell ≤ 191) (hK : ∀ F' S', K (.inl (some (.int (fe_z (fe_uns (fun t => fe_B (fe_sJ R P n x cell t))))))) (fe_mk b N c (fe_rc b (fe_un G 0 0) R P F' S' J U o))) : fe_WP E 106 0 [some (.ref (b + 15)), some (.int (fe_z cell)), some (.int x), none, none, none, none, none] [] (fe_mk b N c (fe_rc b G R P F S J U o)) K := by
  have ho2 : fe_okr n m (fe_un G 0 0) P := ho
  have ⟨g1, hn, g4, hm, hP, hW⟩ := ho
  have e1 : (decide (¬ (0 ≤ cell ∧ cell ≤ 191))) = false := by simp only [hc, and_self, not_true_eq_false, decide_false]
  simp (maxSteps := 4000000) (disch := omega) only [fe_e106_0, fe_e106_1, fe_e106_2, fe_e106_5, fe_e106_6, fe_e106_7, fe_e106_10, fe_e106_11, fe_e106_14, fe_e106_17, fe_e106_18, fe_e106_19, fe_e106_20, fe_e106_21, fe_e106_24, fe_e106_25, fe_e106_26, fe_e106_27, fe_e106_29, fe_e106_30, fe_e106_32, fe_e106_33, fe_e106_37, fe_e106_40, fe_e106_43, fe_e106_44, fe_e106_46, fe_e106_49, fe_e106_50, fe_e106_51, fe_e106_54, fe_e106_55, fe_e106_58, fe_e106_59, fe_e106_61, fe_e106_63, fe_e106_66, fe_e106_68, fe_e106_71, fe_e106_72, fe_e106_75, fe_e106_76, fe_e106_78, fe_e106_80, fe_e106_83, fe_e106_84, fe_e106_87, fe_e106_89, fe_e106_90, fe_e106_91, fe_e106_93, fe_e106_94, fe_e106_96, fe_e106_99, fe_e106_100, fe_e106_103, fe_e106_106, fe_e106_108, fe_e106_111, fe_e106_112, fe_e106_115, fe_e106_116, Option.some.injEq, exists_eq_left', fe_KB_r, fe_KB_v, fe_z_add, fe_z_sub, fe_z_mul, fe_z_neg, fe_bi0, fe_bi1, fe_bibi, fe_bi01, fe_z01, fe_z11, true_and, and_true, if_true, if_false, ite_not, not_true_eq_false, not_false_eq_true, Bool.false_eq_true, Bool.true_eq_false, fe_z_mod, fe_z_eq, fe_z_lt, fe_z_le, fe_z_div, Int.reduceEq, Int.reduceLT, Int.reduceLE, Int.reduceNeg, ↓reduceIte, eq_self, Nat.reduceAdd, fe_bor, fe_tb_bi, fe_tb_0, fe_tb_1, fe_un_at, Nat.reduceEqDiff, or_false, or_true, true_or, false_or, Int.le_refl, fe_ob15, fe_g15_0, fe_p15_0, fe_g15_1, fe_g15_2, fe_g15_3, fe_g15_4, fe_g15_5, fe_g15_6, fe_g15_7, fe_g15_8, fe_g15_9, fe_g15_10, fe_g15_11, fe_g15_12, fe_p15_12, fe_g15_13, fe_g15_14, fe_g15_15, fe_g15_16, fe_g15_17, fe_g15_18, fe_p15_18, fe_g15_19, fe_p15_19, fe_g15_20, fe_g15_21, fe_p15_21, fe_aa16, fe_sa16, fe_ll16, fe_aa17, fe_sa17, fe_ll17, fe_aa18, fe_sa18, fe_ll18, fe_aa19, fe_sa19, fe_ll19, fe_aa20, fe_sa20, fe_ll20, fe_aa21, fe_sa21, fe_ll21, fe_aa22, fe_sa22, fe_ll22, fe_aa23, fe_sa23, fe_ll23, fe_aa24, fe_sa24, fe_ll24, fe_aa25, fe_sa25, fe_ll25, fe_aa26, fe_sa26, fe_ll26, fe_aa27, fe_sa27, fe_ll27, fe_aa28, fe_sa28, fe_ll28, fe_aa29, fe_sa29, fe_ll29, fe_aa30, fe_sa30, fe_ll30, fe_aa31, fe_sa31, fe_ll31, fe_aa32, fe_sa32, fe_ll32, fe_aa33, fe_sa33, fe_m72, e1, fe_m70]
  refine fe_m96 ho2 (by omega) (by omega) (fun F' S' hS => ?_)
  have Lp : ∀ t, t ≤ 1680 → ∀ o7, fe_WP E 106 35 [some (.ref (b + 15)), some (.int (fe_z cell)), some (.int x), some (.int (fe_z (fe_gap (fun t => fe_B (fe_sJ R P n x cell t)) t).1)), some (.int (fe_z (fe_gap (fun t => fe_B (fe_sJ R P n x cell t)) t).2.1)), some (.int (fe_bi (fe_gap (fun t => fe_B (fe_sJ R P n x cell t)) t).2.2)), some (.int (fe_z (t : Int))), o7] [] (fe_mk b N c (fe_rc b (fe_un G 0 0) R P F' S' J U o)) K := by
    refine fe_down 1680 ?_ ?_
    · intro o7
      simp (maxSteps := 4000000) (disch := omega) only [fe_e106_0, fe_e106_1, fe_e106_2, fe_e106_5, fe_e106_6, fe_e106_7, fe_e106_10, fe_e106_11, fe_e106_14, fe_e106_17, fe_e106_18, fe_e106_19, fe_e106_20, fe_e106_21, fe_e106_24, fe_e106_25, fe_e106_26, fe_e106_27, fe_e106_29, fe_e106_30, fe_e106_32, fe_e106_33, fe_e106_35, fe_e106_37, fe_e106_40, fe_e106_43, fe_e106_44, fe_e106_46, fe_e106_49, fe_e106_50, fe_e106_51, fe_e106_54, fe_e106_55, fe_e106_58, fe_e106_59, fe_e106_61, fe_e106_63, fe_e106_66, fe_e106_68, fe_e106_71, fe_e106_72, fe_e106_75, fe_e106_76, fe_e106_78, fe_e106_80, fe_e106_83, fe_e106_84, fe_e106_87, fe_e106_89, fe_e106_90, fe_e106_91, fe_e106_93, fe_e106_94, fe_e106_96, fe_e106_99, fe_e106_100, fe_e106_103, fe_e106_106, fe_e106_108, fe_e106_111, fe_e106_112, fe_e106_115, fe_e106_116, Option.some.injEq, exists_eq_left', fe_KB_r, fe_KB_v, fe_z_add, fe_z_sub, fe_z_mul, fe_z_neg, fe_bi0, fe_bi1, fe_bibi, fe_bi01, fe_z01, fe_z11, true_and, and_true, if_true, if_false, ite_not, not_true_eq_false, not_false_eq_true, Bool.false_eq_true, Bool.true_eq_false, fe_z_mod, fe_z_eq, fe_z_lt, fe_z_le, fe_z_div, Int.reduceEq, Int.reduceLT, Int.reduceLE, Int.reduceNeg, ↓reduceIte, eq_self, Nat.reduceAdd, fe_bor, fe_tb_bi, fe_tb_0, fe_tb_1, fe_un_at, Nat.reduceEqDiff, or_false, or_true, true_or, false_or, Int.le_refl, Int.cast_ofNat_Int]
      have := hK F' S'
      unfold fe_uns at this
      generalize fe_gap (fun t => fe_B (fe_sJ R P n x cell t)) 1680 = q at this ⊢
      obtain ⟨q1, q2, q3⟩ := q
      cases q3 with
      | true => exact this
      | false => exact this
    · intro t ht ih o7
      have bd := fe_gap_bd (f := fun t => fe_B (fe_sJ R P n x cell t)) (t := t)
      have hwho : (fe_z ((fe_bits (fun c => S' (8 * (c : Int) + (t : Int) % P 5 c)) n : Nat) : Int) &&& x = fe_z 0) = ¬ fe_sJ R P n x cell t := by
        rw [eq_iff_iff, fe_and0]
        constructor
        · rintro h ⟨c, a1, a2, a3⟩
          have ⟨hok, p3, p3', p5, p5', hw⟩ := hP c (by omega) (by omega)
          refine h c (by omega) ⟨?_, a2⟩
          rw [fe_bt_z _ _ (by omega), fe_bits_test, hS c (t % P 5 c) (by omega) (by omega) (Int.emod_nonneg _ (by omega)) (Int.emod_lt_of_pos _ (by omega)), fe_B_pos a3, decide_eq_true a1]
          rfl
        · rintro h e he ⟨a1, a2⟩
          rw [fe_bt_z _ _ he, fe_bits_test, Bool.and_eq_true, decide_eq_true_eq] at a1
          have ⟨hok, p3, p3', p5, p5', hw⟩ := hP e (by omega) (by omega)
          rw [hS e (t % P 5 e) (by omega) (by omega) (Int.emod_nonneg _ (by omega)) (Int.emod_lt_of_pos _ (by omega)), fe_B_t] at a1
          exact h ⟨e, a1.1, a2, a1.2⟩
      simp only [fe_cs, fe_gap] at ih
      generalize fe_gap (fun t => fe_B (fe_sJ R P n x cell t)) t = q at ih bd ⊢
      obtain ⟨q1, q2, q3⟩ := q
      dsimp only at ih bd ⊢
      rw [fe_e106_35]
      by_cases hj : fe_sJ R P n x cell t
      · simp (maxSteps := 4000000) (disch := omega) only [fe_e106_0, fe_e106_1, fe_e106_2, fe_e106_5, fe_e106_6, fe_e106_7, fe_e106_10, fe_e106_11, fe_e106_14, fe_e106_17, fe_e106_18, fe_e106_19, fe_e106_20, fe_e106_21, fe_e106_24, fe_e106_25, fe_e106_26, fe_e106_27, fe_e106_29, fe_e106_30, fe_e106_32, fe_e106_33, fe_e106_37, fe_e106_40, fe_e106_43, fe_e106_44, fe_e106_46, fe_e106_49, fe_e106_50, fe_e106_51, fe_e106_54, fe_e106_55, fe_e106_58, fe_e106_59, fe_e106_61, fe_e106_63, fe_e106_66, fe_e106_68, fe_e106_71, fe_e106_72, fe_e106_75, fe_e106_76, fe_e106_78, fe_e106_80, fe_e106_83, fe_e106_84, fe_e106_87, fe_e106_89, fe_e106_90, fe_e106_91, fe_e106_93, fe_e106_94, fe_e106_96, fe_e106_99, fe_e106_100, fe_e106_103, fe_e106_106, fe_e106_108, fe_e106_111, fe_e106_112, fe_e106_115, fe_e106_116, Option.some.injEq, exists_eq_left', fe_KB_r, fe_KB_v, fe_z_add, fe_z_sub, fe_z_mul, fe_z_neg, fe_bi0, fe_bi1, fe_bibi, fe_bi01, fe_z01, fe_z11, true_and, and_true, if_true, if_false, ite_not, not_true_eq_false, not_false_eq_true, Bool.false_eq_true, Bool.true_eq_false, fe_z_mod, fe_z_eq, fe_z_lt, fe_z_le, fe_z_div, Int.reduceEq, Int.reduceLT, Int.reduceLE, Int.reduceNeg, ↓reduceIte, eq_self, Nat.reduceAdd, fe_bor, fe_tb_bi, fe_tb_0, fe_tb_1, fe_un_at, Nat.reduceEqDiff, or_false, or_true, true_or, false_or, Int.le_refl, fe_ob15, fe_g15_0, fe_p15_0, fe_g15_1, fe_g15_2, fe_g15_3, fe_g15_4, fe_g15_5, fe_g15_6, fe_g15_7, fe_g15_8, fe_g15_9, fe_g15_10, fe_g15_11, fe_g15_12, fe_p15_12, fe_g15_13, fe_g15_14, fe_g15_15, fe_g15_16, fe_g15_17, fe_g15_18, fe_p15_18, fe_g15_19, fe_p15_19, fe_g15_20, fe_g15_21, fe_p15_21, fe_aa16, fe_sa16, fe_ll16, fe_aa17, fe_sa17, fe_ll17, fe_aa18, fe_sa18, fe_ll18, fe_aa19, fe_sa19, fe_ll19, fe_aa20, fe_sa20, fe_ll20, fe_aa21, fe_sa21, fe_ll21, fe_aa22, fe_sa22, fe_ll22, fe_aa23, fe_sa23, fe_ll23, fe_aa24, fe_sa24, fe_ll24, fe_aa25, fe_sa25, fe_ll25, fe_aa26, fe_sa26, fe_ll26, fe_aa27, fe_sa27, fe_ll27, fe_aa28, fe_sa28, fe_ll28, fe_aa29, fe_sa29, fe_ll29, fe_aa30, fe_sa30, fe_ll30, fe_aa31, fe_sa31, fe_ll31, fe_aa32, fe_sa32, fe_ll32, fe_aa33, fe_sa33, fe_m97 ho2, hwho, hj, fe_m115]
        rw [if_neg (by omega)]
        simp only [fe_B_pos hj, if_true, Bool.or_true] at ih
        cases q3 with
        | true => exact ih _
        | false => exact ih _
      · simp (maxSteps := 4000000) (disch := omega) only [fe_e106_0, fe_e106_1, fe_e106_2, fe_e106_5, fe_e106_6, fe_e106_7, fe_e106_10, fe_e106_11, fe_e106_14, fe_e106_17, fe_e106_18, fe_e106_19, fe_e106_20, fe_e106_21, fe_e106_24, fe_e106_25, fe_e106_26, fe_e106_27, fe_e106_29, fe_e106_30, fe_e106_32, fe_e106_33, fe_e106_37, fe_e106_40, fe_e106_43, fe_e106_44, fe_e106_46, fe_e106_49, fe_e106_50, fe_e106_51, fe_e106_54, fe_e106_55, fe_e106_58, fe_e106_59, fe_e106_61, fe_e106_63, fe_e106_66, fe_e106_68, fe_e106_71, fe_e106_72, fe_e106_75, fe_e106_76, fe_e106_78, fe_e106_80, fe_e106_83, fe_e106_84, fe_e106_87, fe_e106_89, fe_e106_90, fe_e106_91, fe_e106_93, fe_e106_94, fe_e106_96, fe_e106_99, fe_e106_100, fe_e106_103, fe_e106_106, fe_e106_108, fe_e106_111, fe_e106_112, fe_e106_115, fe_e106_116, Option.some.injEq, exists_eq_left', fe_KB_r, fe_KB_v, fe_z_add, fe_z_sub, fe_z_mul, fe_z_neg, fe_bi0, fe_bi1, fe_bibi, fe_bi01, fe_z01, fe_z11, true_and, and_true, if_true, if_false, ite_not, not_true_eq_false, not_false_eq_true, Bool.false_eq_true, Bool.true_eq_false, fe_z_mod, fe_z_eq, fe_z_lt, fe_z_le, fe_z_div, Int.reduceEq, Int.reduceLT, Int.reduceLE, Int.reduceNeg, ↓reduceIte, eq_self, Nat.reduceAdd, fe_bor, fe_tb_bi, fe_tb_0, fe_tb_1, fe_un_at, Nat.reduceEqDiff, or_false, or_true, true_or, false_or, Int.le_refl, fe_ob15, fe_g15_0, fe_p15_0, fe_g15_1, fe_g15_2, fe_g15_3, fe_g15_4, fe_g15_5, fe_g15_6, fe_g15_7, fe_g15_8, fe_g15_9, fe_g15_10, fe_g15_11, fe_g15_12, fe_p15_12, fe_g15_13, fe_g15_14, fe_g15_15, fe_g15_16, fe_g15_17, fe_g15_18, fe_p15_18, fe_g15_19, fe_p15_19, fe_g15_20, fe_g15_21, fe_p15_21, fe_aa16, fe_sa16, fe_ll16, fe_aa17, fe_sa17, fe_ll17, fe_aa18, fe_sa18, fe_ll18, fe_aa19, fe_sa19, fe_ll19, fe_aa20, fe_sa20, fe_ll20, fe_aa21, fe_sa21, fe_ll21, fe_aa22, fe_sa22, fe_ll22, fe_aa23, fe_sa23, fe_ll23, fe_aa24, fe_sa24, fe_ll24, fe_aa25, fe_sa25, fe_ll25, fe_aa26, fe_sa26, fe_ll26, fe_aa27, fe_sa27, fe_ll27, fe_aa28, fe_sa28, fe_ll28, fe_aa29, fe_sa29, fe_ll29, fe_aa30, fe_sa30, fe_ll30, fe_aa31, fe_sa31, fe_ll31, fe_aa32, fe_sa32, fe_ll32, fe_aa33, fe_sa33, fe_m97 ho2, hwho, hj, fe_m115]
        rw [if_neg (by omega)]
        simp only [fe_B_neg hj, Bool.false_eq_true, if_false, Bool.or_false] at ih
        cases q3 with
        | true => exact ih _
        | false => exact ih _
  simp (maxSteps := 4000000) (disch := omega) only [fe_e106_0, fe_e106_1, fe_e106_2, fe_e106_5, fe_e106_6, fe_e106_7, fe_e106_10, fe_e106_11, fe_e106_14, fe_e106_17, fe_e106_18, fe_e106_19, fe_e106_20, fe_e106_21, fe_e106_24, fe_e106_25, fe_e106_26, fe_e106_27, fe_e106_29, fe_e106_30, fe_e106_32, fe_e106_33, fe_e106_37, fe_e106_40, fe_e106_43, fe_e106_44, fe_e106_46, fe_e106_49, fe_e106_50, fe_e106_51, fe_e106_54, fe_e106_55, fe_e106_58, fe_e106_59, fe_e106_61, fe_e106_63, fe_e106_66, fe_e106_68, fe_e106_71, fe_e106_72, fe_e106_75, fe_e106_76, fe_e106_78, fe_e106_80, fe_e106_83, fe_e106_84, fe_e106_87, fe_e106_89, fe_e106_90, fe_e106_91, fe_e106_93, fe_e106_94, fe_e106_96, fe_e106_99, fe_e106_100, fe_e106_103, fe_e106_106, fe_e106_108, fe_e106_111, fe_e106_112, fe_e106_115, fe_e106_116, Option.some.injEq, exists_eq_left', fe_KB_r, fe_KB_v, fe_z_add, fe_z_sub, fe_z_mul, fe_z_neg, fe_bi0, fe_bi1, fe_bibi, fe_bi01, fe_z01, fe_z11, true_and, and_true, if_true, if_false, ite_not, not_true_eq_false, not_false_eq_true, Bool.false_eq_true, Bool.true_eq_false, fe_z_mod, fe_z_eq, fe_z_lt, fe_z_le, fe_z_div, Int.reduceEq, Int.reduceLT, Int.reduceLE, Int.reduceNeg, ↓reduceIte, eq_self, Nat.reduceAdd, fe_bor, fe_tb_bi, fe_tb_0, fe_tb_1, fe_un_at, Nat.reduceEqDiff, or_false, or_true, true_or, false_or, Int.le_refl]
  exact Lp 0 (by omega) _
theorem fe_m106x {cell : Int} {x : Int32} (h0 : -2147483648 ≤ cell) (h1 : cell ≤ 2147483647) (h2 : ¬ (0 ≤ cell ∧ cell ≤ 191)) : fe_WP E 106 0 [some (.ref (b + 15)), some (.int (fe_z cell)), some (.int x), none, none, none, none, none] [] (fe_mk b N c (fe_rc b G R P F S J U o)) K ↔ K (.inl (some (.int (fe_z 0)))) (fe_mk b N c (fe_rc b (fe_un (fe_un G 0 0) 0 1) R P F S J U o)) := by
  simp (maxSteps := 4000000) (disch := omega) only [fe_e106_0, fe_e106_1, fe_e106_2, fe_e106_5, fe_e106_6, fe_e106_7, fe_e106_10, fe_e106_11, fe_e106_14, fe_e106_17, fe_e106_18, fe_e106_20, fe_e106_21, fe_e106_24, fe_e106_25, fe_e106_26, fe_e106_27, fe_e106_29, fe_e106_30, fe_e106_32, fe_e106_33, fe_e106_35, fe_e106_37, fe_e106_40, fe_e106_43, fe_e106_44, fe_e106_46, fe_e106_49, fe_e106_50, fe_e106_51, fe_e106_54, fe_e106_55, fe_e106_58, fe_e106_59, fe_e106_61, fe_e106_63, fe_e106_66, fe_e106_68, fe_e106_71, fe_e106_72, fe_e106_75, fe_e106_76, fe_e106_78, fe_e106_80, fe_e106_83, fe_e106_84, fe_e106_87, fe_e106_89, fe_e106_90, fe_e106_91, fe_e106_93, fe_e106_94, fe_e106_96, fe_e106_99, fe_e106_100, fe_e106_103, fe_e106_106, fe_e106_108, fe_e106_111, fe_e106_112, fe_e106_115, fe_e106_116, Option.some.injEq, exists_eq_left', fe_KB_r, fe_KB_v, fe_z_add, fe_z_sub, fe_z_mul, fe_z_neg, fe_bi0, fe_bi1, fe_bibi, fe_bi01, fe_z01, fe_z11, true_and, and_true, if_true, if_false, ite_not, not_true_eq_false, not_false_eq_true, Bool.false_eq_true, Bool.true_eq_false, fe_z_mod, fe_z_eq, fe_z_lt, fe_z_le, fe_z_div, Int.reduceEq, Int.reduceLT, Int.reduceLE, Int.reduceNeg, ↓reduceIte, eq_self, Nat.reduceAdd, fe_bor, fe_tb_bi, fe_tb_0, fe_tb_1, fe_un_at, Nat.reduceEqDiff, or_false, or_true, true_or, false_or, Int.le_refl, fe_ob15, fe_g15_0, fe_p15_0, fe_g15_1, fe_g15_2, fe_g15_3, fe_g15_4, fe_g15_5, fe_g15_6, fe_g15_7, fe_g15_8, fe_g15_9, fe_g15_10, fe_g15_11, fe_g15_12, fe_p15_12, fe_g15_13, fe_g15_14, fe_g15_15, fe_g15_16, fe_g15_17, fe_g15_18, fe_p15_18, fe_g15_19, fe_p15_19, fe_g15_20, fe_g15_21, fe_p15_21, fe_aa16, fe_sa16, fe_ll16, fe_aa17, fe_sa17, fe_ll17, fe_aa18, fe_sa18, fe_ll18, fe_aa19, fe_sa19, fe_ll19, fe_aa20, fe_sa20, fe_ll20, fe_aa21, fe_sa21, fe_ll21, fe_aa22, fe_sa22, fe_ll22, fe_aa23, fe_sa23, fe_ll23, fe_aa24, fe_sa24, fe_ll24, fe_aa25, fe_sa25, fe_ll25, fe_aa26, fe_sa26, fe_ll26, fe_aa27, fe_sa27, fe_ll27, fe_aa28, fe_sa28, fe_ll28, fe_aa29, fe_sa29, fe_ll29, fe_aa30, fe_sa30, fe_ll30, fe_aa31, fe_sa31, fe_ll31, fe_aa32, fe_sa32, fe_ll32, fe_aa33, fe_sa33, fe_m72, fe_m70, decide_eq_true h2]
theorem fe_m107 {n m : Nat} {x : Int32} (ho : fe_okr n m G P) (hK : ∀ F', K (.inl (some (.int (fe_z (fe_cnt (fun cell => !R 0 cell && !fe_B (fe_sE R P n x cell)) 192))))) (fe_mk b N c (fe_rc b (fe_un G 0 0) R P F' S J U o))) : fe_WP E 107 0 [some (.ref (b + 15)), some (.int x), none, none, none, none, none] [] (fe_mk b N c (fe_rc b G R P F S J U o)) K := by
  have ⟨g1, hn, g4, hm, hP, hW⟩ := ho
  have LK : ∀ cell : Nat, cell < 192 → ∀ d : Nat, d < n → ∀ o2, (∀ F' (s : Bool) o6, (s = true → fe_sE R P n x cell) → (s = false → ∀ k : Nat, (k : Int) < P 5 d → fe_bt x d = true → ¬ fe_sI R P d cell (P 4 (8 * (d : Int) + k))) → fe_WP E 107 34 [some (.ref (b + 15)), some (.int x), o2, some (.int (fe_z (cell : Int))), some (.int (fe_bi s)), some (.int (fe_z ((d : Int) + 1))), o6] [] (fe_mk b N c (fe_rc b (fe_un G 0 0) R P F' S J U o)) K) →
      ∀ L : Nat, P 5 d = L → ∀ k, k ≤ L → ∀ F' (s : Bool), (s = true → fe_sE R P n x cell) → (s = false → ∀ k' : Nat, k' < k → fe_bt x d = true → ¬ fe_sI R P d cell (P 4 (8 * (d : Int) + k'))) → fe_WP E 107 51 [some (.ref (b + 15)), some (.int x), o2, some (.int (fe_z (cell : Int))), some (.int (fe_bi s)), some (.int (fe_z (d : Int))), some (.int (fe_z (k : Int)))] [] (fe_mk b N c (fe_rc b (fe_un G 0 0) R P F' S J U o)) K := by
    intro cell hcell d hc o2 hout L hL
    have ⟨hok, p3, p3', p5, p5', hw⟩ := hP d (by omega) (by omega)
    refine fe_down L ?_ ?_
    · intro F' s h1 h2
      simp (maxSteps := 4000000) (disch := omega) only [fe_e107_0, fe_e107_1, fe_e107_2, fe_e107_5, fe_e107_6, fe_e107_7, fe_e107_8, fe_e107_9, fe_e107_10, fe_e107_13, fe_e107_16, fe_e107_17, fe_e107_20, fe_e107_21, fe_e107_22, fe_e107_25, fe_e107_28, fe_e107_29, fe_e107_31, fe_e107_32, fe_e107_36, fe_e107_37, fe_e107_40, fe_e107_43, fe_e107_45, fe_e107_48, fe_e107_49, fe_e107_51, fe_e107_53, fe_e107_54, fe_e107_57, fe_e107_59, fe_e107_60, fe_e107_63, fe_e107_65, fe_e107_68, fe_e107_69, fe_e107_71, fe_e107_72, fe_e107_73, fe_e107_74, fe_e107_75, fe_e107_78, fe_e107_79, fe_e107_81, fe_e107_82, fe_e107_83, fe_e107_86, fe_e107_88, fe_e107_90, fe_e107_91, fe_e107_93, fe_e107_94, fe_e107_95, fe_e107_98, fe_e107_100, fe_e107_103, fe_e107_106, fe_e107_109, fe_e107_112, fe_e107_113, fe_e107_115, fe_e107_118, fe_e107_119, fe_e107_122, fe_e107_123, fe_e107_124, fe_e107_125, fe_e107_128, fe_e107_131, fe_e107_132, Option.some.injEq, exists_eq_left', fe_KB_r, fe_KB_v, fe_z_add, fe_z_sub, fe_z_mul, fe_z_neg, fe_bi0, fe_bi1, fe_bibi, fe_bi01, fe_z01, fe_z11, true_and, and_true, if_true, if_false, ite_not, not_true_eq_false, not_false_eq_true, Bool.false_eq_true, Bool.true_eq_false, fe_z_mod, fe_z_eq, fe_z_lt, fe_z_le, fe_z_div, Int.reduceEq, Int.reduceLT, Int.reduceLE, Int.reduceNeg, ↓reduceIte, eq_self, Nat.reduceAdd, fe_bor, fe_tb_bi, fe_tb_0, fe_tb_1, fe_un_at, Nat.reduceEqDiff, or_false, or_true, true_or, false_or, Int.le_refl, fe_ob15, fe_g15_0, fe_p15_0, fe_g15_1, fe_g15_2, fe_g15_3, fe_g15_4, fe_g15_5, fe_g15_6, fe_g15_7, fe_g15_8, fe_g15_9, fe_g15_10, fe_g15_11, fe_g15_12, fe_p15_12, fe_g15_13, fe_g15_14, fe_g15_15, fe_g15_16, fe_g15_17, fe_g15_18, fe_p15_18, fe_g15_19, fe_p15_19, fe_g15_20, fe_g15_21, fe_p15_21, fe_aa16, fe_sa16, fe_ll16, fe_aa17, fe_sa17, fe_ll17, fe_aa18, fe_sa18, fe_ll18, fe_aa19, fe_sa19, fe_ll19, fe_aa20, fe_sa20, fe_ll20, fe_aa21, fe_sa21, fe_ll21, fe_aa22, fe_sa22, fe_ll22, fe_aa23, fe_sa23, fe_ll23, fe_aa24, fe_sa24, fe_ll24, fe_aa25, fe_sa25, fe_ll25, fe_aa26, fe_sa26, fe_ll26, fe_aa27, fe_sa27, fe_ll27, fe_aa28, fe_sa28, fe_ll28, fe_aa29, fe_sa29, fe_ll29, fe_aa30, fe_sa30, fe_ll30, fe_aa31, fe_sa31, fe_ll31, fe_aa32, fe_sa32, fe_ll32, fe_aa33, fe_sa33, hL]
      exact hout F' s _ h1 (fun hs k hk => h2 hs k (by omega))
    · intro k hk ih F' s h1 h2
      have wk := hw k (by omega) (by omega)
      rw [fe_e107_51]
      cases s with
      | true =>
        simp (maxSteps := 4000000) (disch := omega) only [fe_e107_0, fe_e107_1, fe_e107_2, fe_e107_5, fe_e107_6, fe_e107_7, fe_e107_8, fe_e107_9, fe_e107_10, fe_e107_13, fe_e107_16, fe_e107_17, fe_e107_20, fe_e107_21, fe_e107_22, fe_e107_25, fe_e107_28, fe_e107_29, fe_e107_31, fe_e107_32, fe_e107_36, fe_e107_37, fe_e107_40, fe_e107_43, fe_e107_45, fe_e107_48, fe_e107_49, fe_e107_53, fe_e107_54, fe_e107_57, fe_e107_59, fe_e107_60, fe_e107_63, fe_e107_65, fe_e107_68, fe_e107_69, fe_e107_71, fe_e107_72, fe_e107_73, fe_e107_74, fe_e107_75, fe_e107_78, fe_e107_79, fe_e107_81, fe_e107_82, fe_e107_83, fe_e107_86, fe_e107_88, fe_e107_90, fe_e107_91, fe_e107_93, fe_e107_94, fe_e107_95, fe_e107_98, fe_e107_100, fe_e107_103, fe_e107_106, fe_e107_109, fe_e107_112, fe_e107_113, fe_e107_115, fe_e107_118, fe_e107_119, fe_e107_122, fe_e107_123, fe_e107_124, fe_e107_125, fe_e107_128, fe_e107_131, fe_e107_132, Option.some.injEq, exists_eq_left', fe_KB_r, fe_KB_v, fe_z_add, fe_z_sub, fe_z_mul, fe_z_neg, fe_bi0, fe_bi1, fe_bibi, fe_bi01, fe_z01, fe_z11, true_and, and_true, if_true, if_false, ite_not, not_true_eq_false, not_false_eq_true, Bool.false_eq_true, Bool.true_eq_false, fe_z_mod, fe_z_eq, fe_z_lt, fe_z_le, fe_z_div, Int.reduceEq, Int.reduceLT, Int.reduceLE, Int.reduceNeg, ↓reduceIte, eq_self, Nat.reduceAdd, fe_bor, fe_tb_bi, fe_tb_0, fe_tb_1, fe_un_at, Nat.reduceEqDiff, or_false, or_true, true_or, false_or, Int.le_refl, fe_ob15, fe_g15_0, fe_p15_0, fe_g15_1, fe_g15_2, fe_g15_3, fe_g15_4, fe_g15_5, fe_g15_6, fe_g15_7, fe_g15_8, fe_g15_9, fe_g15_10, fe_g15_11, fe_g15_12, fe_p15_12, fe_g15_13, fe_g15_14, fe_g15_15, fe_g15_16, fe_g15_17, fe_g15_18, fe_p15_18, fe_g15_19, fe_p15_19, fe_g15_20, fe_g15_21, fe_p15_21, fe_aa16, fe_sa16, fe_ll16, fe_aa17, fe_sa17, fe_ll17, fe_aa18, fe_sa18, fe_ll18, fe_aa19, fe_sa19, fe_ll19, fe_aa20, fe_sa20, fe_ll20, fe_aa21, fe_sa21, fe_ll21, fe_aa22, fe_sa22, fe_ll22, fe_aa23, fe_sa23, fe_ll23, fe_aa24, fe_sa24, fe_ll24, fe_aa25, fe_sa25, fe_ll25, fe_aa26, fe_sa26, fe_ll26, fe_aa27, fe_sa27, fe_ll27, fe_aa28, fe_sa28, fe_ll28, fe_aa29, fe_sa29, fe_ll29, fe_aa30, fe_sa30, fe_ll30, fe_aa31, fe_sa31, fe_ll31, fe_aa32, fe_sa32, fe_ll32, fe_aa33, fe_sa33, hL]
        rw [if_neg (by omega)]
        exact hout F' true _ h1 (fun hs => by cases hs)
      | false =>
        simp (maxSteps := 4000000) (disch := omega) only [fe_e107_0, fe_e107_1, fe_e107_2, fe_e107_5, fe_e107_6, fe_e107_7, fe_e107_8, fe_e107_9, fe_e107_10, fe_e107_13, fe_e107_16, fe_e107_17, fe_e107_20, fe_e107_21, fe_e107_22, fe_e107_25, fe_e107_28, fe_e107_29, fe_e107_31, fe_e107_32, fe_e107_36, fe_e107_37, fe_e107_40, fe_e107_43, fe_e107_45, fe_e107_48, fe_e107_49, fe_e107_53, fe_e107_54, fe_e107_57, fe_e107_59, fe_e107_60, fe_e107_63, fe_e107_65, fe_e107_68, fe_e107_69, fe_e107_71, fe_e107_72, fe_e107_73, fe_e107_74, fe_e107_75, fe_e107_78, fe_e107_79, fe_e107_81, fe_e107_82, fe_e107_83, fe_e107_86, fe_e107_88, fe_e107_90, fe_e107_91, fe_e107_93, fe_e107_94, fe_e107_95, fe_e107_98, fe_e107_100, fe_e107_103, fe_e107_106, fe_e107_109, fe_e107_112, fe_e107_113, fe_e107_115, fe_e107_118, fe_e107_119, fe_e107_122, fe_e107_123, fe_e107_124, fe_e107_125, fe_e107_128, fe_e107_131, fe_e107_132, Option.some.injEq, exists_eq_left', fe_KB_r, fe_KB_v, fe_z_add, fe_z_sub, fe_z_mul, fe_z_neg, fe_bi0, fe_bi1, fe_bibi, fe_bi01, fe_z01, fe_z11, true_and, and_true, if_true, if_false, ite_not, not_true_eq_false, not_false_eq_true, Bool.false_eq_true, Bool.true_eq_false, fe_z_mod, fe_z_eq, fe_z_lt, fe_z_le, fe_z_div, Int.reduceEq, Int.reduceLT, Int.reduceLE, Int.reduceNeg, ↓reduceIte, eq_self, Nat.reduceAdd, fe_bor, fe_tb_bi, fe_tb_0, fe_tb_1, fe_un_at, Nat.reduceEqDiff, or_false, or_true, true_or, false_or, Int.le_refl, fe_ob15, fe_g15_0, fe_p15_0, fe_g15_1, fe_g15_2, fe_g15_3, fe_g15_4, fe_g15_5, fe_g15_6, fe_g15_7, fe_g15_8, fe_g15_9, fe_g15_10, fe_g15_11, fe_g15_12, fe_p15_12, fe_g15_13, fe_g15_14, fe_g15_15, fe_g15_16, fe_g15_17, fe_g15_18, fe_p15_18, fe_g15_19, fe_p15_19, fe_g15_20, fe_g15_21, fe_p15_21, fe_aa16, fe_sa16, fe_ll16, fe_aa17, fe_sa17, fe_ll17, fe_aa18, fe_sa18, fe_ll18, fe_aa19, fe_sa19, fe_ll19, fe_aa20, fe_sa20, fe_ll20, fe_aa21, fe_sa21, fe_ll21, fe_aa22, fe_sa22, fe_ll22, fe_aa23, fe_sa23, fe_ll23, fe_aa24, fe_sa24, fe_ll24, fe_aa25, fe_sa25, fe_ll25, fe_aa26, fe_sa26, fe_ll26, fe_aa27, fe_sa27, fe_ll27, fe_aa28, fe_sa28, fe_ll28, fe_aa29, fe_sa29, fe_ll29, fe_aa30, fe_sa30, fe_ll30, fe_aa31, fe_sa31, fe_ll31, fe_aa32, fe_sa32, fe_ll32, fe_aa33, fe_sa33, hL, fe_z_bit, Int.toNat_natCast]
        rw [if_neg (by omega)]
        split
        · next q =>
          refine fe_m90 (by omega) (by omega) hok (by omega) (by omega) wk.1 wk.2 (fun F'' => ?_)
          simp (maxSteps := 4000000) (disch := omega) only [fe_e107_0, fe_e107_1, fe_e107_2, fe_e107_5, fe_e107_6, fe_e107_7, fe_e107_8, fe_e107_9, fe_e107_10, fe_e107_13, fe_e107_16, fe_e107_17, fe_e107_20, fe_e107_21, fe_e107_22, fe_e107_25, fe_e107_28, fe_e107_29, fe_e107_31, fe_e107_32, fe_e107_36, fe_e107_37, fe_e107_40, fe_e107_43, fe_e107_45, fe_e107_48, fe_e107_49, fe_e107_53, fe_e107_54, fe_e107_57, fe_e107_59, fe_e107_60, fe_e107_63, fe_e107_65, fe_e107_68, fe_e107_69, fe_e107_71, fe_e107_72, fe_e107_73, fe_e107_74, fe_e107_75, fe_e107_78, fe_e107_79, fe_e107_81, fe_e107_82, fe_e107_83, fe_e107_86, fe_e107_88, fe_e107_90, fe_e107_91, fe_e107_93, fe_e107_94, fe_e107_95, fe_e107_98, fe_e107_100, fe_e107_103, fe_e107_106, fe_e107_109, fe_e107_112, fe_e107_113, fe_e107_115, fe_e107_118, fe_e107_119, fe_e107_122, fe_e107_123, fe_e107_124, fe_e107_125, fe_e107_128, fe_e107_131, fe_e107_132, Option.some.injEq, exists_eq_left', fe_KB_r, fe_KB_v, fe_z_add, fe_z_sub, fe_z_mul, fe_z_neg, fe_bi0, fe_bi1, fe_bibi, fe_bi01, fe_z01, fe_z11, true_and, and_true, if_true, if_false, ite_not, not_true_eq_false, not_false_eq_true, Bool.false_eq_true, Bool.true_eq_false, fe_z_mod, fe_z_eq, fe_z_lt, fe_z_le, fe_z_div, Int.reduceEq, Int.reduceLT, Int.reduceLE, Int.reduceNeg, ↓reduceIte, eq_self, Nat.reduceAdd, fe_bor, fe_tb_bi, fe_tb_0, fe_tb_1, fe_un_at, Nat.reduceEqDiff, or_false, or_true, true_or, false_or, Int.le_refl]
          refine ih F'' _ (fun hs => ⟨d, hc, q, k, by omega, fe_B_t.mp hs⟩) (fun hs k' a1 a2 => ?_)
          by_cases hk' : k' = k
          · subst hk'
            exact fe_B_f.mp hs
          · exact h2 rfl k' (by omega) a2
        · next q => exact hout F' false _ h1 (fun hs k hk a => absurd a q)
  have LC : ∀ cell : Nat, cell < 192 → ∀ o2, (∀ F' o5 o6, fe_WP E 107 112 [some (.ref (b + 15)), some (.int x), o2, some (.int (fe_z (cell : Int))), some (.int (fe_bi (fe_B (fe_sE R P n x cell)))), o5, o6] [] (fe_mk b N c (fe_rc b (fe_un G 0 0) R P F' S J U o)) K) →
      ∀ d, d ≤ n → ∀ F' (s : Bool) o6, (s = true → fe_sE R P n x cell) → (s = false → ∀ d' : Nat, d' < d → ∀ k : Nat, (k : Int) < P 5 d' → fe_bt x d' = true → ¬ fe_sI R P d' cell (P 4 (8 * (d' : Int) + k))) → fe_WP E 107 34 [some (.ref (b + 15)), some (.int x), o2, some (.int (fe_z (cell : Int))), some (.int (fe_bi s)), some (.int (fe_z (d : Int))), o6] [] (fe_mk b N c (fe_rc b (fe_un G 0 0) R P F' S J U o)) K := by
    intro cell hcell o2 hout
    refine fe_down n ?_ ?_
    · intro F' s o6 h1 h2
      simp (maxSteps := 4000000) (disch := omega) only [fe_e107_0, fe_e107_1, fe_e107_2, fe_e107_5, fe_e107_6, fe_e107_7, fe_e107_8, fe_e107_9, fe_e107_10, fe_e107_13, fe_e107_16, fe_e107_17, fe_e107_20, fe_e107_21, fe_e107_22, fe_e107_25, fe_e107_28, fe_e107_29, fe_e107_31, fe_e107_32, fe_e107_34, fe_e107_36, fe_e107_37, fe_e107_40, fe_e107_43, fe_e107_45, fe_e107_48, fe_e107_49, fe_e107_51, fe_e107_53, fe_e107_54, fe_e107_57, fe_e107_59, fe_e107_60, fe_e107_63, fe_e107_65, fe_e107_68, fe_e107_69, fe_e107_71, fe_e107_72, fe_e107_73, fe_e107_74, fe_e107_75, fe_e107_78, fe_e107_79, fe_e107_81, fe_e107_82, fe_e107_83, fe_e107_86, fe_e107_88, fe_e107_90, fe_e107_91, fe_e107_93, fe_e107_94, fe_e107_95, fe_e107_98, fe_e107_100, fe_e107_103, fe_e107_106, fe_e107_109, fe_e107_113, fe_e107_115, fe_e107_118, fe_e107_119, fe_e107_122, fe_e107_123, fe_e107_124, fe_e107_125, fe_e107_128, fe_e107_131, fe_e107_132, Option.some.injEq, exists_eq_left', fe_KB_r, fe_KB_v, fe_z_add, fe_z_sub, fe_z_mul, fe_z_neg, fe_bi0, fe_bi1, fe_bibi, fe_bi01, fe_z01, fe_z11, true_and, and_true, if_true, if_false, ite_not, not_true_eq_false, not_false_eq_true, Bool.false_eq_true, Bool.true_eq_false, fe_z_mod, fe_z_eq, fe_z_lt, fe_z_le, fe_z_div, Int.reduceEq, Int.reduceLT, Int.reduceLE, Int.reduceNeg, ↓reduceIte, eq_self, Nat.reduceAdd, fe_bor, fe_tb_bi, fe_tb_0, fe_tb_1, fe_un_at, Nat.reduceEqDiff, or_false, or_true, true_or, false_or, Int.le_refl, fe_ob15, fe_g15_0, fe_p15_0, fe_g15_1, fe_g15_2, fe_g15_3, fe_g15_4, fe_g15_5, fe_g15_6, fe_g15_7, fe_g15_8, fe_g15_9, fe_g15_10, fe_g15_11, fe_g15_12, fe_p15_12, fe_g15_13, fe_g15_14, fe_g15_15, fe_g15_16, fe_g15_17, fe_g15_18, fe_p15_18, fe_g15_19, fe_p15_19, fe_g15_20, fe_g15_21, fe_p15_21, fe_aa16, fe_sa16, fe_ll16, fe_aa17, fe_sa17, fe_ll17, fe_aa18, fe_sa18, fe_ll18, fe_aa19, fe_sa19, fe_ll19, fe_aa20, fe_sa20, fe_ll20, fe_aa21, fe_sa21, fe_ll21, fe_aa22, fe_sa22, fe_ll22, fe_aa23, fe_sa23, fe_ll23, fe_aa24, fe_sa24, fe_ll24, fe_aa25, fe_sa25, fe_ll25, fe_aa26, fe_sa26, fe_ll26, fe_aa27, fe_sa27, fe_ll27, fe_aa28, fe_sa28, fe_ll28, fe_aa29, fe_sa29, fe_ll29, fe_aa30, fe_sa30, fe_ll30, fe_aa31, fe_sa31, fe_ll31, fe_aa32, fe_sa32, fe_ll32, fe_aa33, fe_sa33, g1]
      have : fe_B (fe_sE R P n x cell) = s := by
        cases s with
        | true => exact fe_B_pos (h1 rfl)
        | false => exact fe_B_neg (fun ⟨d, a1, a2, k, a3, a4⟩ => h2 rfl d a1 k a3 a2 a4)
      rw [← this]
      exact hout F' _ _
    · intro d hc ih F' s o6 h1 h2
      have ⟨hok, p3, p3', p5, p5', hw⟩ := hP d (by omega) (by omega)
      obtain ⟨L, hL⟩ := Int.eq_ofNat_of_zero_le (show 0 ≤ P 5 d by omega)
      rw [fe_e107_34]
      cases s with
      | true =>
        simp (maxSteps := 4000000) (disch := omega) only [fe_e107_0, fe_e107_1, fe_e107_2, fe_e107_5, fe_e107_6, fe_e107_7, fe_e107_8, fe_e107_9, fe_e107_10, fe_e107_13, fe_e107_16, fe_e107_17, fe_e107_20, fe_e107_21, fe_e107_22, fe_e107_25, fe_e107_28, fe_e107_29, fe_e107_31, fe_e107_32, fe_e107_36, fe_e107_37, fe_e107_40, fe_e107_43, fe_e107_45, fe_e107_48, fe_e107_49, fe_e107_53, fe_e107_54, fe_e107_57, fe_e107_59, fe_e107_60, fe_e107_63, fe_e107_65, fe_e107_68, fe_e107_69, fe_e107_71, fe_e107_72, fe_e107_73, fe_e107_74, fe_e107_75, fe_e107_78, fe_e107_79, fe_e107_81, fe_e107_82, fe_e107_83, fe_e107_86, fe_e107_88, fe_e107_90, fe_e107_91, fe_e107_93, fe_e107_94, fe_e107_95, fe_e107_98, fe_e107_100, fe_e107_103, fe_e107_106, fe_e107_109, fe_e107_113, fe_e107_115, fe_e107_118, fe_e107_119, fe_e107_122, fe_e107_123, fe_e107_124, fe_e107_125, fe_e107_128, fe_e107_131, fe_e107_132, Option.some.injEq, exists_eq_left', fe_KB_r, fe_KB_v, fe_z_add, fe_z_sub, fe_z_mul, fe_z_neg, fe_bi0, fe_bi1, fe_bibi, fe_bi01, fe_z01, fe_z11, true_and, and_true, if_true, if_false, ite_not, not_true_eq_false, not_false_eq_true, Bool.false_eq_true, Bool.true_eq_false, fe_z_mod, fe_z_eq, fe_z_lt, fe_z_le, fe_z_div, Int.reduceEq, Int.reduceLT, Int.reduceLE, Int.reduceNeg, ↓reduceIte, eq_self, Nat.reduceAdd, fe_bor, fe_tb_bi, fe_tb_0, fe_tb_1, fe_un_at, Nat.reduceEqDiff, or_false, or_true, true_or, false_or, Int.le_refl, fe_ob15, fe_g15_0, fe_p15_0, fe_g15_1, fe_g15_2, fe_g15_3, fe_g15_4, fe_g15_5, fe_g15_6, fe_g15_7, fe_g15_8, fe_g15_9, fe_g15_10, fe_g15_11, fe_g15_12, fe_p15_12, fe_g15_13, fe_g15_14, fe_g15_15, fe_g15_16, fe_g15_17, fe_g15_18, fe_p15_18, fe_g15_19, fe_p15_19, fe_g15_20, fe_g15_21, fe_p15_21, fe_aa16, fe_sa16, fe_ll16, fe_aa17, fe_sa17, fe_ll17, fe_aa18, fe_sa18, fe_ll18, fe_aa19, fe_sa19, fe_ll19, fe_aa20, fe_sa20, fe_ll20, fe_aa21, fe_sa21, fe_ll21, fe_aa22, fe_sa22, fe_ll22, fe_aa23, fe_sa23, fe_ll23, fe_aa24, fe_sa24, fe_ll24, fe_aa25, fe_sa25, fe_ll25, fe_aa26, fe_sa26, fe_ll26, fe_aa27, fe_sa27, fe_ll27, fe_aa28, fe_sa28, fe_ll28, fe_aa29, fe_sa29, fe_ll29, fe_aa30, fe_sa30, fe_ll30, fe_aa31, fe_sa31, fe_ll31, fe_aa32, fe_sa32, fe_ll32, fe_aa33, fe_sa33, g1]
        rw [if_neg (by omega)]
        rw [← fe_B_pos (h1 rfl)]
        exact hout F' _ _
      | false =>
        simp (maxSteps := 4000000) (disch := omega) only [fe_e107_0, fe_e107_1, fe_e107_2, fe_e107_5, fe_e107_6, fe_e107_7, fe_e107_8, fe_e107_9, fe_e107_10, fe_e107_13, fe_e107_16, fe_e107_17, fe_e107_20, fe_e107_21, fe_e107_22, fe_e107_25, fe_e107_28, fe_e107_29, fe_e107_31, fe_e107_32, fe_e107_36, fe_e107_37, fe_e107_40, fe_e107_43, fe_e107_45, fe_e107_48, fe_e107_49, fe_e107_53, fe_e107_54, fe_e107_57, fe_e107_59, fe_e107_60, fe_e107_63, fe_e107_65, fe_e107_68, fe_e107_69, fe_e107_71, fe_e107_72, fe_e107_73, fe_e107_74, fe_e107_75, fe_e107_78, fe_e107_79, fe_e107_81, fe_e107_82, fe_e107_83, fe_e107_86, fe_e107_88, fe_e107_90, fe_e107_91, fe_e107_93, fe_e107_94, fe_e107_95, fe_e107_98, fe_e107_100, fe_e107_103, fe_e107_106, fe_e107_109, fe_e107_113, fe_e107_115, fe_e107_118, fe_e107_119, fe_e107_122, fe_e107_123, fe_e107_124, fe_e107_125, fe_e107_128, fe_e107_131, fe_e107_132, Option.some.injEq, exists_eq_left', fe_KB_r, fe_KB_v, fe_z_add, fe_z_sub, fe_z_mul, fe_z_neg, fe_bi0, fe_bi1, fe_bibi, fe_bi01, fe_z01, fe_z11, true_and, and_true, if_true, if_false, ite_not, not_true_eq_false, not_false_eq_true, Bool.false_eq_true, Bool.true_eq_false, fe_z_mod, fe_z_eq, fe_z_lt, fe_z_le, fe_z_div, Int.reduceEq, Int.reduceLT, Int.reduceLE, Int.reduceNeg, ↓reduceIte, eq_self, Nat.reduceAdd, fe_bor, fe_tb_bi, fe_tb_0, fe_tb_1, fe_un_at, Nat.reduceEqDiff, or_false, or_true, true_or, false_or, Int.le_refl, fe_ob15, fe_g15_0, fe_p15_0, fe_g15_1, fe_g15_2, fe_g15_3, fe_g15_4, fe_g15_5, fe_g15_6, fe_g15_7, fe_g15_8, fe_g15_9, fe_g15_10, fe_g15_11, fe_g15_12, fe_p15_12, fe_g15_13, fe_g15_14, fe_g15_15, fe_g15_16, fe_g15_17, fe_g15_18, fe_p15_18, fe_g15_19, fe_p15_19, fe_g15_20, fe_g15_21, fe_p15_21, fe_aa16, fe_sa16, fe_ll16, fe_aa17, fe_sa17, fe_ll17, fe_aa18, fe_sa18, fe_ll18, fe_aa19, fe_sa19, fe_ll19, fe_aa20, fe_sa20, fe_ll20, fe_aa21, fe_sa21, fe_ll21, fe_aa22, fe_sa22, fe_ll22, fe_aa23, fe_sa23, fe_ll23, fe_aa24, fe_sa24, fe_ll24, fe_aa25, fe_sa25, fe_ll25, fe_aa26, fe_sa26, fe_ll26, fe_aa27, fe_sa27, fe_ll27, fe_aa28, fe_sa28, fe_ll28, fe_aa29, fe_sa29, fe_ll29, fe_aa30, fe_sa30, fe_ll30, fe_aa31, fe_sa31, fe_ll31, fe_aa32, fe_sa32, fe_ll32, fe_aa33, fe_sa33, g1]
        rw [if_neg (by omega)]
        refine LK cell hcell d hc o2 (fun F' s o6 a1 a2 => ih F' s o6 a1 (fun hs d' a3 k a4 a5 => ?_)) L hL 0 (by omega) F' false h1 (fun _ k' a => by omega)
        by_cases hcc : d' < d
        · exact h2 rfl d' hcc k a4 a5
        · have : d' = d := by omega
          subst this
          exact a2 hs k a4 a5
  have LO : ∀ i, i ≤ 192 → ∀ F' o4 o5 o6, fe_WP E 107 9 [some (.ref (b + 15)), some (.int x), some (.int (fe_z (fe_cnt (fun cell => !R 0 cell && !fe_B (fe_sE R P n x cell)) i))), some (.int (fe_z (i : Int))), o4, o5, o6] [] (fe_mk b N c (fe_rc b (fe_un G 0 0) R P F' S J U o)) K := by
    refine fe_down 192 ?_ ?_
    · intro F' o4 o5 o6
      simp (maxSteps := 4000000) (disch := omega) only [fe_e107_0, fe_e107_1, fe_e107_2, fe_e107_5, fe_e107_6, fe_e107_7, fe_e107_8, fe_e107_9, fe_e107_10, fe_e107_13, fe_e107_16, fe_e107_17, fe_e107_20, fe_e107_21, fe_e107_22, fe_e107_25, fe_e107_28, fe_e107_29, fe_e107_31, fe_e107_32, fe_e107_34, fe_e107_36, fe_e107_37, fe_e107_40, fe_e107_43, fe_e107_45, fe_e107_48, fe_e107_49, fe_e107_51, fe_e107_53, fe_e107_54, fe_e107_57, fe_e107_59, fe_e107_60, fe_e107_63, fe_e107_65, fe_e107_68, fe_e107_69, fe_e107_71, fe_e107_72, fe_e107_73, fe_e107_74, fe_e107_75, fe_e107_78, fe_e107_79, fe_e107_81, fe_e107_82, fe_e107_83, fe_e107_86, fe_e107_88, fe_e107_90, fe_e107_91, fe_e107_93, fe_e107_94, fe_e107_95, fe_e107_98, fe_e107_100, fe_e107_103, fe_e107_106, fe_e107_109, fe_e107_112, fe_e107_113, fe_e107_115, fe_e107_118, fe_e107_119, fe_e107_122, fe_e107_123, fe_e107_124, fe_e107_125, fe_e107_128, fe_e107_131, fe_e107_132, Option.some.injEq, exists_eq_left', fe_KB_r, fe_KB_v, fe_z_add, fe_z_sub, fe_z_mul, fe_z_neg, fe_bi0, fe_bi1, fe_bibi, fe_bi01, fe_z01, fe_z11, true_and, and_true, if_true, if_false, ite_not, not_true_eq_false, not_false_eq_true, Bool.false_eq_true, Bool.true_eq_false, fe_z_mod, fe_z_eq, fe_z_lt, fe_z_le, fe_z_div, Int.reduceEq, Int.reduceLT, Int.reduceLE, Int.reduceNeg, ↓reduceIte, eq_self, Nat.reduceAdd, fe_bor, fe_tb_bi, fe_tb_0, fe_tb_1, fe_un_at, Nat.reduceEqDiff, or_false, or_true, true_or, false_or, Int.le_refl, Int.cast_ofNat_Int]
      exact hK F'
    · intro i hi ih F' o4 o5 o6
      simp only [fe_cs, fe_cnt] at ih
      rw [fe_e107_9]
      simp (maxSteps := 4000000) (disch := omega) only [fe_e107_0, fe_e107_1, fe_e107_2, fe_e107_5, fe_e107_6, fe_e107_7, fe_e107_8, fe_e107_10, fe_e107_13, fe_e107_16, fe_e107_17, fe_e107_20, fe_e107_21, fe_e107_22, fe_e107_25, fe_e107_28, fe_e107_29, fe_e107_31, fe_e107_32, fe_e107_36, fe_e107_37, fe_e107_40, fe_e107_43, fe_e107_45, fe_e107_48, fe_e107_49, fe_e107_51, fe_e107_53, fe_e107_54, fe_e107_57, fe_e107_59, fe_e107_60, fe_e107_63, fe_e107_65, fe_e107_68, fe_e107_69, fe_e107_71, fe_e107_72, fe_e107_73, fe_e107_74, fe_e107_75, fe_e107_78, fe_e107_79, fe_e107_81, fe_e107_82, fe_e107_83, fe_e107_86, fe_e107_88, fe_e107_90, fe_e107_91, fe_e107_93, fe_e107_94, fe_e107_95, fe_e107_98, fe_e107_100, fe_e107_103, fe_e107_106, fe_e107_109, fe_e107_112, fe_e107_113, fe_e107_115, fe_e107_118, fe_e107_119, fe_e107_122, fe_e107_123, fe_e107_124, fe_e107_125, fe_e107_128, fe_e107_131, fe_e107_132, Option.some.injEq, exists_eq_left', fe_KB_r, fe_KB_v, fe_z_add, fe_z_sub, fe_z_mul, fe_z_neg, fe_bi0, fe_bi1, fe_bibi, fe_bi01, fe_z01, fe_z11, true_and, and_true, if_true, if_false, ite_not, not_true_eq_false, not_false_eq_true, Bool.false_eq_true, Bool.true_eq_false, fe_z_mod, fe_z_eq, fe_z_lt, fe_z_le, fe_z_div, Int.reduceEq, Int.reduceLT, Int.reduceLE, Int.reduceNeg, ↓reduceIte, eq_self, Nat.reduceAdd, fe_bor, fe_tb_bi, fe_tb_0, fe_tb_1, fe_un_at, Nat.reduceEqDiff, or_false, or_true, true_or, false_or, Int.le_refl, fe_ob15, fe_g15_0, fe_p15_0, fe_g15_1, fe_g15_2, fe_g15_3, fe_g15_4, fe_g15_5, fe_g15_6, fe_g15_7, fe_g15_8, fe_g15_9, fe_g15_10, fe_g15_11, fe_g15_12, fe_p15_12, fe_g15_13, fe_g15_14, fe_g15_15, fe_g15_16, fe_g15_17, fe_g15_18, fe_p15_18, fe_g15_19, fe_p15_19, fe_g15_20, fe_g15_21, fe_p15_21, fe_aa16, fe_sa16, fe_ll16, fe_aa17, fe_sa17, fe_ll17, fe_aa18, fe_sa18, fe_ll18, fe_aa19, fe_sa19, fe_ll19, fe_aa20, fe_sa20, fe_ll20, fe_aa21, fe_sa21, fe_ll21, fe_aa22, fe_sa22, fe_ll22, fe_aa23, fe_sa23, fe_ll23, fe_aa24, fe_sa24, fe_ll24, fe_aa25, fe_sa25, fe_ll25, fe_aa26, fe_sa26, fe_ll26, fe_aa27, fe_sa27, fe_ll27, fe_aa28, fe_sa28, fe_ll28, fe_aa29, fe_sa29, fe_ll29, fe_aa30, fe_sa30, fe_ll30, fe_aa31, fe_sa31, fe_ll31, fe_aa32, fe_sa32, fe_ll32, fe_aa33, fe_sa33]
      rw [if_neg (by omega)]
      split
      · next q =>
        refine LC i hi _ (fun F' o5 o6 => ?_) 0 (by omega) F' false _ (fun h => by cases h) (fun _ d' a => by omega)
        simp (maxSteps := 4000000) (disch := omega) only [fe_e107_0, fe_e107_1, fe_e107_2, fe_e107_5, fe_e107_6, fe_e107_7, fe_e107_8, fe_e107_10, fe_e107_13, fe_e107_16, fe_e107_17, fe_e107_20, fe_e107_21, fe_e107_22, fe_e107_25, fe_e107_28, fe_e107_29, fe_e107_31, fe_e107_32, fe_e107_36, fe_e107_37, fe_e107_40, fe_e107_43, fe_e107_45, fe_e107_48, fe_e107_49, fe_e107_51, fe_e107_53, fe_e107_54, fe_e107_57, fe_e107_59, fe_e107_60, fe_e107_63, fe_e107_65, fe_e107_68, fe_e107_69, fe_e107_71, fe_e107_72, fe_e107_73, fe_e107_74, fe_e107_75, fe_e107_78, fe_e107_79, fe_e107_81, fe_e107_82, fe_e107_83, fe_e107_86, fe_e107_88, fe_e107_90, fe_e107_91, fe_e107_93, fe_e107_94, fe_e107_95, fe_e107_98, fe_e107_100, fe_e107_103, fe_e107_106, fe_e107_109, fe_e107_112, fe_e107_113, fe_e107_115, fe_e107_118, fe_e107_119, fe_e107_122, fe_e107_123, fe_e107_124, fe_e107_125, fe_e107_128, fe_e107_131, fe_e107_132, Option.some.injEq, exists_eq_left', fe_KB_r, fe_KB_v, fe_z_add, fe_z_sub, fe_z_mul, fe_z_neg, fe_bi0, fe_bi1, fe_bibi, fe_bi01, fe_z01, fe_z11, true_and, and_true, if_true, if_false, ite_not, not_true_eq_false, not_false_eq_true, Bool.false_eq_true, Bool.true_eq_false, fe_z_mod, fe_z_eq, fe_z_lt, fe_z_le, fe_z_div, Int.reduceEq, Int.reduceLT, Int.reduceLE, Int.reduceNeg, ↓reduceIte, eq_self, Nat.reduceAdd, fe_bor, fe_tb_bi, fe_tb_0, fe_tb_1, fe_un_at, Nat.reduceEqDiff, or_false, or_true, true_or, false_or, Int.le_refl, fe_ob15, fe_g15_0, fe_p15_0, fe_g15_1, fe_g15_2, fe_g15_3, fe_g15_4, fe_g15_5, fe_g15_6, fe_g15_7, fe_g15_8, fe_g15_9, fe_g15_10, fe_g15_11, fe_g15_12, fe_p15_12, fe_g15_13, fe_g15_14, fe_g15_15, fe_g15_16, fe_g15_17, fe_g15_18, fe_p15_18, fe_g15_19, fe_p15_19, fe_g15_20, fe_g15_21, fe_p15_21, fe_aa16, fe_sa16, fe_ll16, fe_aa17, fe_sa17, fe_ll17, fe_aa18, fe_sa18, fe_ll18, fe_aa19, fe_sa19, fe_ll19, fe_aa20, fe_sa20, fe_ll20, fe_aa21, fe_sa21, fe_ll21, fe_aa22, fe_sa22, fe_ll22, fe_aa23, fe_sa23, fe_ll23, fe_aa24, fe_sa24, fe_ll24, fe_aa25, fe_sa25, fe_ll25, fe_aa26, fe_sa26, fe_ll26, fe_aa27, fe_sa27, fe_ll27, fe_aa28, fe_sa28, fe_ll28, fe_aa29, fe_sa29, fe_ll29, fe_aa30, fe_sa30, fe_ll30, fe_aa31, fe_sa31, fe_ll31, fe_aa32, fe_sa32, fe_ll32, fe_aa33, fe_sa33]
        simp only [q, Bool.not_false, Bool.true_and] at ih
        split
        · next q2 =>
          simp only [q2, Bool.not_true, Bool.not_false, if_true, if_false, Bool.false_eq_true, Int.add_zero, Nat.or_zero] at ih
          simpa using ih F' _ _ _
        · next q2 =>
          rw [Bool.not_eq_false] at q2
          simp only [q2, Bool.not_true, Bool.not_false, if_true, if_false, Bool.false_eq_true, Int.add_zero, Nat.or_zero] at ih
          simpa using ih F' _ _ _
      · next q =>
        rw [Bool.not_eq_false] at q
        simp only [q, Bool.not_true, Bool.false_and, Bool.false_eq_true, if_false, Int.add_zero] at ih
        exact ih F' _ _ _
  simp (maxSteps := 4000000) (disch := omega) only [fe_e107_0, fe_e107_1, fe_e107_2, fe_e107_5, fe_e107_6, fe_e107_7, fe_e107_8, fe_e107_10, fe_e107_13, fe_e107_16, fe_e107_17, fe_e107_20, fe_e107_21, fe_e107_22, fe_e107_25, fe_e107_28, fe_e107_29, fe_e107_31, fe_e107_32, fe_e107_34, fe_e107_36, fe_e107_37, fe_e107_40, fe_e107_43, fe_e107_45, fe_e107_48, fe_e107_49, fe_e107_51, fe_e107_53, fe_e107_54, fe_e107_57, fe_e107_59, fe_e107_60, fe_e107_63, fe_e107_65, fe_e107_68, fe_e107_69, fe_e107_71, fe_e107_72, fe_e107_73, fe_e107_74, fe_e107_75, fe_e107_78, fe_e107_79, fe_e107_81, fe_e107_82, fe_e107_83, fe_e107_86, fe_e107_88, fe_e107_90, fe_e107_91, fe_e107_93, fe_e107_94, fe_e107_95, fe_e107_98, fe_e107_100, fe_e107_103, fe_e107_106, fe_e107_109, fe_e107_112, fe_e107_113, fe_e107_115, fe_e107_118, fe_e107_119, fe_e107_122, fe_e107_123, fe_e107_124, fe_e107_125, fe_e107_128, fe_e107_131, fe_e107_132, Option.some.injEq, exists_eq_left', fe_KB_r, fe_KB_v, fe_z_add, fe_z_sub, fe_z_mul, fe_z_neg, fe_bi0, fe_bi1, fe_bibi, fe_bi01, fe_z01, fe_z11, true_and, and_true, if_true, if_false, ite_not, not_true_eq_false, not_false_eq_true, Bool.false_eq_true, Bool.true_eq_false, fe_z_mod, fe_z_eq, fe_z_lt, fe_z_le, fe_z_div, Int.reduceEq, Int.reduceLT, Int.reduceLE, Int.reduceNeg, ↓reduceIte, eq_self, Nat.reduceAdd, fe_bor, fe_tb_bi, fe_tb_0, fe_tb_1, fe_un_at, Nat.reduceEqDiff, or_false, or_true, true_or, false_or, Int.le_refl, fe_ob15, fe_g15_0, fe_p15_0, fe_g15_1, fe_g15_2, fe_g15_3, fe_g15_4, fe_g15_5, fe_g15_6, fe_g15_7, fe_g15_8, fe_g15_9, fe_g15_10, fe_g15_11, fe_g15_12, fe_p15_12, fe_g15_13, fe_g15_14, fe_g15_15, fe_g15_16, fe_g15_17, fe_g15_18, fe_p15_18, fe_g15_19, fe_p15_19, fe_g15_20, fe_g15_21, fe_p15_21, fe_aa16, fe_sa16, fe_ll16, fe_aa17, fe_sa17, fe_ll17, fe_aa18, fe_sa18, fe_ll18, fe_aa19, fe_sa19, fe_ll19, fe_aa20, fe_sa20, fe_ll20, fe_aa21, fe_sa21, fe_ll21, fe_aa22, fe_sa22, fe_ll22, fe_aa23, fe_sa23, fe_ll23, fe_aa24, fe_sa24, fe_ll24, fe_aa25, fe_sa25, fe_ll25, fe_aa26, fe_sa26, fe_ll26, fe_aa27, fe_sa27, fe_ll27, fe_aa28, fe_sa28, fe_ll28, fe_aa29, fe_sa29, fe_ll29, fe_aa30, fe_sa30, fe_ll30, fe_aa31, fe_sa31, fe_ll31, fe_aa32, fe_sa32, fe_ll32, fe_aa33, fe_sa33]
  exact LO 0 (by omega) F _ _ _
theorem fe_m110 {n m : Nat} {c' t : Nat} {x : Int32} (ho : fe_okr n m G P) (hc : c' < n) (ht : t < m) (hK : ∀ F', K (.inl (some (.int (fe_bi (fe_B (fe_bt x c' = true ∧ fe_sI R P c' (P 6 t) (P 4 (8 * (c' : Int) + (t : Int) % P 5 c')))))))) (fe_mk b N c (fe_rc b G R P F' S J U o))) : fe_WP E 110 0 [some (.ref (b + 15)), some (.int (fe_z (c' : Int))), some (.int x), some (.int (fe_z (t : Int)))] [] (fe_mk b N c (fe_rc b G R P F S J U o)) K := by
  obtain ⟨g1, hn, g4, hm, hP, hW⟩ := ho
  have ⟨hok, p3, p3', p5, p5', hw⟩ := hP c' (by omega) (by omega)
  have w := hw (t % P 5 c') (Int.emod_nonneg _ (by omega)) (Int.emod_lt_of_pos _ (by omega))
  have hW' := hW t (by omega) (by omega)
  simp (maxSteps := 4000000) (disch := omega) only [fe_e110_0, fe_e110_1, fe_e110_2, fe_e110_3, fe_e110_4, fe_e110_5, fe_e110_6, fe_e110_9, fe_e110_10, fe_e110_11, fe_e110_12, fe_e110_15, fe_e110_16, fe_e110_17, fe_e110_18, fe_e110_19, fe_e110_20, fe_e110_23, fe_e110_26, fe_e110_29, fe_e110_30, fe_e110_33, fe_e110_34, Option.some.injEq, exists_eq_left', fe_KB_r, fe_KB_v, fe_z_add, fe_z_sub, fe_z_mul, fe_z_neg, fe_bi0, fe_bi1, fe_bibi, fe_bi01, fe_z01, fe_z11, true_and, and_true, if_true, if_false, ite_not, not_true_eq_false, not_false_eq_true, Bool.false_eq_true, Bool.true_eq_false, fe_z_mod, fe_z_eq, fe_z_lt, fe_z_le, fe_z_div, Int.reduceEq, Int.reduceLT, Int.reduceLE, Int.reduceNeg, ↓reduceIte, eq_self, Nat.reduceAdd, fe_bor, fe_tb_bi, fe_tb_0, fe_tb_1, fe_un_at, Nat.reduceEqDiff, or_false, or_true, true_or, false_or, Int.le_refl, fe_ob15, fe_g15_0, fe_p15_0, fe_g15_1, fe_g15_2, fe_g15_3, fe_g15_4, fe_g15_5, fe_g15_6, fe_g15_7, fe_g15_8, fe_g15_9, fe_g15_10, fe_g15_11, fe_g15_12, fe_p15_12, fe_g15_13, fe_g15_14, fe_g15_15, fe_g15_16, fe_g15_17, fe_g15_18, fe_p15_18, fe_g15_19, fe_p15_19, fe_g15_20, fe_g15_21, fe_p15_21, fe_aa16, fe_sa16, fe_ll16, fe_aa17, fe_sa17, fe_ll17, fe_aa18, fe_sa18, fe_ll18, fe_aa19, fe_sa19, fe_ll19, fe_aa20, fe_sa20, fe_ll20, fe_aa21, fe_sa21, fe_ll21, fe_aa22, fe_sa22, fe_ll22, fe_aa23, fe_sa23, fe_ll23, fe_aa24, fe_sa24, fe_ll24, fe_aa25, fe_sa25, fe_ll25, fe_aa26, fe_sa26, fe_ll26, fe_aa27, fe_sa27, fe_ll27, fe_aa28, fe_sa28, fe_ll28, fe_aa29, fe_sa29, fe_ll29, fe_aa30, fe_sa30, fe_ll30, fe_aa31, fe_sa31, fe_ll31, fe_aa32, fe_sa32, fe_ll32, fe_aa33, fe_sa33, fe_z_bit, Int.toNat_natCast, fe_m93]
  split
  · next q =>
    refine fe_m90 (by omega) (by omega) hok (by omega) (by omega) w.1 w.2 (fun F' => ?_)
    simp (maxSteps := 4000000) (disch := omega) only [fe_e110_0, fe_e110_1, fe_e110_2, fe_e110_3, fe_e110_4, fe_e110_5, fe_e110_6, fe_e110_9, fe_e110_10, fe_e110_11, fe_e110_12, fe_e110_15, fe_e110_16, fe_e110_17, fe_e110_18, fe_e110_19, fe_e110_20, fe_e110_23, fe_e110_26, fe_e110_29, fe_e110_30, fe_e110_33, fe_e110_34, Option.some.injEq, exists_eq_left', fe_KB_r, fe_KB_v, fe_z_add, fe_z_sub, fe_z_mul, fe_z_neg, fe_bi0, fe_bi1, fe_bibi, fe_bi01, fe_z01, fe_z11, true_and, and_true, if_true, if_false, ite_not, not_true_eq_false, not_false_eq_true, Bool.false_eq_true, Bool.true_eq_false, fe_z_mod, fe_z_eq, fe_z_lt, fe_z_le, fe_z_div, Int.reduceEq, Int.reduceLT, Int.reduceLE, Int.reduceNeg, ↓reduceIte, eq_self, Nat.reduceAdd, fe_bor, fe_tb_bi, fe_tb_0, fe_tb_1, fe_un_at, Nat.reduceEqDiff, or_false, or_true, true_or, false_or, Int.le_refl]
    have := hK F'
    by_cases q2 : fe_sI R P c' (P 6 t) (P 4 (8 * (c' : Int) + (t : Int) % P 5 c'))
    · rw [fe_B_pos ⟨q, q2⟩] at this
      have q3 := fe_B_pos q2
      unfold fe_sI at q3
      simp only [q3, Bool.true_eq_false, if_false]
      exact this
    · rw [fe_B_neg (fun h => q2 h.2)] at this
      have q3 := fe_B_neg q2
      unfold fe_sI at q3
      simp only [q3, if_true]
      exact this
  · next q =>
    have := hK F
    rw [fe_B_neg (fun h => q h.1)] at this
    exact this
end Fe37

/-! the start: both objects are made -/
/-- the heap at the start: the whole room -/
def fe_h1 (sz : Nat) : fe_H := (sz, room_1.cells, room_1.slots, fun _ => none)
def fe_ls (b : Nat) (cs : List fe_C) (s : Nat) : fe_H := (b + cs.length, room_1.cells - cs.length, room_1.slots - s, fun a => if b ≤ a then cs[a - b]? else none)
def fe_lsp : List fe_C → Nat → Nat → Nat → Value → Option (List fe_C)
  | [], _, _, _, _ => none
  | c :: cs, 0, ci, i, v => (match c with
    | .inl (cj, fs) => if cj = ci ∧ i < fs.length then some (fe_O ci (fs.set i v) :: cs) else none
    | _ => none)
  | c :: cs, k + 1, ci, i, v => (fe_lsp cs k ci i v).map (fun cs' => c :: cs')
def fe_lso : List fe_C → Nat → Nat → Bool
  | [], _, _ => false
  | c :: _, 0, ci => (match c with
    | .inl (cj, _) => decide (cj = ci)
    | _ => false)
  | _ :: cs, k + 1, ci => fe_lso cs k ci
section Fe54
variable {E : fe_E} {K : fe_R → fe_H → Prop} {b s n k ci i : Nat} {cs : List fe_C} {c : fe_C} {v : Value} {fs : List Value}
theorem fe_ls_0 : fe_h1 b = fe_ls b [] 0 := by
  simp only [fe_h1, fe_ls, List.length_nil, Nat.add_zero, Nat.sub_zero, Prod.mk.injEq, true_and]
  funext a
  simp
theorem fe_ls_1 : (fe_ls b cs s).1 = b + cs.length := rfl
theorem fe_ls_nw (h1 : cs.length + 1 ≤ room_1.cells) (h2 : s + n ≤ room_1.slots) : fe_nw (fe_ls b cs s) n = true := by
  show (decide (1 ≤ room_1.cells - cs.length) && decide (n ≤ room_1.slots - s)) = true
  rw [Bool.and_eq_true, decide_eq_true_eq, decide_eq_true_eq]
  omega
theorem fe_ls_add : fe_add (fe_ls b cs s) n c = fe_ls b (cs ++ [c]) (s + n) := by
  refine Prod.ext ?_ (Prod.ext ?_ (Prod.ext ?_ ?_))
  · show b + cs.length + 1 = b + (cs ++ [c]).length
    rw [List.length_append]
    rfl
  · show room_1.cells - cs.length - 1 = room_1.cells - (cs ++ [c]).length
    rw [List.length_append]
    show room_1.cells - cs.length - 1 = room_1.cells - (cs.length + 1)
    exact Nat.sub_sub _ _ _
  · show room_1.slots - s - n = room_1.slots - (s + n)
    omega
  funext a
  show (if a = b + cs.length then some c else if b ≤ a then cs[a - b]? else none) = if b ≤ a then (cs ++ [c])[a - b]? else none
  by_cases h1 : a = b + cs.length
  · subst h1
    simp
  · rw [if_neg h1]
    by_cases h2 : b ≤ a
    · rw [if_pos h2, if_pos h2]
      by_cases h3 : a - b < cs.length
      · rw [List.getElem?_append_left h3]
      · rw [List.getElem?_eq_none (by omega), List.getElem?_eq_none (by simp; omega)]
    · rw [if_neg h2, if_neg h2]
theorem fe_lsp_ok {cs' : List fe_C} (h : fe_lsp cs k ci i v = some cs') : ∃ fs, cs[k]? = some (fe_O ci fs) ∧ i < fs.length ∧ cs' = cs.set k (fe_O ci (fs.set i v)) := by
  induction cs generalizing k cs' with
  | nil => simp [fe_lsp] at h
  | cons c cs ih =>
    cases k with
    | zero =>
      simp only [fe_lsp] at h
      split at h
      · next cj fs =>
        split at h
        · next hc =>
          obtain ⟨rfl, h2⟩ := hc
          exact ⟨fs, rfl, h2, (Option.some.inj h).symm⟩
        · cases h
      · cases h
    | succ k =>
      simp only [fe_lsp, Option.map_eq_some_iff] at h
      obtain ⟨cs2, h1, rfl⟩ := h
      obtain ⟨fs, h2, h3, rfl⟩ := ih h1
      exact ⟨fs, h2, h3, rfl⟩
theorem fe_ls_g : fe_get (fe_ls b cs s) (b + k) = cs[k]? := by
  show (if b ≤ b + k then cs[b + k - b]? else none) = _
  rw [if_pos (by omega), Nat.add_sub_cancel_left]
theorem fe_ls_p (hk : k < cs.length) : fe_put (fe_ls b cs s) (b + k) c = fe_ls b (cs.set k c) s := by
  refine Prod.ext ?_ (Prod.ext ?_ (Prod.ext rfl ?_))
  · show b + cs.length = b + (cs.set k c).length
    rw [List.length_set]
  · show room_1.cells - cs.length = room_1.cells - (cs.set k c).length
    rw [List.length_set]
  funext a
  show (if a = b + k then some c else if b ≤ a then cs[a - b]? else none) = if b ≤ a then (cs.set k c)[a - b]? else none
  by_cases h1 : a = b + k
  · subst h1
    rw [if_pos rfl, if_pos (by omega), Nat.add_sub_cancel_left, List.getElem?_set_self hk]
  · rw [if_neg h1]
    by_cases h2 : b ≤ a
    · rw [if_pos h2, if_pos h2, List.getElem?_set_ne (by omega)]
    · rw [if_neg h2, if_neg h2]
theorem fe_ls_pf {cs' : List fe_C} (h : fe_lsp cs k ci i v = some cs') : fe_pf (fe_ls b cs s) (b + k) ci i v = some (fe_ls b cs' s) := by
  obtain ⟨fs, h1, h2, rfl⟩ := fe_lsp_ok h
  exact fe_pf_of (by rw [fe_ls_g]; exact h1) h2 (fe_ls_p (List.getElem?_eq_some_iff.mp h1).1)
theorem fe_ls_pfm : (∃ h', fe_pf (fe_ls b cs s) (b + k) ci i v = some h' ∧ K (.inl none) h') ↔ (∃ h', fe_pf (fe_ls b cs s) (b + k) ci i v = some h' ∧ K (.inl none) h') := Iff.rfl
theorem fe_ls_ob (h : fe_lso cs k ci = true) : fe_ob (fe_ls b cs s) (b + k) ci = true := by
  have key : ∀ (cs : List fe_C) (k : Nat), fe_lso cs k ci = true → ∃ fs, cs[k]? = some (fe_O ci fs) := by
    intro cs
    induction cs with
    | nil => intro k h; simp [fe_lso] at h
    | cons c cs ih =>
      intro k h
      cases k with
      | zero =>
        simp only [fe_lso] at h
        split at h
        · next cj fs =>
          rw [decide_eq_true_eq] at h
          subst h
          exact ⟨fs, rfl⟩
        · cases h
      | succ k =>
        exact ih k h
  obtain ⟨fs, h1⟩ := key cs k h
  exact fe_ob_of (by rw [fe_ls_g]; exact h1)
end Fe54
theorem fe_in0 {E : fe_E} {K : fe_R → fe_H → Prop} {b : Nat} (hK : K (.inl none) (fe_ls b [fe_O 6 [.null, .null, .int (fe_z 0), .null, .null, .int (fe_z 0), .null], fe_O 2 [.ref (b + 2), .ref (b + 3), .ref (b + 4), .null], fe_Z 192 (fun _ => false), fe_Z 192 (fun _ => false), fe_Z 192 (fun _ => false), fe_O 0 [.int (fe_z 0), .int (fe_z 0), .int (fe_z 0), .int (fe_z 0), .int (fe_z 0), .int (fe_z 0), .int (fe_z 0), .int (fe_z 0), .int (fe_z 0), .int (fe_z 0)]] 597)) : fe_WP E 0 0 [some (.ref (b + 5))] [] (fe_ls b [fe_O 6 [.null, .null, .int (fe_z 0), .null, .null, .int (fe_z 0), .null], fe_O 2 [.ref (b + 2), .ref (b + 3), .ref (b + 4), .null], fe_Z 192 (fun _ => false), fe_Z 192 (fun _ => false), fe_Z 192 (fun _ => false), fe_O 0 [.int (fe_z 0), .int (fe_z 0), .int (fe_z 0), .int (fe_z 0), .int (fe_z 0), .int (fe_z 0), .int (fe_z 0), .int (fe_z 0), .int (fe_z 0), .int (fe_z 0)]] 597) K := by
  rw [fe_e0_0]
  rw [fe_e0_1]
  rw [fe_e0_4]
  exact hK
theorem fe_in16 {E : fe_E} {K : fe_R → fe_H → Prop} {b : Nat} (hK : K (.inl none) (fe_ls b [fe_O 6 [.null, .null, .int (fe_z 0), .null, .null, .int (fe_z 0), .null], fe_O 2 [.ref (b + 2), .ref (b + 3), .ref (b + 4), .ref (b + 5)], fe_Z 192 (fun _ => false), fe_Z 192 (fun _ => false), fe_Z 192 (fun _ => false), fe_O 0 [.int (fe_z 0), .int (fe_z 0), .int (fe_z 0), .int (fe_z 0), .int (fe_z 0), .int (fe_z 0), .int (fe_z 0), .int (fe_z 0), .int (fe_z 0), .int (fe_z 0)]] 597)) : fe_WP E 16 0 [some (.ref (b + 1))] [] (fe_ls b [fe_O 6 [.null, .null, .int (fe_z 0), .null, .null, .int (fe_z 0), .null], fe_O 2 [.null, .null, .null, .null]] 11) K := by
  rw [fe_e16_0]
  rw [fe_e16_1]
  rw [fe_e16_4]
  rw [fe_e16_5]
  rw [fe_e16_8]
  refine ⟨fe_ls_nw (Nat.le_of_ble_eq_true rfl) (Nat.le_of_ble_eq_true rfl), ?_⟩
  rw [fe_ls_add]
  show fe_WP E 16 10 _ (.ref (b + 2) :: _) (fe_ls b [fe_O 6 [.null, .null, .int (fe_z 0), .null, .null, .int (fe_z 0), .null], fe_O 2 [.null, .null, .null, .null], fe_Z 192 (fun _ => false)] 203) K
  rw [fe_e16_10]
  refine ⟨_, fe_ls_pf (k := 1) rfl, ?_⟩
  show fe_WP E 16 13 _ _ (fe_ls b [fe_O 6 [.null, .null, .int (fe_z 0), .null, .null, .int (fe_z 0), .null], fe_O 2 [.ref (b + 2), .null, .null, .null], fe_Z 192 (fun _ => false)] 203) K
  rw [fe_e16_13]
  rw [fe_e16_14]
  rw [fe_e16_17]
  refine ⟨fe_ls_nw (Nat.le_of_ble_eq_true rfl) (Nat.le_of_ble_eq_true rfl), ?_⟩
  rw [fe_ls_add]
  show fe_WP E 16 19 _ (.ref (b + 3) :: _) (fe_ls b [fe_O 6 [.null, .null, .int (fe_z 0), .null, .null, .int (fe_z 0), .null], fe_O 2 [.ref (b + 2), .null, .null, .null], fe_Z 192 (fun _ => false), fe_Z 192 (fun _ => false)] 395) K
  rw [fe_e16_19]
  refine ⟨_, fe_ls_pf (k := 1) rfl, ?_⟩
  show fe_WP E 16 22 _ _ (fe_ls b [fe_O 6 [.null, .null, .int (fe_z 0), .null, .null, .int (fe_z 0), .null], fe_O 2 [.ref (b + 2), .ref (b + 3), .null, .null], fe_Z 192 (fun _ => false), fe_Z 192 (fun _ => false)] 395) K
  rw [fe_e16_22]
  rw [fe_e16_23]
  rw [fe_e16_26]
  refine ⟨fe_ls_nw (Nat.le_of_ble_eq_true rfl) (Nat.le_of_ble_eq_true rfl), ?_⟩
  rw [fe_ls_add]
  show fe_WP E 16 28 _ (.ref (b + 4) :: _) (fe_ls b [fe_O 6 [.null, .null, .int (fe_z 0), .null, .null, .int (fe_z 0), .null], fe_O 2 [.ref (b + 2), .ref (b + 3), .null, .null], fe_Z 192 (fun _ => false), fe_Z 192 (fun _ => false), fe_Z 192 (fun _ => false)] 587) K
  rw [fe_e16_28]
  refine ⟨_, fe_ls_pf (k := 1) rfl, ?_⟩
  show fe_WP E 16 31 _ _ (fe_ls b [fe_O 6 [.null, .null, .int (fe_z 0), .null, .null, .int (fe_z 0), .null], fe_O 2 [.ref (b + 2), .ref (b + 3), .ref (b + 4), .null], fe_Z 192 (fun _ => false), fe_Z 192 (fun _ => false), fe_Z 192 (fun _ => false)] 587) K
  rw [fe_e16_31]
  rw [fe_e16_32]
  refine ⟨fe_ls_nw (Nat.le_of_ble_eq_true rfl) (Nat.le_of_ble_eq_true rfl), ?_⟩
  rw [fe_ls_add]
  show fe_WP E 16 35 _ (.ref (b + 5) :: _) (fe_ls b [fe_O 6 [.null, .null, .int (fe_z 0), .null, .null, .int (fe_z 0), .null], fe_O 2 [.ref (b + 2), .ref (b + 3), .ref (b + 4), .null], fe_Z 192 (fun _ => false), fe_Z 192 (fun _ => false), fe_Z 192 (fun _ => false), fe_O 0 [.int (fe_z 0), .int (fe_z 0), .int (fe_z 0), .int (fe_z 0), .int (fe_z 0), .int (fe_z 0), .int (fe_z 0), .int (fe_z 0), .int (fe_z 0), .int (fe_z 0)]] 597) K
  rw [fe_e16_35r]
  rw [fe_e16_36]
  refine ⟨fe_ls_ob (k := 5) rfl, ?_⟩
  refine fe_in0 ?_
  rw [fe_KB_v]
  show fe_WP E 16 39 _ _ (fe_ls b [fe_O 6 [.null, .null, .int (fe_z 0), .null, .null, .int (fe_z 0), .null], fe_O 2 [.ref (b + 2), .ref (b + 3), .ref (b + 4), .null], fe_Z 192 (fun _ => false), fe_Z 192 (fun _ => false), fe_Z 192 (fun _ => false), fe_O 0 [.int (fe_z 0), .int (fe_z 0), .int (fe_z 0), .int (fe_z 0), .int (fe_z 0), .int (fe_z 0), .int (fe_z 0), .int (fe_z 0), .int (fe_z 0), .int (fe_z 0)]] 597) K
  rw [fe_e16_39]
  refine ⟨_, fe_ls_pf (k := 1) rfl, ?_⟩
  show fe_WP E 16 42 _ _ (fe_ls b [fe_O 6 [.null, .null, .int (fe_z 0), .null, .null, .int (fe_z 0), .null], fe_O 2 [.ref (b + 2), .ref (b + 3), .ref (b + 4), .ref (b + 5)], fe_Z 192 (fun _ => false), fe_Z 192 (fun _ => false), fe_Z 192 (fun _ => false), fe_O 0 [.int (fe_z 0), .int (fe_z 0), .int (fe_z 0), .int (fe_z 0), .int (fe_z 0), .int (fe_z 0), .int (fe_z 0), .int (fe_z 0), .int (fe_z 0), .int (fe_z 0)]] 597) K
  rw [fe_e16_42]
  exact hK
theorem fe_in36 {E : fe_E} {K : fe_R → fe_H → Prop} {b : Nat} (hK : K (.inl none) (fe_ls b [fe_O 6 [.ref (b + 1), .ref (b + 6), .int (fe_z 0), .null, .null, .int (fe_z 0), .null], fe_O 2 [.ref (b + 2), .ref (b + 3), .ref (b + 4), .ref (b + 5)], fe_Z 192 (fun _ => false), fe_Z 192 (fun _ => false), fe_Z 192 (fun _ => false), fe_O 0 [.int (fe_z 0), .int (fe_z 0), .int (fe_z 0), .int (fe_z 0), .int (fe_z 0), .int (fe_z 0), .int (fe_z 0), .int (fe_z 0), .int (fe_z 0), .int (fe_z 0)], fe_Q 12 (fun _ => none), fe_O 5 [.ref (b + 8), .ref (b + 9), .ref (b + 10)], fe_I 24 (fun _ => 0), fe_I 5 (fun _ => 0), fe_I 7 (fun _ => 0)] 648)) : fe_WP E 36 0 [some (.ref (b + 7))] [] (fe_ls b [fe_O 6 [.ref (b + 1), .ref (b + 6), .int (fe_z 0), .null, .null, .int (fe_z 0), .null], fe_O 2 [.ref (b + 2), .ref (b + 3), .ref (b + 4), .ref (b + 5)], fe_Z 192 (fun _ => false), fe_Z 192 (fun _ => false), fe_Z 192 (fun _ => false), fe_O 0 [.int (fe_z 0), .int (fe_z 0), .int (fe_z 0), .int (fe_z 0), .int (fe_z 0), .int (fe_z 0), .int (fe_z 0), .int (fe_z 0), .int (fe_z 0), .int (fe_z 0)], fe_Q 12 (fun _ => none), fe_O 5 [.null, .null, .null]] 612) K := by
  rw [fe_e36_0]
  rw [fe_e36_1]
  rw [fe_e36_4]
  rw [fe_e36_5]
  rw [fe_e36_7]
  refine ⟨fe_ls_nw (Nat.le_of_ble_eq_true rfl) (Nat.le_of_ble_eq_true rfl), ?_⟩
  rw [fe_ls_add]
  show fe_WP E 36 9 _ (.ref (b + 8) :: _) (fe_ls b [fe_O 6 [.ref (b + 1), .ref (b + 6), .int (fe_z 0), .null, .null, .int (fe_z 0), .null], fe_O 2 [.ref (b + 2), .ref (b + 3), .ref (b + 4), .ref (b + 5)], fe_Z 192 (fun _ => false), fe_Z 192 (fun _ => false), fe_Z 192 (fun _ => false), fe_O 0 [.int (fe_z 0), .int (fe_z 0), .int (fe_z 0), .int (fe_z 0), .int (fe_z 0), .int (fe_z 0), .int (fe_z 0), .int (fe_z 0), .int (fe_z 0), .int (fe_z 0)], fe_Q 12 (fun _ => none), fe_O 5 [.null, .null, .null], fe_I 24 (fun _ => 0)] 636) K
  rw [fe_e36_9]
  refine ⟨_, fe_ls_pf (k := 7) rfl, ?_⟩
  show fe_WP E 36 12 _ _ (fe_ls b [fe_O 6 [.ref (b + 1), .ref (b + 6), .int (fe_z 0), .null, .null, .int (fe_z 0), .null], fe_O 2 [.ref (b + 2), .ref (b + 3), .ref (b + 4), .ref (b + 5)], fe_Z 192 (fun _ => false), fe_Z 192 (fun _ => false), fe_Z 192 (fun _ => false), fe_O 0 [.int (fe_z 0), .int (fe_z 0), .int (fe_z 0), .int (fe_z 0), .int (fe_z 0), .int (fe_z 0), .int (fe_z 0), .int (fe_z 0), .int (fe_z 0), .int (fe_z 0)], fe_Q 12 (fun _ => none), fe_O 5 [.ref (b + 8), .null, .null], fe_I 24 (fun _ => 0)] 636) K
  rw [fe_e36_12]
  rw [fe_e36_13]
  rw [fe_e36_14]
  refine ⟨fe_ls_nw (Nat.le_of_ble_eq_true rfl) (Nat.le_of_ble_eq_true rfl), ?_⟩
  rw [fe_ls_add]
  show fe_WP E 36 16 _ (.ref (b + 9) :: _) (fe_ls b [fe_O 6 [.ref (b + 1), .ref (b + 6), .int (fe_z 0), .null, .null, .int (fe_z 0), .null], fe_O 2 [.ref (b + 2), .ref (b + 3), .ref (b + 4), .ref (b + 5)], fe_Z 192 (fun _ => false), fe_Z 192 (fun _ => false), fe_Z 192 (fun _ => false), fe_O 0 [.int (fe_z 0), .int (fe_z 0), .int (fe_z 0), .int (fe_z 0), .int (fe_z 0), .int (fe_z 0), .int (fe_z 0), .int (fe_z 0), .int (fe_z 0), .int (fe_z 0)], fe_Q 12 (fun _ => none), fe_O 5 [.ref (b + 8), .null, .null], fe_I 24 (fun _ => 0), fe_I 5 (fun _ => 0)] 641) K
  rw [fe_e36_16]
  refine ⟨_, fe_ls_pf (k := 7) rfl, ?_⟩
  show fe_WP E 36 19 _ _ (fe_ls b [fe_O 6 [.ref (b + 1), .ref (b + 6), .int (fe_z 0), .null, .null, .int (fe_z 0), .null], fe_O 2 [.ref (b + 2), .ref (b + 3), .ref (b + 4), .ref (b + 5)], fe_Z 192 (fun _ => false), fe_Z 192 (fun _ => false), fe_Z 192 (fun _ => false), fe_O 0 [.int (fe_z 0), .int (fe_z 0), .int (fe_z 0), .int (fe_z 0), .int (fe_z 0), .int (fe_z 0), .int (fe_z 0), .int (fe_z 0), .int (fe_z 0), .int (fe_z 0)], fe_Q 12 (fun _ => none), fe_O 5 [.ref (b + 8), .ref (b + 9), .null], fe_I 24 (fun _ => 0), fe_I 5 (fun _ => 0)] 641) K
  rw [fe_e36_19]
  rw [fe_e36_20]
  rw [fe_e36_22]
  refine ⟨fe_ls_nw (Nat.le_of_ble_eq_true rfl) (Nat.le_of_ble_eq_true rfl), ?_⟩
  rw [fe_ls_add]
  show fe_WP E 36 24 _ (.ref (b + 10) :: _) (fe_ls b [fe_O 6 [.ref (b + 1), .ref (b + 6), .int (fe_z 0), .null, .null, .int (fe_z 0), .null], fe_O 2 [.ref (b + 2), .ref (b + 3), .ref (b + 4), .ref (b + 5)], fe_Z 192 (fun _ => false), fe_Z 192 (fun _ => false), fe_Z 192 (fun _ => false), fe_O 0 [.int (fe_z 0), .int (fe_z 0), .int (fe_z 0), .int (fe_z 0), .int (fe_z 0), .int (fe_z 0), .int (fe_z 0), .int (fe_z 0), .int (fe_z 0), .int (fe_z 0)], fe_Q 12 (fun _ => none), fe_O 5 [.ref (b + 8), .ref (b + 9), .null], fe_I 24 (fun _ => 0), fe_I 5 (fun _ => 0), fe_I 7 (fun _ => 0)] 648) K
  rw [fe_e36_24]
  refine ⟨_, fe_ls_pf (k := 7) rfl, ?_⟩
  show fe_WP E 36 27 _ _ (fe_ls b [fe_O 6 [.ref (b + 1), .ref (b + 6), .int (fe_z 0), .null, .null, .int (fe_z 0), .null], fe_O 2 [.ref (b + 2), .ref (b + 3), .ref (b + 4), .ref (b + 5)], fe_Z 192 (fun _ => false), fe_Z 192 (fun _ => false), fe_Z 192 (fun _ => false), fe_O 0 [.int (fe_z 0), .int (fe_z 0), .int (fe_z 0), .int (fe_z 0), .int (fe_z 0), .int (fe_z 0), .int (fe_z 0), .int (fe_z 0), .int (fe_z 0), .int (fe_z 0)], fe_Q 12 (fun _ => none), fe_O 5 [.ref (b + 8), .ref (b + 9), .ref (b + 10)], fe_I 24 (fun _ => 0), fe_I 5 (fun _ => 0), fe_I 7 (fun _ => 0)] 648) K
  rw [fe_e36_27]
  exact hK
theorem fe_in23 {E : fe_E} {K : fe_R → fe_H → Prop} {b : Nat} (hK : K (.inl none) (fe_ls b [fe_O 6 [.ref (b + 1), .ref (b + 6), .int (fe_z 0), .ref (b + 7), .null, .int (fe_z 0), .null], fe_O 2 [.ref (b + 2), .ref (b + 3), .ref (b + 4), .ref (b + 5)], fe_Z 192 (fun _ => false), fe_Z 192 (fun _ => false), fe_Z 192 (fun _ => false), fe_O 0 [.int (fe_z 0), .int (fe_z 0), .int (fe_z 0), .int (fe_z 0), .int (fe_z 0), .int (fe_z 0), .int (fe_z 0), .int (fe_z 0), .int (fe_z 0), .int (fe_z 0)], fe_Q 12 (fun _ => none), fe_O 5 [.ref (b + 8), .ref (b + 9), .ref (b + 10)], fe_I 24 (fun _ => 0), fe_I 5 (fun _ => 0), fe_I 7 (fun _ => 0), fe_O 3 [.ref (b + 12), .int (fe_z 0)], fe_J 64 (fun _ => 0)] 714)) : fe_WP E 23 0 [some (.ref (b + 11))] [] (fe_ls b [fe_O 6 [.ref (b + 1), .ref (b + 6), .int (fe_z 0), .ref (b + 7), .null, .int (fe_z 0), .null], fe_O 2 [.ref (b + 2), .ref (b + 3), .ref (b + 4), .ref (b + 5)], fe_Z 192 (fun _ => false), fe_Z 192 (fun _ => false), fe_Z 192 (fun _ => false), fe_O 0 [.int (fe_z 0), .int (fe_z 0), .int (fe_z 0), .int (fe_z 0), .int (fe_z 0), .int (fe_z 0), .int (fe_z 0), .int (fe_z 0), .int (fe_z 0), .int (fe_z 0)], fe_Q 12 (fun _ => none), fe_O 5 [.ref (b + 8), .ref (b + 9), .ref (b + 10)], fe_I 24 (fun _ => 0), fe_I 5 (fun _ => 0), fe_I 7 (fun _ => 0), fe_O 3 [.null, .int (fe_z 0)]] 650) K := by
  rw [fe_e23_0]
  rw [fe_e23_1]
  rw [fe_e23_4]
  rw [fe_e23_5]
  rw [fe_e23_7]
  refine ⟨fe_ls_nw (Nat.le_of_ble_eq_true rfl) (Nat.le_of_ble_eq_true rfl), ?_⟩
  rw [fe_ls_add]
  show fe_WP E 23 9 _ (.ref (b + 12) :: _) (fe_ls b [fe_O 6 [.ref (b + 1), .ref (b + 6), .int (fe_z 0), .ref (b + 7), .null, .int (fe_z 0), .null], fe_O 2 [.ref (b + 2), .ref (b + 3), .ref (b + 4), .ref (b + 5)], fe_Z 192 (fun _ => false), fe_Z 192 (fun _ => false), fe_Z 192 (fun _ => false), fe_O 0 [.int (fe_z 0), .int (fe_z 0), .int (fe_z 0), .int (fe_z 0), .int (fe_z 0), .int (fe_z 0), .int (fe_z 0), .int (fe_z 0), .int (fe_z 0), .int (fe_z 0)], fe_Q 12 (fun _ => none), fe_O 5 [.ref (b + 8), .ref (b + 9), .ref (b + 10)], fe_I 24 (fun _ => 0), fe_I 5 (fun _ => 0), fe_I 7 (fun _ => 0), fe_O 3 [.null, .int (fe_z 0)], fe_J 64 (fun _ => 0)] 714) K
  rw [fe_e23_9]
  refine ⟨_, fe_ls_pf (k := 11) rfl, ?_⟩
  show fe_WP E 23 12 _ _ (fe_ls b [fe_O 6 [.ref (b + 1), .ref (b + 6), .int (fe_z 0), .ref (b + 7), .null, .int (fe_z 0), .null], fe_O 2 [.ref (b + 2), .ref (b + 3), .ref (b + 4), .ref (b + 5)], fe_Z 192 (fun _ => false), fe_Z 192 (fun _ => false), fe_Z 192 (fun _ => false), fe_O 0 [.int (fe_z 0), .int (fe_z 0), .int (fe_z 0), .int (fe_z 0), .int (fe_z 0), .int (fe_z 0), .int (fe_z 0), .int (fe_z 0), .int (fe_z 0), .int (fe_z 0)], fe_Q 12 (fun _ => none), fe_O 5 [.ref (b + 8), .ref (b + 9), .ref (b + 10)], fe_I 24 (fun _ => 0), fe_I 5 (fun _ => 0), fe_I 7 (fun _ => 0), fe_O 3 [.ref (b + 12), .int (fe_z 0)], fe_J 64 (fun _ => 0)] 714) K
  rw [fe_e23_12]
  rw [fe_e23_13]
  rw [fe_e23_14]
  refine ⟨_, fe_ls_pf (k := 11) rfl, ?_⟩
  show fe_WP E 23 17 _ _ (fe_ls b [fe_O 6 [.ref (b + 1), .ref (b + 6), .int (fe_z 0), .ref (b + 7), .null, .int (fe_z 0), .null], fe_O 2 [.ref (b + 2), .ref (b + 3), .ref (b + 4), .ref (b + 5)], fe_Z 192 (fun _ => false), fe_Z 192 (fun _ => false), fe_Z 192 (fun _ => false), fe_O 0 [.int (fe_z 0), .int (fe_z 0), .int (fe_z 0), .int (fe_z 0), .int (fe_z 0), .int (fe_z 0), .int (fe_z 0), .int (fe_z 0), .int (fe_z 0), .int (fe_z 0)], fe_Q 12 (fun _ => none), fe_O 5 [.ref (b + 8), .ref (b + 9), .ref (b + 10)], fe_I 24 (fun _ => 0), fe_I 5 (fun _ => 0), fe_I 7 (fun _ => 0), fe_O 3 [.ref (b + 12), .int (fe_z 0)], fe_J 64 (fun _ => 0)] 714) K
  rw [fe_e23_17]
  exact hK
theorem fe_in31 {E : fe_E} {K : fe_R → fe_H → Prop} {b : Nat} (hK : K (.inl none) (fe_ls b [fe_O 6 [.ref (b + 1), .ref (b + 6), .int (fe_z 0), .ref (b + 7), .ref (b + 11), .int (fe_z 0), .null], fe_O 2 [.ref (b + 2), .ref (b + 3), .ref (b + 4), .ref (b + 5)], fe_Z 192 (fun _ => false), fe_Z 192 (fun _ => false), fe_Z 192 (fun _ => false), fe_O 0 [.int (fe_z 0), .int (fe_z 0), .int (fe_z 0), .int (fe_z 0), .int (fe_z 0), .int (fe_z 0), .int (fe_z 0), .int (fe_z 0), .int (fe_z 0), .int (fe_z 0)], fe_Q 12 (fun _ => none), fe_O 5 [.ref (b + 8), .ref (b + 9), .ref (b + 10)], fe_I 24 (fun _ => 0), fe_I 5 (fun _ => 0), fe_I 7 (fun _ => 0), fe_O 3 [.ref (b + 12), .int (fe_z 0)], fe_J 64 (fun _ => 0), fe_O 4 [.ref (b + 14), .int (fe_z 0), .int (fe_z 0), .int (fe_z 0), .int (fe_z 0), .int (fe_z (-1))], fe_I 60 (fun _ => 0)] 780)) : fe_WP E 31 0 [some (.ref (b + 13))] [] (fe_ls b [fe_O 6 [.ref (b + 1), .ref (b + 6), .int (fe_z 0), .ref (b + 7), .ref (b + 11), .int (fe_z 0), .null], fe_O 2 [.ref (b + 2), .ref (b + 3), .ref (b + 4), .ref (b + 5)], fe_Z 192 (fun _ => false), fe_Z 192 (fun _ => false), fe_Z 192 (fun _ => false), fe_O 0 [.int (fe_z 0), .int (fe_z 0), .int (fe_z 0), .int (fe_z 0), .int (fe_z 0), .int (fe_z 0), .int (fe_z 0), .int (fe_z 0), .int (fe_z 0), .int (fe_z 0)], fe_Q 12 (fun _ => none), fe_O 5 [.ref (b + 8), .ref (b + 9), .ref (b + 10)], fe_I 24 (fun _ => 0), fe_I 5 (fun _ => 0), fe_I 7 (fun _ => 0), fe_O 3 [.ref (b + 12), .int (fe_z 0)], fe_J 64 (fun _ => 0), fe_O 4 [.null, .int (fe_z 0), .int (fe_z 0), .int (fe_z 0), .int (fe_z 0), .int (fe_z 0)]] 720) K := by
  rw [fe_e31_0]
  rw [fe_e31_1]
  rw [fe_e31_4]
  rw [fe_e31_5]
  rw [fe_e31_7]
  refine ⟨fe_ls_nw (Nat.le_of_ble_eq_true rfl) (Nat.le_of_ble_eq_true rfl), ?_⟩
  rw [fe_ls_add]
  show fe_WP E 31 9 _ (.ref (b + 14) :: _) (fe_ls b [fe_O 6 [.ref (b + 1), .ref (b + 6), .int (fe_z 0), .ref (b + 7), .ref (b + 11), .int (fe_z 0), .null], fe_O 2 [.ref (b + 2), .ref (b + 3), .ref (b + 4), .ref (b + 5)], fe_Z 192 (fun _ => false), fe_Z 192 (fun _ => false), fe_Z 192 (fun _ => false), fe_O 0 [.int (fe_z 0), .int (fe_z 0), .int (fe_z 0), .int (fe_z 0), .int (fe_z 0), .int (fe_z 0), .int (fe_z 0), .int (fe_z 0), .int (fe_z 0), .int (fe_z 0)], fe_Q 12 (fun _ => none), fe_O 5 [.ref (b + 8), .ref (b + 9), .ref (b + 10)], fe_I 24 (fun _ => 0), fe_I 5 (fun _ => 0), fe_I 7 (fun _ => 0), fe_O 3 [.ref (b + 12), .int (fe_z 0)], fe_J 64 (fun _ => 0), fe_O 4 [.null, .int (fe_z 0), .int (fe_z 0), .int (fe_z 0), .int (fe_z 0), .int (fe_z 0)], fe_I 60 (fun _ => 0)] 780) K
  rw [fe_e31_9]
  refine ⟨_, fe_ls_pf (k := 13) rfl, ?_⟩
  show fe_WP E 31 12 _ _ (fe_ls b [fe_O 6 [.ref (b + 1), .ref (b + 6), .int (fe_z 0), .ref (b + 7), .ref (b + 11), .int (fe_z 0), .null], fe_O 2 [.ref (b + 2), .ref (b + 3), .ref (b + 4), .ref (b + 5)], fe_Z 192 (fun _ => false), fe_Z 192 (fun _ => false), fe_Z 192 (fun _ => false), fe_O 0 [.int (fe_z 0), .int (fe_z 0), .int (fe_z 0), .int (fe_z 0), .int (fe_z 0), .int (fe_z 0), .int (fe_z 0), .int (fe_z 0), .int (fe_z 0), .int (fe_z 0)], fe_Q 12 (fun _ => none), fe_O 5 [.ref (b + 8), .ref (b + 9), .ref (b + 10)], fe_I 24 (fun _ => 0), fe_I 5 (fun _ => 0), fe_I 7 (fun _ => 0), fe_O 3 [.ref (b + 12), .int (fe_z 0)], fe_J 64 (fun _ => 0), fe_O 4 [.ref (b + 14), .int (fe_z 0), .int (fe_z 0), .int (fe_z 0), .int (fe_z 0), .int (fe_z 0)], fe_I 60 (fun _ => 0)] 780) K
  rw [fe_e31_12]
  rw [fe_e31_13]
  rw [fe_e31_14]
  refine ⟨_, fe_ls_pf (k := 13) rfl, ?_⟩
  show fe_WP E 31 17 _ _ (fe_ls b [fe_O 6 [.ref (b + 1), .ref (b + 6), .int (fe_z 0), .ref (b + 7), .ref (b + 11), .int (fe_z 0), .null], fe_O 2 [.ref (b + 2), .ref (b + 3), .ref (b + 4), .ref (b + 5)], fe_Z 192 (fun _ => false), fe_Z 192 (fun _ => false), fe_Z 192 (fun _ => false), fe_O 0 [.int (fe_z 0), .int (fe_z 0), .int (fe_z 0), .int (fe_z 0), .int (fe_z 0), .int (fe_z 0), .int (fe_z 0), .int (fe_z 0), .int (fe_z 0), .int (fe_z 0)], fe_Q 12 (fun _ => none), fe_O 5 [.ref (b + 8), .ref (b + 9), .ref (b + 10)], fe_I 24 (fun _ => 0), fe_I 5 (fun _ => 0), fe_I 7 (fun _ => 0), fe_O 3 [.ref (b + 12), .int (fe_z 0)], fe_J 64 (fun _ => 0), fe_O 4 [.ref (b + 14), .int (fe_z 0), .int (fe_z 0), .int (fe_z 0), .int (fe_z 0), .int (fe_z 0)], fe_I 60 (fun _ => 0)] 780) K
  rw [fe_e31_17]
  rw [fe_e31_18]
  rw [fe_e31_19]
  refine ⟨_, fe_ls_pf (k := 13) rfl, ?_⟩
  show fe_WP E 31 22 _ _ (fe_ls b [fe_O 6 [.ref (b + 1), .ref (b + 6), .int (fe_z 0), .ref (b + 7), .ref (b + 11), .int (fe_z 0), .null], fe_O 2 [.ref (b + 2), .ref (b + 3), .ref (b + 4), .ref (b + 5)], fe_Z 192 (fun _ => false), fe_Z 192 (fun _ => false), fe_Z 192 (fun _ => false), fe_O 0 [.int (fe_z 0), .int (fe_z 0), .int (fe_z 0), .int (fe_z 0), .int (fe_z 0), .int (fe_z 0), .int (fe_z 0), .int (fe_z 0), .int (fe_z 0), .int (fe_z 0)], fe_Q 12 (fun _ => none), fe_O 5 [.ref (b + 8), .ref (b + 9), .ref (b + 10)], fe_I 24 (fun _ => 0), fe_I 5 (fun _ => 0), fe_I 7 (fun _ => 0), fe_O 3 [.ref (b + 12), .int (fe_z 0)], fe_J 64 (fun _ => 0), fe_O 4 [.ref (b + 14), .int (fe_z 0), .int (fe_z 0), .int (fe_z 0), .int (fe_z 0), .int (fe_z 0)], fe_I 60 (fun _ => 0)] 780) K
  rw [fe_e31_22]
  rw [fe_e31_23]
  rw [fe_e31_24]
  refine ⟨_, fe_ls_pf (k := 13) rfl, ?_⟩
  show fe_WP E 31 27 _ _ (fe_ls b [fe_O 6 [.ref (b + 1), .ref (b + 6), .int (fe_z 0), .ref (b + 7), .ref (b + 11), .int (fe_z 0), .null], fe_O 2 [.ref (b + 2), .ref (b + 3), .ref (b + 4), .ref (b + 5)], fe_Z 192 (fun _ => false), fe_Z 192 (fun _ => false), fe_Z 192 (fun _ => false), fe_O 0 [.int (fe_z 0), .int (fe_z 0), .int (fe_z 0), .int (fe_z 0), .int (fe_z 0), .int (fe_z 0), .int (fe_z 0), .int (fe_z 0), .int (fe_z 0), .int (fe_z 0)], fe_Q 12 (fun _ => none), fe_O 5 [.ref (b + 8), .ref (b + 9), .ref (b + 10)], fe_I 24 (fun _ => 0), fe_I 5 (fun _ => 0), fe_I 7 (fun _ => 0), fe_O 3 [.ref (b + 12), .int (fe_z 0)], fe_J 64 (fun _ => 0), fe_O 4 [.ref (b + 14), .int (fe_z 0), .int (fe_z 0), .int (fe_z 0), .int (fe_z 0), .int (fe_z 0)], fe_I 60 (fun _ => 0)] 780) K
  rw [fe_e31_27]
  rw [fe_e31_28]
  rw [fe_e31_29]
  refine ⟨_, fe_ls_pf (k := 13) rfl, ?_⟩
  show fe_WP E 31 32 _ _ (fe_ls b [fe_O 6 [.ref (b + 1), .ref (b + 6), .int (fe_z 0), .ref (b + 7), .ref (b + 11), .int (fe_z 0), .null], fe_O 2 [.ref (b + 2), .ref (b + 3), .ref (b + 4), .ref (b + 5)], fe_Z 192 (fun _ => false), fe_Z 192 (fun _ => false), fe_Z 192 (fun _ => false), fe_O 0 [.int (fe_z 0), .int (fe_z 0), .int (fe_z 0), .int (fe_z 0), .int (fe_z 0), .int (fe_z 0), .int (fe_z 0), .int (fe_z 0), .int (fe_z 0), .int (fe_z 0)], fe_Q 12 (fun _ => none), fe_O 5 [.ref (b + 8), .ref (b + 9), .ref (b + 10)], fe_I 24 (fun _ => 0), fe_I 5 (fun _ => 0), fe_I 7 (fun _ => 0), fe_O 3 [.ref (b + 12), .int (fe_z 0)], fe_J 64 (fun _ => 0), fe_O 4 [.ref (b + 14), .int (fe_z 0), .int (fe_z 0), .int (fe_z 0), .int (fe_z 0), .int (fe_z 0)], fe_I 60 (fun _ => 0)] 780) K
  rw [fe_e31_32]
  rw [fe_e31_33]
  rw [fe_e31_34]
  refine ⟨_, fe_ls_pf (k := 13) rfl, ?_⟩
  show fe_WP E 31 37 _ _ (fe_ls b [fe_O 6 [.ref (b + 1), .ref (b + 6), .int (fe_z 0), .ref (b + 7), .ref (b + 11), .int (fe_z 0), .null], fe_O 2 [.ref (b + 2), .ref (b + 3), .ref (b + 4), .ref (b + 5)], fe_Z 192 (fun _ => false), fe_Z 192 (fun _ => false), fe_Z 192 (fun _ => false), fe_O 0 [.int (fe_z 0), .int (fe_z 0), .int (fe_z 0), .int (fe_z 0), .int (fe_z 0), .int (fe_z 0), .int (fe_z 0), .int (fe_z 0), .int (fe_z 0), .int (fe_z 0)], fe_Q 12 (fun _ => none), fe_O 5 [.ref (b + 8), .ref (b + 9), .ref (b + 10)], fe_I 24 (fun _ => 0), fe_I 5 (fun _ => 0), fe_I 7 (fun _ => 0), fe_O 3 [.ref (b + 12), .int (fe_z 0)], fe_J 64 (fun _ => 0), fe_O 4 [.ref (b + 14), .int (fe_z 0), .int (fe_z 0), .int (fe_z 0), .int (fe_z 0), .int (fe_z (-1))], fe_I 60 (fun _ => 0)] 780) K
  rw [fe_e31_37]
  exact hK
theorem fe_in40 {E : fe_E} {K : fe_R → fe_H → Prop} {b : Nat} (hK : K (.inl none) (fe_ls b [fe_O 6 [.ref (b + 1), .ref (b + 6), .int (fe_z 0), .ref (b + 7), .ref (b + 11), .int (fe_z 0), .ref (b + 13)], fe_O 2 [.ref (b + 2), .ref (b + 3), .ref (b + 4), .ref (b + 5)], fe_Z 192 (fun _ => false), fe_Z 192 (fun _ => false), fe_Z 192 (fun _ => false), fe_O 0 [.int (fe_z 0), .int (fe_z 0), .int (fe_z 0), .int (fe_z 0), .int (fe_z 0), .int (fe_z 0), .int (fe_z 0), .int (fe_z 0), .int (fe_z 0), .int (fe_z 0)], fe_Q 12 (fun _ => none), fe_O 5 [.ref (b + 8), .ref (b + 9), .ref (b + 10)], fe_I 24 (fun _ => 0), fe_I 5 (fun _ => 0), fe_I 7 (fun _ => 0), fe_O 3 [.ref (b + 12), .int (fe_z 0)], fe_J 64 (fun _ => 0), fe_O 4 [.ref (b + 14), .int (fe_z 0), .int (fe_z 0), .int (fe_z 0), .int (fe_z 0), .int (fe_z (-1))], fe_I 60 (fun _ => 0)] 780)) : fe_WP E 40 0 [some (.ref (b))] [] (fe_ls b [fe_O 6 [.null, .null, .int (fe_z 0), .null, .null, .int (fe_z 0), .null]] 7) K := by
  rw [fe_e40_0]
  rw [fe_e40_1]
  rw [fe_e40_4]
  rw [fe_e40_5]
  refine ⟨fe_ls_nw (Nat.le_of_ble_eq_true rfl) (Nat.le_of_ble_eq_true rfl), ?_⟩
  rw [fe_ls_add]
  show fe_WP E 40 8 _ (.ref (b + 1) :: _) (fe_ls b [fe_O 6 [.null, .null, .int (fe_z 0), .null, .null, .int (fe_z 0), .null], fe_O 2 [.null, .null, .null, .null]] 11) K
  rw [fe_e40_8r]
  rw [fe_e40_9]
  refine ⟨fe_ls_ob (k := 1) rfl, ?_⟩
  refine fe_in16 ?_
  rw [fe_KB_v]
  show fe_WP E 40 12 _ _ (fe_ls b [fe_O 6 [.null, .null, .int (fe_z 0), .null, .null, .int (fe_z 0), .null], fe_O 2 [.ref (b + 2), .ref (b + 3), .ref (b + 4), .ref (b + 5)], fe_Z 192 (fun _ => false), fe_Z 192 (fun _ => false), fe_Z 192 (fun _ => false), fe_O 0 [.int (fe_z 0), .int (fe_z 0), .int (fe_z 0), .int (fe_z 0), .int (fe_z 0), .int (fe_z 0), .int (fe_z 0), .int (fe_z 0), .int (fe_z 0), .int (fe_z 0)]] 597) K
  rw [fe_e40_12]
  refine ⟨_, fe_ls_pf (k := 0) rfl, ?_⟩
  show fe_WP E 40 15 _ _ (fe_ls b [fe_O 6 [.ref (b + 1), .null, .int (fe_z 0), .null, .null, .int (fe_z 0), .null], fe_O 2 [.ref (b + 2), .ref (b + 3), .ref (b + 4), .ref (b + 5)], fe_Z 192 (fun _ => false), fe_Z 192 (fun _ => false), fe_Z 192 (fun _ => false), fe_O 0 [.int (fe_z 0), .int (fe_z 0), .int (fe_z 0), .int (fe_z 0), .int (fe_z 0), .int (fe_z 0), .int (fe_z 0), .int (fe_z 0), .int (fe_z 0), .int (fe_z 0)]] 597) K
  rw [fe_e40_15]
  rw [fe_e40_16]
  rw [fe_e40_18]
  refine ⟨fe_ls_nw (Nat.le_of_ble_eq_true rfl) (Nat.le_of_ble_eq_true rfl), ?_⟩
  rw [fe_ls_add]
  show fe_WP E 40 21 _ (.ref (b + 6) :: _) (fe_ls b [fe_O 6 [.ref (b + 1), .null, .int (fe_z 0), .null, .null, .int (fe_z 0), .null], fe_O 2 [.ref (b + 2), .ref (b + 3), .ref (b + 4), .ref (b + 5)], fe_Z 192 (fun _ => false), fe_Z 192 (fun _ => false), fe_Z 192 (fun _ => false), fe_O 0 [.int (fe_z 0), .int (fe_z 0), .int (fe_z 0), .int (fe_z 0), .int (fe_z 0), .int (fe_z 0), .int (fe_z 0), .int (fe_z 0), .int (fe_z 0), .int (fe_z 0)], fe_Q 12 (fun _ => none)] 609) K
  rw [fe_e40_21]
  refine ⟨_, fe_ls_pf (k := 0) rfl, ?_⟩
  show fe_WP E 40 24 _ _ (fe_ls b [fe_O 6 [.ref (b + 1), .ref (b + 6), .int (fe_z 0), .null, .null, .int (fe_z 0), .null], fe_O 2 [.ref (b + 2), .ref (b + 3), .ref (b + 4), .ref (b + 5)], fe_Z 192 (fun _ => false), fe_Z 192 (fun _ => false), fe_Z 192 (fun _ => false), fe_O 0 [.int (fe_z 0), .int (fe_z 0), .int (fe_z 0), .int (fe_z 0), .int (fe_z 0), .int (fe_z 0), .int (fe_z 0), .int (fe_z 0), .int (fe_z 0), .int (fe_z 0)], fe_Q 12 (fun _ => none)] 609) K
  rw [fe_e40_24]
  rw [fe_e40_25]
  rw [fe_e40_26]
  refine ⟨_, fe_ls_pf (k := 0) rfl, ?_⟩
  show fe_WP E 40 29 _ _ (fe_ls b [fe_O 6 [.ref (b + 1), .ref (b + 6), .int (fe_z 0), .null, .null, .int (fe_z 0), .null], fe_O 2 [.ref (b + 2), .ref (b + 3), .ref (b + 4), .ref (b + 5)], fe_Z 192 (fun _ => false), fe_Z 192 (fun _ => false), fe_Z 192 (fun _ => false), fe_O 0 [.int (fe_z 0), .int (fe_z 0), .int (fe_z 0), .int (fe_z 0), .int (fe_z 0), .int (fe_z 0), .int (fe_z 0), .int (fe_z 0), .int (fe_z 0), .int (fe_z 0)], fe_Q 12 (fun _ => none)] 609) K
  rw [fe_e40_29]
  rw [fe_e40_30]
  refine ⟨fe_ls_nw (Nat.le_of_ble_eq_true rfl) (Nat.le_of_ble_eq_true rfl), ?_⟩
  rw [fe_ls_add]
  show fe_WP E 40 33 _ (.ref (b + 7) :: _) (fe_ls b [fe_O 6 [.ref (b + 1), .ref (b + 6), .int (fe_z 0), .null, .null, .int (fe_z 0), .null], fe_O 2 [.ref (b + 2), .ref (b + 3), .ref (b + 4), .ref (b + 5)], fe_Z 192 (fun _ => false), fe_Z 192 (fun _ => false), fe_Z 192 (fun _ => false), fe_O 0 [.int (fe_z 0), .int (fe_z 0), .int (fe_z 0), .int (fe_z 0), .int (fe_z 0), .int (fe_z 0), .int (fe_z 0), .int (fe_z 0), .int (fe_z 0), .int (fe_z 0)], fe_Q 12 (fun _ => none), fe_O 5 [.null, .null, .null]] 612) K
  rw [fe_e40_33r]
  rw [fe_e40_34]
  refine ⟨fe_ls_ob (k := 7) rfl, ?_⟩
  refine fe_in36 ?_
  rw [fe_KB_v]
  show fe_WP E 40 37 _ _ (fe_ls b [fe_O 6 [.ref (b + 1), .ref (b + 6), .int (fe_z 0), .null, .null, .int (fe_z 0), .null], fe_O 2 [.ref (b + 2), .ref (b + 3), .ref (b + 4), .ref (b + 5)], fe_Z 192 (fun _ => false), fe_Z 192 (fun _ => false), fe_Z 192 (fun _ => false), fe_O 0 [.int (fe_z 0), .int (fe_z 0), .int (fe_z 0), .int (fe_z 0), .int (fe_z 0), .int (fe_z 0), .int (fe_z 0), .int (fe_z 0), .int (fe_z 0), .int (fe_z 0)], fe_Q 12 (fun _ => none), fe_O 5 [.ref (b + 8), .ref (b + 9), .ref (b + 10)], fe_I 24 (fun _ => 0), fe_I 5 (fun _ => 0), fe_I 7 (fun _ => 0)] 648) K
  rw [fe_e40_37]
  refine ⟨_, fe_ls_pf (k := 0) rfl, ?_⟩
  show fe_WP E 40 40 _ _ (fe_ls b [fe_O 6 [.ref (b + 1), .ref (b + 6), .int (fe_z 0), .ref (b + 7), .null, .int (fe_z 0), .null], fe_O 2 [.ref (b + 2), .ref (b + 3), .ref (b + 4), .ref (b + 5)], fe_Z 192 (fun _ => false), fe_Z 192 (fun _ => false), fe_Z 192 (fun _ => false), fe_O 0 [.int (fe_z 0), .int (fe_z 0), .int (fe_z 0), .int (fe_z 0), .int (fe_z 0), .int (fe_z 0), .int (fe_z 0), .int (fe_z 0), .int (fe_z 0), .int (fe_z 0)], fe_Q 12 (fun _ => none), fe_O 5 [.ref (b + 8), .ref (b + 9), .ref (b + 10)], fe_I 24 (fun _ => 0), fe_I 5 (fun _ => 0), fe_I 7 (fun _ => 0)] 648) K
  rw [fe_e40_40]
  rw [fe_e40_41]
  refine ⟨fe_ls_nw (Nat.le_of_ble_eq_true rfl) (Nat.le_of_ble_eq_true rfl), ?_⟩
  rw [fe_ls_add]
  show fe_WP E 40 44 _ (.ref (b + 11) :: _) (fe_ls b [fe_O 6 [.ref (b + 1), .ref (b + 6), .int (fe_z 0), .ref (b + 7), .null, .int (fe_z 0), .null], fe_O 2 [.ref (b + 2), .ref (b + 3), .ref (b + 4), .ref (b + 5)], fe_Z 192 (fun _ => false), fe_Z 192 (fun _ => false), fe_Z 192 (fun _ => false), fe_O 0 [.int (fe_z 0), .int (fe_z 0), .int (fe_z 0), .int (fe_z 0), .int (fe_z 0), .int (fe_z 0), .int (fe_z 0), .int (fe_z 0), .int (fe_z 0), .int (fe_z 0)], fe_Q 12 (fun _ => none), fe_O 5 [.ref (b + 8), .ref (b + 9), .ref (b + 10)], fe_I 24 (fun _ => 0), fe_I 5 (fun _ => 0), fe_I 7 (fun _ => 0), fe_O 3 [.null, .int (fe_z 0)]] 650) K
  rw [fe_e40_44r]
  rw [fe_e40_45]
  refine ⟨fe_ls_ob (k := 11) rfl, ?_⟩
  refine fe_in23 ?_
  rw [fe_KB_v]
  show fe_WP E 40 48 _ _ (fe_ls b [fe_O 6 [.ref (b + 1), .ref (b + 6), .int (fe_z 0), .ref (b + 7), .null, .int (fe_z 0), .null], fe_O 2 [.ref (b + 2), .ref (b + 3), .ref (b + 4), .ref (b + 5)], fe_Z 192 (fun _ => false), fe_Z 192 (fun _ => false), fe_Z 192 (fun _ => false), fe_O 0 [.int (fe_z 0), .int (fe_z 0), .int (fe_z 0), .int (fe_z 0), .int (fe_z 0), .int (fe_z 0), .int (fe_z 0), .int (fe_z 0), .int (fe_z 0), .int (fe_z 0)], fe_Q 12 (fun _ => none), fe_O 5 [.ref (b + 8), .ref (b + 9), .ref (b + 10)], fe_I 24 (fun _ => 0), fe_I 5 (fun _ => 0), fe_I 7 (fun _ => 0), fe_O 3 [.ref (b + 12), .int (fe_z 0)], fe_J 64 (fun _ => 0)] 714) K
  rw [fe_e40_48]
  refine ⟨_, fe_ls_pf (k := 0) rfl, ?_⟩
  show fe_WP E 40 51 _ _ (fe_ls b [fe_O 6 [.ref (b + 1), .ref (b + 6), .int (fe_z 0), .ref (b + 7), .ref (b + 11), .int (fe_z 0), .null], fe_O 2 [.ref (b + 2), .ref (b + 3), .ref (b + 4), .ref (b + 5)], fe_Z 192 (fun _ => false), fe_Z 192 (fun _ => false), fe_Z 192 (fun _ => false), fe_O 0 [.int (fe_z 0), .int (fe_z 0), .int (fe_z 0), .int (fe_z 0), .int (fe_z 0), .int (fe_z 0), .int (fe_z 0), .int (fe_z 0), .int (fe_z 0), .int (fe_z 0)], fe_Q 12 (fun _ => none), fe_O 5 [.ref (b + 8), .ref (b + 9), .ref (b + 10)], fe_I 24 (fun _ => 0), fe_I 5 (fun _ => 0), fe_I 7 (fun _ => 0), fe_O 3 [.ref (b + 12), .int (fe_z 0)], fe_J 64 (fun _ => 0)] 714) K
  rw [fe_e40_51]
  rw [fe_e40_52]
  rw [fe_e40_53]
  refine ⟨Or.inl rfl, _, fe_ls_pf (k := 0) rfl, ?_⟩
  show fe_WP E 40 56 _ _ (fe_ls b [fe_O 6 [.ref (b + 1), .ref (b + 6), .int (fe_z 0), .ref (b + 7), .ref (b + 11), .int (fe_z 0), .null], fe_O 2 [.ref (b + 2), .ref (b + 3), .ref (b + 4), .ref (b + 5)], fe_Z 192 (fun _ => false), fe_Z 192 (fun _ => false), fe_Z 192 (fun _ => false), fe_O 0 [.int (fe_z 0), .int (fe_z 0), .int (fe_z 0), .int (fe_z 0), .int (fe_z 0), .int (fe_z 0), .int (fe_z 0), .int (fe_z 0), .int (fe_z 0), .int (fe_z 0)], fe_Q 12 (fun _ => none), fe_O 5 [.ref (b + 8), .ref (b + 9), .ref (b + 10)], fe_I 24 (fun _ => 0), fe_I 5 (fun _ => 0), fe_I 7 (fun _ => 0), fe_O 3 [.ref (b + 12), .int (fe_z 0)], fe_J 64 (fun _ => 0)] 714) K
  rw [fe_e40_56]
  rw [fe_e40_57]
  refine ⟨fe_ls_nw (Nat.le_of_ble_eq_true rfl) (Nat.le_of_ble_eq_true rfl), ?_⟩
  rw [fe_ls_add]
  show fe_WP E 40 60 _ (.ref (b + 13) :: _) (fe_ls b [fe_O 6 [.ref (b + 1), .ref (b + 6), .int (fe_z 0), .ref (b + 7), .ref (b + 11), .int (fe_z 0), .null], fe_O 2 [.ref (b + 2), .ref (b + 3), .ref (b + 4), .ref (b + 5)], fe_Z 192 (fun _ => false), fe_Z 192 (fun _ => false), fe_Z 192 (fun _ => false), fe_O 0 [.int (fe_z 0), .int (fe_z 0), .int (fe_z 0), .int (fe_z 0), .int (fe_z 0), .int (fe_z 0), .int (fe_z 0), .int (fe_z 0), .int (fe_z 0), .int (fe_z 0)], fe_Q 12 (fun _ => none), fe_O 5 [.ref (b + 8), .ref (b + 9), .ref (b + 10)], fe_I 24 (fun _ => 0), fe_I 5 (fun _ => 0), fe_I 7 (fun _ => 0), fe_O 3 [.ref (b + 12), .int (fe_z 0)], fe_J 64 (fun _ => 0), fe_O 4 [.null, .int (fe_z 0), .int (fe_z 0), .int (fe_z 0), .int (fe_z 0), .int (fe_z 0)]] 720) K
  rw [fe_e40_60r]
  rw [fe_e40_61]
  refine ⟨fe_ls_ob (k := 13) rfl, ?_⟩
  refine fe_in31 ?_
  rw [fe_KB_v]
  show fe_WP E 40 64 _ _ (fe_ls b [fe_O 6 [.ref (b + 1), .ref (b + 6), .int (fe_z 0), .ref (b + 7), .ref (b + 11), .int (fe_z 0), .null], fe_O 2 [.ref (b + 2), .ref (b + 3), .ref (b + 4), .ref (b + 5)], fe_Z 192 (fun _ => false), fe_Z 192 (fun _ => false), fe_Z 192 (fun _ => false), fe_O 0 [.int (fe_z 0), .int (fe_z 0), .int (fe_z 0), .int (fe_z 0), .int (fe_z 0), .int (fe_z 0), .int (fe_z 0), .int (fe_z 0), .int (fe_z 0), .int (fe_z 0)], fe_Q 12 (fun _ => none), fe_O 5 [.ref (b + 8), .ref (b + 9), .ref (b + 10)], fe_I 24 (fun _ => 0), fe_I 5 (fun _ => 0), fe_I 7 (fun _ => 0), fe_O 3 [.ref (b + 12), .int (fe_z 0)], fe_J 64 (fun _ => 0), fe_O 4 [.ref (b + 14), .int (fe_z 0), .int (fe_z 0), .int (fe_z 0), .int (fe_z 0), .int (fe_z (-1))], fe_I 60 (fun _ => 0)] 780) K
  rw [fe_e40_64]
  refine ⟨_, fe_ls_pf (k := 0) rfl, ?_⟩
  show fe_WP E 40 67 _ _ (fe_ls b [fe_O 6 [.ref (b + 1), .ref (b + 6), .int (fe_z 0), .ref (b + 7), .ref (b + 11), .int (fe_z 0), .ref (b + 13)], fe_O 2 [.ref (b + 2), .ref (b + 3), .ref (b + 4), .ref (b + 5)], fe_Z 192 (fun _ => false), fe_Z 192 (fun _ => false), fe_Z 192 (fun _ => false), fe_O 0 [.int (fe_z 0), .int (fe_z 0), .int (fe_z 0), .int (fe_z 0), .int (fe_z 0), .int (fe_z 0), .int (fe_z 0), .int (fe_z 0), .int (fe_z 0), .int (fe_z 0)], fe_Q 12 (fun _ => none), fe_O 5 [.ref (b + 8), .ref (b + 9), .ref (b + 10)], fe_I 24 (fun _ => 0), fe_I 5 (fun _ => 0), fe_I 7 (fun _ => 0), fe_O 3 [.ref (b + 12), .int (fe_z 0)], fe_J 64 (fun _ => 0), fe_O 4 [.ref (b + 14), .int (fe_z 0), .int (fe_z 0), .int (fe_z 0), .int (fe_z 0), .int (fe_z (-1))], fe_I 60 (fun _ => 0)] 780) K
  rw [fe_e40_67]
  exact hK
theorem fe_in68 {E : fe_E} {K : fe_R → fe_H → Prop} {b : Nat} (hK : K (.inl none) (fe_ls b [fe_O 6 [.ref (b + 1), .ref (b + 6), .int (fe_z 0), .ref (b + 7), .ref (b + 11), .int (fe_z 0), .ref (b + 13)], fe_O 2 [.ref (b + 2), .ref (b + 3), .ref (b + 4), .ref (b + 5)], fe_Z 192 (fun _ => false), fe_Z 192 (fun _ => false), fe_Z 192 (fun _ => false), fe_O 0 [.int (fe_z 0), .int (fe_z 0), .int (fe_z 0), .int (fe_z 0), .int (fe_z 0), .int (fe_z 0), .int (fe_z 0), .int (fe_z 0), .int (fe_z 0), .int (fe_z 0)], fe_Q 12 (fun _ => none), fe_O 5 [.ref (b + 8), .ref (b + 9), .ref (b + 10)], fe_I 24 (fun _ => 0), fe_I 5 (fun _ => 0), fe_I 7 (fun _ => 0), fe_O 3 [.ref (b + 12), .int (fe_z 0)], fe_J 64 (fun _ => 0), fe_O 4 [.ref (b + 14), .int (fe_z 0), .int (fe_z 0), .int (fe_z 0), .int (fe_z 0), .int (fe_z (-1))], fe_I 60 (fun _ => 0), fe_O 7 [.int (fe_z 0), .ref (b + 16), .ref (b + 17), .ref (b + 18), .ref (b + 19), .ref (b + 20), .ref (b + 21), .ref (b + 22), .ref (b + 23), .ref (b + 24), .ref (b + 25), .ref (b + 26), .int (fe_z 0), .ref (b + 27), .ref (b + 28), .ref (b + 29), .ref (b + 30), .ref (b + 31), .int (fe_z 0), .int (fe_z 0), .ref (b + 32), .int (fe_z 0)], fe_Z 192 (fun _ => false), fe_Z 192 (fun _ => false), fe_Z 192 (fun _ => false), fe_I 12 (fun _ => 0), fe_I 12 (fun _ => 0), fe_I 12 (fun _ => 0), fe_I 12 (fun _ => 0), fe_Z 12 (fun _ => false), fe_I 96 (fun _ => 0), fe_I 12 (fun _ => 0), fe_Z 2304 (fun _ => false), fe_I 5 (fun _ => 0), fe_I 5 (fun _ => 0), fe_Z 96 (fun _ => false), fe_Z 4096 (fun _ => false), fe_I 4096 (fun _ => 0), fe_I 60 (fun _ => 0)] 12208)) : fe_WP E 68 0 [some (.ref (b + 15))] [] (fe_ls b [fe_O 6 [.ref (b + 1), .ref (b + 6), .int (fe_z 0), .ref (b + 7), .ref (b + 11), .int (fe_z 0), .ref (b + 13)], fe_O 2 [.ref (b + 2), .ref (b + 3), .ref (b + 4), .ref (b + 5)], fe_Z 192 (fun _ => false), fe_Z 192 (fun _ => false), fe_Z 192 (fun _ => false), fe_O 0 [.int (fe_z 0), .int (fe_z 0), .int (fe_z 0), .int (fe_z 0), .int (fe_z 0), .int (fe_z 0), .int (fe_z 0), .int (fe_z 0), .int (fe_z 0), .int (fe_z 0)], fe_Q 12 (fun _ => none), fe_O 5 [.ref (b + 8), .ref (b + 9), .ref (b + 10)], fe_I 24 (fun _ => 0), fe_I 5 (fun _ => 0), fe_I 7 (fun _ => 0), fe_O 3 [.ref (b + 12), .int (fe_z 0)], fe_J 64 (fun _ => 0), fe_O 4 [.ref (b + 14), .int (fe_z 0), .int (fe_z 0), .int (fe_z 0), .int (fe_z 0), .int (fe_z (-1))], fe_I 60 (fun _ => 0), fe_O 7 [.int (fe_z 0), .null, .null, .null, .null, .null, .null, .null, .null, .null, .null, .null, .int (fe_z 0), .null, .null, .null, .null, .null, .int (fe_z 0), .int (fe_z 0), .null, .int (fe_z 0)]] 802) K := by
  rw [fe_e68_0]
  rw [fe_e68_1]
  rw [fe_e68_4]
  rw [fe_e68_5]
  rw [fe_e68_8]
  refine ⟨fe_ls_nw (Nat.le_of_ble_eq_true rfl) (Nat.le_of_ble_eq_true rfl), ?_⟩
  rw [fe_ls_add]
  show fe_WP E 68 10 _ (.ref (b + 16) :: _) (fe_ls b [fe_O 6 [.ref (b + 1), .ref (b + 6), .int (fe_z 0), .ref (b + 7), .ref (b + 11), .int (fe_z 0), .ref (b + 13)], fe_O 2 [.ref (b + 2), .ref (b + 3), .ref (b + 4), .ref (b + 5)], fe_Z 192 (fun _ => false), fe_Z 192 (fun _ => false), fe_Z 192 (fun _ => false), fe_O 0 [.int (fe_z 0), .int (fe_z 0), .int (fe_z 0), .int (fe_z 0), .int (fe_z 0), .int (fe_z 0), .int (fe_z 0), .int (fe_z 0), .int (fe_z 0), .int (fe_z 0)], fe_Q 12 (fun _ => none), fe_O 5 [.ref (b + 8), .ref (b + 9), .ref (b + 10)], fe_I 24 (fun _ => 0), fe_I 5 (fun _ => 0), fe_I 7 (fun _ => 0), fe_O 3 [.ref (b + 12), .int (fe_z 0)], fe_J 64 (fun _ => 0), fe_O 4 [.ref (b + 14), .int (fe_z 0), .int (fe_z 0), .int (fe_z 0), .int (fe_z 0), .int (fe_z (-1))], fe_I 60 (fun _ => 0), fe_O 7 [.int (fe_z 0), .null, .null, .null, .null, .null, .null, .null, .null, .null, .null, .null, .int (fe_z 0), .null, .null, .null, .null, .null, .int (fe_z 0), .int (fe_z 0), .null, .int (fe_z 0)], fe_Z 192 (fun _ => false)] 994) K
  rw [fe_e68_10]
  refine ⟨_, fe_ls_pf (k := 15) rfl, ?_⟩
  show fe_WP E 68 13 _ _ (fe_ls b [fe_O 6 [.ref (b + 1), .ref (b + 6), .int (fe_z 0), .ref (b + 7), .ref (b + 11), .int (fe_z 0), .ref (b + 13)], fe_O 2 [.ref (b + 2), .ref (b + 3), .ref (b + 4), .ref (b + 5)], fe_Z 192 (fun _ => false), fe_Z 192 (fun _ => false), fe_Z 192 (fun _ => false), fe_O 0 [.int (fe_z 0), .int (fe_z 0), .int (fe_z 0), .int (fe_z 0), .int (fe_z 0), .int (fe_z 0), .int (fe_z 0), .int (fe_z 0), .int (fe_z 0), .int (fe_z 0)], fe_Q 12 (fun _ => none), fe_O 5 [.ref (b + 8), .ref (b + 9), .ref (b + 10)], fe_I 24 (fun _ => 0), fe_I 5 (fun _ => 0), fe_I 7 (fun _ => 0), fe_O 3 [.ref (b + 12), .int (fe_z 0)], fe_J 64 (fun _ => 0), fe_O 4 [.ref (b + 14), .int (fe_z 0), .int (fe_z 0), .int (fe_z 0), .int (fe_z 0), .int (fe_z (-1))], fe_I 60 (fun _ => 0), fe_O 7 [.int (fe_z 0), .ref (b + 16), .null, .null, .null, .null, .null, .null, .null, .null, .null, .null, .int (fe_z 0), .null, .null, .null, .null, .null, .int (fe_z 0), .int (fe_z 0), .null, .int (fe_z 0)], fe_Z 192 (fun _ => false)] 994) K
  rw [fe_e68_13]
  rw [fe_e68_14]
  rw [fe_e68_17]
  refine ⟨fe_ls_nw (Nat.le_of_ble_eq_true rfl) (Nat.le_of_ble_eq_true rfl), ?_⟩
  rw [fe_ls_add]
  show fe_WP E 68 19 _ (.ref (b + 17) :: _) (fe_ls b [fe_O 6 [.ref (b + 1), .ref (b + 6), .int (fe_z 0), .ref (b + 7), .ref (b + 11), .int (fe_z 0), .ref (b + 13)], fe_O 2 [.ref (b + 2), .ref (b + 3), .ref (b + 4), .ref (b + 5)], fe_Z 192 (fun _ => false), fe_Z 192 (fun _ => false), fe_Z 192 (fun _ => false), fe_O 0 [.int (fe_z 0), .int (fe_z 0), .int (fe_z 0), .int (fe_z 0), .int (fe_z 0), .int (fe_z 0), .int (fe_z 0), .int (fe_z 0), .int (fe_z 0), .int (fe_z 0)], fe_Q 12 (fun _ => none), fe_O 5 [.ref (b + 8), .ref (b + 9), .ref (b + 10)], fe_I 24 (fun _ => 0), fe_I 5 (fun _ => 0), fe_I 7 (fun _ => 0), fe_O 3 [.ref (b + 12), .int (fe_z 0)], fe_J 64 (fun _ => 0), fe_O 4 [.ref (b + 14), .int (fe_z 0), .int (fe_z 0), .int (fe_z 0), .int (fe_z 0), .int (fe_z (-1))], fe_I 60 (fun _ => 0), fe_O 7 [.int (fe_z 0), .ref (b + 16), .null, .null, .null, .null, .null, .null, .null, .null, .null, .null, .int (fe_z 0), .null, .null, .null, .null, .null, .int (fe_z 0), .int (fe_z 0), .null, .int (fe_z 0)], fe_Z 192 (fun _ => false), fe_Z 192 (fun _ => false)] 1186) K
  rw [fe_e68_19]
  refine ⟨_, fe_ls_pf (k := 15) rfl, ?_⟩
  show fe_WP E 68 22 _ _ (fe_ls b [fe_O 6 [.ref (b + 1), .ref (b + 6), .int (fe_z 0), .ref (b + 7), .ref (b + 11), .int (fe_z 0), .ref (b + 13)], fe_O 2 [.ref (b + 2), .ref (b + 3), .ref (b + 4), .ref (b + 5)], fe_Z 192 (fun _ => false), fe_Z 192 (fun _ => false), fe_Z 192 (fun _ => false), fe_O 0 [.int (fe_z 0), .int (fe_z 0), .int (fe_z 0), .int (fe_z 0), .int (fe_z 0), .int (fe_z 0), .int (fe_z 0), .int (fe_z 0), .int (fe_z 0), .int (fe_z 0)], fe_Q 12 (fun _ => none), fe_O 5 [.ref (b + 8), .ref (b + 9), .ref (b + 10)], fe_I 24 (fun _ => 0), fe_I 5 (fun _ => 0), fe_I 7 (fun _ => 0), fe_O 3 [.ref (b + 12), .int (fe_z 0)], fe_J 64 (fun _ => 0), fe_O 4 [.ref (b + 14), .int (fe_z 0), .int (fe_z 0), .int (fe_z 0), .int (fe_z 0), .int (fe_z (-1))], fe_I 60 (fun _ => 0), fe_O 7 [.int (fe_z 0), .ref (b + 16), .ref (b + 17), .null, .null, .null, .null, .null, .null, .null, .null, .null, .int (fe_z 0), .null, .null, .null, .null, .null, .int (fe_z 0), .int (fe_z 0), .null, .int (fe_z 0)], fe_Z 192 (fun _ => false), fe_Z 192 (fun _ => false)] 1186) K
  rw [fe_e68_22]
  rw [fe_e68_23]
  rw [fe_e68_26]
  refine ⟨fe_ls_nw (Nat.le_of_ble_eq_true rfl) (Nat.le_of_ble_eq_true rfl), ?_⟩
  rw [fe_ls_add]
  show fe_WP E 68 28 _ (.ref (b + 18) :: _) (fe_ls b [fe_O 6 [.ref (b + 1), .ref (b + 6), .int (fe_z 0), .ref (b + 7), .ref (b + 11), .int (fe_z 0), .ref (b + 13)], fe_O 2 [.ref (b + 2), .ref (b + 3), .ref (b + 4), .ref (b + 5)], fe_Z 192 (fun _ => false), fe_Z 192 (fun _ => false), fe_Z 192 (fun _ => false), fe_O 0 [.int (fe_z 0), .int (fe_z 0), .int (fe_z 0), .int (fe_z 0), .int (fe_z 0), .int (fe_z 0), .int (fe_z 0), .int (fe_z 0), .int (fe_z 0), .int (fe_z 0)], fe_Q 12 (fun _ => none), fe_O 5 [.ref (b + 8), .ref (b + 9), .ref (b + 10)], fe_I 24 (fun _ => 0), fe_I 5 (fun _ => 0), fe_I 7 (fun _ => 0), fe_O 3 [.ref (b + 12), .int (fe_z 0)], fe_J 64 (fun _ => 0), fe_O 4 [.ref (b + 14), .int (fe_z 0), .int (fe_z 0), .int (fe_z 0), .int (fe_z 0), .int (fe_z (-1))], fe_I 60 (fun _ => 0), fe_O 7 [.int (fe_z 0), .ref (b + 16), .ref (b + 17), .null, .null, .null, .null, .null, .null, .null, .null, .null, .int (fe_z 0), .null, .null, .null, .null, .null, .int (fe_z 0), .int (fe_z 0), .null, .int (fe_z 0)], fe_Z 192 (fun _ => false), fe_Z 192 (fun _ => false), fe_Z 192 (fun _ => false)] 1378) K
  rw [fe_e68_28]
  refine ⟨_, fe_ls_pf (k := 15) rfl, ?_⟩
  show fe_WP E 68 31 _ _ (fe_ls b [fe_O 6 [.ref (b + 1), .ref (b + 6), .int (fe_z 0), .ref (b + 7), .ref (b + 11), .int (fe_z 0), .ref (b + 13)], fe_O 2 [.ref (b + 2), .ref (b + 3), .ref (b + 4), .ref (b + 5)], fe_Z 192 (fun _ => false), fe_Z 192 (fun _ => false), fe_Z 192 (fun _ => false), fe_O 0 [.int (fe_z 0), .int (fe_z 0), .int (fe_z 0), .int (fe_z 0), .int (fe_z 0), .int (fe_z 0), .int (fe_z 0), .int (fe_z 0), .int (fe_z 0), .int (fe_z 0)], fe_Q 12 (fun _ => none), fe_O 5 [.ref (b + 8), .ref (b + 9), .ref (b + 10)], fe_I 24 (fun _ => 0), fe_I 5 (fun _ => 0), fe_I 7 (fun _ => 0), fe_O 3 [.ref (b + 12), .int (fe_z 0)], fe_J 64 (fun _ => 0), fe_O 4 [.ref (b + 14), .int (fe_z 0), .int (fe_z 0), .int (fe_z 0), .int (fe_z 0), .int (fe_z (-1))], fe_I 60 (fun _ => 0), fe_O 7 [.int (fe_z 0), .ref (b + 16), .ref (b + 17), .ref (b + 18), .null, .null, .null, .null, .null, .null, .null, .null, .int (fe_z 0), .null, .null, .null, .null, .null, .int (fe_z 0), .int (fe_z 0), .null, .int (fe_z 0)], fe_Z 192 (fun _ => false), fe_Z 192 (fun _ => false), fe_Z 192 (fun _ => false)] 1378) K
  rw [fe_e68_31]
  rw [fe_e68_32]
  rw [fe_e68_34]
  refine ⟨fe_ls_nw (Nat.le_of_ble_eq_true rfl) (Nat.le_of_ble_eq_true rfl), ?_⟩
  rw [fe_ls_add]
  show fe_WP E 68 36 _ (.ref (b + 19) :: _) (fe_ls b [fe_O 6 [.ref (b + 1), .ref (b + 6), .int (fe_z 0), .ref (b + 7), .ref (b + 11), .int (fe_z 0), .ref (b + 13)], fe_O 2 [.ref (b + 2), .ref (b + 3), .ref (b + 4), .ref (b + 5)], fe_Z 192 (fun _ => false), fe_Z 192 (fun _ => false), fe_Z 192 (fun _ => false), fe_O 0 [.int (fe_z 0), .int (fe_z 0), .int (fe_z 0), .int (fe_z 0), .int (fe_z 0), .int (fe_z 0), .int (fe_z 0), .int (fe_z 0), .int (fe_z 0), .int (fe_z 0)], fe_Q 12 (fun _ => none), fe_O 5 [.ref (b + 8), .ref (b + 9), .ref (b + 10)], fe_I 24 (fun _ => 0), fe_I 5 (fun _ => 0), fe_I 7 (fun _ => 0), fe_O 3 [.ref (b + 12), .int (fe_z 0)], fe_J 64 (fun _ => 0), fe_O 4 [.ref (b + 14), .int (fe_z 0), .int (fe_z 0), .int (fe_z 0), .int (fe_z 0), .int (fe_z (-1))], fe_I 60 (fun _ => 0), fe_O 7 [.int (fe_z 0), .ref (b + 16), .ref (b + 17), .ref (b + 18), .null, .null, .null, .null, .null, .null, .null, .null, .int (fe_z 0), .null, .null, .null, .null, .null, .int (fe_z 0), .int (fe_z 0), .null, .int (fe_z 0)], fe_Z 192 (fun _ => false), fe_Z 192 (fun _ => false), fe_Z 192 (fun _ => false), fe_I 12 (fun _ => 0)] 1390) K
  rw [fe_e68_36]
  refine ⟨_, fe_ls_pf (k := 15) rfl, ?_⟩
  show fe_WP E 68 39 _ _ (fe_ls b [fe_O 6 [.ref (b + 1), .ref (b + 6), .int (fe_z 0), .ref (b + 7), .ref (b + 11), .int (fe_z 0), .ref (b + 13)], fe_O 2 [.ref (b + 2), .ref (b + 3), .ref (b + 4), .ref (b + 5)], fe_Z 192 (fun _ => false), fe_Z 192 (fun _ => false), fe_Z 192 (fun _ => false), fe_O 0 [.int (fe_z 0), .int (fe_z 0), .int (fe_z 0), .int (fe_z 0), .int (fe_z 0), .int (fe_z 0), .int (fe_z 0), .int (fe_z 0), .int (fe_z 0), .int (fe_z 0)], fe_Q 12 (fun _ => none), fe_O 5 [.ref (b + 8), .ref (b + 9), .ref (b + 10)], fe_I 24 (fun _ => 0), fe_I 5 (fun _ => 0), fe_I 7 (fun _ => 0), fe_O 3 [.ref (b + 12), .int (fe_z 0)], fe_J 64 (fun _ => 0), fe_O 4 [.ref (b + 14), .int (fe_z 0), .int (fe_z 0), .int (fe_z 0), .int (fe_z 0), .int (fe_z (-1))], fe_I 60 (fun _ => 0), fe_O 7 [.int (fe_z 0), .ref (b + 16), .ref (b + 17), .ref (b + 18), .ref (b + 19), .null, .null, .null, .null, .null, .null, .null, .int (fe_z 0), .null, .null, .null, .null, .null, .int (fe_z 0), .int (fe_z 0), .null, .int (fe_z 0)], fe_Z 192 (fun _ => false), fe_Z 192 (fun _ => false), fe_Z 192 (fun _ => false), fe_I 12 (fun _ => 0)] 1390) K
  rw [fe_e68_39]
  rw [fe_e68_40]
  rw [fe_e68_42]
  refine ⟨fe_ls_nw (Nat.le_of_ble_eq_true rfl) (Nat.le_of_ble_eq_true rfl), ?_⟩
  rw [fe_ls_add]
  show fe_WP E 68 44 _ (.ref (b + 20) :: _) (fe_ls b [fe_O 6 [.ref (b + 1), .ref (b + 6), .int (fe_z 0), .ref (b + 7), .ref (b + 11), .int (fe_z 0), .ref (b + 13)], fe_O 2 [.ref (b + 2), .ref (b + 3), .ref (b + 4), .ref (b + 5)], fe_Z 192 (fun _ => false), fe_Z 192 (fun _ => false), fe_Z 192 (fun _ => false), fe_O 0 [.int (fe_z 0), .int (fe_z 0), .int (fe_z 0), .int (fe_z 0), .int (fe_z 0), .int (fe_z 0), .int (fe_z 0), .int (fe_z 0), .int (fe_z 0), .int (fe_z 0)], fe_Q 12 (fun _ => none), fe_O 5 [.ref (b + 8), .ref (b + 9), .ref (b + 10)], fe_I 24 (fun _ => 0), fe_I 5 (fun _ => 0), fe_I 7 (fun _ => 0), fe_O 3 [.ref (b + 12), .int (fe_z 0)], fe_J 64 (fun _ => 0), fe_O 4 [.ref (b + 14), .int (fe_z 0), .int (fe_z 0), .int (fe_z 0), .int (fe_z 0), .int (fe_z (-1))], fe_I 60 (fun _ => 0), fe_O 7 [.int (fe_z 0), .ref (b + 16), .ref (b + 17), .ref (b + 18), .ref (b + 19), .null, .null, .null, .null, .null, .null, .null, .int (fe_z 0), .null, .null, .null, .null, .null, .int (fe_z 0), .int (fe_z 0), .null, .int (fe_z 0)], fe_Z 192 (fun _ => false), fe_Z 192 (fun _ => false), fe_Z 192 (fun _ => false), fe_I 12 (fun _ => 0), fe_I 12 (fun _ => 0)] 1402) K
  rw [fe_e68_44]
  refine ⟨_, fe_ls_pf (k := 15) rfl, ?_⟩
  show fe_WP E 68 47 _ _ (fe_ls b [fe_O 6 [.ref (b + 1), .ref (b + 6), .int (fe_z 0), .ref (b + 7), .ref (b + 11), .int (fe_z 0), .ref (b + 13)], fe_O 2 [.ref (b + 2), .ref (b + 3), .ref (b + 4), .ref (b + 5)], fe_Z 192 (fun _ => false), fe_Z 192 (fun _ => false), fe_Z 192 (fun _ => false), fe_O 0 [.int (fe_z 0), .int (fe_z 0), .int (fe_z 0), .int (fe_z 0), .int (fe_z 0), .int (fe_z 0), .int (fe_z 0), .int (fe_z 0), .int (fe_z 0), .int (fe_z 0)], fe_Q 12 (fun _ => none), fe_O 5 [.ref (b + 8), .ref (b + 9), .ref (b + 10)], fe_I 24 (fun _ => 0), fe_I 5 (fun _ => 0), fe_I 7 (fun _ => 0), fe_O 3 [.ref (b + 12), .int (fe_z 0)], fe_J 64 (fun _ => 0), fe_O 4 [.ref (b + 14), .int (fe_z 0), .int (fe_z 0), .int (fe_z 0), .int (fe_z 0), .int (fe_z (-1))], fe_I 60 (fun _ => 0), fe_O 7 [.int (fe_z 0), .ref (b + 16), .ref (b + 17), .ref (b + 18), .ref (b + 19), .ref (b + 20), .null, .null, .null, .null, .null, .null, .int (fe_z 0), .null, .null, .null, .null, .null, .int (fe_z 0), .int (fe_z 0), .null, .int (fe_z 0)], fe_Z 192 (fun _ => false), fe_Z 192 (fun _ => false), fe_Z 192 (fun _ => false), fe_I 12 (fun _ => 0), fe_I 12 (fun _ => 0)] 1402) K
  rw [fe_e68_47]
  rw [fe_e68_48]
  rw [fe_e68_50]
  refine ⟨fe_ls_nw (Nat.le_of_ble_eq_true rfl) (Nat.le_of_ble_eq_true rfl), ?_⟩
  rw [fe_ls_add]
  show fe_WP E 68 52 _ (.ref (b + 21) :: _) (fe_ls b [fe_O 6 [.ref (b + 1), .ref (b + 6), .int (fe_z 0), .ref (b + 7), .ref (b + 11), .int (fe_z 0), .ref (b + 13)], fe_O 2 [.ref (b + 2), .ref (b + 3), .ref (b + 4), .ref (b + 5)], fe_Z 192 (fun _ => false), fe_Z 192 (fun _ => false), fe_Z 192 (fun _ => false), fe_O 0 [.int (fe_z 0), .int (fe_z 0), .int (fe_z 0), .int (fe_z 0), .int (fe_z 0), .int (fe_z 0), .int (fe_z 0), .int (fe_z 0), .int (fe_z 0), .int (fe_z 0)], fe_Q 12 (fun _ => none), fe_O 5 [.ref (b + 8), .ref (b + 9), .ref (b + 10)], fe_I 24 (fun _ => 0), fe_I 5 (fun _ => 0), fe_I 7 (fun _ => 0), fe_O 3 [.ref (b + 12), .int (fe_z 0)], fe_J 64 (fun _ => 0), fe_O 4 [.ref (b + 14), .int (fe_z 0), .int (fe_z 0), .int (fe_z 0), .int (fe_z 0), .int (fe_z (-1))], fe_I 60 (fun _ => 0), fe_O 7 [.int (fe_z 0), .ref (b + 16), .ref (b + 17), .ref (b + 18), .ref (b + 19), .ref (b + 20), .null, .null, .null, .null, .null, .null, .int (fe_z 0), .null, .null, .null, .null, .null, .int (fe_z 0), .int (fe_z 0), .null, .int (fe_z 0)], fe_Z 192 (fun _ => false), fe_Z 192 (fun _ => false), fe_Z 192 (fun _ => false), fe_I 12 (fun _ => 0), fe_I 12 (fun _ => 0), fe_I 12 (fun _ => 0)] 1414) K
  rw [fe_e68_52]
  refine ⟨_, fe_ls_pf (k := 15) rfl, ?_⟩
  show fe_WP E 68 55 _ _ (fe_ls b [fe_O 6 [.ref (b + 1), .ref (b + 6), .int (fe_z 0), .ref (b + 7), .ref (b + 11), .int (fe_z 0), .ref (b + 13)], fe_O 2 [.ref (b + 2), .ref (b + 3), .ref (b + 4), .ref (b + 5)], fe_Z 192 (fun _ => false), fe_Z 192 (fun _ => false), fe_Z 192 (fun _ => false), fe_O 0 [.int (fe_z 0), .int (fe_z 0), .int (fe_z 0), .int (fe_z 0), .int (fe_z 0), .int (fe_z 0), .int (fe_z 0), .int (fe_z 0), .int (fe_z 0), .int (fe_z 0)], fe_Q 12 (fun _ => none), fe_O 5 [.ref (b + 8), .ref (b + 9), .ref (b + 10)], fe_I 24 (fun _ => 0), fe_I 5 (fun _ => 0), fe_I 7 (fun _ => 0), fe_O 3 [.ref (b + 12), .int (fe_z 0)], fe_J 64 (fun _ => 0), fe_O 4 [.ref (b + 14), .int (fe_z 0), .int (fe_z 0), .int (fe_z 0), .int (fe_z 0), .int (fe_z (-1))], fe_I 60 (fun _ => 0), fe_O 7 [.int (fe_z 0), .ref (b + 16), .ref (b + 17), .ref (b + 18), .ref (b + 19), .ref (b + 20), .ref (b + 21), .null, .null, .null, .null, .null, .int (fe_z 0), .null, .null, .null, .null, .null, .int (fe_z 0), .int (fe_z 0), .null, .int (fe_z 0)], fe_Z 192 (fun _ => false), fe_Z 192 (fun _ => false), fe_Z 192 (fun _ => false), fe_I 12 (fun _ => 0), fe_I 12 (fun _ => 0), fe_I 12 (fun _ => 0)] 1414) K
  rw [fe_e68_55]
  rw [fe_e68_56]
  rw [fe_e68_58]
  refine ⟨fe_ls_nw (Nat.le_of_ble_eq_true rfl) (Nat.le_of_ble_eq_true rfl), ?_⟩
  rw [fe_ls_add]
  show fe_WP E 68 60 _ (.ref (b + 22) :: _) (fe_ls b [fe_O 6 [.ref (b + 1), .ref (b + 6), .int (fe_z 0), .ref (b + 7), .ref (b + 11), .int (fe_z 0), .ref (b + 13)], fe_O 2 [.ref (b + 2), .ref (b + 3), .ref (b + 4), .ref (b + 5)], fe_Z 192 (fun _ => false), fe_Z 192 (fun _ => false), fe_Z 192 (fun _ => false), fe_O 0 [.int (fe_z 0), .int (fe_z 0), .int (fe_z 0), .int (fe_z 0), .int (fe_z 0), .int (fe_z 0), .int (fe_z 0), .int (fe_z 0), .int (fe_z 0), .int (fe_z 0)], fe_Q 12 (fun _ => none), fe_O 5 [.ref (b + 8), .ref (b + 9), .ref (b + 10)], fe_I 24 (fun _ => 0), fe_I 5 (fun _ => 0), fe_I 7 (fun _ => 0), fe_O 3 [.ref (b + 12), .int (fe_z 0)], fe_J 64 (fun _ => 0), fe_O 4 [.ref (b + 14), .int (fe_z 0), .int (fe_z 0), .int (fe_z 0), .int (fe_z 0), .int (fe_z (-1))], fe_I 60 (fun _ => 0), fe_O 7 [.int (fe_z 0), .ref (b + 16), .ref (b + 17), .ref (b + 18), .ref (b + 19), .ref (b + 20), .ref (b + 21), .null, .null, .null, .null, .null, .int (fe_z 0), .null, .null, .null, .null, .null, .int (fe_z 0), .int (fe_z 0), .null, .int (fe_z 0)], fe_Z 192 (fun _ => false), fe_Z 192 (fun _ => false), fe_Z 192 (fun _ => false), fe_I 12 (fun _ => 0), fe_I 12 (fun _ => 0), fe_I 12 (fun _ => 0), fe_I 12 (fun _ => 0)] 1426) K
  rw [fe_e68_60]
  refine ⟨_, fe_ls_pf (k := 15) rfl, ?_⟩
  show fe_WP E 68 63 _ _ (fe_ls b [fe_O 6 [.ref (b + 1), .ref (b + 6), .int (fe_z 0), .ref (b + 7), .ref (b + 11), .int (fe_z 0), .ref (b + 13)], fe_O 2 [.ref (b + 2), .ref (b + 3), .ref (b + 4), .ref (b + 5)], fe_Z 192 (fun _ => false), fe_Z 192 (fun _ => false), fe_Z 192 (fun _ => false), fe_O 0 [.int (fe_z 0), .int (fe_z 0), .int (fe_z 0), .int (fe_z 0), .int (fe_z 0), .int (fe_z 0), .int (fe_z 0), .int (fe_z 0), .int (fe_z 0), .int (fe_z 0)], fe_Q 12 (fun _ => none), fe_O 5 [.ref (b + 8), .ref (b + 9), .ref (b + 10)], fe_I 24 (fun _ => 0), fe_I 5 (fun _ => 0), fe_I 7 (fun _ => 0), fe_O 3 [.ref (b + 12), .int (fe_z 0)], fe_J 64 (fun _ => 0), fe_O 4 [.ref (b + 14), .int (fe_z 0), .int (fe_z 0), .int (fe_z 0), .int (fe_z 0), .int (fe_z (-1))], fe_I 60 (fun _ => 0), fe_O 7 [.int (fe_z 0), .ref (b + 16), .ref (b + 17), .ref (b + 18), .ref (b + 19), .ref (b + 20), .ref (b + 21), .ref (b + 22), .null, .null, .null, .null, .int (fe_z 0), .null, .null, .null, .null, .null, .int (fe_z 0), .int (fe_z 0), .null, .int (fe_z 0)], fe_Z 192 (fun _ => false), fe_Z 192 (fun _ => false), fe_Z 192 (fun _ => false), fe_I 12 (fun _ => 0), fe_I 12 (fun _ => 0), fe_I 12 (fun _ => 0), fe_I 12 (fun _ => 0)] 1426) K
  rw [fe_e68_63]
  rw [fe_e68_64]
  rw [fe_e68_66]
  refine ⟨fe_ls_nw (Nat.le_of_ble_eq_true rfl) (Nat.le_of_ble_eq_true rfl), ?_⟩
  rw [fe_ls_add]
  show fe_WP E 68 68 _ (.ref (b + 23) :: _) (fe_ls b [fe_O 6 [.ref (b + 1), .ref (b + 6), .int (fe_z 0), .ref (b + 7), .ref (b + 11), .int (fe_z 0), .ref (b + 13)], fe_O 2 [.ref (b + 2), .ref (b + 3), .ref (b + 4), .ref (b + 5)], fe_Z 192 (fun _ => false), fe_Z 192 (fun _ => false), fe_Z 192 (fun _ => false), fe_O 0 [.int (fe_z 0), .int (fe_z 0), .int (fe_z 0), .int (fe_z 0), .int (fe_z 0), .int (fe_z 0), .int (fe_z 0), .int (fe_z 0), .int (fe_z 0), .int (fe_z 0)], fe_Q 12 (fun _ => none), fe_O 5 [.ref (b + 8), .ref (b + 9), .ref (b + 10)], fe_I 24 (fun _ => 0), fe_I 5 (fun _ => 0), fe_I 7 (fun _ => 0), fe_O 3 [.ref (b + 12), .int (fe_z 0)], fe_J 64 (fun _ => 0), fe_O 4 [.ref (b + 14), .int (fe_z 0), .int (fe_z 0), .int (fe_z 0), .int (fe_z 0), .int (fe_z (-1))], fe_I 60 (fun _ => 0), fe_O 7 [.int (fe_z 0), .ref (b + 16), .ref (b + 17), .ref (b + 18), .ref (b + 19), .ref (b + 20), .ref (b + 21), .ref (b + 22), .null, .null, .null, .null, .int (fe_z 0), .null, .null, .null, .null, .null, .int (fe_z 0), .int (fe_z 0), .null, .int (fe_z 0)], fe_Z 192 (fun _ => false), fe_Z 192 (fun _ => false), fe_Z 192 (fun _ => false), fe_I 12 (fun _ => 0), fe_I 12 (fun _ => 0), fe_I 12 (fun _ => 0), fe_I 12 (fun _ => 0), fe_Z 12 (fun _ => false)] 1438) K
  rw [fe_e68_68]
  refine ⟨_, fe_ls_pf (k := 15) rfl, ?_⟩
  show fe_WP E 68 71 _ _ (fe_ls b [fe_O 6 [.ref (b + 1), .ref (b + 6), .int (fe_z 0), .ref (b + 7), .ref (b + 11), .int (fe_z 0), .ref (b + 13)], fe_O 2 [.ref (b + 2), .ref (b + 3), .ref (b + 4), .ref (b + 5)], fe_Z 192 (fun _ => false), fe_Z 192 (fun _ => false), fe_Z 192 (fun _ => false), fe_O 0 [.int (fe_z 0), .int (fe_z 0), .int (fe_z 0), .int (fe_z 0), .int (fe_z 0), .int (fe_z 0), .int (fe_z 0), .int (fe_z 0), .int (fe_z 0), .int (fe_z 0)], fe_Q 12 (fun _ => none), fe_O 5 [.ref (b + 8), .ref (b + 9), .ref (b + 10)], fe_I 24 (fun _ => 0), fe_I 5 (fun _ => 0), fe_I 7 (fun _ => 0), fe_O 3 [.ref (b + 12), .int (fe_z 0)], fe_J 64 (fun _ => 0), fe_O 4 [.ref (b + 14), .int (fe_z 0), .int (fe_z 0), .int (fe_z 0), .int (fe_z 0), .int (fe_z (-1))], fe_I 60 (fun _ => 0), fe_O 7 [.int (fe_z 0), .ref (b + 16), .ref (b + 17), .ref (b + 18), .ref (b + 19), .ref (b + 20), .ref (b + 21), .ref (b + 22), .ref (b + 23), .null, .null, .null, .int (fe_z 0), .null, .null, .null, .null, .null, .int (fe_z 0), .int (fe_z 0), .null, .int (fe_z 0)], fe_Z 192 (fun _ => false), fe_Z 192 (fun _ => false), fe_Z 192 (fun _ => false), fe_I 12 (fun _ => 0), fe_I 12 (fun _ => 0), fe_I 12 (fun _ => 0), fe_I 12 (fun _ => 0), fe_Z 12 (fun _ => false)] 1438) K
  rw [fe_e68_71]
  rw [fe_e68_72]
  rw [fe_e68_74]
  refine ⟨fe_ls_nw (Nat.le_of_ble_eq_true rfl) (Nat.le_of_ble_eq_true rfl), ?_⟩
  rw [fe_ls_add]
  show fe_WP E 68 76 _ (.ref (b + 24) :: _) (fe_ls b [fe_O 6 [.ref (b + 1), .ref (b + 6), .int (fe_z 0), .ref (b + 7), .ref (b + 11), .int (fe_z 0), .ref (b + 13)], fe_O 2 [.ref (b + 2), .ref (b + 3), .ref (b + 4), .ref (b + 5)], fe_Z 192 (fun _ => false), fe_Z 192 (fun _ => false), fe_Z 192 (fun _ => false), fe_O 0 [.int (fe_z 0), .int (fe_z 0), .int (fe_z 0), .int (fe_z 0), .int (fe_z 0), .int (fe_z 0), .int (fe_z 0), .int (fe_z 0), .int (fe_z 0), .int (fe_z 0)], fe_Q 12 (fun _ => none), fe_O 5 [.ref (b + 8), .ref (b + 9), .ref (b + 10)], fe_I 24 (fun _ => 0), fe_I 5 (fun _ => 0), fe_I 7 (fun _ => 0), fe_O 3 [.ref (b + 12), .int (fe_z 0)], fe_J 64 (fun _ => 0), fe_O 4 [.ref (b + 14), .int (fe_z 0), .int (fe_z 0), .int (fe_z 0), .int (fe_z 0), .int (fe_z (-1))], fe_I 60 (fun _ => 0), fe_O 7 [.int (fe_z 0), .ref (b + 16), .ref (b + 17), .ref (b + 18), .ref (b + 19), .ref (b + 20), .ref (b + 21), .ref (b + 22), .ref (b + 23), .null, .null, .null, .int (fe_z 0), .null, .null, .null, .null, .null, .int (fe_z 0), .int (fe_z 0), .null, .int (fe_z 0)], fe_Z 192 (fun _ => false), fe_Z 192 (fun _ => false), fe_Z 192 (fun _ => false), fe_I 12 (fun _ => 0), fe_I 12 (fun _ => 0), fe_I 12 (fun _ => 0), fe_I 12 (fun _ => 0), fe_Z 12 (fun _ => false), fe_I 96 (fun _ => 0)] 1534) K
  rw [fe_e68_76]
  refine ⟨_, fe_ls_pf (k := 15) rfl, ?_⟩
  show fe_WP E 68 79 _ _ (fe_ls b [fe_O 6 [.ref (b + 1), .ref (b + 6), .int (fe_z 0), .ref (b + 7), .ref (b + 11), .int (fe_z 0), .ref (b + 13)], fe_O 2 [.ref (b + 2), .ref (b + 3), .ref (b + 4), .ref (b + 5)], fe_Z 192 (fun _ => false), fe_Z 192 (fun _ => false), fe_Z 192 (fun _ => false), fe_O 0 [.int (fe_z 0), .int (fe_z 0), .int (fe_z 0), .int (fe_z 0), .int (fe_z 0), .int (fe_z 0), .int (fe_z 0), .int (fe_z 0), .int (fe_z 0), .int (fe_z 0)], fe_Q 12 (fun _ => none), fe_O 5 [.ref (b + 8), .ref (b + 9), .ref (b + 10)], fe_I 24 (fun _ => 0), fe_I 5 (fun _ => 0), fe_I 7 (fun _ => 0), fe_O 3 [.ref (b + 12), .int (fe_z 0)], fe_J 64 (fun _ => 0), fe_O 4 [.ref (b + 14), .int (fe_z 0), .int (fe_z 0), .int (fe_z 0), .int (fe_z 0), .int (fe_z (-1))], fe_I 60 (fun _ => 0), fe_O 7 [.int (fe_z 0), .ref (b + 16), .ref (b + 17), .ref (b + 18), .ref (b + 19), .ref (b + 20), .ref (b + 21), .ref (b + 22), .ref (b + 23), .ref (b + 24), .null, .null, .int (fe_z 0), .null, .null, .null, .null, .null, .int (fe_z 0), .int (fe_z 0), .null, .int (fe_z 0)], fe_Z 192 (fun _ => false), fe_Z 192 (fun _ => false), fe_Z 192 (fun _ => false), fe_I 12 (fun _ => 0), fe_I 12 (fun _ => 0), fe_I 12 (fun _ => 0), fe_I 12 (fun _ => 0), fe_Z 12 (fun _ => false), fe_I 96 (fun _ => 0)] 1534) K
  rw [fe_e68_79]
  rw [fe_e68_80]
  rw [fe_e68_82]
  refine ⟨fe_ls_nw (Nat.le_of_ble_eq_true rfl) (Nat.le_of_ble_eq_true rfl), ?_⟩
  rw [fe_ls_add]
  show fe_WP E 68 84 _ (.ref (b + 25) :: _) (fe_ls b [fe_O 6 [.ref (b + 1), .ref (b + 6), .int (fe_z 0), .ref (b + 7), .ref (b + 11), .int (fe_z 0), .ref (b + 13)], fe_O 2 [.ref (b + 2), .ref (b + 3), .ref (b + 4), .ref (b + 5)], fe_Z 192 (fun _ => false), fe_Z 192 (fun _ => false), fe_Z 192 (fun _ => false), fe_O 0 [.int (fe_z 0), .int (fe_z 0), .int (fe_z 0), .int (fe_z 0), .int (fe_z 0), .int (fe_z 0), .int (fe_z 0), .int (fe_z 0), .int (fe_z 0), .int (fe_z 0)], fe_Q 12 (fun _ => none), fe_O 5 [.ref (b + 8), .ref (b + 9), .ref (b + 10)], fe_I 24 (fun _ => 0), fe_I 5 (fun _ => 0), fe_I 7 (fun _ => 0), fe_O 3 [.ref (b + 12), .int (fe_z 0)], fe_J 64 (fun _ => 0), fe_O 4 [.ref (b + 14), .int (fe_z 0), .int (fe_z 0), .int (fe_z 0), .int (fe_z 0), .int (fe_z (-1))], fe_I 60 (fun _ => 0), fe_O 7 [.int (fe_z 0), .ref (b + 16), .ref (b + 17), .ref (b + 18), .ref (b + 19), .ref (b + 20), .ref (b + 21), .ref (b + 22), .ref (b + 23), .ref (b + 24), .null, .null, .int (fe_z 0), .null, .null, .null, .null, .null, .int (fe_z 0), .int (fe_z 0), .null, .int (fe_z 0)], fe_Z 192 (fun _ => false), fe_Z 192 (fun _ => false), fe_Z 192 (fun _ => false), fe_I 12 (fun _ => 0), fe_I 12 (fun _ => 0), fe_I 12 (fun _ => 0), fe_I 12 (fun _ => 0), fe_Z 12 (fun _ => false), fe_I 96 (fun _ => 0), fe_I 12 (fun _ => 0)] 1546) K
  rw [fe_e68_84]
  refine ⟨_, fe_ls_pf (k := 15) rfl, ?_⟩
  show fe_WP E 68 87 _ _ (fe_ls b [fe_O 6 [.ref (b + 1), .ref (b + 6), .int (fe_z 0), .ref (b + 7), .ref (b + 11), .int (fe_z 0), .ref (b + 13)], fe_O 2 [.ref (b + 2), .ref (b + 3), .ref (b + 4), .ref (b + 5)], fe_Z 192 (fun _ => false), fe_Z 192 (fun _ => false), fe_Z 192 (fun _ => false), fe_O 0 [.int (fe_z 0), .int (fe_z 0), .int (fe_z 0), .int (fe_z 0), .int (fe_z 0), .int (fe_z 0), .int (fe_z 0), .int (fe_z 0), .int (fe_z 0), .int (fe_z 0)], fe_Q 12 (fun _ => none), fe_O 5 [.ref (b + 8), .ref (b + 9), .ref (b + 10)], fe_I 24 (fun _ => 0), fe_I 5 (fun _ => 0), fe_I 7 (fun _ => 0), fe_O 3 [.ref (b + 12), .int (fe_z 0)], fe_J 64 (fun _ => 0), fe_O 4 [.ref (b + 14), .int (fe_z 0), .int (fe_z 0), .int (fe_z 0), .int (fe_z 0), .int (fe_z (-1))], fe_I 60 (fun _ => 0), fe_O 7 [.int (fe_z 0), .ref (b + 16), .ref (b + 17), .ref (b + 18), .ref (b + 19), .ref (b + 20), .ref (b + 21), .ref (b + 22), .ref (b + 23), .ref (b + 24), .ref (b + 25), .null, .int (fe_z 0), .null, .null, .null, .null, .null, .int (fe_z 0), .int (fe_z 0), .null, .int (fe_z 0)], fe_Z 192 (fun _ => false), fe_Z 192 (fun _ => false), fe_Z 192 (fun _ => false), fe_I 12 (fun _ => 0), fe_I 12 (fun _ => 0), fe_I 12 (fun _ => 0), fe_I 12 (fun _ => 0), fe_Z 12 (fun _ => false), fe_I 96 (fun _ => 0), fe_I 12 (fun _ => 0)] 1546) K
  rw [fe_e68_87]
  rw [fe_e68_88]
  rw [fe_e68_91]
  refine ⟨fe_ls_nw (Nat.le_of_ble_eq_true rfl) (Nat.le_of_ble_eq_true rfl), ?_⟩
  rw [fe_ls_add]
  show fe_WP E 68 93 _ (.ref (b + 26) :: _) (fe_ls b [fe_O 6 [.ref (b + 1), .ref (b + 6), .int (fe_z 0), .ref (b + 7), .ref (b + 11), .int (fe_z 0), .ref (b + 13)], fe_O 2 [.ref (b + 2), .ref (b + 3), .ref (b + 4), .ref (b + 5)], fe_Z 192 (fun _ => false), fe_Z 192 (fun _ => false), fe_Z 192 (fun _ => false), fe_O 0 [.int (fe_z 0), .int (fe_z 0), .int (fe_z 0), .int (fe_z 0), .int (fe_z 0), .int (fe_z 0), .int (fe_z 0), .int (fe_z 0), .int (fe_z 0), .int (fe_z 0)], fe_Q 12 (fun _ => none), fe_O 5 [.ref (b + 8), .ref (b + 9), .ref (b + 10)], fe_I 24 (fun _ => 0), fe_I 5 (fun _ => 0), fe_I 7 (fun _ => 0), fe_O 3 [.ref (b + 12), .int (fe_z 0)], fe_J 64 (fun _ => 0), fe_O 4 [.ref (b + 14), .int (fe_z 0), .int (fe_z 0), .int (fe_z 0), .int (fe_z 0), .int (fe_z (-1))], fe_I 60 (fun _ => 0), fe_O 7 [.int (fe_z 0), .ref (b + 16), .ref (b + 17), .ref (b + 18), .ref (b + 19), .ref (b + 20), .ref (b + 21), .ref (b + 22), .ref (b + 23), .ref (b + 24), .ref (b + 25), .null, .int (fe_z 0), .null, .null, .null, .null, .null, .int (fe_z 0), .int (fe_z 0), .null, .int (fe_z 0)], fe_Z 192 (fun _ => false), fe_Z 192 (fun _ => false), fe_Z 192 (fun _ => false), fe_I 12 (fun _ => 0), fe_I 12 (fun _ => 0), fe_I 12 (fun _ => 0), fe_I 12 (fun _ => 0), fe_Z 12 (fun _ => false), fe_I 96 (fun _ => 0), fe_I 12 (fun _ => 0), fe_Z 2304 (fun _ => false)] 3850) K
  rw [fe_e68_93]
  refine ⟨_, fe_ls_pf (k := 15) rfl, ?_⟩
  show fe_WP E 68 96 _ _ (fe_ls b [fe_O 6 [.ref (b + 1), .ref (b + 6), .int (fe_z 0), .ref (b + 7), .ref (b + 11), .int (fe_z 0), .ref (b + 13)], fe_O 2 [.ref (b + 2), .ref (b + 3), .ref (b + 4), .ref (b + 5)], fe_Z 192 (fun _ => false), fe_Z 192 (fun _ => false), fe_Z 192 (fun _ => false), fe_O 0 [.int (fe_z 0), .int (fe_z 0), .int (fe_z 0), .int (fe_z 0), .int (fe_z 0), .int (fe_z 0), .int (fe_z 0), .int (fe_z 0), .int (fe_z 0), .int (fe_z 0)], fe_Q 12 (fun _ => none), fe_O 5 [.ref (b + 8), .ref (b + 9), .ref (b + 10)], fe_I 24 (fun _ => 0), fe_I 5 (fun _ => 0), fe_I 7 (fun _ => 0), fe_O 3 [.ref (b + 12), .int (fe_z 0)], fe_J 64 (fun _ => 0), fe_O 4 [.ref (b + 14), .int (fe_z 0), .int (fe_z 0), .int (fe_z 0), .int (fe_z 0), .int (fe_z (-1))], fe_I 60 (fun _ => 0), fe_O 7 [.int (fe_z 0), .ref (b + 16), .ref (b + 17), .ref (b + 18), .ref (b + 19), .ref (b + 20), .ref (b + 21), .ref (b + 22), .ref (b + 23), .ref (b + 24), .ref (b + 25), .ref (b + 26), .int (fe_z 0), .null, .null, .null, .null, .null, .int (fe_z 0), .int (fe_z 0), .null, .int (fe_z 0)], fe_Z 192 (fun _ => false), fe_Z 192 (fun _ => false), fe_Z 192 (fun _ => false), fe_I 12 (fun _ => 0), fe_I 12 (fun _ => 0), fe_I 12 (fun _ => 0), fe_I 12 (fun _ => 0), fe_Z 12 (fun _ => false), fe_I 96 (fun _ => 0), fe_I 12 (fun _ => 0), fe_Z 2304 (fun _ => false)] 3850) K
  rw [fe_e68_96]
  rw [fe_e68_97]
  rw [fe_e68_98]
  refine ⟨fe_ls_nw (Nat.le_of_ble_eq_true rfl) (Nat.le_of_ble_eq_true rfl), ?_⟩
  rw [fe_ls_add]
  show fe_WP E 68 100 _ (.ref (b + 27) :: _) (fe_ls b [fe_O 6 [.ref (b + 1), .ref (b + 6), .int (fe_z 0), .ref (b + 7), .ref (b + 11), .int (fe_z 0), .ref (b + 13)], fe_O 2 [.ref (b + 2), .ref (b + 3), .ref (b + 4), .ref (b + 5)], fe_Z 192 (fun _ => false), fe_Z 192 (fun _ => false), fe_Z 192 (fun _ => false), fe_O 0 [.int (fe_z 0), .int (fe_z 0), .int (fe_z 0), .int (fe_z 0), .int (fe_z 0), .int (fe_z 0), .int (fe_z 0), .int (fe_z 0), .int (fe_z 0), .int (fe_z 0)], fe_Q 12 (fun _ => none), fe_O 5 [.ref (b + 8), .ref (b + 9), .ref (b + 10)], fe_I 24 (fun _ => 0), fe_I 5 (fun _ => 0), fe_I 7 (fun _ => 0), fe_O 3 [.ref (b + 12), .int (fe_z 0)], fe_J 64 (fun _ => 0), fe_O 4 [.ref (b + 14), .int (fe_z 0), .int (fe_z 0), .int (fe_z 0), .int (fe_z 0), .int (fe_z (-1))], fe_I 60 (fun _ => 0), fe_O 7 [.int (fe_z 0), .ref (b + 16), .ref (b + 17), .ref (b + 18), .ref (b + 19), .ref (b + 20), .ref (b + 21), .ref (b + 22), .ref (b + 23), .ref (b + 24), .ref (b + 25), .ref (b + 26), .int (fe_z 0), .null, .null, .null, .null, .null, .int (fe_z 0), .int (fe_z 0), .null, .int (fe_z 0)], fe_Z 192 (fun _ => false), fe_Z 192 (fun _ => false), fe_Z 192 (fun _ => false), fe_I 12 (fun _ => 0), fe_I 12 (fun _ => 0), fe_I 12 (fun _ => 0), fe_I 12 (fun _ => 0), fe_Z 12 (fun _ => false), fe_I 96 (fun _ => 0), fe_I 12 (fun _ => 0), fe_Z 2304 (fun _ => false), fe_I 5 (fun _ => 0)] 3855) K
  rw [fe_e68_100]
  refine ⟨_, fe_ls_pf (k := 15) rfl, ?_⟩
  show fe_WP E 68 103 _ _ (fe_ls b [fe_O 6 [.ref (b + 1), .ref (b + 6), .int (fe_z 0), .ref (b + 7), .ref (b + 11), .int (fe_z 0), .ref (b + 13)], fe_O 2 [.ref (b + 2), .ref (b + 3), .ref (b + 4), .ref (b + 5)], fe_Z 192 (fun _ => false), fe_Z 192 (fun _ => false), fe_Z 192 (fun _ => false), fe_O 0 [.int (fe_z 0), .int (fe_z 0), .int (fe_z 0), .int (fe_z 0), .int (fe_z 0), .int (fe_z 0), .int (fe_z 0), .int (fe_z 0), .int (fe_z 0), .int (fe_z 0)], fe_Q 12 (fun _ => none), fe_O 5 [.ref (b + 8), .ref (b + 9), .ref (b + 10)], fe_I 24 (fun _ => 0), fe_I 5 (fun _ => 0), fe_I 7 (fun _ => 0), fe_O 3 [.ref (b + 12), .int (fe_z 0)], fe_J 64 (fun _ => 0), fe_O 4 [.ref (b + 14), .int (fe_z 0), .int (fe_z 0), .int (fe_z 0), .int (fe_z 0), .int (fe_z (-1))], fe_I 60 (fun _ => 0), fe_O 7 [.int (fe_z 0), .ref (b + 16), .ref (b + 17), .ref (b + 18), .ref (b + 19), .ref (b + 20), .ref (b + 21), .ref (b + 22), .ref (b + 23), .ref (b + 24), .ref (b + 25), .ref (b + 26), .int (fe_z 0), .ref (b + 27), .null, .null, .null, .null, .int (fe_z 0), .int (fe_z 0), .null, .int (fe_z 0)], fe_Z 192 (fun _ => false), fe_Z 192 (fun _ => false), fe_Z 192 (fun _ => false), fe_I 12 (fun _ => 0), fe_I 12 (fun _ => 0), fe_I 12 (fun _ => 0), fe_I 12 (fun _ => 0), fe_Z 12 (fun _ => false), fe_I 96 (fun _ => 0), fe_I 12 (fun _ => 0), fe_Z 2304 (fun _ => false), fe_I 5 (fun _ => 0)] 3855) K
  rw [fe_e68_103]
  rw [fe_e68_104]
  rw [fe_e68_105]
  refine ⟨fe_ls_nw (Nat.le_of_ble_eq_true rfl) (Nat.le_of_ble_eq_true rfl), ?_⟩
  rw [fe_ls_add]
  show fe_WP E 68 107 _ (.ref (b + 28) :: _) (fe_ls b [fe_O 6 [.ref (b + 1), .ref (b + 6), .int (fe_z 0), .ref (b + 7), .ref (b + 11), .int (fe_z 0), .ref (b + 13)], fe_O 2 [.ref (b + 2), .ref (b + 3), .ref (b + 4), .ref (b + 5)], fe_Z 192 (fun _ => false), fe_Z 192 (fun _ => false), fe_Z 192 (fun _ => false), fe_O 0 [.int (fe_z 0), .int (fe_z 0), .int (fe_z 0), .int (fe_z 0), .int (fe_z 0), .int (fe_z 0), .int (fe_z 0), .int (fe_z 0), .int (fe_z 0), .int (fe_z 0)], fe_Q 12 (fun _ => none), fe_O 5 [.ref (b + 8), .ref (b + 9), .ref (b + 10)], fe_I 24 (fun _ => 0), fe_I 5 (fun _ => 0), fe_I 7 (fun _ => 0), fe_O 3 [.ref (b + 12), .int (fe_z 0)], fe_J 64 (fun _ => 0), fe_O 4 [.ref (b + 14), .int (fe_z 0), .int (fe_z 0), .int (fe_z 0), .int (fe_z 0), .int (fe_z (-1))], fe_I 60 (fun _ => 0), fe_O 7 [.int (fe_z 0), .ref (b + 16), .ref (b + 17), .ref (b + 18), .ref (b + 19), .ref (b + 20), .ref (b + 21), .ref (b + 22), .ref (b + 23), .ref (b + 24), .ref (b + 25), .ref (b + 26), .int (fe_z 0), .ref (b + 27), .null, .null, .null, .null, .int (fe_z 0), .int (fe_z 0), .null, .int (fe_z 0)], fe_Z 192 (fun _ => false), fe_Z 192 (fun _ => false), fe_Z 192 (fun _ => false), fe_I 12 (fun _ => 0), fe_I 12 (fun _ => 0), fe_I 12 (fun _ => 0), fe_I 12 (fun _ => 0), fe_Z 12 (fun _ => false), fe_I 96 (fun _ => 0), fe_I 12 (fun _ => 0), fe_Z 2304 (fun _ => false), fe_I 5 (fun _ => 0), fe_I 5 (fun _ => 0)] 3860) K
  rw [fe_e68_107]
  refine ⟨_, fe_ls_pf (k := 15) rfl, ?_⟩
  show fe_WP E 68 110 _ _ (fe_ls b [fe_O 6 [.ref (b + 1), .ref (b + 6), .int (fe_z 0), .ref (b + 7), .ref (b + 11), .int (fe_z 0), .ref (b + 13)], fe_O 2 [.ref (b + 2), .ref (b + 3), .ref (b + 4), .ref (b + 5)], fe_Z 192 (fun _ => false), fe_Z 192 (fun _ => false), fe_Z 192 (fun _ => false), fe_O 0 [.int (fe_z 0), .int (fe_z 0), .int (fe_z 0), .int (fe_z 0), .int (fe_z 0), .int (fe_z 0), .int (fe_z 0), .int (fe_z 0), .int (fe_z 0), .int (fe_z 0)], fe_Q 12 (fun _ => none), fe_O 5 [.ref (b + 8), .ref (b + 9), .ref (b + 10)], fe_I 24 (fun _ => 0), fe_I 5 (fun _ => 0), fe_I 7 (fun _ => 0), fe_O 3 [.ref (b + 12), .int (fe_z 0)], fe_J 64 (fun _ => 0), fe_O 4 [.ref (b + 14), .int (fe_z 0), .int (fe_z 0), .int (fe_z 0), .int (fe_z 0), .int (fe_z (-1))], fe_I 60 (fun _ => 0), fe_O 7 [.int (fe_z 0), .ref (b + 16), .ref (b + 17), .ref (b + 18), .ref (b + 19), .ref (b + 20), .ref (b + 21), .ref (b + 22), .ref (b + 23), .ref (b + 24), .ref (b + 25), .ref (b + 26), .int (fe_z 0), .ref (b + 27), .ref (b + 28), .null, .null, .null, .int (fe_z 0), .int (fe_z 0), .null, .int (fe_z 0)], fe_Z 192 (fun _ => false), fe_Z 192 (fun _ => false), fe_Z 192 (fun _ => false), fe_I 12 (fun _ => 0), fe_I 12 (fun _ => 0), fe_I 12 (fun _ => 0), fe_I 12 (fun _ => 0), fe_Z 12 (fun _ => false), fe_I 96 (fun _ => 0), fe_I 12 (fun _ => 0), fe_Z 2304 (fun _ => false), fe_I 5 (fun _ => 0), fe_I 5 (fun _ => 0)] 3860) K
  rw [fe_e68_110]
  rw [fe_e68_111]
  rw [fe_e68_113]
  refine ⟨fe_ls_nw (Nat.le_of_ble_eq_true rfl) (Nat.le_of_ble_eq_true rfl), ?_⟩
  rw [fe_ls_add]
  show fe_WP E 68 115 _ (.ref (b + 29) :: _) (fe_ls b [fe_O 6 [.ref (b + 1), .ref (b + 6), .int (fe_z 0), .ref (b + 7), .ref (b + 11), .int (fe_z 0), .ref (b + 13)], fe_O 2 [.ref (b + 2), .ref (b + 3), .ref (b + 4), .ref (b + 5)], fe_Z 192 (fun _ => false), fe_Z 192 (fun _ => false), fe_Z 192 (fun _ => false), fe_O 0 [.int (fe_z 0), .int (fe_z 0), .int (fe_z 0), .int (fe_z 0), .int (fe_z 0), .int (fe_z 0), .int (fe_z 0), .int (fe_z 0), .int (fe_z 0), .int (fe_z 0)], fe_Q 12 (fun _ => none), fe_O 5 [.ref (b + 8), .ref (b + 9), .ref (b + 10)], fe_I 24 (fun _ => 0), fe_I 5 (fun _ => 0), fe_I 7 (fun _ => 0), fe_O 3 [.ref (b + 12), .int (fe_z 0)], fe_J 64 (fun _ => 0), fe_O 4 [.ref (b + 14), .int (fe_z 0), .int (fe_z 0), .int (fe_z 0), .int (fe_z 0), .int (fe_z (-1))], fe_I 60 (fun _ => 0), fe_O 7 [.int (fe_z 0), .ref (b + 16), .ref (b + 17), .ref (b + 18), .ref (b + 19), .ref (b + 20), .ref (b + 21), .ref (b + 22), .ref (b + 23), .ref (b + 24), .ref (b + 25), .ref (b + 26), .int (fe_z 0), .ref (b + 27), .ref (b + 28), .null, .null, .null, .int (fe_z 0), .int (fe_z 0), .null, .int (fe_z 0)], fe_Z 192 (fun _ => false), fe_Z 192 (fun _ => false), fe_Z 192 (fun _ => false), fe_I 12 (fun _ => 0), fe_I 12 (fun _ => 0), fe_I 12 (fun _ => 0), fe_I 12 (fun _ => 0), fe_Z 12 (fun _ => false), fe_I 96 (fun _ => 0), fe_I 12 (fun _ => 0), fe_Z 2304 (fun _ => false), fe_I 5 (fun _ => 0), fe_I 5 (fun _ => 0), fe_Z 96 (fun _ => false)] 3956) K
  rw [fe_e68_115]
  refine ⟨_, fe_ls_pf (k := 15) rfl, ?_⟩
  show fe_WP E 68 118 _ _ (fe_ls b [fe_O 6 [.ref (b + 1), .ref (b + 6), .int (fe_z 0), .ref (b + 7), .ref (b + 11), .int (fe_z 0), .ref (b + 13)], fe_O 2 [.ref (b + 2), .ref (b + 3), .ref (b + 4), .ref (b + 5)], fe_Z 192 (fun _ => false), fe_Z 192 (fun _ => false), fe_Z 192 (fun _ => false), fe_O 0 [.int (fe_z 0), .int (fe_z 0), .int (fe_z 0), .int (fe_z 0), .int (fe_z 0), .int (fe_z 0), .int (fe_z 0), .int (fe_z 0), .int (fe_z 0), .int (fe_z 0)], fe_Q 12 (fun _ => none), fe_O 5 [.ref (b + 8), .ref (b + 9), .ref (b + 10)], fe_I 24 (fun _ => 0), fe_I 5 (fun _ => 0), fe_I 7 (fun _ => 0), fe_O 3 [.ref (b + 12), .int (fe_z 0)], fe_J 64 (fun _ => 0), fe_O 4 [.ref (b + 14), .int (fe_z 0), .int (fe_z 0), .int (fe_z 0), .int (fe_z 0), .int (fe_z (-1))], fe_I 60 (fun _ => 0), fe_O 7 [.int (fe_z 0), .ref (b + 16), .ref (b + 17), .ref (b + 18), .ref (b + 19), .ref (b + 20), .ref (b + 21), .ref (b + 22), .ref (b + 23), .ref (b + 24), .ref (b + 25), .ref (b + 26), .int (fe_z 0), .ref (b + 27), .ref (b + 28), .ref (b + 29), .null, .null, .int (fe_z 0), .int (fe_z 0), .null, .int (fe_z 0)], fe_Z 192 (fun _ => false), fe_Z 192 (fun _ => false), fe_Z 192 (fun _ => false), fe_I 12 (fun _ => 0), fe_I 12 (fun _ => 0), fe_I 12 (fun _ => 0), fe_I 12 (fun _ => 0), fe_Z 12 (fun _ => false), fe_I 96 (fun _ => 0), fe_I 12 (fun _ => 0), fe_Z 2304 (fun _ => false), fe_I 5 (fun _ => 0), fe_I 5 (fun _ => 0), fe_Z 96 (fun _ => false)] 3956) K
  rw [fe_e68_118]
  rw [fe_e68_119]
  rw [fe_e68_122]
  refine ⟨fe_ls_nw (Nat.le_of_ble_eq_true rfl) (Nat.le_of_ble_eq_true rfl), ?_⟩
  rw [fe_ls_add]
  show fe_WP E 68 124 _ (.ref (b + 30) :: _) (fe_ls b [fe_O 6 [.ref (b + 1), .ref (b + 6), .int (fe_z 0), .ref (b + 7), .ref (b + 11), .int (fe_z 0), .ref (b + 13)], fe_O 2 [.ref (b + 2), .ref (b + 3), .ref (b + 4), .ref (b + 5)], fe_Z 192 (fun _ => false), fe_Z 192 (fun _ => false), fe_Z 192 (fun _ => false), fe_O 0 [.int (fe_z 0), .int (fe_z 0), .int (fe_z 0), .int (fe_z 0), .int (fe_z 0), .int (fe_z 0), .int (fe_z 0), .int (fe_z 0), .int (fe_z 0), .int (fe_z 0)], fe_Q 12 (fun _ => none), fe_O 5 [.ref (b + 8), .ref (b + 9), .ref (b + 10)], fe_I 24 (fun _ => 0), fe_I 5 (fun _ => 0), fe_I 7 (fun _ => 0), fe_O 3 [.ref (b + 12), .int (fe_z 0)], fe_J 64 (fun _ => 0), fe_O 4 [.ref (b + 14), .int (fe_z 0), .int (fe_z 0), .int (fe_z 0), .int (fe_z 0), .int (fe_z (-1))], fe_I 60 (fun _ => 0), fe_O 7 [.int (fe_z 0), .ref (b + 16), .ref (b + 17), .ref (b + 18), .ref (b + 19), .ref (b + 20), .ref (b + 21), .ref (b + 22), .ref (b + 23), .ref (b + 24), .ref (b + 25), .ref (b + 26), .int (fe_z 0), .ref (b + 27), .ref (b + 28), .ref (b + 29), .null, .null, .int (fe_z 0), .int (fe_z 0), .null, .int (fe_z 0)], fe_Z 192 (fun _ => false), fe_Z 192 (fun _ => false), fe_Z 192 (fun _ => false), fe_I 12 (fun _ => 0), fe_I 12 (fun _ => 0), fe_I 12 (fun _ => 0), fe_I 12 (fun _ => 0), fe_Z 12 (fun _ => false), fe_I 96 (fun _ => 0), fe_I 12 (fun _ => 0), fe_Z 2304 (fun _ => false), fe_I 5 (fun _ => 0), fe_I 5 (fun _ => 0), fe_Z 96 (fun _ => false), fe_Z 4096 (fun _ => false)] 8052) K
  rw [fe_e68_124]
  refine ⟨_, fe_ls_pf (k := 15) rfl, ?_⟩
  show fe_WP E 68 127 _ _ (fe_ls b [fe_O 6 [.ref (b + 1), .ref (b + 6), .int (fe_z 0), .ref (b + 7), .ref (b + 11), .int (fe_z 0), .ref (b + 13)], fe_O 2 [.ref (b + 2), .ref (b + 3), .ref (b + 4), .ref (b + 5)], fe_Z 192 (fun _ => false), fe_Z 192 (fun _ => false), fe_Z 192 (fun _ => false), fe_O 0 [.int (fe_z 0), .int (fe_z 0), .int (fe_z 0), .int (fe_z 0), .int (fe_z 0), .int (fe_z 0), .int (fe_z 0), .int (fe_z 0), .int (fe_z 0), .int (fe_z 0)], fe_Q 12 (fun _ => none), fe_O 5 [.ref (b + 8), .ref (b + 9), .ref (b + 10)], fe_I 24 (fun _ => 0), fe_I 5 (fun _ => 0), fe_I 7 (fun _ => 0), fe_O 3 [.ref (b + 12), .int (fe_z 0)], fe_J 64 (fun _ => 0), fe_O 4 [.ref (b + 14), .int (fe_z 0), .int (fe_z 0), .int (fe_z 0), .int (fe_z 0), .int (fe_z (-1))], fe_I 60 (fun _ => 0), fe_O 7 [.int (fe_z 0), .ref (b + 16), .ref (b + 17), .ref (b + 18), .ref (b + 19), .ref (b + 20), .ref (b + 21), .ref (b + 22), .ref (b + 23), .ref (b + 24), .ref (b + 25), .ref (b + 26), .int (fe_z 0), .ref (b + 27), .ref (b + 28), .ref (b + 29), .ref (b + 30), .null, .int (fe_z 0), .int (fe_z 0), .null, .int (fe_z 0)], fe_Z 192 (fun _ => false), fe_Z 192 (fun _ => false), fe_Z 192 (fun _ => false), fe_I 12 (fun _ => 0), fe_I 12 (fun _ => 0), fe_I 12 (fun _ => 0), fe_I 12 (fun _ => 0), fe_Z 12 (fun _ => false), fe_I 96 (fun _ => 0), fe_I 12 (fun _ => 0), fe_Z 2304 (fun _ => false), fe_I 5 (fun _ => 0), fe_I 5 (fun _ => 0), fe_Z 96 (fun _ => false), fe_Z 4096 (fun _ => false)] 8052) K
  rw [fe_e68_127]
  rw [fe_e68_128]
  rw [fe_e68_131]
  refine ⟨fe_ls_nw (Nat.le_of_ble_eq_true rfl) (Nat.le_of_ble_eq_true rfl), ?_⟩
  rw [fe_ls_add]
  show fe_WP E 68 133 _ (.ref (b + 31) :: _) (fe_ls b [fe_O 6 [.ref (b + 1), .ref (b + 6), .int (fe_z 0), .ref (b + 7), .ref (b + 11), .int (fe_z 0), .ref (b + 13)], fe_O 2 [.ref (b + 2), .ref (b + 3), .ref (b + 4), .ref (b + 5)], fe_Z 192 (fun _ => false), fe_Z 192 (fun _ => false), fe_Z 192 (fun _ => false), fe_O 0 [.int (fe_z 0), .int (fe_z 0), .int (fe_z 0), .int (fe_z 0), .int (fe_z 0), .int (fe_z 0), .int (fe_z 0), .int (fe_z 0), .int (fe_z 0), .int (fe_z 0)], fe_Q 12 (fun _ => none), fe_O 5 [.ref (b + 8), .ref (b + 9), .ref (b + 10)], fe_I 24 (fun _ => 0), fe_I 5 (fun _ => 0), fe_I 7 (fun _ => 0), fe_O 3 [.ref (b + 12), .int (fe_z 0)], fe_J 64 (fun _ => 0), fe_O 4 [.ref (b + 14), .int (fe_z 0), .int (fe_z 0), .int (fe_z 0), .int (fe_z 0), .int (fe_z (-1))], fe_I 60 (fun _ => 0), fe_O 7 [.int (fe_z 0), .ref (b + 16), .ref (b + 17), .ref (b + 18), .ref (b + 19), .ref (b + 20), .ref (b + 21), .ref (b + 22), .ref (b + 23), .ref (b + 24), .ref (b + 25), .ref (b + 26), .int (fe_z 0), .ref (b + 27), .ref (b + 28), .ref (b + 29), .ref (b + 30), .null, .int (fe_z 0), .int (fe_z 0), .null, .int (fe_z 0)], fe_Z 192 (fun _ => false), fe_Z 192 (fun _ => false), fe_Z 192 (fun _ => false), fe_I 12 (fun _ => 0), fe_I 12 (fun _ => 0), fe_I 12 (fun _ => 0), fe_I 12 (fun _ => 0), fe_Z 12 (fun _ => false), fe_I 96 (fun _ => 0), fe_I 12 (fun _ => 0), fe_Z 2304 (fun _ => false), fe_I 5 (fun _ => 0), fe_I 5 (fun _ => 0), fe_Z 96 (fun _ => false), fe_Z 4096 (fun _ => false), fe_I 4096 (fun _ => 0)] 12148) K
  rw [fe_e68_133]
  refine ⟨_, fe_ls_pf (k := 15) rfl, ?_⟩
  show fe_WP E 68 136 _ _ (fe_ls b [fe_O 6 [.ref (b + 1), .ref (b + 6), .int (fe_z 0), .ref (b + 7), .ref (b + 11), .int (fe_z 0), .ref (b + 13)], fe_O 2 [.ref (b + 2), .ref (b + 3), .ref (b + 4), .ref (b + 5)], fe_Z 192 (fun _ => false), fe_Z 192 (fun _ => false), fe_Z 192 (fun _ => false), fe_O 0 [.int (fe_z 0), .int (fe_z 0), .int (fe_z 0), .int (fe_z 0), .int (fe_z 0), .int (fe_z 0), .int (fe_z 0), .int (fe_z 0), .int (fe_z 0), .int (fe_z 0)], fe_Q 12 (fun _ => none), fe_O 5 [.ref (b + 8), .ref (b + 9), .ref (b + 10)], fe_I 24 (fun _ => 0), fe_I 5 (fun _ => 0), fe_I 7 (fun _ => 0), fe_O 3 [.ref (b + 12), .int (fe_z 0)], fe_J 64 (fun _ => 0), fe_O 4 [.ref (b + 14), .int (fe_z 0), .int (fe_z 0), .int (fe_z 0), .int (fe_z 0), .int (fe_z (-1))], fe_I 60 (fun _ => 0), fe_O 7 [.int (fe_z 0), .ref (b + 16), .ref (b + 17), .ref (b + 18), .ref (b + 19), .ref (b + 20), .ref (b + 21), .ref (b + 22), .ref (b + 23), .ref (b + 24), .ref (b + 25), .ref (b + 26), .int (fe_z 0), .ref (b + 27), .ref (b + 28), .ref (b + 29), .ref (b + 30), .ref (b + 31), .int (fe_z 0), .int (fe_z 0), .null, .int (fe_z 0)], fe_Z 192 (fun _ => false), fe_Z 192 (fun _ => false), fe_Z 192 (fun _ => false), fe_I 12 (fun _ => 0), fe_I 12 (fun _ => 0), fe_I 12 (fun _ => 0), fe_I 12 (fun _ => 0), fe_Z 12 (fun _ => false), fe_I 96 (fun _ => 0), fe_I 12 (fun _ => 0), fe_Z 2304 (fun _ => false), fe_I 5 (fun _ => 0), fe_I 5 (fun _ => 0), fe_Z 96 (fun _ => false), fe_Z 4096 (fun _ => false), fe_I 4096 (fun _ => 0)] 12148) K
  rw [fe_e68_136]
  rw [fe_e68_137]
  rw [fe_e68_139]
  refine ⟨fe_ls_nw (Nat.le_of_ble_eq_true rfl) (Nat.le_of_ble_eq_true rfl), ?_⟩
  rw [fe_ls_add]
  show fe_WP E 68 141 _ (.ref (b + 32) :: _) (fe_ls b [fe_O 6 [.ref (b + 1), .ref (b + 6), .int (fe_z 0), .ref (b + 7), .ref (b + 11), .int (fe_z 0), .ref (b + 13)], fe_O 2 [.ref (b + 2), .ref (b + 3), .ref (b + 4), .ref (b + 5)], fe_Z 192 (fun _ => false), fe_Z 192 (fun _ => false), fe_Z 192 (fun _ => false), fe_O 0 [.int (fe_z 0), .int (fe_z 0), .int (fe_z 0), .int (fe_z 0), .int (fe_z 0), .int (fe_z 0), .int (fe_z 0), .int (fe_z 0), .int (fe_z 0), .int (fe_z 0)], fe_Q 12 (fun _ => none), fe_O 5 [.ref (b + 8), .ref (b + 9), .ref (b + 10)], fe_I 24 (fun _ => 0), fe_I 5 (fun _ => 0), fe_I 7 (fun _ => 0), fe_O 3 [.ref (b + 12), .int (fe_z 0)], fe_J 64 (fun _ => 0), fe_O 4 [.ref (b + 14), .int (fe_z 0), .int (fe_z 0), .int (fe_z 0), .int (fe_z 0), .int (fe_z (-1))], fe_I 60 (fun _ => 0), fe_O 7 [.int (fe_z 0), .ref (b + 16), .ref (b + 17), .ref (b + 18), .ref (b + 19), .ref (b + 20), .ref (b + 21), .ref (b + 22), .ref (b + 23), .ref (b + 24), .ref (b + 25), .ref (b + 26), .int (fe_z 0), .ref (b + 27), .ref (b + 28), .ref (b + 29), .ref (b + 30), .ref (b + 31), .int (fe_z 0), .int (fe_z 0), .null, .int (fe_z 0)], fe_Z 192 (fun _ => false), fe_Z 192 (fun _ => false), fe_Z 192 (fun _ => false), fe_I 12 (fun _ => 0), fe_I 12 (fun _ => 0), fe_I 12 (fun _ => 0), fe_I 12 (fun _ => 0), fe_Z 12 (fun _ => false), fe_I 96 (fun _ => 0), fe_I 12 (fun _ => 0), fe_Z 2304 (fun _ => false), fe_I 5 (fun _ => 0), fe_I 5 (fun _ => 0), fe_Z 96 (fun _ => false), fe_Z 4096 (fun _ => false), fe_I 4096 (fun _ => 0), fe_I 60 (fun _ => 0)] 12208) K
  rw [fe_e68_141]
  refine ⟨_, fe_ls_pf (k := 15) rfl, ?_⟩
  show fe_WP E 68 144 _ _ (fe_ls b [fe_O 6 [.ref (b + 1), .ref (b + 6), .int (fe_z 0), .ref (b + 7), .ref (b + 11), .int (fe_z 0), .ref (b + 13)], fe_O 2 [.ref (b + 2), .ref (b + 3), .ref (b + 4), .ref (b + 5)], fe_Z 192 (fun _ => false), fe_Z 192 (fun _ => false), fe_Z 192 (fun _ => false), fe_O 0 [.int (fe_z 0), .int (fe_z 0), .int (fe_z 0), .int (fe_z 0), .int (fe_z 0), .int (fe_z 0), .int (fe_z 0), .int (fe_z 0), .int (fe_z 0), .int (fe_z 0)], fe_Q 12 (fun _ => none), fe_O 5 [.ref (b + 8), .ref (b + 9), .ref (b + 10)], fe_I 24 (fun _ => 0), fe_I 5 (fun _ => 0), fe_I 7 (fun _ => 0), fe_O 3 [.ref (b + 12), .int (fe_z 0)], fe_J 64 (fun _ => 0), fe_O 4 [.ref (b + 14), .int (fe_z 0), .int (fe_z 0), .int (fe_z 0), .int (fe_z 0), .int (fe_z (-1))], fe_I 60 (fun _ => 0), fe_O 7 [.int (fe_z 0), .ref (b + 16), .ref (b + 17), .ref (b + 18), .ref (b + 19), .ref (b + 20), .ref (b + 21), .ref (b + 22), .ref (b + 23), .ref (b + 24), .ref (b + 25), .ref (b + 26), .int (fe_z 0), .ref (b + 27), .ref (b + 28), .ref (b + 29), .ref (b + 30), .ref (b + 31), .int (fe_z 0), .int (fe_z 0), .ref (b + 32), .int (fe_z 0)], fe_Z 192 (fun _ => false), fe_Z 192 (fun _ => false), fe_Z 192 (fun _ => false), fe_I 12 (fun _ => 0), fe_I 12 (fun _ => 0), fe_I 12 (fun _ => 0), fe_I 12 (fun _ => 0), fe_Z 12 (fun _ => false), fe_I 96 (fun _ => 0), fe_I 12 (fun _ => 0), fe_Z 2304 (fun _ => false), fe_I 5 (fun _ => 0), fe_I 5 (fun _ => 0), fe_Z 96 (fun _ => false), fe_Z 4096 (fun _ => false), fe_I 4096 (fun _ => 0), fe_I 60 (fun _ => 0)] 12208) K
  rw [fe_e68_144]
  exact hK
/-- slots in use: 12209 -/
theorem fe_ls_mk {b : Nat} : (fe_ls b [fe_O 6 [.ref (b + 1), .ref (b + 6), .int (fe_z 0), .ref (b + 7), .ref (b + 11), .int (fe_z 0), .ref (b + 13)], fe_O 2 [.ref (b + 2), .ref (b + 3), .ref (b + 4), .ref (b + 5)], fe_Z 192 (fun _ => false), fe_Z 192 (fun _ => false), fe_Z 192 (fun _ => false), fe_O 0 [.int (fe_z 0), .int (fe_z 0), .int (fe_z 0), .int (fe_z 0), .int (fe_z 0), .int (fe_z 0), .int (fe_z 0), .int (fe_z 0), .int (fe_z 0), .int (fe_z 0)], fe_Q 12 (fun _ => none), fe_O 5 [.ref (b + 8), .ref (b + 9), .ref (b + 10)], fe_I 24 (fun _ => 0), fe_I 5 (fun _ => 0), fe_I 7 (fun _ => 0), fe_O 3 [.ref (b + 12), .int (fe_z 0)], fe_J 64 (fun _ => 0), fe_O 4 [.ref (b + 14), .int (fe_z 0), .int (fe_z 0), .int (fe_z 0), .int (fe_z 0), .int (fe_z (-1))], fe_I 60 (fun _ => 0), fe_O 7 [.int (fe_z 0), .ref (b + 16), .ref (b + 17), .ref (b + 18), .ref (b + 19), .ref (b + 20), .ref (b + 21), .ref (b + 22), .ref (b + 23), .ref (b + 24), .ref (b + 25), .ref (b + 26), .int (fe_z 0), .ref (b + 27), .ref (b + 28), .ref (b + 29), .ref (b + 30), .ref (b + 31), .int (fe_z 0), .int (fe_z 0), .ref (b + 32), .int (fe_z 0)], fe_Z 192 (fun _ => false), fe_Z 192 (fun _ => false), fe_Z 192 (fun _ => false), fe_I 12 (fun _ => 0), fe_I 12 (fun _ => 0), fe_I 12 (fun _ => 0), fe_I 12 (fun _ => 0), fe_Z 12 (fun _ => false), fe_I 96 (fun _ => 0), fe_I 12 (fun _ => 0), fe_Z 2304 (fun _ => false), fe_I 5 (fun _ => 0), fe_I 5 (fun _ => 0), fe_Z 96 (fun _ => false), fe_Z 4096 (fun _ => false), fe_I 4096 (fun _ => 0), fe_I 60 (fun _ => 0), fe_J 1 (fun _ => 0)] 12209) = fe_mk b (b + 34, room_1.cells - 34, room_1.slots - 12209) (fe_cc b (fun _ => 0) (fun _ _ => 0) (fun _ => 0) (fun k => if k = 7 then -1 else 0) (fun _ => 0) (fun _ _ => false) (0, (fun _ => none), (fun _ => 0)) (fun _ _ => 0) (fun _ _ => 0) (fun _ _ => false) (fun _ _ _ => 0)) (fe_rc b (fun _ => 0) (fun _ _ => false) (fun _ _ => 0) (fun _ _ => 0) (fun _ => false) (fun _ => false) (fun _ => 0) (fun _ => 0)) := by
  refine Prod.ext rfl (Prod.ext rfl (Prod.ext rfl ?_))
  funext a
  show fe_get _ a = fe_get _ a
  by_cases h1 : b ≤ a
  · obtain ⟨k, rfl⟩ := Nat.exists_eq_add_of_le h1
    by_cases h2 : k < 34
    · rw [fe_ls_g]
      have hk : k = 0 ∨ k = 1 ∨ k = 2 ∨ k = 3 ∨ k = 4 ∨ k = 5 ∨ k = 6 ∨ k = 7 ∨ k = 8 ∨ k = 9 ∨ k = 10 ∨ k = 11 ∨ k = 12 ∨ k = 13 ∨ k = 14 ∨ k = 15 ∨ k = 16 ∨ k = 17 ∨ k = 18 ∨ k = 19 ∨ k = 20 ∨ k = 21 ∨ k = 22 ∨ k = 23 ∨ k = 24 ∨ k = 25 ∨ k = 26 ∨ k = 27 ∨ k = 28 ∨ k = 29 ∨ k = 30 ∨ k = 31 ∨ k = 32 ∨ k = 33 := by omega
      rcases hk with rfl | rfl | rfl | rfl | rfl | rfl | rfl | rfl | rfl | rfl | rfl | rfl | rfl | rfl | rfl | rfl | rfl | rfl | rfl | rfl | rfl | rfl | rfl | rfl | rfl | rfl | rfl | rfl | rfl | rfl | rfl | rfl | rfl | rfl
      · refine Eq.trans (b := some (fe_O 6 [.ref (b + 1), .ref (b + 6), .int (fe_z 0), .ref (b + 7), .ref (b + 11), .int (fe_z 0), .ref (b + 13)])) rfl (Eq.symm ?_)
        show fe_get _ b = _
        first | (rw [fe_G0]; done) | (rw [fe_G0]; rfl)
      · refine Eq.trans (b := some (fe_O 2 [.ref (b + 2), .ref (b + 3), .ref (b + 4), .ref (b + 5)])) rfl (Eq.symm ?_)
        first | (rw [fe_G1]; done) | (rw [fe_G1]; rfl)
      · refine Eq.trans (b := some (fe_Z 192 (fun _ => false))) rfl (Eq.symm ?_)
        first | (rw [fe_G2]; done) | (rw [fe_G2]; rfl)
      · refine Eq.trans (b := some (fe_Z 192 (fun _ => false))) rfl (Eq.symm ?_)
        first | (rw [fe_G3]; done) | (rw [fe_G3]; rfl)
      · refine Eq.trans (b := some (fe_Z 192 (fun _ => false))) rfl (Eq.symm ?_)
        first | (rw [fe_G4]; done) | (rw [fe_G4]; rfl)
      · refine Eq.trans (b := some (fe_O 0 [.int (fe_z 0), .int (fe_z 0), .int (fe_z 0), .int (fe_z 0), .int (fe_z 0), .int (fe_z 0), .int (fe_z 0), .int (fe_z 0), .int (fe_z 0), .int (fe_z 0)])) rfl (Eq.symm ?_)
        first | (rw [fe_G5]; done) | (rw [fe_G5]; rfl)
      · refine Eq.trans (b := some (fe_Q 12 (fun _ => none))) rfl (Eq.symm ?_)
        first | (rw [fe_G6]; done) | (rw [fe_G6]; rfl)
      · refine Eq.trans (b := some (fe_O 5 [.ref (b + 8), .ref (b + 9), .ref (b + 10)])) rfl (Eq.symm ?_)
        first | (rw [fe_G7]; done) | (rw [fe_G7]; rfl)
      · refine Eq.trans (b := some (fe_I 24 (fun _ => 0))) rfl (Eq.symm ?_)
        first | (rw [fe_G8]; done) | (rw [fe_G8]; rfl)
      · refine Eq.trans (b := some (fe_I 5 (fun _ => 0))) rfl (Eq.symm ?_)
        first | (rw [fe_G9]; done) | (rw [fe_G9]; rfl)
      · refine Eq.trans (b := some (fe_I 7 (fun _ => 0))) rfl (Eq.symm ?_)
        first | (rw [fe_G10]; done) | (rw [fe_G10]; rfl)
      · refine Eq.trans (b := some (fe_O 3 [.ref (b + 12), .int (fe_z 0)])) rfl (Eq.symm ?_)
        first | (rw [fe_G11]; done) | (rw [fe_G11]; rfl)
      · refine Eq.trans (b := some (fe_J 64 (fun _ => 0))) rfl (Eq.symm ?_)
        first | (rw [fe_G12]; done) | (rw [fe_G12]; rfl)
      · refine Eq.trans (b := some (fe_O 4 [.ref (b + 14), .int (fe_z 0), .int (fe_z 0), .int (fe_z 0), .int (fe_z 0), .int (fe_z (-1))])) rfl (Eq.symm ?_)
        first | (rw [fe_G13]; done) | (rw [fe_G13]; rfl)
      · refine Eq.trans (b := some (fe_I 60 (fun _ => 0))) rfl (Eq.symm ?_)
        first | (rw [fe_G14]; done) | (rw [fe_G14]; rfl)
      · refine Eq.trans (b := some (fe_O 7 [.int (fe_z 0), .ref (b + 16), .ref (b + 17), .ref (b + 18), .ref (b + 19), .ref (b + 20), .ref (b + 21), .ref (b + 22), .ref (b + 23), .ref (b + 24), .ref (b + 25), .ref (b + 26), .int (fe_z 0), .ref (b + 27), .ref (b + 28), .ref (b + 29), .ref (b + 30), .ref (b + 31), .int (fe_z 0), .int (fe_z 0), .ref (b + 32), .int (fe_z 0)])) rfl (Eq.symm ?_)
        first | (rw [fe_G15]; done) | (rw [fe_G15]; rfl)
      · refine Eq.trans (b := some (fe_Z 192 (fun _ => false))) rfl (Eq.symm ?_)
        first | (rw [fe_G16]; done) | (rw [fe_G16]; rfl)
      · refine Eq.trans (b := some (fe_Z 192 (fun _ => false))) rfl (Eq.symm ?_)
        first | (rw [fe_G17]; done) | (rw [fe_G17]; rfl)
      · refine Eq.trans (b := some (fe_Z 192 (fun _ => false))) rfl (Eq.symm ?_)
        first | (rw [fe_G18]; done) | (rw [fe_G18]; rfl)
      · refine Eq.trans (b := some (fe_I 12 (fun _ => 0))) rfl (Eq.symm ?_)
        first | (rw [fe_G19]; done) | (rw [fe_G19]; rfl)
      · refine Eq.trans (b := some (fe_I 12 (fun _ => 0))) rfl (Eq.symm ?_)
        first | (rw [fe_G20]; done) | (rw [fe_G20]; rfl)
      · refine Eq.trans (b := some (fe_I 12 (fun _ => 0))) rfl (Eq.symm ?_)
        first | (rw [fe_G21]; done) | (rw [fe_G21]; rfl)
      · refine Eq.trans (b := some (fe_I 12 (fun _ => 0))) rfl (Eq.symm ?_)
        first | (rw [fe_G22]; done) | (rw [fe_G22]; rfl)
      · refine Eq.trans (b := some (fe_Z 12 (fun _ => false))) rfl (Eq.symm ?_)
        first | (rw [fe_G23]; done) | (rw [fe_G23]; rfl)
      · refine Eq.trans (b := some (fe_I 96 (fun _ => 0))) rfl (Eq.symm ?_)
        first | (rw [fe_G24]; done) | (rw [fe_G24]; rfl)
      · refine Eq.trans (b := some (fe_I 12 (fun _ => 0))) rfl (Eq.symm ?_)
        first | (rw [fe_G25]; done) | (rw [fe_G25]; rfl)
      · refine Eq.trans (b := some (fe_Z 2304 (fun _ => false))) rfl (Eq.symm ?_)
        first | (rw [fe_G26]; done) | (rw [fe_G26]; rfl)
      · refine Eq.trans (b := some (fe_I 5 (fun _ => 0))) rfl (Eq.symm ?_)
        first | (rw [fe_G27]; done) | (rw [fe_G27]; rfl)
      · refine Eq.trans (b := some (fe_I 5 (fun _ => 0))) rfl (Eq.symm ?_)
        first | (rw [fe_G28]; done) | (rw [fe_G28]; rfl)
      · refine Eq.trans (b := some (fe_Z 96 (fun _ => false))) rfl (Eq.symm ?_)
        first | (rw [fe_G29]; done) | (rw [fe_G29]; rfl)
      · refine Eq.trans (b := some (fe_Z 4096 (fun _ => false))) rfl (Eq.symm ?_)
        first | (rw [fe_G30]; done) | (rw [fe_G30]; rfl)
      · refine Eq.trans (b := some (fe_I 4096 (fun _ => 0))) rfl (Eq.symm ?_)
        first | (rw [fe_G31]; done) | (rw [fe_G31]; rfl)
      · refine Eq.trans (b := some (fe_I 60 (fun _ => 0))) rfl (Eq.symm ?_)
        first | (rw [fe_G32]; done) | (rw [fe_G32]; rfl)
      · refine Eq.trans (b := some (fe_J 1 (fun _ => 0))) rfl (Eq.symm ?_)
        first | (rw [fe_G33]; done) | (rw [fe_G33]; rfl)
    · rw [fe_ls_g, List.getElem?_eq_none (by simp; omega), fe_mk_gc (by omega)]
      simp only [fe_cc, fe_eye]
      iterate 15 rw [if_neg (by omega)]
  · rw [fe_mk_gc (by omega)]
    simp only [fe_cc, fe_eye]
    iterate 15 rw [if_neg (by omega)]
    show (if b ≤ a then _ else none) = none
    rw [if_neg h1]
theorem fe_begin {E : fe_E} {K : fe_R → fe_H → Prop} {b : Nat} (hK : fe_WP E 131 23 [some (.ref E.1), some (.ref b), some (.ref (b + 15)), some (.ref (b + 33)), some (.int (fe_z 0)), none, none] [] (fe_mk b (b + 34, room_1.cells - 34, room_1.slots - 12209) (fe_cc b (fun _ => 0) (fun _ _ => 0) (fun _ => 0) (fun k => if k = 7 then -1 else 0) (fun _ => 0) (fun _ _ => false) (0, (fun _ => none), (fun _ => 0)) (fun _ _ => 0) (fun _ _ => 0) (fun _ _ => false) (fun _ _ _ => 0)) (fe_rc b (fun _ => 0) (fun _ _ => false) (fun _ _ => 0) (fun _ _ => 0) (fun _ => false) (fun _ => false) (fun _ => 0) (fun _ => 0))) K) : fe_WP E 131 0 [some (.ref E.1), none, none, none, none, none, none] [] (fe_h1 b) K := by
  rw [fe_ls_0, fe_e131_0]
  refine ⟨fe_ls_nw (Nat.le_of_ble_eq_true rfl) (Nat.le_of_ble_eq_true rfl), ?_⟩
  rw [fe_ls_add]
  show fe_WP E 131 3 _ (.ref b :: _) (fe_ls b [fe_O 6 [.null, .null, .int (fe_z 0), .null, .null, .int (fe_z 0), .null]] 7) K
  rw [fe_e131_3r, fe_e131_4]
  refine ⟨fe_ls_ob (k := 0) rfl, ?_⟩
  refine fe_in40 ?_
  rw [fe_KB_v]
  show fe_WP E 131 7 _ _ (fe_ls b [fe_O 6 [.ref (b + 1), .ref (b + 6), .int (fe_z 0), .ref (b + 7), .ref (b + 11), .int (fe_z 0), .ref (b + 13)], fe_O 2 [.ref (b + 2), .ref (b + 3), .ref (b + 4), .ref (b + 5)], fe_Z 192 (fun _ => false), fe_Z 192 (fun _ => false), fe_Z 192 (fun _ => false), fe_O 0 [.int (fe_z 0), .int (fe_z 0), .int (fe_z 0), .int (fe_z 0), .int (fe_z 0), .int (fe_z 0), .int (fe_z 0), .int (fe_z 0), .int (fe_z 0), .int (fe_z 0)], fe_Q 12 (fun _ => none), fe_O 5 [.ref (b + 8), .ref (b + 9), .ref (b + 10)], fe_I 24 (fun _ => 0), fe_I 5 (fun _ => 0), fe_I 7 (fun _ => 0), fe_O 3 [.ref (b + 12), .int (fe_z 0)], fe_J 64 (fun _ => 0), fe_O 4 [.ref (b + 14), .int (fe_z 0), .int (fe_z 0), .int (fe_z 0), .int (fe_z 0), .int (fe_z (-1))], fe_I 60 (fun _ => 0)] 780) K
  rw [fe_e131_7, fe_e131_8]
  refine ⟨fe_ls_nw (Nat.le_of_ble_eq_true rfl) (Nat.le_of_ble_eq_true rfl), ?_⟩
  rw [fe_ls_add]
  show fe_WP E 131 11 _ (.ref (b + 15) :: _) (fe_ls b [fe_O 6 [.ref (b + 1), .ref (b + 6), .int (fe_z 0), .ref (b + 7), .ref (b + 11), .int (fe_z 0), .ref (b + 13)], fe_O 2 [.ref (b + 2), .ref (b + 3), .ref (b + 4), .ref (b + 5)], fe_Z 192 (fun _ => false), fe_Z 192 (fun _ => false), fe_Z 192 (fun _ => false), fe_O 0 [.int (fe_z 0), .int (fe_z 0), .int (fe_z 0), .int (fe_z 0), .int (fe_z 0), .int (fe_z 0), .int (fe_z 0), .int (fe_z 0), .int (fe_z 0), .int (fe_z 0)], fe_Q 12 (fun _ => none), fe_O 5 [.ref (b + 8), .ref (b + 9), .ref (b + 10)], fe_I 24 (fun _ => 0), fe_I 5 (fun _ => 0), fe_I 7 (fun _ => 0), fe_O 3 [.ref (b + 12), .int (fe_z 0)], fe_J 64 (fun _ => 0), fe_O 4 [.ref (b + 14), .int (fe_z 0), .int (fe_z 0), .int (fe_z 0), .int (fe_z 0), .int (fe_z (-1))], fe_I 60 (fun _ => 0), fe_O 7 [.int (fe_z 0), .null, .null, .null, .null, .null, .null, .null, .null, .null, .null, .null, .int (fe_z 0), .null, .null, .null, .null, .null, .int (fe_z 0), .int (fe_z 0), .null, .int (fe_z 0)]] 802) K
  rw [fe_e131_11r, fe_e131_12]
  refine ⟨fe_ls_ob (k := 15) rfl, ?_⟩
  refine fe_in68 ?_
  rw [fe_KB_v]
  show fe_WP E 131 15 _ _ (fe_ls b [fe_O 6 [.ref (b + 1), .ref (b + 6), .int (fe_z 0), .ref (b + 7), .ref (b + 11), .int (fe_z 0), .ref (b + 13)], fe_O 2 [.ref (b + 2), .ref (b + 3), .ref (b + 4), .ref (b + 5)], fe_Z 192 (fun _ => false), fe_Z 192 (fun _ => false), fe_Z 192 (fun _ => false), fe_O 0 [.int (fe_z 0), .int (fe_z 0), .int (fe_z 0), .int (fe_z 0), .int (fe_z 0), .int (fe_z 0), .int (fe_z 0), .int (fe_z 0), .int (fe_z 0), .int (fe_z 0)], fe_Q 12 (fun _ => none), fe_O 5 [.ref (b + 8), .ref (b + 9), .ref (b + 10)], fe_I 24 (fun _ => 0), fe_I 5 (fun _ => 0), fe_I 7 (fun _ => 0), fe_O 3 [.ref (b + 12), .int (fe_z 0)], fe_J 64 (fun _ => 0), fe_O 4 [.ref (b + 14), .int (fe_z 0), .int (fe_z 0), .int (fe_z 0), .int (fe_z 0), .int (fe_z (-1))], fe_I 60 (fun _ => 0), fe_O 7 [.int (fe_z 0), .ref (b + 16), .ref (b + 17), .ref (b + 18), .ref (b + 19), .ref (b + 20), .ref (b + 21), .ref (b + 22), .ref (b + 23), .ref (b + 24), .ref (b + 25), .ref (b + 26), .int (fe_z 0), .ref (b + 27), .ref (b + 28), .ref (b + 29), .ref (b + 30), .ref (b + 31), .int (fe_z 0), .int (fe_z 0), .ref (b + 32), .int (fe_z 0)], fe_Z 192 (fun _ => false), fe_Z 192 (fun _ => false), fe_Z 192 (fun _ => false), fe_I 12 (fun _ => 0), fe_I 12 (fun _ => 0), fe_I 12 (fun _ => 0), fe_I 12 (fun _ => 0), fe_Z 12 (fun _ => false), fe_I 96 (fun _ => 0), fe_I 12 (fun _ => 0), fe_Z 2304 (fun _ => false), fe_I 5 (fun _ => 0), fe_I 5 (fun _ => 0), fe_Z 96 (fun _ => false), fe_Z 4096 (fun _ => false), fe_I 4096 (fun _ => 0), fe_I 60 (fun _ => 0)] 12208) K
  rw [fe_e131_15, fe_e131_16, fe_e131_17]
  refine ⟨fe_ls_nw (Nat.le_of_ble_eq_true rfl) (Nat.le_of_ble_eq_true rfl), ?_⟩
  rw [fe_ls_add]
  show fe_WP E 131 19 _ (.ref (b + 33) :: _) (fe_ls b [fe_O 6 [.ref (b + 1), .ref (b + 6), .int (fe_z 0), .ref (b + 7), .ref (b + 11), .int (fe_z 0), .ref (b + 13)], fe_O 2 [.ref (b + 2), .ref (b + 3), .ref (b + 4), .ref (b + 5)], fe_Z 192 (fun _ => false), fe_Z 192 (fun _ => false), fe_Z 192 (fun _ => false), fe_O 0 [.int (fe_z 0), .int (fe_z 0), .int (fe_z 0), .int (fe_z 0), .int (fe_z 0), .int (fe_z 0), .int (fe_z 0), .int (fe_z 0), .int (fe_z 0), .int (fe_z 0)], fe_Q 12 (fun _ => none), fe_O 5 [.ref (b + 8), .ref (b + 9), .ref (b + 10)], fe_I 24 (fun _ => 0), fe_I 5 (fun _ => 0), fe_I 7 (fun _ => 0), fe_O 3 [.ref (b + 12), .int (fe_z 0)], fe_J 64 (fun _ => 0), fe_O 4 [.ref (b + 14), .int (fe_z 0), .int (fe_z 0), .int (fe_z 0), .int (fe_z 0), .int (fe_z (-1))], fe_I 60 (fun _ => 0), fe_O 7 [.int (fe_z 0), .ref (b + 16), .ref (b + 17), .ref (b + 18), .ref (b + 19), .ref (b + 20), .ref (b + 21), .ref (b + 22), .ref (b + 23), .ref (b + 24), .ref (b + 25), .ref (b + 26), .int (fe_z 0), .ref (b + 27), .ref (b + 28), .ref (b + 29), .ref (b + 30), .ref (b + 31), .int (fe_z 0), .int (fe_z 0), .ref (b + 32), .int (fe_z 0)], fe_Z 192 (fun _ => false), fe_Z 192 (fun _ => false), fe_Z 192 (fun _ => false), fe_I 12 (fun _ => 0), fe_I 12 (fun _ => 0), fe_I 12 (fun _ => 0), fe_I 12 (fun _ => 0), fe_Z 12 (fun _ => false), fe_I 96 (fun _ => 0), fe_I 12 (fun _ => 0), fe_Z 2304 (fun _ => false), fe_I 5 (fun _ => 0), fe_I 5 (fun _ => 0), fe_Z 96 (fun _ => false), fe_Z 4096 (fun _ => false), fe_I 4096 (fun _ => 0), fe_I 60 (fun _ => 0), fe_J 1 (fun _ => 0)] 12209) K
  rw [fe_e131_19, fe_e131_20, fe_e131_21, fe_ls_mk]
  exact hK

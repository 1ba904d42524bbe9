/-! weakest preconditions over the small machine: no fuel -/
def fe_le (r r' : fe_Rec) : Prop := ∀ (y pc : Nat) (ls : fe_Ls) (st : List Value) (h : fe_H) (q : fe_R × fe_H), r y pc ls st h = some q → r' y pc ls st h = some q
theorem fe_bk_le {r r' : fe_Rec} (hr : fe_le r r') {y pc : Nat} {ls : fe_Ls} {rest : List Value} {q q' : fe_R × fe_H} (h : fe_bk r y pc ls rest q' = some q) : fe_bk r' y pc ls rest q' = some q := by
  obtain ⟨q1, q2⟩ := q'
  unfold fe_bk at h ⊢
  cases q1 with
  | inl v => exact hr _ _ _ _ _ _ h
  | inr x =>
    dsimp only at h ⊢
    split at h
    · exact h
    · split at h
      · exact hr _ _ _ _ _ _ h
      · cases h
theorem fe_call_le {r r' : fe_Rec} (hr : fe_le r r') {y pc z : Nat} {ls : fe_Ls} {st : List Value} {h : fe_H} {q : fe_R × fe_H} (hc : fe_call r y pc ls z st h = some q) : fe_call r' y pc ls z st h = some q := by
  unfold fe_call at hc ⊢
  split at hc
  · split at hc
    · next hcond =>
      rw [if_pos hcond]
      split at hc
      · next q' hq' =>
        rw [hr _ _ _ _ _ _ hq']
        exact fe_bk_le hr hc
      · cases hc
    · cases hc
  · cases hc
theorem fe_fill_le {r r' : fe_Rec} (hr : fe_le r r') {y pc : Nat} {ls : fe_Ls} {st : List Value} {h : fe_H} {q : fe_R × fe_H} (hc : fe_fill r y pc ls st h = some q) : fe_fill r' y pc ls st h = some q := by
  unfold fe_fill at hc ⊢
  split at hc
  · split at hc
    · next n f hg =>
      split at hc
      · next hcond =>
        rw [if_pos hcond]
        exact hr _ _ _ _ _ _ hc
      · cases hc
    · cases hc
  · cases hc
theorem fe_ends_le {r r' : fe_Rec} (hr : fe_le r r') {y pc : Nat} {ls : fe_Ls} {i : Instr} {st : List Value} {h : fe_H} {q : fe_R × fe_H} (hc : fe_ends r y pc ls i st h = some q) : fe_ends r' y pc ls i st h = some q := by
  cases i with
  | invokestatic idx =>
    simp only [fe_ends] at hc ⊢
    split at hc
    · split at hc
      · next hz => rw [if_pos hz]; exact fe_fill_le hr hc
      · next hz =>
        rw [if_neg hz]
        split at hc
        · next hS => rw [if_pos hS]; exact fe_call_le hr hc
        · cases hc
    · cases hc
  | invokevirtual idx =>
    simp only [fe_ends] at hc ⊢
    split at hc
    · split at hc
      · next hS => rw [if_pos hS]; exact fe_call_le hr hc
      · cases hc
    · cases hc
  | invokespecial idx =>
    simp only [fe_ends] at hc ⊢
    split at hc
    · split at hc
      · next hS => rw [if_pos hS]; exact fe_call_le hr hc
      · cases hc
    · cases hc
  | ireturn => exact hc
  | areturn => exact hc
  | return_ => exact hc
  | new ik => exact hc
  | _ => simp [fe_ends] at hc
theorem fe_body_le {E : fe_E} {r r' : fe_Rec} (hr : fe_le r r') : fe_le (fe_body E r) (fe_body E r') := by
  intro y pc ls st h q hq
  unfold fe_body at hq ⊢
  split at hq
  · cases hq
  · split at hq
    · exact hr _ _ _ _ _ _ hq
    · split at hq
      · exact hr _ _ _ _ _ _ hq
      · exact fe_ends_le hr hq
theorem fe_run_le (E : fe_E) : ∀ n : Nat, fe_le (fe_run E n) (fe_run E (n + 1)) := by
  intro n
  induction n with
  | zero => intro y pc ls st h q hq; cases hq
  | succ n ih => exact fun y pc ls st h q hq => fe_body_le ih y pc ls st h q hq
theorem fe_run_mono (E : fe_E) {n k : Nat} (h : n ≤ k) : fe_le (fe_run E n) (fe_run E k) := by
  induction h with
  | refl => exact fun _ _ _ _ _ _ h => h
  | step _ ih => exact fun y pc ls st h q hq => fe_run_le E _ y pc ls st h q (ih y pc ls st h q hq)
def fe_WP (E : fe_E) (y pc : Nat) (ls : fe_Ls) (st : List Value) (h : fe_H) (K : fe_R → fe_H → Prop) : Prop := ∃ (n : Nat) (r : fe_R) (h' : fe_H), fe_run E n y pc ls st h = some (r, h') ∧ K r h'
section FeW
variable {E : fe_E} {y pc : Nat} {ls : fe_Ls} {st : List Value} {h : fe_H} {K : fe_R → fe_H → Prop}
theorem fe_wp_mono {K' : fe_R → fe_H → Prop} (hk : ∀ r h', K r h' → K' r h') (w : fe_WP E y pc ls st h K) : fe_WP E y pc ls st h K' := by
  obtain ⟨n, r, h', a, b⟩ := w
  exact ⟨n, r, h', a, hk r h' b⟩
/-- an end is the end: what holds of it is all that holds -/
theorem fe_wp_iff {r0 : fe_R} {h0 : fe_H} (w : fe_WP E y pc ls st h (fun r h' => r = r0 ∧ h' = h0)) : fe_WP E y pc ls st h K ↔ K r0 h0 := by
  obtain ⟨n, r, h', a, rfl, rfl⟩ := w
  constructor
  · rintro ⟨k, r2, h2, b, hK⟩
    have a2 := fe_run_mono E (Nat.le_max_left n k) _ _ _ _ _ _ a
    have b2 := fe_run_mono E (Nat.le_max_right n k) _ _ _ _ _ _ b
    cases a2.symm.trans b2
    exact hK
  · exact fun hK => ⟨n, _, _, a, hK⟩
theorem fe_wp_step (rec' : Nat → Option (fe_R × fe_H)) (hs : ∀ n, fe_run E (n + 1) y pc ls st h = rec' n) : fe_WP E y pc ls st h K ↔ ∃ (n : Nat) (r : fe_R) (h' : fe_H), rec' n = some (r, h') ∧ K r h' := by
  constructor
  · rintro ⟨n, r, h', a, b⟩
    cases n with
    | zero => cases a
    | succ n => exact ⟨n, r, h', (hs n).symm.trans a, b⟩
  · rintro ⟨n, r, h', a, b⟩
    exact ⟨n + 1, r, h', (hs n).trans a, b⟩
theorem fe_wp_p {i : Instr} {pc' : Nat} {ls' : fe_Ls} {st' : List Value} (hf : fe_fetch y pc = some i) (hp : fe_pstep i pc ls st = some (pc', ls', st')) : fe_WP E y pc ls st h K ↔ fe_WP E y pc' ls' st' h K :=
  fe_wp_step (fun n => fe_run E n y pc' ls' st' h) (fun n => by show fe_body E _ y pc ls st h = _; unfold fe_body; rw [hf]; dsimp only; rw [hp])
theorem fe_wp_b {i : Instr} {t f : Nat} {b : Bool} {P : Prop} [Decidable P] {ls' : fe_Ls} {st' : List Value} (hf : fe_fetch y pc = some i) (hp : fe_pstep i pc ls st = some (if b then t else f, ls', st')) (hb : b = decide P) : fe_WP E y pc ls st h K ↔ if P then fe_WP E y t ls' st' h K else fe_WP E y f ls' st' h K := by
  rw [fe_wp_p hf hp, hb]
  by_cases hP : P
  · simp [hP]
  · simp [hP]
theorem fe_wp_no {i : Instr} (hf : fe_fetch y pc = some i) (hp : fe_pstep i pc ls st = none) (hh : fe_hstep E y i st h = none) (he : ∀ rec : fe_Rec, fe_ends rec y pc ls i st h = none) : ¬ fe_WP E y pc ls st h K := by
  rintro ⟨n, r, h', a, b⟩
  cases n with
  | zero => cases a
  | succ n =>
    have a : fe_body E (fe_run E n) y pc ls st h = some (r, h') := a
    unfold fe_body at a
    rw [hf] at a
    dsimp only at a
    rw [hp] at a
    dsimp only at a
    rw [hh] at a
    dsimp only at a
    rw [he] at a
    cases a
theorem fe_wp_d {i : Instr} {b : Int32} {pc' : Nat} {ls' : fe_Ls} {st' : List Value} (hf : fe_fetch y pc = some i) (hp : fe_pstep i pc ls st = if b = 0 then none else some (pc', ls', st')) (hh : fe_hstep E y i st h = none) (he : ∀ rec : fe_Rec, fe_ends rec y pc ls i st h = none) : fe_WP E y pc ls st h K ↔ ¬ b = 0 ∧ fe_WP E y pc' ls' st' h K := by
  by_cases hb : b = 0
  · rw [if_pos hb] at hp
    simp only [hb, not_true_eq_false, false_and, iff_false]
    exact fe_wp_no hf hp hh he
  · rw [if_neg hb] at hp
    simp only [hb, not_false_eq_true, true_and]
    exact fe_wp_p hf hp
theorem fe_wp_h {i : Instr} {α : Type} {o : Option α} {g : α → List Value × fe_H} {pc' : Nat} (hf : fe_fetch y pc = some i) (hp : fe_pstep i pc ls st = none) (hh : fe_hstep E y i st h = o.map g) (he : ∀ rec : fe_Rec, fe_ends rec y pc ls i st h = none) (hl : pc + fe_len pc i = pc') : fe_WP E y pc ls st h K ↔ ∃ v, o = some v ∧ fe_WP E y pc' ls (g v).1 (g v).2 K := by
  cases o with
  | none =>
    simp only [reduceCtorEq, false_and, exists_false, iff_false]
    exact fe_wp_no hf hp hh he
  | some v =>
    simp only [Option.some.injEq, exists_eq_left']
    subst hl
    exact fe_wp_step (fun n => fe_run E n y (pc + fe_len pc i) ls (g v).1 (g v).2) (fun n => by show fe_body E _ y pc ls st h = _; unfold fe_body; rw [hf]; dsimp only; rw [hp]; dsimp only; rw [hh]; rfl)
/-- an instruction that ends, by a condition -/
theorem fe_wp_e {i : Instr} {P : Prop} [Decidable P] {q : fe_R × fe_H} (hf : fe_fetch y pc = some i) (hp : fe_pstep i pc ls st = none) (hh : fe_hstep E y i st h = none) (he : ∀ rec : fe_Rec, fe_ends rec y pc ls i st h = if P then some q else none) : fe_WP E y pc ls st h K ↔ P ∧ K q.1 q.2 := by
  by_cases hP : P
  · simp only [hP, true_and]
    rw [fe_wp_step (fun n => some q) (fun n => by show fe_body E _ y pc ls st h = _; unfold fe_body; rw [hf]; dsimp only; rw [hp]; dsimp only; rw [hh]; dsimp only; rw [he, if_pos hP])]
    constructor
    · rintro ⟨n, r, h', a, b⟩
      cases a
      exact b
    · exact fun hK => ⟨0, q.1, q.2, rfl, hK⟩
  · simp only [hP, false_and, iff_false]
    exact fe_wp_no hf hp hh (fun rec => by rw [he, if_neg hP])
/-- behind a call -/
def fe_KB (E : fe_E) (y pc : Nat) (ls : fe_Ls) (rest : List Value) (K : fe_R → fe_H → Prop) : fe_R → fe_H → Prop := fun r h' => match r with
  | .inl v => fe_WP E y (pc + 3) ls (v.toList ++ rest) h' K
  | .inr x => match fe_mH y with
    | [] => K (.inr x) h'
    | hs => match fe_hgo (fe_mC y) pc x.1 hs with
      | some hp => fe_WP E y hp ls [.ref x.2] h' K
      | none => False
theorem fe_bk_KB {rest : List Value} {q' : fe_R × fe_H} : (∃ (n : Nat) (r : fe_R) (h' : fe_H), fe_bk (fe_run E n) y pc ls rest q' = some (r, h') ∧ K r h') ↔ fe_KB E y pc ls rest K q'.1 q'.2 := by
  obtain ⟨q1, q2⟩ := q'
  unfold fe_bk fe_KB
  cases q1 with
  | inl v => exact Iff.rfl
  | inr x =>
    dsimp only
    generalize fe_mH y = hs
    cases hs with
    | nil =>
      constructor
      · rintro ⟨n, r, h', a, b⟩
        cases a
        exact b
      · exact fun hK => ⟨0, _, _, rfl, hK⟩
    | cons w t =>
      dsimp only
      generalize fe_hgo (fe_mC y) pc x.1 (w :: t) = o
      cases o with
      | some hp => exact Iff.rfl
      | none => simp
theorem fe_wp_call {i : Instr} {z : Nat} {as rest : List Value} {P : Prop} [Decidable P] (hf : fe_fetch y pc = some i) (hp : fe_pstep i pc ls st = none) (hh : fe_hstep E y i st h = none)
    (he : ∀ rec : fe_Rec, fe_ends rec y pc ls i st h = if P then (match rec z 0 (fe_ent z as) [] h with
      | some q => fe_bk rec y pc ls rest q
      | none => none) else none) : fe_WP E y pc ls st h K ↔ P ∧ fe_WP E z 0 (fe_ent z as) [] h (fe_KB E y pc ls rest K) := by
  by_cases hP : P
  · simp only [hP, true_and]
    rw [fe_wp_step (fun n => match fe_run E n z 0 (fe_ent z as) [] h with
      | some q => fe_bk (fe_run E n) y pc ls rest q
      | none => none) (fun n => by show fe_body E _ y pc ls st h = _; unfold fe_body; rw [hf]; dsimp only; rw [hp]; dsimp only; rw [hh]; dsimp only; rw [he, if_pos hP])]
    constructor
    · rintro ⟨n, r, h', a, b⟩
      split at a
      · next q hq => exact ⟨n, q.1, q.2, hq, fe_bk_KB.mp ⟨n, r, h', a, b⟩⟩
      · cases a
    · rintro ⟨n, r, h', a, b⟩
      obtain ⟨k, r2, h2, c, d⟩ := fe_bk_KB (q' := (r, h')).mpr b
      refine ⟨max n k, r2, h2, ?_, d⟩
      rw [fe_run_mono E (Nat.le_max_left n k) _ _ _ _ _ _ a]
      exact fe_bk_le (fe_run_mono E (Nat.le_max_right n k)) c
  · simp only [hP, false_and, iff_false]
    exact fe_wp_no hf hp hh (fun rec => by rw [he, if_neg hP])
end FeW

/-! the world: what the small heap says of the machine's, and what stands of the start -/
abbrev fe_D : Type := va_G × ClassId × ClassId × ClassId × ClassId
def fe_A (sz : Nat) : Nat → Prop := fun q => sz ≤ q
def fe_tys (D : fe_D) : List (ClassId × FieldType) := [(D.2.1, .int), (D.2.2.1, .boolean), (D.2.2.2.1, .long), (D.2.2.2.2, .object "FloorEyes$Eye")]
def fe_cell (D : fe_D) (a : Nat) (c : fe_C) (H : Heap) : Prop := match c with
  | .inl o => va_at D.1 vwCl (a, .inr o) H
  | .inr (.inl q) => H[a]? = some (arrV D.2.1 q.1 (fun j => .int (q.2 j)))
  | .inr (.inr (.inl q)) => H[a]? = some (arrV D.2.2.1 q.1 (fun j => .int (fe_bi (q.2 j))))
  | .inr (.inr (.inr (.inl q))) => H[a]? = some (arrV D.2.2.2.1 q.1 (fun j => .long (q.2 j)))
  | .inr (.inr (.inr (.inr q))) => H[a]? = some (arrV D.2.2.2.2 q.1 (fun j => va_rf (q.2 j)))
theorem fe_cell.kept {D : fe_D} {a : Nat} {c : fe_C} {H H1 : Heap} (h : fe_cell D a c H) (hq : H1[a]? = H[a]?) : fe_cell D a c H1 := by
  rcases c with o | q | q | q | q
  · exact va_at.kept (q := (a, .inr o)) h hq
  all_goals exact hq.trans h
theorem fe_cell.lt {D : fe_D} {a : Nat} {c : fe_C} {H : Heap} (h : fe_cell D a c H) : a < H.size := by
  rcases c with o | q | q | q | q
  · exact va_at.lt (q := (a, .inr o)) h
  all_goals exact (Array.getElem?_eq_some_iff.mp h).1
def fe_HR (D : fe_D) (sz : Nat) (h : fe_H) (H : Heap) : Prop := h.1 = H.size ∧ ∀ (a : Nat) (c : fe_C), fe_get h a = some c → sz ≤ a ∧ fe_cell D a c H
theorem fe_HR.put {D : fe_D} {sz a : Nat} {h : fe_H} {H H' : Heap} {c0 c : fe_C} (hr : fe_HR D sz h H) (ha : fe_get h a = some c0) (hc : fe_cell D a c H') (z : H'.size = H.size) (oq : ∀ q : Nat, q ≠ a → H'[q]? = H[q]?) : fe_HR D sz (fe_put h a c) H' := by
  refine ⟨hr.1.trans z.symm, fun b d hb => ?_⟩
  unfold fe_get fe_put at hb
  dsimp only at hb
  split at hb
  · next e => subst e; cases hb; exact ⟨(hr.2 b c0 ha).1, hc⟩
  · next e => exact ⟨(hr.2 b d hb).1, (hr.2 b d hb).2.kept (oq b e)⟩
theorem fe_HR.add {D : fe_D} {sz n : Nat} {h : fe_H} {H H' : Heap} {c : fe_C} (hr : fe_HR D sz h H) (hs : sz ≤ H.size) (hc : fe_cell D H.size c H') (z : H'.size = H.size + 1) (oq : ∀ q : Nat, q < H.size → H'[q]? = H[q]?) : fe_HR D sz (fe_add h n c) H' := by
  refine ⟨by show h.1 + 1 = _; rw [hr.1, z], fun b d hb => ?_⟩
  unfold fe_get fe_add at hb
  dsimp only at hb
  split at hb
  · next e => rw [hr.1] at e; subst e; cases hb; exact ⟨hs, hc⟩
  · next e => exact ⟨(hr.2 b d hb).1, (hr.2 b d hb).2.kept (oq b (hr.2 b d hb).2.lt)⟩
/-- what stands of the start, in the state U -/
def fe_EV (D : fe_D) (E : fe_E) (sz : Nat) (U : State) : Prop :=
  fe_wd U ∧ va_K D.1 vwCl (fe_tys D) U ∧ E.1 < sz ∧ va_X E.1 E.2.1 E.2.2.1 U U.heap ∧ va_Z "FloorEyes$Plan" "WITHOUT_BIT" "[J" (.ref E.2.2.2) (fe_A sz) U U.heap ∧ va_T .long E.2.2.2 6 (fun j => .long (fe_wb j)) (fe_A sz) U U.heap ∧
  vx_Zq Bundle.tN "UNASSIGNED_STACK" Bundle.steD (fe_A sz) U U.heap ∧ vx_Zq Bundle.tN "SUPPRESSED_SENTINEL" Bundle.listD (fe_A sz) U U.heap ∧ ((∀ q ∈ fe_xs, ∃ sa : Nat, vk_R (fe_cls q.1.1) q.1.2 q.2 sa U) ∧ va_Nc (fe_xn.getD 1 "") (fe_xn.getD 0 "") U ∧ va_Nc (fe_xn.getD 2 "") (fe_xn.getD 1 "") U) ∧ va_AO "FloorEyes$Eye" U ∧ sz ≤ U.heap.size
theorem fe_EV.moved {D : fe_D} {E : fe_E} {sz : Nat} {s U : State} (h : fe_EV D E sz s) (hW : s.WarmedH U.vm) (hz : s.heap.size ≤ U.heap.size) (hq : ∀ a : Nat, a < s.heap.size → ¬ fe_A sz a → U.heap[a]? = s.heap[a]?) : fe_EV D E sz U := by
  obtain ⟨h1, h2, h3, h4, h5, h6, h7, h8, h9, h10, h11⟩ := h
  have hal := hW.alike
  refine ⟨h1.moved hW, h2.moved hal, h3, ?_, va_Z.moved hal (h5.kept hq), va_T.moved hal (h6.kept hq), vx_Zq.moved hal (h7.kept hq), vx_Zq.moved hal (h8.kept hq), ⟨fun q hm => ?_, va_Nc.moved hal h9.2.1, va_Nc.moved hal h9.2.2⟩, h10.moved hal, Nat.le_trans h11 hz⟩
  · exact va_X.moved hal (h4.kept (hq _ (Nat.lt_of_lt_of_le h3 h11) (Nat.not_le.mpr h3)))
  · obtain ⟨sa, hs⟩ := h9.1 q hm
    exact ⟨sa, vk_R.warm hW hs⟩
/-- what holds of a method under way -/
def fe_G (p : Program) (l : Launch) (R : Room) (s : State) (m : MethodId) (meth : Method) (c : Code) (y : Nat) (D : fe_D) (E : fe_E) (sz : Nat) : Prop :=
  p.tables.exec = Jvm.exec ∧ c.code = fe_mB y ∧ c.maxLocals = fe_mL y ∧ meth.sig.returnType = fe_mR y ∧ meth.locks = false ∧ s.vm.findClass (fe_cls (fe_mC y)) = some m.cls ∧ c.exceptionTable.toList = tableOf (fe_mH y) ∧ (fe_mI y = true → meth.name = "<init>") ∧ fe_EV D E sz s ∧ fe_mF y ≤ R.frames ∧ fe_mW y ≤ R.locals ∧ l.stackTraces = false
theorem fe_look {α β : Type} [BEq α] [LawfulBEq α] {l : List (α × β)} {a : α} {b : β} (h : l.lookup a = some b) : (a, b) ∈ l := by
  induction l with
  | nil => cases h
  | cons q t ih =>
    rw [List.lookup_cons] at h
    split at h
    · next e => cases h; have := eq_of_beq e; rw [this]; exact List.mem_cons_self
    · exact List.mem_cons_of_mem _ (ih h)
theorem fe_vw_at (ci : Nat) (h : ci < 8) : vwCl[ci]? = some (fe_vw ci) := by
  match ci, h with
  | 0, _ => rfl
  | 1, _ => rfl
  | 2, _ => rfl
  | 3, _ => rfl
  | 4, _ => rfl
  | 5, _ => rfl
  | 6, _ => rfl
  | 7, _ => rfl
  | n + 8, h => omega
theorem fe_uw : ∀ ci ∈ List.range 8, ∀ w ∈ u_ws (fe_vw ci).1 (fe_vw ci).2.1 (fe_nf ci), fe_in w = true := by decide +kernel
theorem fe_pw : ∀ ci, ci < 8 → ∀ k, k < fe_nf ci → parseFieldDescriptor ((fe_vw ci).2.1 k).2.2.1 = some (fe_ty ci k) := by decide +kernel
theorem fe_nw_ap : ∀ ci, ci < 8 → ∀ a, a < fe_nf ci → ∀ b, b < fe_nf ci → a ≠ b → ((fe_vw ci).2.1 a).2.1 ≠ ((fe_vw ci).2.1 b).2.1 := by decide +kernel
theorem fe_ow : ∀ ci, ci < 8 → ∀ k, k < fe_nf ci → ((fe_vw ci).2.1 k).1 = (fe_vw ci).1 ∧ fe_cls ci = (fe_vw ci).1 := by decide +kernel
theorem fe_us {D : fe_D} {E : fe_E} {sz : Nat} {s : State} (h : fe_EV D E sz s) {ci : Nat} (hc : ci < 8) {args : Array Value} : ∀ w ∈ u_ws (fe_vw ci).1 (fe_vw ci).2.1 (fe_nf ci), w.before args s = true := fun w hw => h.1.ok (fe_uw ci (List.mem_range.mpr hc) w hw)
theorem fe_okV_spec {ty : FieldType} {v : Value} (h : fe_okV ty v = true) : narrow ty v = v ∧ fits ty v = true := by
  unfold fe_okV at h
  split at h
  · exact ⟨rfl, rfl⟩
  · next x =>
    simp only [Bool.or_eq_true, decide_eq_true_eq] at h
    rcases h with rfl | rfl <;> exact ⟨by decide, by decide⟩
  · exact ⟨rfl, rfl⟩
  · exact ⟨rfl, rfl⟩
  · exact ⟨rfl, rfl⟩
  · exact ⟨rfl, rfl⟩
  · cases h
theorem fe_inb_spec {i : Int32} {n : Nat} (h : fe_inb i n = true) : vp_in i n := by
  simp only [fe_inb, Bool.and_eq_true, decide_eq_true_eq] at h
  rintro (q | q)
  · exact absurd h.1 (Int32.not_le.mpr q)
  · omega
theorem fe_bi_tb (x : Int32) : fe_bi (fe_tb x) = x &&& 1 := by
  obtain ⟨j, hj, e⟩ := pk_andE x (m := 1) 1 (by decide)
  unfold fe_bi fe_tb
  rw [e]
  rcases (by omega : j = 0 ∨ j = 1) with rfl | rfl <;> decide

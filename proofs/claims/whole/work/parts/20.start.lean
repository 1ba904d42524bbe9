/-! from the small machine's run of the law to the claim -/
theorem fe_nc_no : ∀ w ∈ fe_nc, fe_mv w = false := by decide +kernel
def fe_h0 (sz : Nat) : fe_H := (sz, 601024, 7293033, fun _ => none)
/-- what is owed of the small machine: on every script the law answers 1 -/
def fe_Law : Prop := ∀ (b L : Nat) (xs : Nat → Int32) (tw sz : Nat), L ≤ 3584 → b < sz → ∃ (n : Nat) (h' : fe_H), fe_run (b, L, xs, tw) n 131 0 (fe_ent 131 [.ref b]) [] (fe_h0 sz) = some (.inl (some (.int 1)), h')
def R_law : String := "FloorEyesLaw"
def lw_P (b : Addr) (xs : List Int32) (args : Array Value) (s : State) : Prop := args = #[.ref b] ∧ s.IntsAt b xs ∧ xs.length ≤ 3584 ∧ (Jvm.Cond.and given_1 narrow_1).before args s = true
def lw_Q (_ : Array Value) (s : State) (o : Outcome) (t : State) : Prop := o = .returned (some (.int 1)) ∧ Framed s o t [] 601024 7293033
def lw_Z (below : List Frame) (a : Array Value) (s : State) : State → Prop := fun t => ∃ o, t.status = .running ∧ Ended t below o ∧ lw_Q a s o t
def lw_At (p : Program) (s : State) (m : MethodId) (meth : Method) (c : Code) (b L : Nat) (xs : Nat → Int32) : Prop :=
  p.tables.exec = Jvm.exec ∧ c.code = code ∧ meth.sig.returnType = ret ∧ c.maxLocals = 7 ∧ s.vm.findClass R_law = some m.cls ∧ (∀ w ∈ lw_tbl, w.before #[Value.ref b] s = true) ∧ va_X b L xs s s.heap ∧ b < s.heap.size ∧ meth.locks = false ∧ (Jvm.Cond.and given_1 narrow_1).before #[Value.ref b] s = true ∧ c.exceptionTable.toList = []
theorem fe_arr_of {s : State} {args : Array Value} {ty : FieldType} (h : (Jvm.Cond.arrayClass ty).before args s = true) (hty : ∀ C, ty ≠ .object C) : ∃ cA : ClassId, ArrOfT s cA ty ∧ va_RA s cA ty := by
  obtain ⟨cA, k, comp, h1, h2, h3⟩ := Cond.arrayClass_spec h
  refine ⟨cA, fun n z => ⟨fun k h => (by cases h), k, h2, comp, h3⟩, ?_⟩
  cases ty with
  | object C => exact absurd rfl (hty C)
  | _ => exact h1
theorem fe_arr_ofQ {s : State} {C : String} (h : va_AO C s) : ∃ cA : ClassId, ArrOfT s cA (.object C) ∧ va_RA s cA (.object C) := by
  obtain ⟨comp, cA, k, h1, h2, h3, h4, h5⟩ := Cond.arrayOver_spec h
  exact ⟨cA, fun n z => ⟨fun k h => (by cases h), k, h3, comp, h4⟩, k, comp, h3, h4, h1, h5⟩
theorem fe_known {s : State} {a : Array Value} (hts : ∀ w ∈ lw_tbl, w.before a s = true) (hwd : fe_wd s) : ∃ (dC : Nat → ClassId) (dI : Nat → Nat → Nat), ∀ (k : Nat) (q : vw_C), vwCl[k]? = some q → u_Kn s q.1 q.2.1 q.2.2 (dC k) (dI k) := by
  have one : ∀ ci, ∃ (cC : ClassId) (iS : Nat → Nat), ci < 8 → u_Kn s (fe_vw ci).1 (fe_vw ci).2.1 (fe_vw ci).2.2 cC iS := by
    intro ci
    by_cases hc : ci < 8
    · have hin : fe_in (.instantiable (fe_vw ci).1 (fe_nf ci)) = true := by
        revert ci
        decide +kernel
      obtain ⟨cC, iS, hk⟩ := u_known (ws := u_ws (fe_vw ci).1 (fe_vw ci).2.1 (fe_nf ci)) (args := #[]) (C := (fe_vw ci).1) (T := (fe_vw ci).2.1) (N := (fe_vw ci).2.2) (fun w hw => hwd.ok (fe_uw ci (List.mem_range.mpr hc) w hw)) (fun _ h => h) (hwd.ok hin)
      exact ⟨cC, iS, fun _ => hk⟩
    · exact ⟨0, fun _ => 0, fun h => absurd h hc⟩
  refine ⟨fun k => (one k).choose, fun k => (one k).choose_spec.choose, fun k q hq => ?_⟩
  have hk : k < 8 := (List.getElem?_eq_some_iff.mp hq).1
  rw [fe_vw_at k hk] at hq
  cases hq
  exact (one k).choose_spec.choose_spec hk
def fe_nr : List Jvm.Cond := [.arrayOf (.static "FloorEyes$Plan" "WITHOUT_BIT" "[J") .long, .eq (.length (.static "FloorEyes$Plan" "WITHOUT_BIT" "[J")) (.int 6), .isRef (.static Bundle.tN "UNASSIGNED_STACK" Bundle.steD), .isRef (.static Bundle.tN "SUPPRESSED_SENTINEL" Bundle.listD)] ++ fe_nc ++ (List.range 6).map (fun j => .eq (.elem (.static "FloorEyes$Plan" "WITHOUT_BIT" "[J") (.int (Int32.ofNat j))) (.long (fe_wb j))) ++ fe_xs.map (fun q => .exactly (.string (fe_cls q.1.1) q.1.2) "java/lang/String")
theorem fe_nr_in : ∀ w ∈ fe_nr, w ∈ flatC (Jvm.Cond.and given_1 narrow_1) := by decide +kernel
theorem fe_xs_in : ∀ q ∈ fe_xs, Jvm.Cond.stringRef (fe_cls q.1.1) q.1.2 q.2 ∈ lw_tbl := by decide +kernel
theorem fe_ls_in : Jvm.Cond.laysStatic "FloorEyes$Plan" "WITHOUT_BIT" "[J" ∈ lw_tbl ∧ Jvm.Cond.laysStatic Bundle.tN "UNASSIGNED_STACK" Bundle.steD ∈ lw_tbl ∧ Jvm.Cond.laysStatic Bundle.tN "SUPPRESSED_SENTINEL" Bundle.listD ∈ lw_tbl ∧ Jvm.Cond.initialized "FloorEyes$Plan" ∈ lw_tbl ∧ Jvm.Cond.initialized Bundle.tN ∈ lw_tbl ∧ Jvm.Cond.arrayOver (.object "FloorEyes$Eye") ∈ lw_tbl := by decide +kernel
theorem fe_ac_in : fe_in (.arrayClass .int) = true ∧ fe_in (.arrayClass .boolean) = true ∧ fe_in (.arrayClass .long) = true := by decide +kernel
theorem fe_start_EV {s : State} {b L : Nat} {xs : Nat → Int32} (hts : ∀ w ∈ lw_tbl, w.before #[Value.ref b] s = true) (hX : va_X b L xs s s.heap) (hbl : b < s.heap.size) (hgv : (Jvm.Cond.and given_1 narrow_1).before #[Value.ref b] s = true) : ∃ (D : fe_D) (tw : Nat), fe_EV D (b, L, xs, tw) s.heap.size s := by
  have hwd : fe_wd s := by
    intro w hw hm a
    rcases List.mem_append.mp hw with h | h
    · exact fe_move hm (State.WarmedH.refl s) (hts w h)
    · rw [fe_nc_no w h] at hm
      cases hm
  have hg : ∀ w ∈ fe_nr, w.before #[Value.ref b] s = true := fun w hw => flat_of_before _ hgv w (fe_nr_in w hw)
  obtain ⟨dC, dI, hk⟩ := fe_known hts hwd
  have hAO : va_AO "FloorEyes$Eye" s := va_AO.of (hts _ fe_ls_in.2.2.2.2.2)
  obtain ⟨cI, hI1, hI2⟩ := fe_arr_of (hwd.ok fe_ac_in.1 (a := #[])) (fun C h => by cases h)
  obtain ⟨cZ, hZ1, hZ2⟩ := fe_arr_of (hwd.ok fe_ac_in.2.1 (a := #[])) (fun C h => by cases h)
  obtain ⟨cJ, hJ1, hJ2⟩ := fe_arr_of (hwd.ok fe_ac_in.2.2 (a := #[])) (fun C h => by cases h)
  obtain ⟨cQ, hQ1, hQ2⟩ := fe_arr_ofQ hAO
  have hA : ∀ a : Nat, a < s.heap.size → ¬ fe_A s.heap.size a := fun a h => Nat.not_le.mpr h
  obtain ⟨tw, ht, hT⟩ := va_Tof (A := fe_A s.heap.size) (N := 6) (f := fun j => .long (fe_wb j)) (by decide) (hg (.arrayOf (.static "FloorEyes$Plan" "WITHOUT_BIT" "[J") .long) (by simp [fe_nr])) (va_eqt (hg (.eq (.length (.static "FloorEyes$Plan" "WITHOUT_BIT" "[J")) (.int 6)) (by simp [fe_nr])))
    (fun j hj => va_eqtl (hg _ (List.mem_append_left _ (List.mem_append_right _ (List.mem_map.mpr ⟨j, List.mem_range.mpr hj, rfl⟩))))) hA
  refine ⟨((dC, dI), cI, cZ, cJ, cQ), tw, hwd, ⟨hk, fun k q hq => ?_⟩, hbl, hX, va_Zref (hts _ fe_ls_in.1) (hts _ fe_ls_in.2.2.2.1) ht hA, hT, vx_Zqof (hts _ fe_ls_in.2.1) (hts _ fe_ls_in.2.2.2.2.1) (hg _ (by simp [fe_nr])) hA, vx_Zqof (hts _ fe_ls_in.2.2.1) (hts _ fe_ls_in.2.2.2.2.1) (hg _ (by simp [fe_nr])) hA, ⟨fun q hq => ?_, va_Nc.of (hg _ (List.mem_append_left _ (List.mem_append_left _ (List.mem_append_right _ (List.mem_of_getElem? (i := 0) rfl))))), va_Nc.of (hg _ (List.mem_append_left _ (List.mem_append_left _ (List.mem_append_right _ (List.mem_of_getElem? (i := 1) rfl)))))⟩, hAO, Nat.le_refl _⟩
  · unfold fe_tys at hq
    match k, hq with
    | 0, hq => cases hq; exact ⟨hI1, hI2⟩
    | 1, hq => cases hq; exact ⟨hZ1, hZ2⟩
    | 2, hq => cases hq; exact ⟨hJ1, hJ2⟩
    | 3, hq => cases hq; exact ⟨hQ1, hQ2⟩
    | k + 4, hq => cases hq
  · have hex := hg (.exactly (.string (fe_cls q.1.1) q.1.2) "java/lang/String") (List.mem_append_right _ (List.mem_map.mpr ⟨q, hq, rfl⟩))
    obtain ⟨a2, c2, cA, kA, q1, -⟩ := Cond.exactly_spec (args := #[Value.ref b]) (first := s) (o := none) (s := s) (idx := []) (t := .string (fe_cls q.1.1) q.1.2) (cls := "java/lang/String") hex
    exact ⟨a2, vk_R.of (hts _ (fe_xs_in q hq)) q1⟩

/-! the small machine is sound -/
section FeM
variable {p : Program} {l : Launch} {e : Env} {R : Room} {s : State} {m : MethodId} {args : Array Value} {below : List Frame} {meth : Method} {c : Code} {H : Heap} {locs : List Loc} {cells slots : Nat}
variable {pc y z sz : Nat} {arr : Array Slot} {D : fe_D} {E : fe_E} {h : fe_H} {st as rest : List Value} {q Qf : fe_R × fe_H} {ls : fe_Ls}
/-- a return of an int or a boolean -/
theorem fe_w_ret (G : fe_G p l R s m meth c y D E sz) (X0 : fe_X D sz R s h H locs cells slots) {v : Int32} {ty : FieldType} (hR : fe_mR y = some ty) (hok : fe_okV ty (.int v) = true) (hd : decode (fe_mB y) pc = .ok (.ireturn, 1)) :
    W p l e R s m args below meth c H locs cells slots (fe_Fin D sz R s below (.inl (some (.int v)), h)) (F0 m pc arr [.int v]) := by
  obtain ⟨hexec, hb, hml, hrt, hlocks, hown, htab, hini, hE, hF, hWd, hl⟩ := G
  rw [hR] at hrt
  intro T hT X
  obtain ⟨fs, hret, hrun, hended, hW, hframe⟩ := X.leave (v := some (.int v)) (hlocks := hlocks) (fun h => by rw [hrt] at h; cases h)
  have hmeth' : T.vm.method? m = some meth := X.method'
  have hn := (fe_okV_spec hok).1
  have hdc : decode c.code pc = .ok (.ireturn, 1) := by rw [hb]; exact hd
  refine ⟨T.setFrames fs, ?_, .returned (some (.int v)), locs, cells, slots, hrun, hended, hW, hframe, ?_, rfl⟩
  · jvm_step X.here [X.here.top, hexec, hdc, hmeth', hrt, hn]
    (try refine ⟨rfl, ?_⟩); (try refine ⟨rfl, ?_⟩)
    first | (intro acts; rw [hret _ acts rfl rfl rfl]) | rw [hret _ _ rfl rfl rfl]
    exact Steps.refl _
  · show fe_X D sz R s h T.heap locs cells slots
    rw [hT]
    exact X0
/-- a return of a reference -/
theorem fe_w_aret (G : fe_G p l R s m meth c y D E sz) (X0 : fe_X D sz R s h H locs cells slots) {v : Nat} {ty : FieldType} (hR : fe_mR y = some ty) (hok : fe_okV ty (.ref v) = true) (hd : decode (fe_mB y) pc = .ok (.areturn, 1)) :
    W p l e R s m args below meth c H locs cells slots (fe_Fin D sz R s below (.inl (some (.ref v)), h)) (F0 m pc arr [.ref v]) := by
  obtain ⟨hexec, hb, hml, hrt, hlocks, hown, htab, hini, hE, hF, hWd, hl⟩ := G
  rw [hR] at hrt
  intro T hT X
  obtain ⟨fs, hret, hrun, hended, hW, hframe⟩ := X.leave (v := some (.ref v)) (hlocks := hlocks) (fun h => by rw [hrt] at h; cases h)
  have hmeth' : T.vm.method? m = some meth := X.method'
  have hn := (fe_okV_spec hok).1
  have hir : ty.isReference = true := by
    cases ty <;> first | rfl | (simp [fe_okV] at hok)
  have hdc : decode c.code pc = .ok (.areturn, 1) := by rw [hb]; exact hd
  refine ⟨T.setFrames fs, ?_, .returned (some (.ref v)), locs, cells, slots, hrun, hended, hW, hframe, ?_, rfl⟩
  · jvm_step X.here [X.here.top, hexec, hdc, hmeth', hrt, hn]
    refine ⟨rfl, hir, ?_⟩
    first | (intro acts; rw [hret _ acts rfl rfl rfl]) | rw [hret _ _ rfl rfl rfl]
    exact Steps.refl _
  · show fe_X D sz R s h T.heap locs cells slots
    rw [hT]
    exact X0
theorem fe_w_vret (G : fe_G p l R s m meth c y D E sz) (X0 : fe_X D sz R s h H locs cells slots) (hR : fe_mR y = none) (hd : decode (fe_mB y) pc = .ok (.return_, 1)) :
    W p l e R s m args below meth c H locs cells slots (fe_Fin D sz R s below (.inl none, h)) (F0 m pc arr []) := by
  obtain ⟨hexec, hb, hml, hrt, hlocks, hown, htab, hini, hE, hF, hWd, hl⟩ := G
  rw [hR] at hrt
  intro T hT X
  obtain ⟨fs, hret, hrun, hended, hW, hframe⟩ := X.leave (v := none) (hlocks := hlocks) (fun _ => rfl)
  have hmeth' : T.vm.method? m = some meth := X.method'
  have hdc : decode c.code pc = .ok (.return_, 1) := by rw [hb]; exact hd
  refine ⟨T.setFrames fs, ?_, .returned none, locs, cells, slots, hrun, hended, hW, hframe, ?_, rfl⟩
  · jvm_step X.here [X.here.top, hexec, hdc, hmeth', hrt]
    (try refine ⟨rfl, ?_⟩); (try refine ⟨rfl, ?_⟩)
    first | (intro acts; rw [hret _ acts rfl rfl rfl]) | rw [hret _ _ rfl rfl rfl]
    exact Steps.refl _
  · show fe_X D sz R s h T.heap locs cells slots
    rw [hT]
    exact X0
theorem fe_xl_in : ∀ q ∈ fe_xl, q.1.1.1 = 6 ∧ q.2 < 4 ∧ fe_in (.classLink (fe_cls 6) q.1.1.2 (fe_xn.getD q.2 "")) = true ∧ fe_in (.initialized (fe_xn.getD q.2 "")) = true ∧ (fe_xs.lookup (6, q.1.2.1)).isSome = true ∧ ((q.2 = 0 ∧ q.1.2.2 = 175) ∨ (q.2 = 1 ∧ q.1.2.2 = 182) ∨ (q.2 = 2 ∧ q.1.2.2 = 81) ∨ (q.2 = 3 ∧ q.1.2.2 = 147)) ∧ vx_ot (.classLink (fe_cls 6) q.1.1.2 (fe_xn.getD q.2 "")) = true ∧ vx_ot (.initialized (fe_xn.getD q.2 "")) = true ∧ Bundle.fit (fe_xn.getD q.2 "") = true := by decide +kernel
/-- which text of the constructor, by the exception's number -/
theorem fe_xall {x ic : Nat} (hx : (x = 0 ∧ ic = 175) ∨ (x = 1 ∧ ic = 182) ∨ (x = 2 ∧ ic = 81) ∨ (x = 3 ∧ ic = 147)) : ∃ (i1 : Nat) (b1 : ByteArray), decode b1 0 = .ok (.aload_n 0, 1) ∧ decode b1 1 = .ok (.aload_n 1, 1) ∧ decode b1 2 = .ok (.invokespecial i1, 3) ∧ decode b1 5 = .ok (.return_, 1) ∧ (fe_xw ic (fe_xn.getD x "") i1 b1).all (fun w => fe_in w && vx_ot w) = true := by
  rcases hx with ⟨rfl, rfl⟩ | ⟨rfl, rfl⟩ | ⟨rfl, rfl⟩ | ⟨rfl, rfl⟩
  · exact ⟨7, Bundle.six, Bundle.six_0, Bundle.six_1, Bundle.six_2, Bundle.six_5, fe_xa_0⟩
  · exact ⟨7, Bundle.six, Bundle.six_0, Bundle.six_1, Bundle.six_2, Bundle.six_5, fe_xa_1⟩
  · exact ⟨7, Bundle.six, Bundle.six_0, Bundle.six_1, Bundle.six_2, Bundle.six_5, fe_xa_2⟩
  · exact ⟨13, prog_20_method_4_code, by decide +kernel, by decide +kernel, by decide +kernel, by decide +kernel, fe_xa_3⟩
theorem fe_w_throw (G : fe_G p l R s m meth c y D E sz) (X0 : fe_X D sz R s h H locs cells slots) {ik is ic x : Nat} (hx : fe_xl.lookup ((fe_mC y, ik), (is, ic)) = some x) (hsize : arr.size = fe_mL y)
    (d0 : fe_fetch y pc = some (.new ik)) (d3 : fe_fetch y (pc + 3) = some .dup) (d4 : fe_fetch y (pc + 4) = some (.ldc is)) (d6 : fe_fetch y (pc + 6) = some (.invokespecial ic)) (d9 : fe_fetch y (pc + 9) = some .athrow)
    (hF : 6 ≤ fe_mF y) (hWd : 2 * st.length + 82 ≤ fe_mW y) (hH : fe_mH y = []) (hn : fe_nw h 6 = true) :
    W p l e R s m args below meth c H locs cells slots (fe_Fin D sz R s below (.inr (x, h.1), fe_burn h 6)) (F0 m pc arr st) := by
  have hq := fe_xl_in _ (fe_look hx)
  obtain ⟨h6, hx4, w1, w2, hs, hcase, o1, o2, hfit⟩ := hq
  have h6 : fe_mC y = 6 := h6
  obtain ⟨i1, b1, g0, g1, g2, g5, hall⟩ := fe_xall hcase
  have hE := G.2.2.2.2.2.2.2.2.1
  obtain ⟨text, htx⟩ := Option.isSome_iff_exists.mp hs
  obtain ⟨sa, hsa⟩ := hE.2.2.2.2.2.2.2.2.1.1 _ (fe_look htx)
  have hml := G.2.2.1
  have hw : ∀ w ∈ fe_xw ic (fe_xn.getD x "") i1 b1, fe_in w = true ∧ vx_ot w = true := fun w hw => by
    have := List.all_eq_true.mp hall w hw
    simpa [Bool.and_eq_true] using this
  refine fe_throw G X0 hH (own := fe_cls 6) (cls := fe_xn.getD x "") (text := text) (ik := ik) (is := is) (ic := ic) (i1 := i1) (x := x) (b1 := b1) (sa := sa) (by rw [h6]) hx4 rfl hfit g0 g1 g2 g5 (hE.1.ok w1) (hE.1.ok w2) hsa (fun w hw' => hE.1.ok (hw w hw').1) ?_ (by rw [hml]; exact hsize)
    (fe_fetch_ok d0) (fe_fetch_ok d3) (fe_fetch_ok d4) (fe_fetch_ok d6) (fe_fetch_ok d9) hF hWd hn
  intro w hw'
  rcases List.mem_cons.mp hw' with rfl | hw'
  · exact o1
  · rcases List.mem_cons.mp hw' with rfl | hw'
    · exact o2
    · exact (hw w hw').2
theorem fe_ent_L {z : Nat} {as : List Value} (mk : MethodId) (hlen : as.length ≤ fe_mL z) (hcat : as.all (fun v => v.category == 1) = true) : ∃ arr : Array Slot, entryFrame mk as.toArray (fe_mL z) = F0 mk 0 arr [] ∧ fe_L arr (fe_mL z) (fe_ent z as) := by
  have hc : ∀ v ∈ as, v.category = 1 := fun v hv => by simpa using List.all_eq_true.mp hcat v hv
  have hsl : ∀ (l : List Value), (∀ v ∈ l, v.category = 1) → lg_sl l = l.map Slot.val := by
    intro l
    induction l with
    | nil => intro _; rfl
    | cons v t ih =>
      intro hh
      have h1 := hh v List.mem_cons_self
      have h2 := ih (fun w hw => hh w (List.mem_cons_of_mem _ hw))
      unfold lg_sl at h2 ⊢
      rw [List.flatMap_cons, h2, if_neg (by omega)]
      rfl
  have hla : ∀ (l : List Value) (k : Nat), (∀ v ∈ l, v.category = 1) → ∀ (i : Nat) (v : Value), l[i]? = some v → (k + i, v) ∈ lv_args k l := by
    intro l
    induction l with
    | nil => intro k _ i v h; cases h
    | cons w t ih =>
      intro k hh i v hv
      have h1 := hh w List.mem_cons_self
      simp only [lv_args, if_neg (show ¬ w.category = 2 by omega)]
      cases i with
      | zero => cases hv; exact List.mem_cons_self
      | succ i =>
        have := ih (k + 1) (fun w hw => hh w (List.mem_cons_of_mem _ hw)) i v hv
        rw [show k + (i + 1) = k + 1 + i by omega]
        exact List.mem_cons_of_mem _ this
  have hl0 : (lg_sl as).length ≤ fe_mL z := by rw [hsl as hc, List.length_map]; exact hlen
  have hl := lv_entry as hl0
  refine ⟨_, lg_entry_eq mk as (fe_mL z), hl.1, hl.2.1, ?_, fun i v hv => ?_⟩
  · unfold fe_ent
    rw [List.length_append, List.length_map, List.length_replicate]
    omega
  · unfold fe_ent at hv
    rw [List.getElem?_append] at hv
    split at hv
    · rw [List.getElem?_map] at hv
      cases hi : as[i]? with
      | none => rw [hi] at hv; cases hv
      | some w =>
        rw [hi] at hv
        cases hv
        have := hl.2.2 (0 + i, v) (hla as 0 hc i v hi)
        rw [Nat.zero_add] at this
        exact ⟨this, hc v (List.mem_of_getElem? hi)⟩
    · have := List.mem_of_getElem? hv
      have := List.eq_of_mem_replicate this
      cases this
end FeM

/-! calls of instance methods and constructors; catching -/
theorem fe_init_ok : (List.range 131).all (fun z => !(fe_mI z) || (decide (fe_mH z = []) && decide (fe_mR z = none) && !(fe_mS z))) = true := by decide +kernel
theorem fe_init_at {z : Nat} (hz : z < 131) (hI : fe_mI z = true) : fe_mH z = [] ∧ fe_mR z = none ∧ fe_mS z = false := by
  have h := List.all_eq_true.mp fe_init_ok z (List.mem_range.mpr hz)
  rw [hI] at h
  simpa [and_assoc] using h
section FeV
variable {p : Program} {l : Launch} {e : Env} {R : Room} {s : State} {m : MethodId} {args : Array Value} {below : List Frame} {meth : Method} {c : Code} {T : State} {locs : List Loc} {cells slots : Nat}
variable {y z idx pos sz : Nat} {nest : Bool} {D : fe_D} {E : fe_E} {mk : MethodId} {g : JFrame} {al rest : List Value} {b : Nat} {h : fe_H} {fs : List Value}
theorem fe_invV (X : Stand p l e R s m args below meth c T locs cells slots) (G : fe_G p l R s m meth c y D E sz) (hf : fe_cl.lookup (fe_mC y, idx) = some (z, nest, pos)) (hS : fe_mS z = false) (hI : fe_mI z = false) (hn : s.methodNamed? (fe_mN z) = some mk) (hR : fe_HR D sz h T.heap) (hb1 : fe_get h b = some (fe_O (fe_mC z) fs)) (hg : g.method = m) (hlen : al.length + 1 = fe_mA z) (hst : g.stack = al.reverse ++ .ref b :: rest) (hd : decode (fe_mB y) g.pc = .ok (.invokevirtual idx, 3)) : fe_Inv p l e R s m args below meth c T locs cells slots g rest mk (.ref b :: al) := by
  obtain ⟨hx, hb, -, -, -, hown, -, -, hE, -⟩ := G
  obtain ⟨hw, hz⟩ := fe_cl_in _ (fe_look hf)
  have hz : z < 131 := hz
  obtain ⟨mk', mt, ck, k, hn', a1, a2, a3, a4, a5, a6, a7, a8, a9, a10, a11, a12, a13⟩ := fe_mth hE.1 hz
  cases Option.some.inj (hn.symm.trans hn')
  have h0 := fe_mok_all hz
  simp only [fe_mok, Bool.and_eq_true, decide_eq_true_eq, hS, hI, Bool.false_or, Bool.false_eq_true, if_false] at h0
  obtain ⟨⟨⟨⟨⟨⟨⟨h1, h2⟩, h3⟩, ⟨⟨⟨h4, h41⟩, h42⟩, h43⟩⟩, h5⟩, h6⟩, h7⟩, h8⟩ := h0
  obtain ⟨mk2, mt2, hn2, b1, b2, b3⟩ := Cond.instanceMethod_spec (hE.1.at h4 (a := args))
  cases Option.some.inj (hn.symm.trans hn2)
  cases Option.some.inj (a1.symm.trans b1)
  have hcell : va_at D.1 vwCl (b, .inr (fe_mC z, fs)) T.heap := (hR.2 b _ hb1).2
  obtain ⟨r', hr', cellB, q1, q2, q3, -⟩ := hcell
  have hcls : s.vm.findClass (fe_cls (fe_mC z)) = some cellB.cls := by
    rw [h42, q2]
    exact (hE.2.1.1 (fe_mC z) _ (fe_vw_at _ h41)).2.1
  obtain ⟨c2, r2, m2, s1, s2, s3, s4, kP, hkP, hkPi⟩ := Cond.selects_spec (hE.1.at h43 (a := args))
  cases Option.some.inj (hcls.symm.trans s1)
  cases Option.some.inj ((State.methodFound?_of_named hn h7).symm.trans s2)
  cases Option.some.inj (hn.symm.trans s3)
  have hselP : selectMethod e.platform s.vm cellB.cls mk = .method mk := by rw [Launch.admits_selectMethod X.admits]; exact s4
  have hlen' : al.length = mt.sig.parameters.length := by
    rw [a8] at h8
    have h9 := Option.some.inj h8
    have h9 : mt.sig.parameters.length + 1 = fe_mA z := h9
    omega
  have hob : ∀ z, cellB.vm ≠ .statics z := fun z h => by rw [q3] at h; cases h
  cases nest with
  | false =>
    obtain ⟨vm', X', st⟩ := X.invokevirtual hx hown (hE.1.at (w := fe_cw (fe_mC y) idx z false) hw) hn a1 b2 hkP hkPi h7 (a := b) (cell := cellB) q1 hob hselP a1 b3 hkP hkPi (g := g) hg (argsL := al) (rest := rest) hlen' hst (by rw [hb]; exact hd)
    exact ⟨vm', X', fun t h => st t fun acts => by rw [doInvoke_state, ← doInvoke_state e _ []]; exact h⟩
  | true =>
    obtain ⟨vm', X', st⟩ := X.invokevirtualNest hx hown (hE.1.at (w := fe_cw (fe_mC y) idx z true) hw) hn a1 b2 hkP hkPi h7 (a := b) (cell := cellB) q1 hob hselP a1 b3 hkP hkPi (g := g) hg (argsL := al) (rest := rest) hlen' hst (by rw [hb]; exact hd)
    exact ⟨vm', X', fun t h => st t fun acts => by rw [doInvoke_state, ← doInvoke_state e _ []]; exact h⟩
theorem fe_invI (X : Stand p l e R s m args below meth c T locs cells slots) (G : fe_G p l R s m meth c y D E sz) (hf : fe_cl.lookup (fe_mC y, idx) = some (z, nest, pos)) (hI : fe_mI z = true) (hn : s.methodNamed? (fe_mN z) = some mk) (hg : g.method = m) (hlen : al.length + 1 = fe_mA z) (hst : g.stack = al.reverse ++ .ref b :: rest) (hd : decode (fe_mB y) g.pc = .ok (.invokespecial idx, 3)) : fe_Inv p l e R s m args below meth c T locs cells slots g rest mk (.ref b :: al) := by
  obtain ⟨hx, hb, -, -, -, hown, -, -, hE, -⟩ := G
  obtain ⟨hw, hz⟩ := fe_cl_in _ (fe_look hf)
  have hz : z < 131 := hz
  obtain ⟨hH, hRt, hS⟩ := fe_init_at hz hI
  have h0 := fe_mok_all hz
  simp only [fe_mok, Bool.and_eq_true, decide_eq_true_eq, hS, hI, Bool.true_or, Bool.false_eq_true, if_false] at h0
  obtain ⟨⟨⟨⟨⟨⟨⟨h1, h2⟩, h3⟩, ⟨⟨⟨h4, h41⟩, h42⟩, -⟩⟩, h5⟩, h6⟩, h7⟩, h8⟩ := h0
  have hcode : (Jvm.Cond.code (fe_mN z) (fe_mB z) (fe_mL z) none).before args s = true := by
    have hc := hE.1.at h1 (a := args)
    unfold fe_code at hc
    rw [hH, hRt] at hc
    exact hc
  have hlen' : ∀ sig, parseMethodDescriptor (fe_mN z).desc = some sig → al.length = sig.parameters.length := by
    intro sig hs
    rw [hs] at h8
    have h9 := Option.some.inj h8
    have h9 : sig.parameters.length + 1 = fe_mA z := h9
    omega
  have hpl : e.platform.magicAccessors = ({} : Platform).magicAccessors := by rw [X.admits.platform]
  subst hg
  cases nest with
  | false =>
    obtain ⟨mk2, mt, cM, kP, vm₁, hn2, -, -, -, -, -, -, -, hW₁, st⟩ := Steps.initColdArgs (e := e) X.here hx X.warmed hpl hown (h6.mpr trivial) h7 (hE.1.at (w := fe_cw (fe_mC y) idx z false) hw) (hE.1.at h4) hcode (f := g) rfl hlen' hst (by rw [hb]; exact hd)
    cases Option.some.inj (hn.symm.trans hn2)
    exact ⟨vm₁, X.noted hW₁, fun t h => st t fun acts => by rw [doInvoke_state, ← doInvoke_state e _ []]; exact h⟩
  | true =>
    obtain ⟨mk2, mt, cM, kP, vm₁, hn2, -, -, -, -, -, -, -, hW₁, st⟩ := Steps.initColdArgsNest (e := e) X.here hx X.warmed hpl hown (h6.mpr trivial) h7 (hE.1.at (w := fe_cw (fe_mC y) idx z true) hw) (hE.1.at h4) hcode (f := g) rfl hlen' hst (by rw [hb]; exact hd)
    cases Option.some.inj (hn.symm.trans hn2)
    exact ⟨vm₁, X.noted hW₁, fun t h => st t fun acts => by rw [doInvoke_state, ← doInvoke_state e _ []]; exact h⟩
theorem fe_cast_ok : (List.range 4).all (fun x => fe_in (.castable (fe_xn.getD x "") (fe_xn.getD x ""))) = true := by decide +kernel
theorem fe_hl_nz : ∀ q ∈ fe_hl, q.1.2 ≠ 0 := by decide
theorem fe_hgo_split {c pc x hp : Nat} : ∀ (hs : List (Nat × Nat × Nat × Nat)), fe_hgo c pc x hs = some hp → ∃ (pre : List (Nat × Nat × Nat × Nat)) (q : Nat × Nat × Nat × Nat) (suf : List (Nat × Nat × Nat × Nat)), hs = pre ++ q :: suf ∧ q.2.2.1 = hp ∧ (q.1 ≤ pc ∧ pc < q.2.1) ∧ fe_hl.lookup (c, q.2.2.2) = some x ∧ ∀ z ∈ pre, ¬ (z.1 ≤ pc ∧ pc < z.2.1) ∨ ∃ x', fe_hl.lookup (c, z.2.2.2) = some x' ∧ ((x = 1 ∧ x' = 0) ∨ (x = 2 ∧ x' = 1)) := by
  intro hs
  induction hs with
  | nil => intro h; cases h
  | cons q t ih =>
    intro h
    simp only [fe_hgo] at h
    split at h
    · next hc =>
      split at h
      · next x' hx' =>
        split at h
        · next e1 =>
          cases h
          subst e1
          exact ⟨[], q, t, rfl, rfl, hc, hx', fun z hz => absurd hz List.not_mem_nil⟩
        · split at h
          · next e2 =>
            obtain ⟨pre, q', suf, a1, a2, a3, a4, a5⟩ := ih h
            refine ⟨q :: pre, q', suf, by rw [a1]; rfl, a2, a3, a4, fun z hz => ?_⟩
            rcases List.mem_cons.mp hz with rfl | hz
            · exact Or.inr ⟨x', hx', e2⟩
            · exact a5 z hz
          · cases h
      · cases h
    · next hc =>
      obtain ⟨pre, q', suf, a1, a2, a3, a4, a5⟩ := ih h
      refine ⟨q :: pre, q', suf, by rw [a1]; rfl, a2, a3, a4, fun z hz => ?_⟩
      rcases List.mem_cons.mp hz with rfl | hz
      · exact Or.inl hc
      · exact a5 z hz
theorem fe_cov {q : Nat × Nat × Nat × Nat} {pc : Nat} : covers (⟨q.1, q.2.1, q.2.2.1, q.2.2.2⟩ : ExceptionTableEntry) pc = true ↔ (q.1 ≤ pc ∧ pc < q.2.1) := by
  simp [covers]
theorem fe_caught {x hp a : Nat} {ce : Cell} (X : Stand p l e R s m args below meth c T locs cells slots) (G : fe_G p l R s m meth c y D E sz) (hx4 : x < 4) (hh : fe_hgo (fe_mC y) g.pc x (fe_mH y) = some hp) (hce : T.heap[a]? = some ce) (hcv : ce.vm = .none) (hcl : s.vm.findClass (fe_xn.getD x "") = some ce.cls) (hg : g.method = m) :
    ∃ vm' : Vm, Stand p l e R s m args below meth c (T.setVm vm') locs cells slots ∧ Steps p.tables e below ((T.setTop g).pushFrame (.throwing a)) ((T.setVm vm').setTop { g with pc := hp, stack := [.ref a] }) := by
  obtain ⟨hx, hb, -, -, -, hown, htab, -, hE, -⟩ := G
  obtain ⟨pre, q, suf, a1, a2, a3, a4, a5⟩ := fe_hgo_split _ hh
  have hpl : e.platform.magicAccessors = ({} : Platform).magicAccessors := by rw [X.admits.platform]
  have hcast := List.all_eq_true.mp fe_cast_ok x (List.mem_range.mpr hx4)
  obtain ⟨c3, c4, hc3, hc4, hasg⟩ := Cond.castable_spec (hE.1.ok hcast (a := args))
  cases Option.some.inj (hc3.symm.trans hcl)
  cases Option.some.inj (hc4.symm.trans hcl)
  obtain ⟨-, hlk⟩ := fe_hl_in _ (fe_look a4)
  obtain ⟨c5, hc5, hcl5⟩ := Cond.classLink_spec hown (hE.1.ok hlk (a := args)) e.platform hpl
  cases Option.some.inj (hc5.symm.trans hcl)
  have hk0 : ∃ k, s.vm.classes[ce.cls]? = some k := by obtain ⟨k9, h9, -⟩ := Vm.findClass_spec hcl; exact ⟨k9, h9⟩
  obtain ⟨vm', X', st⟩ := Jvm.Stand.thenCaughtThrough X a hg (Steps.refl _) hce (by rw [hcv]; rfl) hk0 (tableOf pre) ⟨q.1, q.2.1, q.2.2.1, q.2.2.2⟩ (tableOf suf) (by rw [htab, a1]; simp [tableOf])
    (fun z hz => by
      obtain ⟨w, hw, rfl⟩ := List.mem_map.mp hz
      rcases a5 w hw with h | ⟨x', hx', hxx⟩
      · left
        cases hcov : covers (⟨w.1, w.2.1, w.2.2.1, w.2.2.2⟩ : ExceptionTableEntry) g.pc with
        | false => rfl
        | true => exact absurd (fe_cov.mp hcov) h
      · right
        obtain ⟨-, hlk'⟩ := fe_hl_in _ (fe_look hx')
        obtain ⟨c6, hc6, hcl6⟩ := Cond.classLink_spec hown (hE.1.ok hlk' (a := args)) e.platform hpl
        refine ⟨fe_hl_nz _ (fe_look hx'), c6, hcl6, ?_⟩
        have hno : va_Nc (fe_xn.getD x "") (fe_xn.getD x' "") s := by
          rcases hxx with ⟨rfl, rfl⟩ | ⟨rfl, rfl⟩
          · exact hE.2.2.2.2.2.2.2.2.1.2.1
          · exact hE.2.2.2.2.2.2.2.2.1.2.2
        obtain ⟨a8, b8, n1, n2, n3⟩ := hno
        cases Option.some.inj (n1.symm.trans hcl)
        cases Option.some.inj (n2.symm.trans hc6)
        exact n3) (fe_cov.mpr a3) (Or.inr ⟨fe_hl_nz _ (fe_look a4), _, hcl5, hasg⟩)
  refine ⟨vm', X', ?_⟩
  rw [a2] at st
  exact st
end FeV

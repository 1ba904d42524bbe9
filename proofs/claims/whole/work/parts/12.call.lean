/-! calls -/
theorem fe_chunk {P : Nat → Bool} {a b : Nat} (h : ((List.range b).drop a).all P = true) {z : Nat} (h1 : a ≤ z) (h2 : z < b) : P z = true :=
  List.all_eq_true.mp h z (List.mem_of_getElem? (i := z - a) (by rw [List.getElem?_drop, show a + (z - a) = z by omega]; exact List.getElem?_range h2))
theorem fe_mok_all {z : Nat} (h : z < 131) : fe_mok z = true := by
  rcases (by omega : z < 25 ∨ (25 ≤ z ∧ z < 50) ∨ (50 ≤ z ∧ z < 75) ∨ (75 ≤ z ∧ z < 100) ∨ (100 ≤ z ∧ z < 131)) with q | q | q | q | q
  · exact fe_chunk fe_mok_0 (Nat.zero_le _) q
  · exact fe_chunk fe_mok_1 q.1 q.2
  · exact fe_chunk fe_mok_2 q.1 q.2
  · exact fe_chunk fe_mok_3 q.1 q.2
  · exact fe_chunk fe_mok_4 q.1 q.2
theorem fe_tok_all {z : Nat} (h : z < 131) : fe_tok z = true := by
  rcases (by omega : z < 16 ∨ (16 ≤ z ∧ z < 40) ∨ (40 ≤ z ∧ z < 70) ∨ (70 ≤ z ∧ z < 90) ∨ (90 ≤ z ∧ z < 100) ∨ (100 ≤ z ∧ z < 113) ∨ (113 ≤ z ∧ z < 131)) with q | q | q | q | q | q | q
  · exact fe_chunk fe_tok_0 (Nat.zero_le _) q
  · exact fe_chunk fe_tok_1 q.1 q.2
  · exact fe_chunk fe_tok_2 q.1 q.2
  · exact fe_chunk fe_tok_3 q.1 q.2
  · exact fe_chunk fe_tok_4 q.1 q.2
  · exact fe_chunk fe_tok_5 q.1 q.2
  · exact fe_chunk fe_tok_6 q.1 q.2
theorem fe_all_step {α : Type} {p : α → Bool} {n : Nat} {L : List α} (h1 : (L.take n).all p = true) (h2 : (L.drop n).all p = true) : L.all p = true := by
  have h : (L.take n ++ L.drop n).all p = true := by rw [List.all_append, h1, h2]; rfl
  rwa [List.take_append_drop] at h
theorem fe_tok_law : fe_t131.all (fe_dok 131) = true := by
  refine fe_all_step (n := 130) fe_tokL_0 (fe_all_step (n := 130) ?_ (fe_all_step (n := 130) ?_ (fe_all_step (n := 130) ?_ (fe_all_step (n := 130) ?_ ?_))))
  · exact fe_tokL_1
  · rw [List.drop_drop]; exact fe_tokL_2
  · rw [List.drop_drop, List.drop_drop]; exact fe_tokL_3
  · rw [List.drop_drop, List.drop_drop, List.drop_drop]; exact fe_tokL_4
  · rw [List.drop_drop, List.drop_drop, List.drop_drop, List.drop_drop]
    have h := fe_tokL_5
    rw [List.take_of_length_le (by decide +kernel)] at h
    exact h
theorem fe_T_131 : fe_T[131]? = some fe_t131 := rfl
theorem fe_T_len : fe_T.length = 132 := by decide +kernel
theorem fe_T_out {y : Nat} (h : 132 ≤ y) : fe_T.getD y [] = [] := by
  rw [List.getD_eq_getElem?_getD, List.getElem?_eq_none (by rw [fe_T_len]; exact h), Option.getD_none]
theorem fe_T_law : fe_T.getD 131 [] = fe_t131 := by
  rw [List.getD_eq_getElem?_getD, fe_T_131, Option.getD_some]
theorem fe_hall_0 {y : Nat} (h : y < 131) : ∀ q ∈ fe_T.getD y [], fe_dok y q = true := List.all_eq_true.mp (fe_tok_all h)
theorem fe_hall_1 : ∀ q ∈ fe_T.getD 131 [], fe_dok 131 q = true := by
  rw [fe_T_law]
  exact List.all_eq_true.mp fe_tok_law
theorem fe_hall_2 {y : Nat} (h : 132 ≤ y) : ∀ q ∈ fe_T.getD y [], fe_dok y q = true := by
  rw [fe_T_out h]
  exact fun q hq => absurd hq List.not_mem_nil
theorem fe_hall (y : Nat) : ∀ q ∈ fe_T.getD y [], fe_dok y q = true := by
  rcases (by omega : y < 131 ∨ y = 131 ∨ 132 ≤ y) with q | q | q
  · exact fe_hall_0 q
  · rw [q]; exact fe_hall_1
  · exact fe_hall_2 q
theorem fe_fetch_mem {y pc : Nat} {i : Instr} (h : fe_fetch y pc = some i) : (pc, i) ∈ fe_T.getD y [] := by
  unfold fe_fetch at h
  exact fe_look h
/-- what is fetched is what the code holds -/
theorem fe_fetch_ok {y pc : Nat} {i : Instr} (h : fe_fetch y pc = some i) : decode (fe_mB y) pc = .ok (i, fe_len pc i) := by
  have h2 := fe_hall y _ (fe_fetch_mem h)
  unfold fe_dok at h2
  exact of_decide_eq_true h2
theorem fe_popS : ∀ (n : Nat) (st as rest : List Value), fe_pop n st = some (as, rest) → st = as.reverse ++ rest ∧ as.length = n := by
  intro n
  induction n with
  | zero => intro st as rest h; cases h; exact ⟨rfl, rfl⟩
  | succ n ih =>
    intro st as rest h
    cases st with
    | nil => cases h
    | cons v t =>
      simp only [fe_pop] at h
      split at h
      · next a r' he =>
        cases h
        obtain ⟨e1, e2⟩ := ih _ _ _ he
        refine ⟨?_, by rw [List.length_append, e2]; rfl⟩
        rw [e1, List.reverse_append]
        rfl
      · cases h
theorem fe_code_iff {y : Nat} : (fe_mH y = [] ∧ fe_code y = .code (fe_mN y) (fe_mB y) (fe_mL y) (fe_mR y)) ∨ fe_code y = .codeWith (fe_mN y) (fe_mB y) (fe_mL y) (fe_mR y) (fe_mH y) := by
  unfold fe_code
  cases h : fe_mH y with
  | nil => exact Or.inl ⟨rfl, rfl⟩
  | cons q t => exact Or.inr rfl
/-- a method by the words -/
theorem fe_mth {s : State} {z : Nat} (hw : fe_wd s) (hz : z < 131) : ∃ (mk : MethodId) (mt : Method) (ck : Code) (k : Class), s.methodNamed? (fe_mN z) = some mk ∧ s.vm.method? mk = some mt ∧ mt.code = some ck ∧ ck.code = fe_mB z ∧ ck.maxLocals = fe_mL z ∧ mt.sig.returnType = fe_mR z ∧ mt.locks = false ∧ ck.exceptionTable.toList = tableOf (fe_mH z) ∧ parseMethodDescriptor (fe_mN z).desc = some mt.sig ∧ (fe_mI z = true → mt.name = "<init>") ∧ s.vm.findClass (fe_cls (fe_mC z)) = some mk.cls ∧ s.plainMethod mk ∧ s.vm.classes[mk.cls]? = some k ∧ k.init = .initialized := by
  have h := fe_mok_all hz
  simp only [fe_mok, Bool.and_eq_true, decide_eq_true_eq] at h
  obtain ⟨⟨⟨⟨⟨⟨⟨h1, h2⟩, h3⟩, h4⟩, h5⟩, h6⟩, h7⟩, h8⟩ := h
  have hc := hw.at h1 (a := #[])
  have base : ∃ (mk : MethodId) (mt : Method) (ck : Code), s.methodNamed? (fe_mN z) = some mk ∧ s.vm.method? mk = some mt ∧ mt.code = some ck ∧ ck.code = fe_mB z ∧ ck.maxLocals = fe_mL z ∧ mt.sig.returnType = fe_mR z ∧ mt.locks = false ∧ ck.exceptionTable.toList = tableOf (fe_mH z) ∧ parseMethodDescriptor (fe_mN z).desc = some mt.sig := by
    rcases fe_code_iff (y := z) with ⟨e1, e2⟩ | e2
    · rw [e2] at hc
      obtain ⟨mk, hn⟩ := Cond.code_named hc
      obtain ⟨mt, ck, a1, a2, a3, a4, a5, a6, a7, a8⟩ := Cond.code_spec hn hc
      refine ⟨mk, mt, ck, hn, a1, a2, a3, a4, a5, a6, ?_, a8⟩
      rw [e1]
      have : ck.exceptionTable = #[] := by simpa using a7
      rw [this]; rfl
    · rw [e2] at hc
      obtain ⟨mk, mt, ck, hn, a1, a2, a3, a4, a5, a6, a7, a8⟩ := Cond.codeWith_spec hc
      exact ⟨mk, mt, ck, hn, a1, a2, a3, a4, a6, a7, by rw [← a5, table_eq], a8⟩
  obtain ⟨mk, mt, ck, hn, a1, a2, a3, a4, a5, a6, a7, a8⟩ := base
  have hfc := findClass_of_methodNamed hn
  obtain ⟨k, hk, -⟩ := className_of_methodNamed hn
  refine ⟨mk, mt, ck, k, hn, a1, a2, a3, a4, a5, a6, a7, a8, fun hI => ?_, by rw [← h3]; exact hfc, State.plainMethod.of_named h5 hn a1, hk, ?_⟩
  · rw [(name_of_methodNamed hn a1).1]; exact h6.mpr hI
  · have hi := hw.at h2 (a := #[])
    rw [← h3] at hi
    exact Cond.initialized_spec hfc hk hi
section FeI
variable {p : Program} {l : Launch} {e : Env} {R : Room} {s : State} {m : MethodId} {args : Array Value} {below : List Frame} {meth : Method} {c : Code} {T : State} {locs : List Loc} {cells slots : Nat}
/-- what an invoking instruction does: it comes to doInvoke of the method -/
def fe_Inv (p : Program) (l : Launch) (e : Env) (R : Room) (s : State) (m : MethodId) (args : Array Value) (below : List Frame) (meth : Method) (c : Code) (T : State) (locs : List Loc) (cells slots : Nat) (g : JFrame) (rest : List Value) (mk : MethodId) (as : List Value) : Prop :=
  ∃ vm' : Vm, Stand p l e R s m args below meth c (T.setVm vm') locs cells slots ∧ ∀ target : State, Steps p.tables e below (doInvoke e ((T.setVm vm').setTop { g with stack := rest }) [] mk as.toArray).1 target → Steps p.tables e below (T.setTop g) target
theorem fe_invS {y z idx pos sz : Nat} {nest : Bool} {D : fe_D} {E : fe_E} {mk : MethodId} {g : JFrame} {as rest : List Value} (X : Stand p l e R s m args below meth c T locs cells slots) (G : fe_G p l R s m meth c y D E sz) (hf : fe_cl.lookup (fe_mC y, idx) = some (z, nest, pos)) (hS : fe_mS z = true) (hn : s.methodNamed? (fe_mN z) = some mk) (hg : g.method = m) (hlen : as.length = fe_mA z) (hst : g.stack = as.reverse ++ rest) (hd : decode (fe_mB y) g.pc = .ok (.invokestatic idx, 3)) : fe_Inv p l e R s m args below meth c T locs cells slots g rest mk as := by
  obtain ⟨hx, hb, -, -, -, hown, -, -, hE, -⟩ := G
  obtain ⟨hw, hz⟩ := fe_cl_in _ (fe_look hf)
  have hz : z < 131 := hz
  obtain ⟨mk', mt, ck, k, hn', a1, a2, a3, a4, a5, a6, a7, a8, a9, a10, a11, a12, a13⟩ := fe_mth hE.1 hz
  cases Option.some.inj (hn.symm.trans hn')
  have h := fe_mok_all hz
  simp only [fe_mok, Bool.and_eq_true, decide_eq_true_eq, hS, if_true] at h
  obtain ⟨⟨⟨⟨⟨⟨⟨h1, h2⟩, h3⟩, h4⟩, h5⟩, h6⟩, h7⟩, h8⟩ := h
  have hst' : mt.isStatic = true := Cond.static_spec hn a1 (hE.1.at h4 (a := args))
  have hlen' : as.length = mt.sig.parameters.length := by
    rw [a8] at h8
    have := Option.some.inj h8
    rw [hlen, ← this]; rfl
  cases nest with
  | false =>
    obtain ⟨vm', X', st⟩ := X.invokestatic hx hown (hE.1.at (w := fe_cw (fe_mC y) idx z false) hw) hn a1 hst' a12 a13 h7 hg hlen' hst (by rw [hb]; exact hd)
    exact ⟨vm', X', fun t h => st t fun acts => by rw [doInvoke_state, ← doInvoke_state e _ []]; exact h⟩
  | true =>
    obtain ⟨vm', X', st⟩ := X.invokestaticNest hx hown (hE.1.at (w := fe_cw (fe_mC y) idx z true) hw) hn a1 hst' a12 a13 h7 hg hlen' hst (by rw [hb]; exact hd)
    exact ⟨vm', X', fun t h => st t fun acts => by rw [doInvoke_state, ← doInvoke_state e _ []]; exact h⟩
end FeI

/-! a call and what comes back -/
section FeB
variable {p : Program} {l : Launch} {e : Env} {R : Room} {s : State} {m : MethodId} {args : Array Value} {below : List Frame} {meth : Method} {c : Code} {H : Heap} {locs : List Loc} {cells slots : Nat}
variable {pc y z sz : Nat} {arr : Array Slot} {D : fe_D} {E : fe_E} {h : fe_H} {st as rest : List Value} {q Qf : fe_R × fe_H}
def fe_Rz (z : Nat) (h : fe_H) : Room := { frames := fe_mF z, cells := h.2.1, slots := h.2.2.1, locals := fe_mW z }
/-- what the callee's walk gives, whoever calls -/
def fe_Cal (p : Program) (l : Launch) (e : Env) (D : fe_D) (E : fe_E) (sz z : Nat) (as : List Value) (h : fe_H) (H : Heap) (q : fe_R × fe_H) : Prop :=
  ∀ (s' : State) (mk : MethodId) (mt : Method) (ck : Code) (below' : List Frame), s'.heap = H → fe_G p l (fe_Rz z h) s' mk mt ck z D E sz → W p l e (fe_Rz z h) s' mk as.toArray below' mt ck H [] 0 0 (fe_Fin D sz (fe_Rz z h) s' below' q) (entryFrame mk as.toArray (fe_mL z))
/-- what the caller needs behind it -/
def fe_Aft (p : Program) (l : Launch) (e : Env) (R : Room) (s : State) (m : MethodId) (args : Array Value) (below : List Frame) (meth : Method) (c : Code) (D : fe_D) (sz y pc : Nat) (arr : Array Slot) (rest : List Value) (q Qf : fe_R × fe_H) : Prop := match q.1 with
  | .inl v => fe_J1 p l e R s m args below meth c (fe_Fin D sz R s below Qf) D sz (F0 m (pc + 3) arr (v.toList ++ rest)) q.2
  | .inr x => (fe_mH y = [] ∧ Qf = (.inr x, q.2)) ∨ ∃ hp : Nat, fe_hgo (fe_mC y) pc x.1 (fe_mH y) = some hp ∧ fe_J1 p l e R s m args below meth c (fe_Fin D sz R s below Qf) D sz (F0 m hp arr [.ref x.2]) q.2
theorem fe_callW (G : fe_G p l R s m meth c y D E sz) (X0 : fe_X D sz R s h H locs cells slots) (hz : z < 131) {ig : Instr} (hd : decode (fe_mB y) pc = .ok (ig, 3)) (harr : arr.size = fe_mL y) (hrm : fe_rm y z rest.length = true)
    (hinv : ∀ (mk : MethodId) (T : State), s.methodNamed? (fe_mN z) = some mk → T.heap = H → Stand p l e R s m args below meth c T locs cells slots → fe_Inv p l e R s m args below meth c T locs cells slots (F0 m pc arr st) rest mk as)
    (hcal : fe_Cal p l e D E sz z as h H q) (haft : fe_Aft p l e R s m args below meth c D sz y pc arr rest q Qf) :
    W p l e R s m args below meth c H locs cells slots (fe_Fin D sz R s below Qf) (F0 m pc arr st) := by
  intro T hT X
  have G0 := G
  obtain ⟨hexec, hb, hml, hrt, hlocks, hown, htab, hini, hE, hF, hWd, hl⟩ := G
  obtain ⟨hR0, hS, hRc, hRs⟩ := X0
  obtain ⟨mk, mt, ck, kz, hn, a1, a2, a3, a4, a5, a6, a7, a8, a9, a10, a11, a12, a13⟩ := fe_mth hE.1 hz
  obtain ⟨vm', X₁, st1⟩ := hinv mk T hn hT X
  have hW₁ : s.WarmedH vm' := X₁.warmed
  have hm1 : (T.setVm vm').vm.method? mk = some mt := by rw [X₁.warmed.alike.method?]; exact a1
  have hpl : (T.setVm vm').plainMethod mk := by
    have h5 := fe_mok_all hz
    simp only [fe_mok, Bool.and_eq_true] at h5
    exact State.plainMethod.of_named h5.1.1.1.2 (X₁.named hn) hm1
  simp only [fe_rm, Bool.and_eq_true, decide_eq_true_eq] at hrm
  have hcat := fe_cat rest
  have hdc : decode c.code pc = .ok (ig, 3) := by rw [hb]; exact hd
  obtain ⟨Y, hdo⟩ := X₁.into (g := F0 m pc arr rest) rfl (by rw [hml]; exact harr) (ig := ig) (len := 3) hdc as.toArray (R' := fe_Rz z h) hm1 a2 a6 hpl
    (show fe_mF z + 1 ≤ R.frames by omega) (by show 2 * 0 + (rest.map fun v => v.category).sum + (ck.maxLocals + 11) + fe_mW z ≤ R.locals; rw [a4]; omega) (show cells + h.2.1 ≤ R.cells from hRc) (show slots + h.2.2.1 ≤ R.slots from hRs)
  have hheap : ((T.setVm vm').calling (F0 m pc arr rest) mk as.toArray).heap = H := hT
  have Gz : fe_G p l (fe_Rz z h) ((T.setVm vm').calling (F0 m pc arr rest) mk as.toArray) mk mt ck z D E sz := by
    refine ⟨hexec, a3, a4, a5, a6, ?_, a7, a9, hE.moved (U := (T.setVm vm').calling (F0 m pc arr rest) mk as.toArray) hW₁ ?_ ?_, Nat.le_refl _, Nat.le_refl _, hl⟩
    · show vm'.findClass _ = _
      rw [hW₁.alike.findClass]
      exact a10
    · rw [hheap]; exact hS.1
    · rw [hheap]; exact hS.2.1
  rw [a4] at Y hdo
  obtain ⟨t, hst, o, L, k, n, hrun, hend, hW, hsame, hX2, ho⟩ := hcal _ mk mt ck (.java (F0 m pc arr rest) :: below) hheap Gz (((T.setVm vm').setTop (F0 m pc arr rest)).pushFrame (.java (entryFrame mk as.toArray (fe_mL z)))) (show _ = H from hT) Y
  have hgo : ∀ t2 : State, Steps p.tables e below t t2 → Steps p.tables e below (T.setTop (F0 m pc arr st)) t2 := fun t2 h2 => st1 t2 (by
    show Steps p.tables e below (doInvoke e ((T.setVm vm').setTop (F0 m pc arr rest)) [] mk as.toArray).1 t2
    rw [hdo []]
    exact (Steps.weaken (mid := [.java (F0 m pc arr rest)]) hst).trans h2)
  obtain ⟨hR2, hS2, hk2, hn2⟩ := hX2
  rw [hheap] at hS2
  have hk2 : k + q.2.2.1 ≤ h.2.1 := hk2
  have hn2 : n + q.2.2.2.1 ≤ h.2.2.1 := hn2
  have hXn : fe_X D sz R s q.2 t.heap (locs ++ L) (cells + k) (slots + n) := by
    refine ⟨hR2, ⟨Nat.le_trans hS.1 hS2.1, fun b h1 h2 => (hS2.2.1 b (Nat.lt_of_lt_of_le h1 hS.1) h2).trans (hS.2.1 b h1 h2), fun b hb2 => ?_⟩, by omega, by omega⟩
    rcases List.mem_append.mp hb2 with h3 | h3
    · exact hS.2.2 b h3
    · exact hS2.2.2 b h3
  obtain ⟨q1, q2⟩ := q
  cases q1 with
  | inl v =>
    have ho : o = .returned v := ho
    subst ho
    obtain ⟨T', X', -, -, ht⟩ := X₁.outOf (g := F0 m pc arr rest) rfl hdc hend hW hsame
    have hth : t.heap = T'.heap := by rw [ht]; rfl
    rw [hth] at hXn
    have haft : fe_J1 p l e R s m args below meth c (fe_Fin D sz R s below Qf) D sz (F0 m (pc + 3) arr (v.toList ++ rest)) q2 := haft
    obtain ⟨t2, h1, h2⟩ := haft T'.heap _ _ _ hXn T' rfl X'
    refine ⟨t2, hgo t2 ?_, h2⟩
    rw [ht]
    exact h1
  | inr x =>
    have ho : o = .threw x.2 ∧ x.1 < 4 ∧ ∃ ce : Cell, t.heap[x.2]? = some ce ∧ ce.vm = .none ∧ ((T.setVm vm').calling (F0 m pc arr rest) mk as.toArray).vm.findClass (fe_xn.getD x.1 "") = some ce.cls := ho
    obtain ⟨rfl, hx4, ce, hce, hcv, hcl⟩ := ho
    have hcl : s.vm.findClass (fe_xn.getD x.1 "") = some ce.cls := by rw [← hW₁.alike.findClass]; exact hcl
    obtain ⟨T', X', -, -, ht⟩ := X₁.outOfThrown (g := F0 m pc arr rest) rfl hend hW hsame
    have hth : t.heap = T'.heap := by rw [ht, Stand.throwing_heap]
    rw [hth] at hXn hce
    have haft : (fe_mH y = [] ∧ Qf = (.inr x, q2)) ∨ ∃ hp : Nat, fe_hgo (fe_mC y) pc x.1 (fe_mH y) = some hp ∧ fe_J1 p l e R s m args below meth c (fe_Fin D sz R s below Qf) D sz (F0 m hp arr [.ref x.2]) q2 := haft
    rcases haft with ⟨hH, rfl⟩ | ⟨hp, hhp, haft⟩
    · have hout : ∀ w ∈ c.exceptionTable.toList, covers w pc = false := by
        rw [htab, hH]
        exact fun w hw => absurd hw List.not_mem_nil
      obtain ⟨s1, s2, s3, s4, s5⟩ := X'.leaveThrown x.2 (g := F0 m pc arr rest) rfl rfl rfl hout hlocks
      refine ⟨_, hgo _ (by rw [ht]; exact s1), .threw x.2, _, _, _, s2, s3, s4, s5, hXn, rfl, hx4, ce, hce, hcv, hcl⟩
    · obtain ⟨vm2, X2, s1⟩ := fe_caught (g := F0 m pc arr rest) X' G0 hx4 hhp hce hcv hcl rfl
      obtain ⟨t2, h1, h2⟩ := haft T'.heap _ _ _ hXn (T'.setVm vm2) rfl X2
      exact ⟨t2, hgo t2 (by rw [ht]; exact s1.trans h1), h2⟩
end FeB

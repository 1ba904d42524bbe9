/-! the words: what the tables say, and that it stays said while the tables grow warmer -/
def fe_nest : Jvm.Cond → Bool
  | .fieldLinkNest .. | .methodLinkNest .. => true
  | _ => false
def fe_mv (w : Jvm.Cond) : Bool := goodWord w || (w.onTables && (fe_nest w || w.faceAtom || w.castAtom))
theorem fe_move {w : Jvm.Cond} (hw : fe_mv w = true) {a a' : Array Value} {s U : State} (hW : s.WarmedH U.vm) (h : w.before a s = true) : w.before a' U = true := by
  simp only [fe_mv, Bool.or_eq_true, Bool.and_eq_true] at hw
  rcases hw with hw | ⟨ht, (hw | hw) | hw⟩
  · exact word_at hW (good_of_word hw) h
  · cases w <;> first | exact va_tabs rfl (rfl : (s.setVm U.vm).vm = U.vm) (Cond.fieldLinkNest_warmed hW h) | exact va_tabs rfl (rfl : (s.setVm U.vm).vm = U.vm) (Cond.methodLinkNest_warmed hW h) | exact absurd hw (by decide) | cases hw
  · exact va_tabs ht (rfl : (s.setVm U.vm).vm = U.vm) (Cond.faceAtom_setVm hW.alike w hw h)
  · exact va_tabs ht (rfl : (s.setVm U.vm).vm = U.vm) (Cond.castAtom_setVm hW.alike w hw h)
/-- two classes of exceptions that aren't each other's -/
def fe_nc : List Jvm.Cond := [.not (.castable "java/lang/IllegalArgumentException" "java/lang/IndexOutOfBoundsException"), .not (.castable "java/lang/UnsupportedOperationException" "java/lang/IllegalArgumentException")]
def fe_wl : List Jvm.Cond := lw_tbl ++ fe_nc
/-- all words stand in the state U -/
def fe_wd (U : State) : Prop := ∀ w ∈ fe_wl, fe_mv w = true → ∀ a : Array Value, w.before a U = true
theorem fe_wd.moved {s U : State} (hW : s.WarmedH U.vm) (h : fe_wd s) : fe_wd U := fun w hw hm a => fe_move hm hW (h w hw hm a)
theorem fe_wd.is {U : State} (h : fe_wd U) {w : Jvm.Cond} (hw : w ∈ fe_wl) (hm : fe_mv w = true) {a : Array Value} : w.before a U = true := h w hw hm a
def fe_in (w : Jvm.Cond) : Bool := decide (w ∈ fe_wl) && fe_mv w
theorem fe_wd.ok {U : State} (h : fe_wd U) {w : Jvm.Cond} (hw : fe_in w = true) {a : Array Value} : w.before a U = true := by
  simp only [fe_in, Bool.and_eq_true, decide_eq_true_eq] at hw
  exact h w hw.1 hw.2 a
/-! the tables' rows are among the words -/
def fe_ip (w : Jvm.Cond) (k : Nat) : Bool := decide (fe_wl[k]? = some w) && fe_mv w
theorem fe_wd.at {U : State} (h : fe_wd U) {w : Jvm.Cond} {k : Nat} (hw : fe_ip w k = true) {a : Array Value} : w.before a U = true := by
  simp only [fe_ip, Bool.and_eq_true, decide_eq_true_eq] at hw
  exact h w (List.mem_of_getElem? hw.1) hw.2 a
def fe_fw (c idx ci k : Nat) (nest : Bool) : Jvm.Cond := if nest then .fieldLinkNest (fe_cls c) idx ((fe_vw ci).2.1 k).1 ((fe_vw ci).2.1 k).2.1 ((fe_vw ci).2.1 k).2.2.1 "FloorEyes" else .fieldLink (fe_cls c) idx ((fe_vw ci).2.1 k).1 ((fe_vw ci).2.1 k).2.1 ((fe_vw ci).2.1 k).2.2.1
def fe_cw (c idx z : Nat) (nest : Bool) : Jvm.Cond := if nest then .methodLinkNest (fe_cls c) idx (fe_mN z) "FloorEyes" else .methodLink (fe_cls c) idx (fe_mN z)
def fe_code (y : Nat) : Jvm.Cond := if (fe_mH y).isEmpty then .code (fe_mN y) (fe_mB y) (fe_mL y) (fe_mR y) else .codeWith (fe_mN y) (fe_mB y) (fe_mL y) (fe_mR y) (fe_mH y)
theorem fe_fl_in : ∀ q ∈ fe_fl, fe_ip (fe_fw q.1.1 q.1.2 q.2.1 q.2.2.1 q.2.2.2.1) q.2.2.2.2 = true ∧ q.2.1 < 8 ∧ q.2.2.1 < fe_nf q.2.1 := by decide +kernel
theorem fe_cl_in : ∀ q ∈ fe_cl, fe_ip (fe_cw q.1.1 q.1.2 q.2.1 q.2.2.1) q.2.2.2 = true ∧ q.2.1 < 131 := by decide +kernel
theorem fe_nl_in : ∀ q ∈ fe_nl, q.2 < 8 ∧ fe_in (.classLink (fe_cls q.1.1) q.1.2 (fe_vw q.2).1) = true ∧ fe_in (.instantiable (fe_vw q.2).1 (fe_nf q.2)) = true ∧ fe_in (.initialized (fe_vw q.2).1) = true := by decide +kernel
theorem fe_kl_in : ∀ q ∈ fe_kl, fe_in (.constant (fe_cls q.1.1) q.1.2 q.2) = true := by decide +kernel
theorem fe_ol_in : ∀ q ∈ fe_ol, fe_in (.methodLink (fe_cls q.1) q.2 Lib.objectInit) = true := by decide +kernel
theorem fe_hl_in : ∀ q ∈ fe_hl, q.2 < 4 ∧ fe_in (.classLink (fe_cls q.1.1) q.1.2 (fe_xn.getD q.2 "")) = true := by decide +kernel
def fe_mq (y : Nat) : Nat × Nat × Nat × Nat := fe_mp.getD y (0, 0, 0, 0)
def fe_mok (y : Nat) : Bool := fe_ip (fe_code y) (fe_mq y).1 && fe_ip (.initialized (fe_cls (fe_mC y))) (fe_mq y).2.1 && decide ((fe_mN y).cls = fe_cls (fe_mC y)) && (if fe_mS y then fe_ip (.static (fe_mN y)) (fe_mq y).2.2.1 else fe_ip (.instanceMethod (fe_mN y)) (fe_mq y).2.2.1 && decide (fe_mC y < 8) && decide (fe_cls (fe_mC y) = (fe_vw (fe_mC y)).1) && (fe_mI y || fe_ip (.selects (fe_cls (fe_mC y)) (fe_mN y) (fe_mN y)) (fe_mq y).2.2.2)) && plainFor (fe_mN y) && decide ((fe_mN y).name = "<init>" ↔ fe_mI y = true) && decide ((fe_mN y).cls ≠ "java/lang/invoke/MethodHandle" ∧ (fe_mN y).cls ≠ "java/lang/invoke/VarHandle") && decide ((parseMethodDescriptor (fe_mN y).desc).map (fun d => d.parameters.length + (if fe_mS y then 0 else 1)) = some (fe_mA y))
theorem fe_mok_0 : ((List.range 25).drop 0).all fe_mok = true := by decide +kernel
theorem fe_mok_1 : ((List.range 50).drop 25).all fe_mok = true := by decide +kernel
theorem fe_mok_2 : ((List.range 75).drop 50).all fe_mok = true := by decide +kernel
theorem fe_mok_3 : ((List.range 100).drop 75).all fe_mok = true := by decide +kernel
theorem fe_mok_4 : ((List.range 131).drop 100).all fe_mok = true := by decide +kernel

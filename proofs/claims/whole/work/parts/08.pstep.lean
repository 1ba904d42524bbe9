/-! the steps that change the frame alone are the machine's -/
def fe_L (arr : Array Slot) (nL : Nat) (ls : fe_Ls) : Prop := arr.size = nL ∧ lv_wf arr ∧ ls.length = nL ∧ ∀ (i : Nat) (v : Value), ls[i]? = some (some v) → arr[i]? = some (.val v) ∧ v.category = 1
def fe_pr1 (ls : fe_Ls) (i : Nat) : Option (Nat × Value) := match ls[i]? with
  | some (some v) => some (i, v)
  | _ => none
def fe_prs (ls : fe_Ls) : List (Nat × Value) := (List.range ls.length).filterMap (fe_pr1 ls)
theorem fe_prs_mem {ls : fe_Ls} {i : Nat} {v : Value} : (i, v) ∈ fe_prs ls ↔ ls[i]? = some (some v) := by
  unfold fe_prs
  rw [List.mem_filterMap]
  constructor
  · rintro ⟨j, -, hj⟩
    unfold fe_pr1 at hj
    split at hj
    · next w hw => cases hj; exact hw
    · cases hj
  · intro h
    refine ⟨i, List.mem_range.mpr (List.getElem?_eq_some_iff.mp h).1, ?_⟩
    unfold fe_pr1
    rw [h]
theorem fe_L.has {arr : Array Slot} {nL : Nat} {ls : fe_Ls} (h : fe_L arr nL ls) : lv_has arr nL (fe_prs ls) := ⟨h.1, h.2.1, fun q hq => (h.2.2.2 q.1 q.2 (fe_prs_mem.mp hq)).1⟩
theorem fe_L.set {arr arr' : Array Slot} {nL k : Nat} {ls : fe_Ls} {v : Value} (h : fe_L arr nL ls) (hc : v.category = 1) (h' : lv_has arr' nL ((k, v) :: (fe_prs ls).filter (fun q => !(q.1 == k) && !(q.1 + 1 == k && q.2.category == 2)))) : fe_L arr' nL (ls.set k (some v)) := by
  refine ⟨h'.1, h'.2.1, by rw [List.length_set]; exact h.2.2.1, fun i w hw => ?_⟩
  by_cases hik : k = i
  · subst hik
    rw [List.getElem?_set] at hw
    simp only [if_true] at hw
    split at hw
    · cases hw
      exact ⟨h'.2.2 (k, v) List.mem_cons_self, hc⟩
    · cases hw
  · rw [List.getElem?_set_ne hik] at hw
    obtain ⟨h1, h2⟩ := h.2.2.2 i w hw
    refine ⟨h'.2.2 (i, w) (List.mem_cons_of_mem _ (List.mem_filter.mpr ⟨fe_prs_mem.mpr hw, ?_⟩)), h2⟩
    have hne : (i == k) = false := by simp; exact fun e => hik e.symm
    simp [hne, h2]
theorem fe_okt_spec {pc : Nat} {off : Int} (h : fe_okt pc off = true) : (pc : Int) + off = (fe_tgt pc off : Int) := by
  unfold fe_okt at h
  have h := of_decide_eq_true h
  unfold fe_tgt
  omega
section FeP
variable {p : Program} {l : Launch} {e : Env} {R : Room} {s : State} {m : MethodId} {args : Array Value} {below : List Frame} {meth : Method} {c : Code} {H : Heap} {locs : List Loc} {cells slots : Nat} {Q : State → Prop}
variable {cc : ByteArray} {pc nL : Nat} {ls : fe_Ls} {st : List Value} {arr : Array Slot} {pc' : Nat} {ls' : fe_Ls} {st' : List Value}
abbrev fe_K (p : Program) (l : Launch) (e : Env) (R : Room) (s : State) (m : MethodId) (args : Array Value) (below : List Frame) (meth : Method) (c : Code) (H : Heap) (locs : List Loc) (cells slots : Nat) (Q : State → Prop) (nL pc' : Nat) (ls' : fe_Ls) (st' : List Value) : Prop := ∀ arr' : Array Slot, fe_L arr' nL ls' → W p l e R s m args below meth c H locs cells slots Q (F0 m pc' arr' st')

theorem fe_q_iload (hx : p.tables.exec = Jvm.exec) (hb : c.code = cc) {k : Nat} (hd : decode cc pc = .ok (.iload k, 2)) (hp : fe_ild ls k (pc + 2) st = some (pc', ls', st')) (hL : fe_L arr nL ls) (kk : fe_K p l e R s m args below meth c H locs cells slots Q nL pc' ls' st') : W p l e R s m args below meth c H locs cells slots Q (F0 m pc arr st) := by
  unfold fe_ild at hp
  split at hp
  · next x hk =>
    simp only [Option.some.injEq, Prod.mk.injEq] at hp
    obtain ⟨rfl, rfl, rfl⟩ := hp
    exact lv_iload hx hb hd (hL.2.2.2 _ _ hk).1 (kk arr hL)
  · cases hp
theorem fe_q_iload_n (hx : p.tables.exec = Jvm.exec) (hb : c.code = cc) {k : Fin 4} (hd : decode cc pc = .ok (.iload_n k, 1)) (hp : fe_ild ls k (pc + 1) st = some (pc', ls', st')) (hL : fe_L arr nL ls) (kk : fe_K p l e R s m args below meth c H locs cells slots Q nL pc' ls' st') : W p l e R s m args below meth c H locs cells slots Q (F0 m pc arr st) := by
  unfold fe_ild at hp
  split at hp
  · next x hk =>
    simp only [Option.some.injEq, Prod.mk.injEq] at hp
    obtain ⟨rfl, rfl, rfl⟩ := hp
    exact lv_iload_n hx hb hd rfl (hL.2.2.2 _ _ hk).1 (kk arr hL)
  · cases hp
theorem fe_q_aload (hx : p.tables.exec = Jvm.exec) (hb : c.code = cc) {k : Nat} (hd : decode cc pc = .ok (.aload k, 2)) (hp : fe_ald ls k (pc + 2) st = some (pc', ls', st')) (hL : fe_L arr nL ls) (kk : fe_K p l e R s m args below meth c H locs cells slots Q nL pc' ls' st') : W p l e R s m args below meth c H locs cells slots Q (F0 m pc arr st) := by
  unfold fe_ald at hp
  split at hp
  · next x hk =>
    simp only [Option.some.injEq, Prod.mk.injEq] at hp
    obtain ⟨rfl, rfl, rfl⟩ := hp
    exact lv_aload hx hb hd (hL.2.2.2 _ _ hk).1 (kk arr hL)
  · next hk =>
    simp only [Option.some.injEq, Prod.mk.injEq] at hp
    obtain ⟨rfl, rfl, rfl⟩ := hp
    exact lv_aloadN hx hb hd (hL.2.2.2 _ _ hk).1 (kk arr hL)
  · cases hp
theorem fe_q_aload_n (hx : p.tables.exec = Jvm.exec) (hb : c.code = cc) {k : Fin 4} (hd : decode cc pc = .ok (.aload_n k, 1)) (hp : fe_ald ls k (pc + 1) st = some (pc', ls', st')) (hL : fe_L arr nL ls) (kk : fe_K p l e R s m args below meth c H locs cells slots Q nL pc' ls' st') : W p l e R s m args below meth c H locs cells slots Q (F0 m pc arr st) := by
  unfold fe_ald at hp
  split at hp
  · next x hk =>
    simp only [Option.some.injEq, Prod.mk.injEq] at hp
    obtain ⟨rfl, rfl, rfl⟩ := hp
    exact lv_aload_n hx hb hd rfl (hL.2.2.2 _ _ hk).1 (kk arr hL)
  · next hk =>
    simp only [Option.some.injEq, Prod.mk.injEq] at hp
    obtain ⟨rfl, rfl, rfl⟩ := hp
    exact lv_aload_nN hx hb hd rfl (hL.2.2.2 _ _ hk).1 (kk arr hL)
  · cases hp
theorem fe_q_istore (hx : p.tables.exec = Jvm.exec) (hb : c.code = cc) {k : Nat} (hd : decode cc pc = .ok (.istore k, 2)) (hp : fe_ist ls k (pc + 2) st = some (pc', ls', st')) (hL : fe_L arr nL ls) (kk : fe_K p l e R s m args below meth c H locs cells slots Q nL pc' ls' st') : W p l e R s m args below meth c H locs cells slots Q (F0 m pc arr st) := by
  unfold fe_ist at hp
  split at hp
  · split at hp
    · next hlt =>
      simp only [Option.some.injEq, Prod.mk.injEq] at hp
      obtain ⟨rfl, rfl, rfl⟩ := hp
      exact lv_istore hx hb hd hL.has (by rw [hL.2.2.1] at hlt; exact hlt) rfl (fun arr' h' => kk arr' (hL.set rfl h'))
    · cases hp
  · cases hp
theorem fe_q_istore_n (hx : p.tables.exec = Jvm.exec) (hb : c.code = cc) {k : Fin 4} (hd : decode cc pc = .ok (.istore_n k, 1)) (hp : fe_ist ls k (pc + 1) st = some (pc', ls', st')) (hL : fe_L arr nL ls) (kk : fe_K p l e R s m args below meth c H locs cells slots Q nL pc' ls' st') : W p l e R s m args below meth c H locs cells slots Q (F0 m pc arr st) := by
  unfold fe_ist at hp
  split at hp
  · split at hp
    · next hlt =>
      simp only [Option.some.injEq, Prod.mk.injEq] at hp
      obtain ⟨rfl, rfl, rfl⟩ := hp
      exact lv_istore_n hx hb hd rfl hL.has (by rw [hL.2.2.1] at hlt; exact hlt) rfl (fun arr' h' => kk arr' (hL.set rfl h'))
    · cases hp
  · cases hp
theorem fe_q_astore (hx : p.tables.exec = Jvm.exec) (hb : c.code = cc) {k : Nat} (hd : decode cc pc = .ok (.astore k, 2)) (hp : fe_ast ls k (pc + 2) st = some (pc', ls', st')) (hL : fe_L arr nL ls) (kk : fe_K p l e R s m args below meth c H locs cells slots Q nL pc' ls' st') : W p l e R s m args below meth c H locs cells slots Q (F0 m pc arr st) := by
  unfold fe_ast at hp
  split at hp
  · split at hp
    · next hlt =>
      simp only [Option.some.injEq, Prod.mk.injEq] at hp
      obtain ⟨rfl, rfl, rfl⟩ := hp
      exact lv_astore hx hb hd hL.has (by rw [hL.2.2.1] at hlt; exact hlt) rfl (fun arr' h' => kk arr' (hL.set rfl h'))
    · cases hp
  · split at hp
    · next hlt =>
      simp only [Option.some.injEq, Prod.mk.injEq] at hp
      obtain ⟨rfl, rfl, rfl⟩ := hp
      exact lv_astoreN hx hb hd hL.has (by rw [hL.2.2.1] at hlt; exact hlt) rfl (fun arr' h' => kk arr' (hL.set rfl h'))
    · cases hp
  · cases hp
theorem fe_q_astore_n (hx : p.tables.exec = Jvm.exec) (hb : c.code = cc) {k : Fin 4} (hd : decode cc pc = .ok (.astore_n k, 1)) (hp : fe_ast ls k (pc + 1) st = some (pc', ls', st')) (hL : fe_L arr nL ls) (kk : fe_K p l e R s m args below meth c H locs cells slots Q nL pc' ls' st') : W p l e R s m args below meth c H locs cells slots Q (F0 m pc arr st) := by
  unfold fe_ast at hp
  split at hp
  · split at hp
    · next hlt =>
      simp only [Option.some.injEq, Prod.mk.injEq] at hp
      obtain ⟨rfl, rfl, rfl⟩ := hp
      exact lv_astore_n hx hb hd rfl hL.has (by rw [hL.2.2.1] at hlt; exact hlt) rfl (fun arr' h' => kk arr' (hL.set rfl h'))
    · cases hp
  · split at hp
    · next hlt =>
      simp only [Option.some.injEq, Prod.mk.injEq] at hp
      obtain ⟨rfl, rfl, rfl⟩ := hp
      exact lv_astore_nN hx hb hd rfl hL.has (by rw [hL.2.2.1] at hlt; exact hlt) rfl (fun arr' h' => kk arr' (hL.set rfl h'))
    · cases hp
  · cases hp
theorem fe_q_iinc (hx : p.tables.exec = Jvm.exec) (hb : c.code = cc) {k : Nat} {n : Int} (hd : decode cc pc = .ok (.iinc k n, 3)) (hp : fe_inc ls k n (pc + 3) st = some (pc', ls', st')) (hL : fe_L arr nL ls) (kk : fe_K p l e R s m args below meth c H locs cells slots Q nL pc' ls' st') : W p l e R s m args below meth c H locs cells slots Q (F0 m pc arr st) := by
  unfold fe_inc at hp
  split at hp
  · next x hk =>
    simp only [Option.some.injEq, Prod.mk.injEq] at hp
    obtain ⟨rfl, rfl, rfl⟩ := hp
    obtain ⟨j, hj⟩ := List.getElem?_of_mem (fe_prs_mem.mpr hk)
    exact lv_iinc hx hb hd hL.has hj rfl (by rw [← hL.2.2.1]; exact (List.getElem?_eq_some_iff.mp hk).1) rfl (fun arr' h' => kk arr' (hL.set rfl h'))
  · cases hp
theorem fe_q_iadd (hx : p.tables.exec = Jvm.exec) (hb : c.code = cc) (hd : decode cc pc = .ok (.iadd, 1)) (hp : fe_b2 (fun x y => x + y) pc ls st = some (pc', ls', st')) (hL : fe_L arr nL ls) (kk : fe_K p l e R s m args below meth c H locs cells slots Q nL pc' ls' st') : W p l e R s m args below meth c H locs cells slots Q (F0 m pc arr st) := by
  simp only [fe_b2] at hp
  split at hp
  · simp only [Option.some.injEq, Prod.mk.injEq] at hp
    obtain ⟨rfl, rfl, rfl⟩ := hp
    exact lv_iadd hx hb hd (kk arr hL)
  · cases hp
theorem fe_q_isub (hx : p.tables.exec = Jvm.exec) (hb : c.code = cc) (hd : decode cc pc = .ok (.isub, 1)) (hp : fe_b2 (fun x y => x - y) pc ls st = some (pc', ls', st')) (hL : fe_L arr nL ls) (kk : fe_K p l e R s m args below meth c H locs cells slots Q nL pc' ls' st') : W p l e R s m args below meth c H locs cells slots Q (F0 m pc arr st) := by
  simp only [fe_b2] at hp
  split at hp
  · simp only [Option.some.injEq, Prod.mk.injEq] at hp
    obtain ⟨rfl, rfl, rfl⟩ := hp
    exact lv_isub hx hb hd (kk arr hL)
  · cases hp
theorem fe_q_imul (hx : p.tables.exec = Jvm.exec) (hb : c.code = cc) (hd : decode cc pc = .ok (.imul, 1)) (hp : fe_b2 (fun x y => x * y) pc ls st = some (pc', ls', st')) (hL : fe_L arr nL ls) (kk : fe_K p l e R s m args below meth c H locs cells slots Q nL pc' ls' st') : W p l e R s m args below meth c H locs cells slots Q (F0 m pc arr st) := by
  simp only [fe_b2] at hp
  split at hp
  · simp only [Option.some.injEq, Prod.mk.injEq] at hp
    obtain ⟨rfl, rfl, rfl⟩ := hp
    exact lv_imul hx hb hd (kk arr hL)
  · cases hp
theorem fe_q_iand (hx : p.tables.exec = Jvm.exec) (hb : c.code = cc) (hd : decode cc pc = .ok (.iand, 1)) (hp : fe_b2 (fun x y => x &&& y) pc ls st = some (pc', ls', st')) (hL : fe_L arr nL ls) (kk : fe_K p l e R s m args below meth c H locs cells slots Q nL pc' ls' st') : W p l e R s m args below meth c H locs cells slots Q (F0 m pc arr st) := by
  simp only [fe_b2] at hp
  split at hp
  · simp only [Option.some.injEq, Prod.mk.injEq] at hp
    obtain ⟨rfl, rfl, rfl⟩ := hp
    exact lv_iand hx hb hd (kk arr hL)
  · cases hp
theorem fe_q_ior (hx : p.tables.exec = Jvm.exec) (hb : c.code = cc) (hd : decode cc pc = .ok (.ior, 1)) (hp : fe_b2 (fun x y => x ||| y) pc ls st = some (pc', ls', st')) (hL : fe_L arr nL ls) (kk : fe_K p l e R s m args below meth c H locs cells slots Q nL pc' ls' st') : W p l e R s m args below meth c H locs cells slots Q (F0 m pc arr st) := by
  simp only [fe_b2] at hp
  split at hp
  · simp only [Option.some.injEq, Prod.mk.injEq] at hp
    obtain ⟨rfl, rfl, rfl⟩ := hp
    exact lv_ior hx hb hd (kk arr hL)
  · cases hp
theorem fe_q_ixor (hx : p.tables.exec = Jvm.exec) (hb : c.code = cc) (hd : decode cc pc = .ok (.ixor, 1)) (hp : fe_b2 (fun x y => x ^^^ y) pc ls st = some (pc', ls', st')) (hL : fe_L arr nL ls) (kk : fe_K p l e R s m args below meth c H locs cells slots Q nL pc' ls' st') : W p l e R s m args below meth c H locs cells slots Q (F0 m pc arr st) := by
  simp only [fe_b2] at hp
  split at hp
  · simp only [Option.some.injEq, Prod.mk.injEq] at hp
    obtain ⟨rfl, rfl, rfl⟩ := hp
    exact lv_ixor hx hb hd (kk arr hL)
  · cases hp
theorem fe_q_ishl (hx : p.tables.exec = Jvm.exec) (hb : c.code = cc) (hd : decode cc pc = .ok (.ishl, 1)) (hp : fe_b2 (fun x y => x <<< (y &&& 31)) pc ls st = some (pc', ls', st')) (hL : fe_L arr nL ls) (kk : fe_K p l e R s m args below meth c H locs cells slots Q nL pc' ls' st') : W p l e R s m args below meth c H locs cells slots Q (F0 m pc arr st) := by
  simp only [fe_b2] at hp
  split at hp
  · simp only [Option.some.injEq, Prod.mk.injEq] at hp
    obtain ⟨rfl, rfl, rfl⟩ := hp
    exact lv_ishl hx hb hd (kk arr hL)
  · cases hp
theorem fe_q_ishr (hx : p.tables.exec = Jvm.exec) (hb : c.code = cc) (hd : decode cc pc = .ok (.ishr, 1)) (hp : fe_b2 (fun x y => x >>> (y &&& 31)) pc ls st = some (pc', ls', st')) (hL : fe_L arr nL ls) (kk : fe_K p l e R s m args below meth c H locs cells slots Q nL pc' ls' st') : W p l e R s m args below meth c H locs cells slots Q (F0 m pc arr st) := by
  simp only [fe_b2] at hp
  split at hp
  · simp only [Option.some.injEq, Prod.mk.injEq] at hp
    obtain ⟨rfl, rfl, rfl⟩ := hp
    exact lv_ishr hx hb hd (kk arr hL)
  · cases hp
theorem fe_q_iushr (hx : p.tables.exec = Jvm.exec) (hb : c.code = cc) (hd : decode cc pc = .ok (.iushr, 1)) (hp : fe_b2 (fun x y => (x.toUInt32 >>> (y.toUInt32 &&& Int32.toUInt32 31)).toInt32) pc ls st = some (pc', ls', st')) (hL : fe_L arr nL ls) (kk : fe_K p l e R s m args below meth c H locs cells slots Q nL pc' ls' st') : W p l e R s m args below meth c H locs cells slots Q (F0 m pc arr st) := by
  simp only [fe_b2] at hp
  split at hp
  · simp only [Option.some.injEq, Prod.mk.injEq] at hp
    obtain ⟨rfl, rfl, rfl⟩ := hp
    exact lv_iushr hx hb hd rfl (kk arr hL)
  · cases hp
theorem fe_q_land (hx : p.tables.exec = Jvm.exec) (hb : c.code = cc) (hd : decode cc pc = .ok (.land, 1)) (hp : fe_l2 (fun x y => x &&& y) pc ls st = some (pc', ls', st')) (hL : fe_L arr nL ls) (kk : fe_K p l e R s m args below meth c H locs cells slots Q nL pc' ls' st') : W p l e R s m args below meth c H locs cells slots Q (F0 m pc arr st) := by
  simp only [fe_l2] at hp
  split at hp
  · simp only [Option.some.injEq, Prod.mk.injEq] at hp
    obtain ⟨rfl, rfl, rfl⟩ := hp
    exact lv_land hx hb hd (kk arr hL)
  · cases hp
theorem fe_q_lor (hx : p.tables.exec = Jvm.exec) (hb : c.code = cc) (hd : decode cc pc = .ok (.lor, 1)) (hp : fe_l2 (fun x y => x ||| y) pc ls st = some (pc', ls', st')) (hL : fe_L arr nL ls) (kk : fe_K p l e R s m args below meth c H locs cells slots Q nL pc' ls' st') : W p l e R s m args below meth c H locs cells slots Q (F0 m pc arr st) := by
  simp only [fe_l2] at hp
  split at hp
  · simp only [Option.some.injEq, Prod.mk.injEq] at hp
    obtain ⟨rfl, rfl, rfl⟩ := hp
    exact lv_lor hx hb hd (kk arr hL)
  · cases hp
theorem fe_q_lshl (hx : p.tables.exec = Jvm.exec) (hb : c.code = cc) (hd : decode cc pc = .ok (.lshl, 1)) (hp : fe_s2 (fun x y => x <<< (y.toInt64 &&& 63)) pc ls st = some (pc', ls', st')) (hL : fe_L arr nL ls) (kk : fe_K p l e R s m args below meth c H locs cells slots Q nL pc' ls' st') : W p l e R s m args below meth c H locs cells slots Q (F0 m pc arr st) := by
  simp only [fe_s2] at hp
  split at hp
  · simp only [Option.some.injEq, Prod.mk.injEq] at hp
    obtain ⟨rfl, rfl, rfl⟩ := hp
    exact lv_lshl hx hb hd rfl (kk arr hL)
  · cases hp
theorem fe_q_lshr (hx : p.tables.exec = Jvm.exec) (hb : c.code = cc) (hd : decode cc pc = .ok (.lshr, 1)) (hp : fe_s2 (fun x y => x >>> (y.toInt64 &&& 63)) pc ls st = some (pc', ls', st')) (hL : fe_L arr nL ls) (kk : fe_K p l e R s m args below meth c H locs cells slots Q nL pc' ls' st') : W p l e R s m args below meth c H locs cells slots Q (F0 m pc arr st) := by
  simp only [fe_s2] at hp
  split at hp
  · simp only [Option.some.injEq, Prod.mk.injEq] at hp
    obtain ⟨rfl, rfl, rfl⟩ := hp
    exact lv_lshr hx hb hd rfl (kk arr hL)
  · cases hp
theorem fe_q_idiv (hx : p.tables.exec = Jvm.exec) (hb : c.code = cc) (hd : decode cc pc = .ok (.idiv, 1)) (hp : fe_d2 (fun x y => x / y) pc ls st = some (pc', ls', st')) (hL : fe_L arr nL ls) (kk : fe_K p l e R s m args below meth c H locs cells slots Q nL pc' ls' st') : W p l e R s m args below meth c H locs cells slots Q (F0 m pc arr st) := by
  simp only [fe_d2] at hp
  split at hp
  · split at hp
    · cases hp
    · next hne =>
      simp only [Option.some.injEq, Prod.mk.injEq] at hp
      obtain ⟨rfl, rfl, rfl⟩ := hp
      exact lv_idiv hx hb hd hne (kk arr hL)
  · cases hp
theorem fe_q_irem (hx : p.tables.exec = Jvm.exec) (hb : c.code = cc) (hd : decode cc pc = .ok (.irem, 1)) (hp : fe_d2 (fun x y => x - x / y * y) pc ls st = some (pc', ls', st')) (hL : fe_L arr nL ls) (kk : fe_K p l e R s m args below meth c H locs cells slots Q nL pc' ls' st') : W p l e R s m args below meth c H locs cells slots Q (F0 m pc arr st) := by
  simp only [fe_d2] at hp
  split at hp
  · split at hp
    · cases hp
    · next hne =>
      simp only [Option.some.injEq, Prod.mk.injEq] at hp
      obtain ⟨rfl, rfl, rfl⟩ := hp
      exact lv_irem hx hb hd hne (kk arr hL)
  · cases hp
theorem fe_q_if_eq (hx : p.tables.exec = Jvm.exec) (hb : c.code = cc) {off : Int} (hd : decode cc pc = .ok (.ifCond .eq off, 3)) (hp : fe_br1 (fe_c1 .eq) pc off ls st = some (pc', ls', st')) (hL : fe_L arr nL ls) (kk : fe_K p l e R s m args below meth c H locs cells slots Q nL pc' ls' st') : W p l e R s m args below meth c H locs cells slots Q (F0 m pc arr st) := by
  simp only [fe_br1] at hp
  split at hp
  · split at hp
    · next hok =>
      simp only [Option.some.injEq, Prod.mk.injEq] at hp
      obtain ⟨rfl, rfl, rfl⟩ := hp
      refine lv_if_eq hx hb hd (fe_okt_spec hok) (fun hc => ?_) (fun hc => ?_)
      · have k2 := kk arr hL
        rw [if_pos (show fe_c1 .eq _ = true from decide_eq_true hc)] at k2
        exact k2
      · have k2 := kk arr hL
        rw [if_neg (show ¬ fe_c1 .eq _ = true from fun h => hc (of_decide_eq_true h))] at k2
        exact k2
    · cases hp
  · cases hp
theorem fe_q_icmp_eq (hx : p.tables.exec = Jvm.exec) (hb : c.code = cc) {off : Int} (hd : decode cc pc = .ok (.if_icmp .eq off, 3)) (hp : fe_br2 (fe_c2 .eq) pc off ls st = some (pc', ls', st')) (hL : fe_L arr nL ls) (kk : fe_K p l e R s m args below meth c H locs cells slots Q nL pc' ls' st') : W p l e R s m args below meth c H locs cells slots Q (F0 m pc arr st) := by
  simp only [fe_br2] at hp
  split at hp
  · split at hp
    · next hok =>
      simp only [Option.some.injEq, Prod.mk.injEq] at hp
      obtain ⟨rfl, rfl, rfl⟩ := hp
      refine lv_icmp_eq hx hb hd (fe_okt_spec hok) (fun hc => ?_) (fun hc => ?_)
      · have k2 := kk arr hL
        rw [if_pos (show fe_c2 .eq _ _ = true from decide_eq_true hc)] at k2
        exact k2
      · have k2 := kk arr hL
        rw [if_neg (show ¬ fe_c2 .eq _ _ = true from fun h => hc (of_decide_eq_true h))] at k2
        exact k2
    · cases hp
  · cases hp
theorem fe_q_if_ne (hx : p.tables.exec = Jvm.exec) (hb : c.code = cc) {off : Int} (hd : decode cc pc = .ok (.ifCond .ne off, 3)) (hp : fe_br1 (fe_c1 .ne) pc off ls st = some (pc', ls', st')) (hL : fe_L arr nL ls) (kk : fe_K p l e R s m args below meth c H locs cells slots Q nL pc' ls' st') : W p l e R s m args below meth c H locs cells slots Q (F0 m pc arr st) := by
  simp only [fe_br1] at hp
  split at hp
  · split at hp
    · next hok =>
      simp only [Option.some.injEq, Prod.mk.injEq] at hp
      obtain ⟨rfl, rfl, rfl⟩ := hp
      refine lv_if_ne hx hb hd (fe_okt_spec hok) (fun hc => ?_) (fun hc => ?_)
      · have k2 := kk arr hL
        rw [if_pos (show fe_c1 .ne _ = true from decide_eq_true hc)] at k2
        exact k2
      · have k2 := kk arr hL
        rw [if_neg (show ¬ fe_c1 .ne _ = true from fun h => (of_decide_eq_true h) hc)] at k2
        exact k2
    · cases hp
  · cases hp
theorem fe_q_icmp_ne (hx : p.tables.exec = Jvm.exec) (hb : c.code = cc) {off : Int} (hd : decode cc pc = .ok (.if_icmp .ne off, 3)) (hp : fe_br2 (fe_c2 .ne) pc off ls st = some (pc', ls', st')) (hL : fe_L arr nL ls) (kk : fe_K p l e R s m args below meth c H locs cells slots Q nL pc' ls' st') : W p l e R s m args below meth c H locs cells slots Q (F0 m pc arr st) := by
  simp only [fe_br2] at hp
  split at hp
  · split at hp
    · next hok =>
      simp only [Option.some.injEq, Prod.mk.injEq] at hp
      obtain ⟨rfl, rfl, rfl⟩ := hp
      refine lv_icmp_ne hx hb hd (fe_okt_spec hok) (fun hc => ?_) (fun hc => ?_)
      · have k2 := kk arr hL
        rw [if_pos (show fe_c2 .ne _ _ = true from decide_eq_true hc)] at k2
        exact k2
      · have k2 := kk arr hL
        rw [if_neg (show ¬ fe_c2 .ne _ _ = true from fun h => (of_decide_eq_true h) hc)] at k2
        exact k2
    · cases hp
  · cases hp
theorem fe_q_if_lt (hx : p.tables.exec = Jvm.exec) (hb : c.code = cc) {off : Int} (hd : decode cc pc = .ok (.ifCond .lt off, 3)) (hp : fe_br1 (fe_c1 .lt) pc off ls st = some (pc', ls', st')) (hL : fe_L arr nL ls) (kk : fe_K p l e R s m args below meth c H locs cells slots Q nL pc' ls' st') : W p l e R s m args below meth c H locs cells slots Q (F0 m pc arr st) := by
  simp only [fe_br1] at hp
  split at hp
  · split at hp
    · next hok =>
      simp only [Option.some.injEq, Prod.mk.injEq] at hp
      obtain ⟨rfl, rfl, rfl⟩ := hp
      refine lv_if_lt hx hb hd (fe_okt_spec hok) (fun hc => ?_) (fun hc => ?_)
      · have k2 := kk arr hL
        rw [if_pos (show fe_c1 .lt _ = true from decide_eq_true hc)] at k2
        exact k2
      · have k2 := kk arr hL
        rw [if_neg (show ¬ fe_c1 .lt _ = true from fun h => hc (of_decide_eq_true h))] at k2
        exact k2
    · cases hp
  · cases hp
theorem fe_q_icmp_lt (hx : p.tables.exec = Jvm.exec) (hb : c.code = cc) {off : Int} (hd : decode cc pc = .ok (.if_icmp .lt off, 3)) (hp : fe_br2 (fe_c2 .lt) pc off ls st = some (pc', ls', st')) (hL : fe_L arr nL ls) (kk : fe_K p l e R s m args below meth c H locs cells slots Q nL pc' ls' st') : W p l e R s m args below meth c H locs cells slots Q (F0 m pc arr st) := by
  simp only [fe_br2] at hp
  split at hp
  · split at hp
    · next hok =>
      simp only [Option.some.injEq, Prod.mk.injEq] at hp
      obtain ⟨rfl, rfl, rfl⟩ := hp
      refine lv_icmp_lt hx hb hd (fe_okt_spec hok) (fun hc => ?_) (fun hc => ?_)
      · have k2 := kk arr hL
        rw [if_pos (show fe_c2 .lt _ _ = true from decide_eq_true hc)] at k2
        exact k2
      · have k2 := kk arr hL
        rw [if_neg (show ¬ fe_c2 .lt _ _ = true from fun h => hc (of_decide_eq_true h))] at k2
        exact k2
    · cases hp
  · cases hp
theorem fe_q_if_ge (hx : p.tables.exec = Jvm.exec) (hb : c.code = cc) {off : Int} (hd : decode cc pc = .ok (.ifCond .ge off, 3)) (hp : fe_br1 (fe_c1 .ge) pc off ls st = some (pc', ls', st')) (hL : fe_L arr nL ls) (kk : fe_K p l e R s m args below meth c H locs cells slots Q nL pc' ls' st') : W p l e R s m args below meth c H locs cells slots Q (F0 m pc arr st) := by
  simp only [fe_br1] at hp
  split at hp
  · split at hp
    · next hok =>
      simp only [Option.some.injEq, Prod.mk.injEq] at hp
      obtain ⟨rfl, rfl, rfl⟩ := hp
      refine lv_if_ge hx hb hd (fe_okt_spec hok) (fun hc => ?_) (fun hc => ?_)
      · have k2 := kk arr hL
        rw [if_pos (show fe_c1 .ge _ = true from decide_eq_true hc)] at k2
        exact k2
      · have k2 := kk arr hL
        rw [if_neg (show ¬ fe_c1 .ge _ = true from fun h => hc (of_decide_eq_true h))] at k2
        exact k2
    · cases hp
  · cases hp
theorem fe_q_icmp_ge (hx : p.tables.exec = Jvm.exec) (hb : c.code = cc) {off : Int} (hd : decode cc pc = .ok (.if_icmp .ge off, 3)) (hp : fe_br2 (fe_c2 .ge) pc off ls st = some (pc', ls', st')) (hL : fe_L arr nL ls) (kk : fe_K p l e R s m args below meth c H locs cells slots Q nL pc' ls' st') : W p l e R s m args below meth c H locs cells slots Q (F0 m pc arr st) := by
  simp only [fe_br2] at hp
  split at hp
  · split at hp
    · next hok =>
      simp only [Option.some.injEq, Prod.mk.injEq] at hp
      obtain ⟨rfl, rfl, rfl⟩ := hp
      refine lv_icmp_ge hx hb hd (fe_okt_spec hok) (fun hc => ?_) (fun hc => ?_)
      · have k2 := kk arr hL
        rw [if_pos (show fe_c2 .ge _ _ = true from decide_eq_true hc)] at k2
        exact k2
      · have k2 := kk arr hL
        rw [if_neg (show ¬ fe_c2 .ge _ _ = true from fun h => hc (of_decide_eq_true h))] at k2
        exact k2
    · cases hp
  · cases hp
theorem fe_q_if_gt (hx : p.tables.exec = Jvm.exec) (hb : c.code = cc) {off : Int} (hd : decode cc pc = .ok (.ifCond .gt off, 3)) (hp : fe_br1 (fe_c1 .gt) pc off ls st = some (pc', ls', st')) (hL : fe_L arr nL ls) (kk : fe_K p l e R s m args below meth c H locs cells slots Q nL pc' ls' st') : W p l e R s m args below meth c H locs cells slots Q (F0 m pc arr st) := by
  simp only [fe_br1] at hp
  split at hp
  · split at hp
    · next hok =>
      simp only [Option.some.injEq, Prod.mk.injEq] at hp
      obtain ⟨rfl, rfl, rfl⟩ := hp
      refine lv_if_gt hx hb hd (fe_okt_spec hok) (fun hc => ?_) (fun hc => ?_)
      · have k2 := kk arr hL
        rw [if_pos (show fe_c1 .gt _ = true from decide_eq_true hc)] at k2
        exact k2
      · have k2 := kk arr hL
        rw [if_neg (show ¬ fe_c1 .gt _ = true from fun h => hc (of_decide_eq_true h))] at k2
        exact k2
    · cases hp
  · cases hp
theorem fe_q_icmp_gt (hx : p.tables.exec = Jvm.exec) (hb : c.code = cc) {off : Int} (hd : decode cc pc = .ok (.if_icmp .gt off, 3)) (hp : fe_br2 (fe_c2 .gt) pc off ls st = some (pc', ls', st')) (hL : fe_L arr nL ls) (kk : fe_K p l e R s m args below meth c H locs cells slots Q nL pc' ls' st') : W p l e R s m args below meth c H locs cells slots Q (F0 m pc arr st) := by
  simp only [fe_br2] at hp
  split at hp
  · split at hp
    · next hok =>
      simp only [Option.some.injEq, Prod.mk.injEq] at hp
      obtain ⟨rfl, rfl, rfl⟩ := hp
      refine lv_icmp_gt hx hb hd (fe_okt_spec hok) (fun hc => ?_) (fun hc => ?_)
      · have k2 := kk arr hL
        rw [if_pos (show fe_c2 .gt _ _ = true from decide_eq_true hc)] at k2
        exact k2
      · have k2 := kk arr hL
        rw [if_neg (show ¬ fe_c2 .gt _ _ = true from fun h => hc (of_decide_eq_true h))] at k2
        exact k2
    · cases hp
  · cases hp
theorem fe_q_if_le (hx : p.tables.exec = Jvm.exec) (hb : c.code = cc) {off : Int} (hd : decode cc pc = .ok (.ifCond .le off, 3)) (hp : fe_br1 (fe_c1 .le) pc off ls st = some (pc', ls', st')) (hL : fe_L arr nL ls) (kk : fe_K p l e R s m args below meth c H locs cells slots Q nL pc' ls' st') : W p l e R s m args below meth c H locs cells slots Q (F0 m pc arr st) := by
  simp only [fe_br1] at hp
  split at hp
  · split at hp
    · next hok =>
      simp only [Option.some.injEq, Prod.mk.injEq] at hp
      obtain ⟨rfl, rfl, rfl⟩ := hp
      refine lv_if_le hx hb hd (fe_okt_spec hok) (fun hc => ?_) (fun hc => ?_)
      · have k2 := kk arr hL
        rw [if_pos (show fe_c1 .le _ = true from decide_eq_true hc)] at k2
        exact k2
      · have k2 := kk arr hL
        rw [if_neg (show ¬ fe_c1 .le _ = true from fun h => hc (of_decide_eq_true h))] at k2
        exact k2
    · cases hp
  · cases hp
theorem fe_q_icmp_le (hx : p.tables.exec = Jvm.exec) (hb : c.code = cc) {off : Int} (hd : decode cc pc = .ok (.if_icmp .le off, 3)) (hp : fe_br2 (fe_c2 .le) pc off ls st = some (pc', ls', st')) (hL : fe_L arr nL ls) (kk : fe_K p l e R s m args below meth c H locs cells slots Q nL pc' ls' st') : W p l e R s m args below meth c H locs cells slots Q (F0 m pc arr st) := by
  simp only [fe_br2] at hp
  split at hp
  · split at hp
    · next hok =>
      simp only [Option.some.injEq, Prod.mk.injEq] at hp
      obtain ⟨rfl, rfl, rfl⟩ := hp
      refine lv_icmp_le hx hb hd (fe_okt_spec hok) (fun hc => ?_) (fun hc => ?_)
      · have k2 := kk arr hL
        rw [if_pos (show fe_c2 .le _ _ = true from decide_eq_true hc)] at k2
        exact k2
      · have k2 := kk arr hL
        rw [if_neg (show ¬ fe_c2 .le _ _ = true from fun h => hc (of_decide_eq_true h))] at k2
        exact k2
    · cases hp
  · cases hp
theorem fe_q_sw (hx : p.tables.exec = Jvm.exec) (hb : c.code = cc) {dflt lo hi : Int} {offs : Array Int} {len : Nat} (hd : decode cc pc = .ok (.tableswitch dflt lo hi offs, len)) (hp : fe_sw dflt lo hi offs pc ls st = some (pc', ls', st')) (hL : fe_L arr nL ls) (kk : fe_K p l e R s m args below meth c H locs cells slots Q nL pc' ls' st') : W p l e R s m args below meth c H locs cells slots Q (F0 m pc arr st) := by
  unfold fe_sw at hp
  split at hp
  · split at hp
    · next hout =>
      split at hp
      · next hok =>
        simp only [Option.some.injEq, Prod.mk.injEq] at hp
        obtain ⟨rfl, rfl, rfl⟩ := hp
        exact lv_tableOut hx hb hd hout (fe_okt_spec hok) (kk arr hL)
      · cases hp
    · next hin =>
      split at hp
      · next off ho =>
        split at hp
        · next hok =>
          simp only [Option.some.injEq, Prod.mk.injEq] at hp
          obtain ⟨rfl, rfl, rfl⟩ := hp
          exact lv_tableIn hx hb hd (fun h => hin (Or.inl h)) (fun h => hin (Or.inr h)) ho (fe_okt_spec hok) (kk arr hL)
        · cases hp
      · cases hp
  · cases hp
set_option maxHeartbeats 4000000 in
theorem fe_pstep_ok (hx : p.tables.exec = Jvm.exec) (hb : c.code = cc) {i : Instr} (hd : decode cc pc = .ok (i, fe_len pc i)) (hp : fe_pstep i pc ls st = some (pc', ls', st')) (hL : fe_L arr nL ls) (kk : fe_K p l e R s m args below meth c H locs cells slots Q nL pc' ls' st') : W p l e R s m args below meth c H locs cells slots Q (F0 m pc arr st) := by
  cases i with
  | iconst n =>
    simp only [fe_pstep, Option.some.injEq, Prod.mk.injEq] at hp
    obtain ⟨rfl, rfl, rfl⟩ := hp
    exact lv_iconst hx hb hd rfl (kk arr hL)
  | bipush n =>
    simp only [fe_pstep, Option.some.injEq, Prod.mk.injEq] at hp
    obtain ⟨rfl, rfl, rfl⟩ := hp
    exact lv_bipush hx hb hd rfl (kk arr hL)
  | sipush n =>
    simp only [fe_pstep, Option.some.injEq, Prod.mk.injEq] at hp
    obtain ⟨rfl, rfl, rfl⟩ := hp
    exact lv_sipush hx hb hd rfl (kk arr hL)
  | lconst n =>
    simp only [fe_pstep, Option.some.injEq, Prod.mk.injEq] at hp
    obtain ⟨rfl, rfl, rfl⟩ := hp
    exact lv_lconst hx hb hd rfl (kk arr hL)
  | iload k => exact fe_q_iload hx hb hd hp hL kk
  | iload_n k => exact fe_q_iload_n hx hb hd hp hL kk
  | aload k => exact fe_q_aload hx hb hd hp hL kk
  | aload_n k => exact fe_q_aload_n hx hb hd hp hL kk
  | istore k => exact fe_q_istore hx hb hd hp hL kk
  | istore_n k => exact fe_q_istore_n hx hb hd hp hL kk
  | astore k => exact fe_q_astore hx hb hd hp hL kk
  | astore_n k => exact fe_q_astore_n hx hb hd hp hL kk
  | iinc k n => exact fe_q_iinc hx hb hd hp hL kk
  | iadd => exact fe_q_iadd hx hb hd hp hL kk
  | isub => exact fe_q_isub hx hb hd hp hL kk
  | imul => exact fe_q_imul hx hb hd hp hL kk
  | iand => exact fe_q_iand hx hb hd hp hL kk
  | ior => exact fe_q_ior hx hb hd hp hL kk
  | ixor => exact fe_q_ixor hx hb hd hp hL kk
  | ishl => exact fe_q_ishl hx hb hd hp hL kk
  | ishr => exact fe_q_ishr hx hb hd hp hL kk
  | iushr => exact fe_q_iushr hx hb hd hp hL kk
  | land => exact fe_q_land hx hb hd hp hL kk
  | lor => exact fe_q_lor hx hb hd hp hL kk
  | lshl => exact fe_q_lshl hx hb hd hp hL kk
  | lshr => exact fe_q_lshr hx hb hd hp hL kk
  | idiv => exact fe_q_idiv hx hb hd hp hL kk
  | irem => exact fe_q_irem hx hb hd hp hL kk
  | tableswitch dflt lo hi offs => exact fe_q_sw hx hb hd hp hL kk
  | ifCond c off => cases c <;> first | exact fe_q_if_eq hx hb hd hp hL kk | exact fe_q_if_ne hx hb hd hp hL kk | exact fe_q_if_lt hx hb hd hp hL kk | exact fe_q_if_ge hx hb hd hp hL kk | exact fe_q_if_gt hx hb hd hp hL kk | exact fe_q_if_le hx hb hd hp hL kk
  | if_icmp c off => cases c <;> first | exact fe_q_icmp_eq hx hb hd hp hL kk | exact fe_q_icmp_ne hx hb hd hp hL kk | exact fe_q_icmp_lt hx hb hd hp hL kk | exact fe_q_icmp_ge hx hb hd hp hL kk | exact fe_q_icmp_gt hx hb hd hp hL kk | exact fe_q_icmp_le hx hb hd hp hL kk
  | ineg =>
    simp only [fe_pstep] at hp
    split at hp
    · simp only [Option.some.injEq, Prod.mk.injEq] at hp
      obtain ⟨rfl, rfl, rfl⟩ := hp
      exact lv_ineg hx hb hd (kk arr hL)
    · cases hp
  | lcmp =>
    simp only [fe_pstep] at hp
    split at hp
    · simp only [Option.some.injEq, Prod.mk.injEq] at hp
      obtain ⟨rfl, rfl, rfl⟩ := hp
      exact W.lcmp hx hb hd (kk arr hL)
    · cases hp
  | i2l =>
    simp only [fe_pstep] at hp
    split at hp
    · simp only [Option.some.injEq, Prod.mk.injEq] at hp
      obtain ⟨rfl, rfl, rfl⟩ := hp
      exact lv_i2l hx hb hd rfl (kk arr hL)
    · cases hp
  | dup =>
    simp only [fe_pstep] at hp
    split at hp
    · simp only [Option.some.injEq, Prod.mk.injEq] at hp
      obtain ⟨rfl, rfl, rfl⟩ := hp
      exact lv_dup hx hb hd rfl (kk arr hL)
    · simp only [Option.some.injEq, Prod.mk.injEq] at hp
      obtain ⟨rfl, rfl, rfl⟩ := hp
      exact lv_dup hx hb hd rfl (kk arr hL)
    · cases hp
  | pop =>
    simp only [fe_pstep] at hp
    split at hp
    · simp only [Option.some.injEq, Prod.mk.injEq] at hp
      obtain ⟨rfl, rfl, rfl⟩ := hp
      exact lv_pop hx hb hd rfl (kk arr hL)
    · cases hp
  | dup2 =>
    simp only [fe_pstep] at hp
    split at hp
    · simp only [Option.some.injEq, Prod.mk.injEq] at hp
      obtain ⟨rfl, rfl, rfl⟩ := hp
      exact lv_dup2_11 hx hb hd rfl rfl (kk arr hL)
    · cases hp
  | goto off =>
    simp only [fe_pstep] at hp
    split at hp
    · next hok =>
      simp only [Option.some.injEq, Prod.mk.injEq] at hp
      obtain ⟨rfl, rfl, rfl⟩ := hp
      exact lv_goto hx hb hd (fe_okt_spec hok) (kk arr hL)
    · cases hp
  | aconst_null =>
    simp only [fe_pstep, Option.some.injEq, Prod.mk.injEq] at hp
    obtain ⟨rfl, rfl, rfl⟩ := hp
    exact lv_null hx hb hd (kk arr hL)
  | ifnonnull off =>
    simp only [fe_pstep] at hp
    split at hp
    · simp only [Option.some.injEq, Prod.mk.injEq] at hp
      obtain ⟨rfl, rfl, rfl⟩ := hp
      exact lv_ifnonnullN hx hb hd (kk arr hL)
    · split at hp
      · next hok =>
        simp only [Option.some.injEq, Prod.mk.injEq] at hp
        obtain ⟨rfl, rfl, rfl⟩ := hp
        exact lv_ifnonnull hx hb hd (fe_okt_spec hok) (kk arr hL)
      · cases hp
    · cases hp
  | ifnull off =>
    simp only [fe_pstep] at hp
    split at hp
    · split at hp
      · next hok =>
        simp only [Option.some.injEq, Prod.mk.injEq] at hp
        obtain ⟨rfl, rfl, rfl⟩ := hp
        exact lv_ifnullN hx hb hd (fe_okt_spec hok) (kk arr hL)
      · cases hp
    · simp only [Option.some.injEq, Prod.mk.injEq] at hp
      obtain ⟨rfl, rfl, rfl⟩ := hp
      exact lv_ifnull hx hb hd (kk arr hL)
    · cases hp
  | _ => simp [fe_pstep] at hp
end FeP

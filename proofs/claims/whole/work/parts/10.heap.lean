/-! the steps over the heap are the machine's -/
section FeH
variable {p : Program} {l : Launch} {e : Env} {R : Room} {s : State} {m : MethodId} {args : Array Value} {below : List Frame} {meth : Method} {c : Code} {H : Heap} {locs : List Loc} {cells slots : Nat} {Q : State → Prop}
variable {pc y sz : Nat} {arr : Array Slot} {D : fe_D} {E : fe_E} {h h' : fe_H} {r : List Value} {a : Nat}
/-- where a walk stands: the small heap is the machine's, nothing old has changed, there is room -/
def fe_X (D : fe_D) (sz : Nat) (R : Room) (s : State) (h : fe_H) (H : Heap) (locs : List Loc) (cells slots : Nat) : Prop := fe_HR D sz h H ∧ va_S (fe_A sz) s.heap H locs ∧ cells + h.2.1 ≤ R.cells ∧ slots + h.2.2.1 ≤ R.slots
abbrev fe_J1 (p : Program) (l : Launch) (e : Env) (R : Room) (s : State) (m : MethodId) (args : Array Value) (below : List Frame) (meth : Method) (c : Code) (Q : State → Prop) (D : fe_D) (sz : Nat) (g : JFrame) (h' : fe_H) : Prop := ∀ (H' : Heap) (locs' : List Loc) (cells' slots' : Nat), fe_X D sz R s h' H' locs' cells' slots' → W p l e R s m args below meth c H' locs' cells' slots' Q g
theorem fe_X.big {D : fe_D} {sz : Nat} {R : Room} {s : State} {h : fe_H} {H : Heap} {locs : List Loc} {cells slots : Nat} (hE : sz ≤ s.heap.size) (X : fe_X D sz R s h H locs cells slots) : sz ≤ H.size := Nat.le_trans hE X.2.1.1
theorem fe_gf_spec {ci k : Nat} {v : Value} (hg : fe_gf h a ci k = some v) : ∃ fs : List Value, fe_get h a = some (fe_O ci fs) ∧ fs[k]? = some v := by
  unfold fe_gf at hg
  split at hg
  · next cj fs he =>
    split at hg
    · next e => subst e; exact ⟨fs, he, hg⟩
    · cases hg
  · cases hg
theorem fe_w_get (G : fe_G p l R s m meth c y D E sz) (X : fe_X D sz R s h H locs cells slots) {idx ci k pos : Nat} {nest : Bool} {v : Value} (hf : fe_fl.lookup (fe_mC y, idx) = some (ci, k, nest, pos)) (hg : fe_gf h a ci k = some v) (hd : decode (fe_mB y) pc = .ok (.getfield idx, 3))
    (kk : W p l e R s m args below meth c H locs cells slots Q (F0 m (pc + 3) arr (v :: r))) : W p l e R s m args below meth c H locs cells slots Q (F0 m pc arr (.ref a :: r)) := by
  obtain ⟨hx, hb, -, -, -, hown, -, -, hE, -⟩ := G
  obtain ⟨fs, he, hv⟩ := fe_gf_spec hg
  obtain ⟨hw, hc, hk⟩ := fe_fl_in _ (fe_look hf)
  have hcell := (X.1.2 a _ he).2
  have hP : va_P D.1 vwCl [(a, .inr (ci, fs))] H := fun j q hj => by
    have : j < 1 := (List.getElem?_eq_some_iff.mp hj).1
    rw [show j = 0 by omega] at hj
    cases hj
    exact hcell
  cases nest with
  | false => exact va_get (D := D.1) (ci := ci) (C := (fe_vw ci).1) (T := (fe_vw ci).2.1) (N := fe_nf ci) hx hb (fe_us hE hc) (fun _ h => h) hown hE.2.1 hP 0 rfl (fe_vw_at ci hc) k hk (hE.1.at (w := fe_fw (fe_mC y) idx ci k false) hw) (fun _ h => h) hv hd kk
  | true => exact va_getN (D := D.1) (ci := ci) (C := (fe_vw ci).1) (T := (fe_vw ci).2.1) (N := fe_nf ci) hx hb (fe_us hE hc) (fun _ h => h) hown hE.2.1 hP 0 rfl (fe_vw_at ci hc) k hk (hE.1.at (w := fe_fw (fe_mC y) idx ci k true) hw) (fun _ h => h) hv hd kk
theorem fe_pf_spec {ci k : Nat} {v : Value} (hg : fe_pf h a ci k v = some h') : ∃ fs : List Value, fe_get h a = some (fe_O ci fs) ∧ k < fs.length ∧ h' = fe_put h a (fe_O ci (fs.set k v)) := by
  unfold fe_pf at hg
  split at hg
  · next cj fs he =>
    split at hg
    · next e => obtain ⟨rfl, e2⟩ := e; cases hg; exact ⟨fs, he, e2, rfl⟩
    · cases hg
  · cases hg
theorem fe_w_put (G : fe_G p l R s m meth c y D E sz) (X : fe_X D sz R s h H locs cells slots) {idx ci k pos : Nat} {nest : Bool} {v : Value} (hf : fe_fl.lookup (fe_mC y, idx) = some (ci, k, nest, pos)) (hok : (fe_okV (fe_ty ci k) v && (!(fe_fin ci k) || (fe_mI y && decide (fe_mC y = ci) && !nest))) = true) (hg : fe_pf h a ci k v = some h') (hd : decode (fe_mB y) pc = .ok (.putfield idx, 3))
    (kk : fe_J1 p l e R s m args below meth c Q D sz (F0 m (pc + 3) arr r) h') : W p l e R s m args below meth c H locs cells slots Q (F0 m pc arr (v :: .ref a :: r)) := by
  obtain ⟨hx, hb, -, -, -, hown, -, hini, hE, -⟩ := G
  obtain ⟨fs, he, hl, rfl⟩ := fe_pf_spec hg
  obtain ⟨hw, hc, hk⟩ := fe_fl_in _ (fe_look hf)
  have hcell : va_at D.1 vwCl (a, .inr (ci, fs)) H := (X.1.2 a _ he).2
  simp only [Bool.and_eq_true] at hok
  obtain ⟨hn, hfit⟩ := fe_okV_spec hok.1
  have hts := fe_us hE hc (args := args)
  have hin : ∀ w ∈ u_ws (fe_vw ci).1 (fe_vw ci).2.1 (fe_nf ci), w ∈ u_ws (fe_vw ci).1 (fe_vw ci).2.1 (fe_nf ci) := fun _ h => h
  have hcl := fe_vw_at ci hc
  have hd2 := fe_pw ci hc k hk
  have hap := va_apart (own := fe_cls (fe_mC y)) hts hin (fe_ty ci) (fe_pw ci hc) (fe_nw_ap ci hc) hE.2.1 hcl
  obtain ⟨r', h1, cell, q1, q2, q3, q4⟩ := hcell
  have hr : r' = ((fe_vw ci).1, (fe_vw ci).2.1, fe_nf ci) := Option.some.inj (h1.symm.trans hcl)
  subst hr
  obtain ⟨hS, hfc, kC, hkC, hkind⟩ := hE.2.1.1 ci _ hcl
  obtain ⟨cf, kf, fi, f, hi, hsl⟩ := hS k hk
  have hlay := hts _ (hin _ (u_in_lay hk))
  have hst := (u_facts hfc hkC (u_lays hts hin hk) hi).1
  have fin : ∀ (H' : Heap), H'[a]? = some (cell.setSlot (D.1.2 ci k) v) → H'.size = H.size → (∀ q, q ≠ a → H'[q]? = H[q]?) → fe_X D sz R s (fe_put h a (fe_O ci (fs.set k v))) H' (locs ++ [⟨a, D.1.2 ci k⟩]) cells slots := fun H' e1 e2 e3 =>
    ⟨X.1.put he (show va_at D.1 vwCl (a, .inr (ci, fs.set k v)) H' from ⟨_, hcl, t_OB.to (V := updV (vp_V fs) k v) ⟨_, e1, q2, q3, t_set q4 hap hk v⟩ (fun j _ => vp_updV_set hl v j)⟩) e2 e3, X.2.1.put e2 e3 (X.1.2 a _ he).1, X.2.2⟩
  cases hfin : fe_fin ci k with
  | false =>
    unfold u_lay at hlay
    rw [if_neg (by show ¬ ((fe_vw ci).2.1 k).2.2.2 = true; rw [show ((fe_vw ci).2.1 k).2.2.2 = false from hfin]; decide)] at hlay
    have h6 := u_store hfc hkC hkind hlay hi hd2 hn hfit
    cases nest with
    | false =>
      refine W.putK hx hb (f := f) ⟨hown, hE.1.at (w := fe_fw (fe_mC y) idx ci k false) hw, ⟨_, _, _, hi⟩, hst⟩ (by rw [q2]; exact h6) q1 q3 (by rw [hsl]; exact k2_hasslot (q4 k hk)) rfl rfl hd fun H' e1 e2 e3 => ?_
      rw [hsl] at e1 ⊢
      exact kk H' _ _ _ (fin H' e1 e2 e3)
    | true =>
      refine va_WputK hx hb (f := f) hown (hE.1.at (w := fe_fw (fe_mC y) idx ci k true) hw) hi hst (by rw [q2]; exact h6) q1 q3 (by rw [hsl]; exact k2_hasslot (q4 k hk)) rfl rfl hd fun H' e1 e2 e3 => ?_
      rw [hsl] at e1 ⊢
      exact kk H' _ _ _ (fin H' e1 e2 e3)
  | true =>
    have h2 := hok.2
    rw [hfin] at h2
    simp only [Bool.not_true, Bool.false_or, Bool.and_eq_true, decide_eq_true_eq, Bool.not_eq_true'] at h2
    obtain ⟨⟨hI, hcy⟩, rfl⟩ := h2
    unfold u_lay at hlay
    rw [if_pos (show ((fe_vw ci).2.1 k).2.2.2 = true from hfin)] at hlay
    have hcf : m.cls = cf := by
      obtain ⟨_, _, c', _, _, _, -, -, hf', -, -, -, hown2, -⟩ := Cond.laysFinal_spec hlay
      have e1 : c' = cf := by have := hi.symm.trans hf'; simp at this; exact this.1.symm
      rw [(fe_ow ci hc k hk).1, ← (fe_ow ci hc k hk).2, ← hcy] at hown2
      rw [← e1]; exact Option.some.inj (hown.symm.trans hown2)
    have h6 := u_fits hfc hkC hkind (Or.inr hlay) hi hd2 hn hfit
    refine W.putFinK hx hb hown (hE.1.at (w := fe_fw (fe_mC y) idx ci k false) hw) hi hst hcf (hini hI) (by rw [q2]; exact h6) q1 q3 (by rw [hsl]; exact k2_hasslot (q4 k hk)) rfl rfl hd fun H' e1 e2 e3 => ?_
    rw [hsl] at e1 ⊢
    exact kk H' _ _ _ (fin H' e1 e2 e3)
theorem fe_w_ial (G : fe_G p l R s m meth c y D E sz) (X : fe_X D sz R s h H locs cells slots) {i x : Int32} (hg : fe_ia E h a i = some x) (hd : decode (fe_mB y) pc = .ok (.iaload, 1))
    (kk : W p l e R s m args below meth c H locs cells slots Q (F0 m (pc + 1) arr (.int x :: r))) : W p l e R s m args below meth c H locs cells slots Q (F0 m pc arr (.int i :: .ref a :: r)) := by
  obtain ⟨hx, hb, -, -, -, -, -, -, hE, -⟩ := G
  unfold fe_ia at hg
  split at hg
  · next n f he =>
    split at hg
    · next hin =>
      cases hg
      have hv := fe_inb_spec hin
      have hlt : i.toNatClampNeg < n := Nat.not_le.mp fun q => hv (Or.inr q)
      exact W.iald (v := .int (f i.toNatClampNeg)) hx hb (X.1.2 a _ he).2 ((hE.2.1.2 0 _ rfl).1 n (fun j => .int (f j))) (fun q => by cases q) (by rw [arrV_size]; exact hv) (by rw [arrV_read _ _ hlt]) rfl rfl hd kk
    · cases hg
  · split at hg
    · next hin =>
      obtain ⟨rfl, hin⟩ := hin
      cases hg
      exact va_sld hx hb hE.2.2.2.1 (Nat.lt_of_lt_of_le hE.2.2.1 hE.2.2.2.2.2.2.2.2.2.2) (Nat.not_le.mpr hE.2.2.1) X.2.1 (fe_inb_spec hin) hd kk
    · cases hg
  · cases hg
theorem fe_w_zal (G : fe_G p l R s m meth c y D E sz) (X : fe_X D sz R s h H locs cells slots) {i : Int32} {x : Bool} (hg : fe_za h a i = some x) (hd : decode (fe_mB y) pc = .ok (.baload, 1))
    (kk : W p l e R s m args below meth c H locs cells slots Q (F0 m (pc + 1) arr (.int (fe_bi x) :: r))) : W p l e R s m args below meth c H locs cells slots Q (F0 m pc arr (.int i :: .ref a :: r)) := by
  obtain ⟨hx, hb, -, -, -, -, -, -, hE, -⟩ := G
  unfold fe_za at hg
  split at hg
  · next n f he =>
    split at hg
    · next hin =>
      cases hg
      have hv := fe_inb_spec hin
      have hlt : i.toNatClampNeg < n := Nat.not_le.mp fun q => hv (Or.inr q)
      exact W.zald (v := .int (fe_bi (f i.toNatClampNeg))) hx hb (X.1.2 a _ he).2 ((hE.2.1.2 1 _ rfl).1 n (fun j => .int (fe_bi (f j)))) (fun q => by cases q) (by rw [arrV_size]; exact hv) (by rw [arrV_read _ _ hlt]) rfl rfl hd kk
    · cases hg
  · cases hg
theorem fe_w_jal (G : fe_G p l R s m meth c y D E sz) (X : fe_X D sz R s h H locs cells slots) {i : Int32} {x : Int64} (hg : fe_ja E h a i = some x) (hd : decode (fe_mB y) pc = .ok (.laload, 1))
    (kk : W p l e R s m args below meth c H locs cells slots Q (F0 m (pc + 1) arr (.long x :: r))) : W p l e R s m args below meth c H locs cells slots Q (F0 m pc arr (.int i :: .ref a :: r)) := by
  obtain ⟨hx, hb, -, -, -, -, -, -, hE, -⟩ := G
  unfold fe_ja at hg
  split at hg
  · next n f he =>
    split at hg
    · next hin =>
      cases hg
      have hv := fe_inb_spec hin
      have hlt : i.toNatClampNeg < n := Nat.not_le.mp fun q => hv (Or.inr q)
      exact W.lald (v := .long (f i.toNatClampNeg)) hx hb (X.1.2 a _ he).2 ((hE.2.1.2 2 _ rfl).1 n (fun j => .long (f j))) (fun q => by cases q) (by rw [arrV_size]; exact hv) (by rw [arrV_read _ _ hlt]) rfl rfl hd kk
    · cases hg
  · split at hg
    · next hin =>
      obtain ⟨rfl, hin⟩ := hin
      cases hg
      exact va_tl hx hb hE.2.2.2.2.2.1 X.2.1 (fe_inb_spec hin) rfl hd kk
    · cases hg
  · cases hg
theorem fe_w_qal (G : fe_G p l R s m meth c y D E sz) (X : fe_X D sz R s h H locs cells slots) {i : Int32} {x : Value} (hg : fe_qa h a i = some x) (hd : decode (fe_mB y) pc = .ok (.aaload, 1))
    (kk : W p l e R s m args below meth c H locs cells slots Q (F0 m (pc + 1) arr (x :: r))) : W p l e R s m args below meth c H locs cells slots Q (F0 m pc arr (.int i :: .ref a :: r)) := by
  obtain ⟨hx, hb, -, -, -, -, -, -, hE, -⟩ := G
  unfold fe_qa at hg
  split at hg
  · next n f he =>
    split at hg
    · next hin =>
      cases hg
      have hv := fe_inb_spec hin
      have hlt : i.toNatClampNeg < n := Nat.not_le.mp fun q => hv (Or.inr q)
      exact W.aald (v := va_rf (f i.toNatClampNeg)) (ty := .object "FloorEyes$Eye") hx hb (X.1.2 a _ he).2 ((hE.2.1.2 3 _ rfl).1 n (fun j => va_rf (f j))) rfl (fun q => by cases q) (by rw [arrV_size]; exact hv) (by rw [arrV_read _ _ hlt]) rfl rfl hd kk
    · cases hg
  · cases hg
theorem fe_w_len (G : fe_G p l R s m meth c y D E sz) (X : fe_X D sz R s h H locs cells slots) {n : Nat} (hg : fe_ln E h a = some n) (hd : decode (fe_mB y) pc = .ok (.arraylength, 1))
    (kk : W p l e R s m args below meth c H locs cells slots Q (F0 m (pc + 1) arr (.int (Int32.ofNat n) :: r))) : W p l e R s m args below meth c H locs cells slots Q (F0 m pc arr (.ref a :: r)) := by
  obtain ⟨hx, hb, -, -, -, -, -, -, hE, -⟩ := G
  unfold fe_ln at hg
  split at hg
  · next n f he =>
    cases hg
    exact W.alen (n := Int32.ofNat n) hx hb (X.1.2 a _ he).2 ((hE.2.1.2 0 _ rfl).1 n (fun j => .int (f j))) (by rw [arrV_size] <;> rfl) rfl rfl hd kk
  · next n f he =>
    cases hg
    exact W.alen (n := Int32.ofNat n) hx hb (X.1.2 a _ he).2 ((hE.2.1.2 1 _ rfl).1 n (fun j => .int (fe_bi (f j)))) (by rw [arrV_size] <;> rfl) rfl rfl hd kk
  · next n f he =>
    cases hg
    exact W.alen (n := Int32.ofNat n) hx hb (X.1.2 a _ he).2 ((hE.2.1.2 2 _ rfl).1 n (fun j => .long (f j))) (by rw [arrV_size] <;> rfl) rfl rfl hd kk
  · next n f he =>
    cases hg
    exact W.alen (n := Int32.ofNat n) hx hb (X.1.2 a _ he).2 ((hE.2.1.2 3 _ rfl).1 n (fun j => va_rf (f j))) (by rw [arrV_size] <;> rfl) rfl rfl hd kk
  · split at hg
    · next e =>
      subst e
      cases hg
      exact va_slen hx hb hE.2.2.2.1 (Nat.lt_of_lt_of_le hE.2.2.1 hE.2.2.2.2.2.2.2.2.2.2) (Nat.not_le.mpr hE.2.2.1) X.2.1 hd kk
    · cases hg
  · cases hg
theorem fe_w_ias (G : fe_G p l R s m meth c y D E sz) (X : fe_X D sz R s h H locs cells slots) {i x : Int32} (hg : fe_is h a i x = some h') (hd : decode (fe_mB y) pc = .ok (.iastore, 1))
    (kk : fe_J1 p l e R s m args below meth c Q D sz (F0 m (pc + 1) arr r) h') : W p l e R s m args below meth c H locs cells slots Q (F0 m pc arr (.int x :: .int i :: .ref a :: r)) := by
  obtain ⟨hx, hb, -, -, -, -, -, -, hE, -⟩ := G
  unfold fe_is at hg
  split at hg
  · next n f he =>
    split at hg
    · next hin =>
      cases hg
      have hv := fe_inb_spec hin
      refine W.iast hx hb (X.1.2 a _ he).2 ((hE.2.1.2 0 _ rfl).1 n (fun j => .int (f j))) (fun q => by cases q) (by rw [arrV_size]; exact hv) rfl rfl hd fun H1 e z oq => ?_
      refine kk H1 _ _ _ ⟨X.1.put he ?_ z oq, X.2.1.put z oq (X.1.2 a _ he).1, X.2.2⟩
      show H1[a]? = some (arrV _ _ _)
      rw [e, arrV_store]
      congr 2
      funext q
      by_cases hq : q = i.toNatClampNeg
      · subst hq
        simp [updV, upd]
      · simp [updV, upd, hq]
    · cases hg
  · cases hg
theorem fe_w_zas (G : fe_G p l R s m meth c y D E sz) (X : fe_X D sz R s h H locs cells slots) {i x : Int32} (hg : fe_zs h a i x = some h') (hd : decode (fe_mB y) pc = .ok (.bastore, 1))
    (kk : fe_J1 p l e R s m args below meth c Q D sz (F0 m (pc + 1) arr r) h') : W p l e R s m args below meth c H locs cells slots Q (F0 m pc arr (.int x :: .int i :: .ref a :: r)) := by
  obtain ⟨hx, hb, -, -, -, -, -, -, hE, -⟩ := G
  unfold fe_zs at hg
  split at hg
  · next n f he =>
    split at hg
    · next hin =>
      cases hg
      have hv := fe_inb_spec hin
      refine W.zast hx hb (X.1.2 a _ he).2 ((hE.2.1.2 1 _ rfl).1 n (fun j => .int (fe_bi (f j)))) (fun q => by cases q) (by rw [arrV_size]; exact hv) rfl rfl hd fun H1 e z oq => ?_
      refine kk H1 _ _ _ ⟨X.1.put he ?_ z oq, X.2.1.put z oq (X.1.2 a _ he).1, X.2.2⟩
      show H1[a]? = some (arrV _ _ _)
      rw [e, arrV_store]
      congr 2
      funext q
      by_cases hq : q = i.toNatClampNeg
      · subst hq
        simp [updV, fe_ub, fe_bi_tb, narrow]
      · simp [updV, fe_ub, hq]
    · cases hg
  · cases hg
theorem fe_w_jas (G : fe_G p l R s m meth c y D E sz) (X : fe_X D sz R s h H locs cells slots) {i : Int32} {x : Int64} (hg : fe_js h a i x = some h') (hd : decode (fe_mB y) pc = .ok (.lastore, 1))
    (kk : fe_J1 p l e R s m args below meth c Q D sz (F0 m (pc + 1) arr r) h') : W p l e R s m args below meth c H locs cells slots Q (F0 m pc arr (.long x :: .int i :: .ref a :: r)) := by
  obtain ⟨hx, hb, -, -, -, -, -, -, hE, -⟩ := G
  unfold fe_js at hg
  split at hg
  · next n f he =>
    split at hg
    · next hin =>
      cases hg
      have hv := fe_inb_spec hin
      refine W.last hx hb (X.1.2 a _ he).2 ((hE.2.1.2 2 _ rfl).1 n (fun j => .long (f j))) (fun q => by cases q) (by rw [arrV_size]; exact hv) rfl rfl hd fun H1 e z oq => ?_
      refine kk H1 _ _ _ ⟨X.1.put he ?_ z oq, X.2.1.put z oq (X.1.2 a _ he).1, X.2.2⟩
      show H1[a]? = some (arrV _ _ _)
      rw [e, arrV_store]
      congr 2
      funext q
      by_cases hq : q = i.toNatClampNeg
      · subst hq
        simp [updV, vp_updL]
      · simp [updV, vp_updL, hq]
    · cases hg
  · cases hg
theorem fe_w_qas (G : fe_G p l R s m meth c y D E sz) (X : fe_X D sz R s h H locs cells slots) {i : Int32} {x : Nat} (hg : fe_qs h a i x = some h') (hd : decode (fe_mB y) pc = .ok (.aastore, 1))
    (kk : fe_J1 p l e R s m args below meth c Q D sz (F0 m (pc + 1) arr r) h') : W p l e R s m args below meth c H locs cells slots Q (F0 m pc arr (.ref x :: .int i :: .ref a :: r)) := by
  obtain ⟨hx, hb, -, -, -, -, -, -, hE, -⟩ := G
  unfold fe_qs at hg
  split at hg
  · next n f vs he hvx =>
    split at hg
    · next hin =>
      cases hg
      have hv := fe_inb_spec hin
      have hlt : i.toNatClampNeg < n := Nat.not_le.mp fun q => hv (Or.inr q)
      have h0 : ¬ i < 0 := fun q => hv (Or.inl q)
      obtain ⟨r', hr', cellV, g1, g2, g3, -⟩ : va_at D.1 vwCl (x, .inr (1, vs)) H := (X.1.2 x _ hvx).2
      have hcls := (hE.2.1.1 1 _ (fe_vw_at 1 (by decide))).2
      obtain ⟨kA, comp, k1, k2, k3, -⟩ := (hE.2.1.2 3 _ rfl).2
      have hcomp : comp = D.1.1 1 := Option.some.inj (k3.symm.trans hcls.1)
      subst hcomp
      obtain ⟨kC, hkC, -⟩ := hcls.2
      refine W.aast hx hb (X.1.2 a _ he).2 (fun q h => by cases h) (fun h => by cases h) k1 k2 rfl hkC ⟨h0, by rw [arrV_size]; exact hlt⟩ g1 (fun q h => by rw [g3] at h; cases h) (by rw [g2]; exact hkC) (by rw [g2]; exact va_assign hcls) rfl rfl hd fun H1 e z oq => ?_
      refine kk H1 _ _ _ ⟨X.1.put he ?_ z oq, X.2.1.put z oq (X.1.2 a _ he).1, X.2.2⟩
      show H1[a]? = some (arrV _ _ _)
      rw [e, arrV_store]
      congr 2
      funext q
      by_cases hq : q = i.toNatClampNeg
      · subst hq
        simp [updV, va_up, va_rf]
      · simp [updV, va_up, hq]
    · cases hg
  · cases hg
end FeH

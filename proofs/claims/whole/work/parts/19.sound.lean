/-! THE SMALL MACHINE IS SOUND -/
theorem fe_fj_A : fe_mA 117 = 2 ∧ fe_mS 117 = true := by decide +kernel
section FeS
variable {p : Program} {l : Launch} {e : Env}
def fe_Snd (E : fe_E) (rec : fe_Rec) (p : Program) (l : Launch) (e : Env) : Prop := ∀ (y pc : Nat) (ls : fe_Ls) (st : List Value) (h : fe_H) (q : fe_R × fe_H), rec y pc ls st h = some q →
  ∀ (R : Room) (s : State) (m : MethodId) (args : Array Value) (below : List Frame) (meth : Method) (c : Code) (H : Heap) (locs : List Loc) (cells slots : Nat) (arr : Array Slot) (D : fe_D) (sz : Nat), fe_G p l R s m meth c y D E sz → fe_X D sz R s h H locs cells slots → fe_L arr (fe_mL y) ls →
    W p l e R s m args below meth c H locs cells slots (fe_Fin D sz R s below q) (F0 m pc arr st)
variable {R : Room} {s : State} {m : MethodId} {args : Array Value} {below : List Frame} {meth : Method} {c : Code} {H : Heap} {locs : List Loc} {cells slots : Nat} {arr : Array Slot} {D : fe_D} {sz : Nat} {E : fe_E} {rec : fe_Rec}
variable {y pc z : Nat} {ls : fe_Ls} {st as rest : List Value} {h : fe_H} {q q' : fe_R × fe_H}
theorem fe_aft (S : fe_Snd E rec p l e) (G : fe_G p l R s m meth c y D E sz) (hL : fe_L arr (fe_mL y) ls) (hbk : fe_bk rec y pc ls rest q' = some q) : fe_Aft p l e R s m args below meth c D sz y pc arr rest q' q := by
  obtain ⟨q1, q2⟩ := q'
  unfold fe_bk at hbk
  unfold fe_Aft
  cases q1 with
  | inl v => exact fun H' locs' c' s' X' => S _ _ _ _ _ _ hbk _ _ _ _ _ _ _ _ _ _ _ _ _ _ G X' hL
  | inr x =>
    dsimp only at hbk ⊢
    split at hbk
    · next hH =>
      cases hbk
      exact Or.inl ⟨hH, rfl⟩
    · split at hbk
      · next hp hhp => exact Or.inr ⟨hp, hhp, fun H' locs' c' s' X' => S _ _ _ _ _ _ hbk _ _ _ _ _ _ _ _ _ _ _ _ _ _ G X' hL⟩
      · cases hbk
theorem fe_cal (S : fe_Snd E rec p l e) (hR : fe_HR D sz h H) (hlen : as.length ≤ fe_mL z) (hcat : as.all (fun v => v.category == 1) = true) (hrun : rec z 0 (fe_ent z as) [] h = some q') : fe_Cal p l e D E sz z as h H q' := by
  intro s' mk mt ck below' hH Gz
  obtain ⟨arr0, e0, hL0⟩ := fe_ent_L mk hlen hcat
  rw [e0]
  exact S _ _ _ _ _ _ hrun _ _ _ _ _ _ _ _ _ _ _ _ _ _ Gz ⟨hR, by rw [hH]; exact va_S.rf, by show 0 + h.2.1 ≤ h.2.1; omega, by show 0 + h.2.2.1 ≤ h.2.2.1; omega⟩ hL0
theorem fe_call_spec (hc : fe_call rec y pc ls z st h = some q) : ∃ (as rest : List Value) (q' : fe_R × fe_H), st = as.reverse ++ rest ∧ as.length = fe_mA z ∧ fe_rm y z rest.length = true ∧ as.all (fun v => v.category == 1) = true ∧ as.length ≤ fe_mL z ∧ fe_rcv h z as = true ∧ rec z 0 (fe_ent z as) [] h = some q' ∧ fe_bk rec y pc ls rest q' = some q := by
  unfold fe_call at hc
  split at hc
  · next as rest hp =>
    split at hc
    · next hcond =>
      simp only [Bool.and_eq_true, decide_eq_true_eq] at hcond
      split at hc
      · next q' hq' =>
        obtain ⟨e1, e2⟩ := fe_popS _ _ _ _ hp
        exact ⟨as, rest, q', e1, e2, hcond.1.1.1, hcond.1.1.2, hcond.1.2, hcond.2, hq', hc⟩
      · cases hc
    · cases hc
  · cases hc
theorem fe_rcv_spec (hr : fe_rcv h z as = true) (hS : fe_mS z = false) : ∃ (b : Nat) (al fs : List Value), as = .ref b :: al ∧ fe_get h b = some (fe_O (fe_mC z) fs) := by
  unfold fe_rcv at hr
  rw [hS, Bool.false_or] at hr
  split at hr
  · next b al =>
    split at hr
    · next ci fs hg =>
      have := of_decide_eq_true hr
      subst this
      exact ⟨b, al, fs, rfl, hg⟩
    · cases hr
  · cases hr
set_option maxHeartbeats 4000000 in
theorem fe_ends_ok (S : fe_Snd E rec p l e) (G : fe_G p l R s m meth c y D E sz) (X : fe_X D sz R s h H locs cells slots) (hL : fe_L arr (fe_mL y) ls) {i : Instr} (hf : fe_fetch y pc = some i) (he : fe_ends rec y pc ls i st h = some q) :
    W p l e R s m args below meth c H locs cells slots (fe_Fin D sz R s below q) (F0 m pc arr st) := by
  have hd := fe_fetch_ok hf
  cases i with
  | invokestatic idx =>
    simp only [fe_ends] at he
    split at he
    · next z nest pos hlk =>
      split at he
      · next hz =>
        subst hz
        unfold fe_fill at he
        split at he
        · next x a rest =>
          split at he
          · next n f hga =>
            split at he
            · next hcond =>
              simp only [Bool.and_eq_true, decide_eq_true_eq] at hcond
              exact fe_callW G X (z := 117) (as := [.ref a, .long x]) (rest := rest) (by decide) hd hL.1 hcond.1 (fun mk T hn hT X0 => fe_invS X0 G hlk fe_fj_A.2 hn rfl fe_fj_A.1.symm rfl hd) (fe_fill_cal X.1 hga hcond.2) (show fe_J1 p l e R s m args below meth c (fe_Fin D sz R s below q) D sz (F0 m (pc + 3) arr rest) (fe_put h a (fe_J n (fun _ => x))) from fun H' locs' c' s' X' => S _ _ _ _ _ _ he _ _ _ _ _ _ _ _ _ _ _ _ _ _ G X' hL)
            · cases he
          · cases he
        · cases he
      · split at he
        · next hS =>
          obtain ⟨as, rest, q', e1, e2, e3, e4, e5, e6, e7, e8⟩ := fe_call_spec he
          subst e1
          exact fe_callW G X (z := z) (as := as) (rest := rest) (fe_cl_in _ (fe_look hlk)).2 hd hL.1 e3 (fun mk T hn hT X0 => fe_invS X0 G hlk hS hn rfl e2 rfl hd) (fe_cal S X.1 e5 e4 e7) (fe_aft S G hL e8)
        · cases he
    · cases he
  | invokevirtual idx =>
    simp only [fe_ends] at he
    split at he
    · next z nest pos hlk =>
      split at he
      · next hS =>
        simp only [Bool.and_eq_true, Bool.not_eq_true'] at hS
        obtain ⟨as, rest, q', e1, e2, e3, e4, e5, e6, e7, e8⟩ := fe_call_spec he
        obtain ⟨b, al, fs, rfl, hgb⟩ := fe_rcv_spec e6 hS.1
        subst e1
        exact fe_callW G X (z := z) (as := .ref b :: al) (rest := rest) (fe_cl_in _ (fe_look hlk)).2 hd hL.1 e3 (fun mk T hn hT X0 => fe_invV X0 G hlk hS.1 hS.2 hn (by rw [hT]; exact X.1) hgb rfl e2 (by simp) hd) (fe_cal S X.1 e5 e4 e7) (fe_aft S G hL e8)
      · cases he
    · cases he
  | invokespecial idx =>
    simp only [fe_ends] at he
    split at he
    · next z nest pos hlk =>
      split at he
      · next hI =>
        have hz : z < 131 := (fe_cl_in _ (fe_look hlk)).2
        obtain ⟨as, rest, q', e1, e2, e3, e4, e5, e6, e7, e8⟩ := fe_call_spec he
        obtain ⟨b, al, fs, rfl, hgb⟩ := fe_rcv_spec e6 (fe_init_at hz hI).2.2
        subst e1
        exact fe_callW G X (z := z) (as := .ref b :: al) (rest := rest) hz hd hL.1 e3 (fun mk T hn hT X0 => fe_invI X0 G hlk hI hn rfl e2 (by simp) hd) (fe_cal S X.1 e5 e4 e7) (fe_aft S G hL e8)
      · cases he
    · cases he
  | ireturn =>
    simp only [fe_ends] at he
    split at he
    · next v ty hR =>
      split at he
      · next hok =>
        cases he
        exact fe_w_ret G X hR hok hd
      · cases he
    · cases he
  | areturn =>
    simp only [fe_ends] at he
    split at he
    · next v ty hR =>
      split at he
      · next hok =>
        cases he
        exact fe_w_aret G X hR hok hd
      · cases he
    · cases he
  | return_ =>
    simp only [fe_ends] at he
    split at he
    · next hR =>
      cases he
      exact fe_w_vret G X hR hd
    · cases he
  | new ik =>
    simp only [fe_ends] at he
    split at he
    · next is ic h4 h6 =>
      split at he
      · next x hx =>
        split at he
        · next hcond =>
          simp only [Bool.and_eq_true, decide_eq_true_eq, List.isEmpty_iff] at hcond
          cases he
          exact fe_w_throw G X hx hL.1 hf hcond.1.1.1.1.1 h4 h6 hcond.1.1.1.1.2 hcond.1.1.1.2 hcond.1.1.2 hcond.1.2 hcond.2
        · cases he
      · cases he
    · cases he
  | _ => simp [fe_ends] at he
theorem fe_sound (E : fe_E) (p : Program) (l : Launch) (e : Env) : ∀ n : Nat, fe_Snd E (fe_run E n) p l e := by
  intro n
  induction n with
  | zero => intro y pc ls st h q hq; cases hq
  | succ n ih =>
    intro y pc ls st h q hq R s m args below meth c H locs cells slots arr D sz G X hL
    have hq : fe_body E (fe_run E n) y pc ls st h = some q := hq
    unfold fe_body at hq
    split at hq
    · cases hq
    · next i hf =>
      split at hq
      · next pc' ls' st' hp => exact fe_pstep_ok G.1 G.2.1 (fe_fetch_ok hf) hp hL (fun arr' hL' => ih _ _ _ _ _ _ hq _ _ _ _ _ _ _ _ _ _ _ _ _ _ G X hL')
      · split at hq
        · next st' h' hs => exact fe_hstep_ok G X (fe_fetch_ok hf) hs hL.1 (fun H' locs' c' s' X' => ih _ _ _ _ _ _ hq _ _ _ _ _ _ _ _ _ _ _ _ _ _ G X' hL)
        · exact fe_ends_ok ih G X hL hf hq
end FeS

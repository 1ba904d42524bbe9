section FeN
variable {p : Program} {l : Launch} {e : Env} {R : Room} {s : State} {m : MethodId} {args : Array Value} {below : List Frame} {meth : Method} {c : Code} {H : Heap} {locs : List Loc} {cells slots : Nat} {Q : State → Prop}
variable {pc y sz : Nat} {arr : Array Slot} {D : fe_D} {E : fe_E} {h h' : fe_H} {r st st' : List Value} {a : Nat}
theorem fe_nw_spec {h : fe_H} {n : Nat} (hn : fe_nw h n = true) : 1 ≤ h.2.1 ∧ n ≤ h.2.2.1 := by
  simp only [fe_nw, Bool.and_eq_true, decide_eq_true_eq] at hn
  exact hn
theorem fe_X.add {n : Nat} {H' : Heap} {k : fe_C} (hE : sz ≤ s.heap.size) (X : fe_X D sz R s h H locs cells slots) (hn : fe_nw h n = true) (hc : fe_cell D H.size k H') (z : H'.size = H.size + 1) (oq : ∀ q : Nat, q < H.size → H'[q]? = H[q]?) : fe_X D sz R s (fe_add h n k) H' locs (cells + 1) (slots + n) := by
  obtain ⟨h1, h2⟩ := fe_nw_spec hn
  obtain ⟨hr, hS, x1, x2⟩ := X
  refine ⟨hr.add (Nat.le_trans hE hS.1) hc z oq, ⟨Nat.le_trans hS.1 (by omega), fun q a1 a2 => (oq q (Nat.lt_of_lt_of_le a1 hS.1)).trans (hS.2.1 q a1 a2), hS.2.2⟩, ?_, ?_⟩
  · show cells + 1 + (h.2.1 - 1) ≤ R.cells
    omega
  · show slots + n + (h.2.2.1 - n) ≤ R.slots
    omega
theorem fe_df_V : ∀ ci, ci < 8 → ∀ j, j < fe_nf ci → defaultValue (fe_ty ci j) = vp_V (fe_df ci) j := by decide +kernel
theorem fe_w_new (G : fe_G p l R s m meth c y D E sz) (X : fe_X D sz R s h H locs cells slots) {idx ci : Nat} (hf : fe_nl.lookup (fe_mC y, idx) = some ci) (hn : fe_nw h (fe_nf ci) = true) (hd : decode (fe_mB y) pc = .ok (.new idx, 3))
    (kk : fe_J1 p l e R s m args below meth c Q D sz (F0 m (pc + 3) arr (.ref h.1 :: st)) (fe_add h (fe_nf ci) (fe_O ci (fe_df ci)))) : W p l e R s m args below meth c H locs cells slots Q (F0 m pc arr st) := by
  obtain ⟨hx, hb, -, -, -, hown, -, -, hE, -⟩ := G
  obtain ⟨hc, w1, w2, w3⟩ := fe_nl_in _ (fe_look hf)
  have w2 : fe_in (.instantiable (fe_vw ci).1 (fe_nf ci)) = true := w2
  have hcl := fe_vw_at ci hc
  have hKn := hE.2.1.1 ci _ hcl
  obtain ⟨h1, h2⟩ := fe_nw_spec hn
  refine W.newcK hx hb hown (hE.1.ok w1) (hE.1.ok w2) (hE.1.ok w3) rfl hd (by have := X.2.2.1; omega) (by have := X.2.2.2; omega) hKn.2.1 rfl fun H1 kC hkC e1 z1 o1 => ?_
  have k2 := kk H1 locs (cells + 1) (slots + fe_nf ci) (X.add hE.2.2.2.2.2.2.2.2.2.2 hn (show va_at D.1 vwCl (H.size, .inr (ci, fe_df ci)) H1 from ⟨_, hcl, (u_born (fe_ty ci) (fe_us hE hc (args := args)) (fun _ h => h) hKn hkC e1 (fe_pw ci hc)).to (fe_df_V ci hc)⟩) z1 o1)
  rw [X.1.1] at k2
  exact k2
theorem fe_w_na (G : fe_G p l R s m meth c y D E sz) (X : fe_X D sz R s h H locs cells slots) {t : ArrayType} {n : Int32} {k : fe_C} (h0 : 0 ≤ n) (hN : n.toNatClampNeg ≤ 1000000) (hn : fe_nw h n.toNatClampNeg = true) (hk : fe_na t n.toNatClampNeg = some k) (hd : decode (fe_mB y) pc = .ok (.newarray t, 2))
    (kk : fe_J1 p l e R s m args below meth c Q D sz (F0 m (pc + 2) arr (.ref h.1 :: r)) (fe_add h n.toNatClampNeg k)) : W p l e R s m args below meth c H locs cells slots Q (F0 m pc arr (.int n :: r)) := by
  obtain ⟨hx, hb, -, -, -, hown, -, -, hE, -⟩ := G
  obtain ⟨h1, h2⟩ := fe_nw_spec hn
  have hK := hE.2.1.2
  have c1 : cells + 1 ≤ R.cells := by have := X.2.2.1; omega
  have c2 : slots + n.toNatClampNeg ≤ R.slots := by have := X.2.2.2; omega
  have hneg : ¬ n < 0 := Int32.not_lt.mpr h0
  unfold fe_na at hk
  split at hk
  · cases hk
    refine va_newaK (atype := .int) hx hb (hE.1.ok (w := .arrayClass .int) (by decide +kernel)) rfl hd rfl hneg rfl (by simp only [newarray.typeOf, componentBytes]; omega) c1 c2 rfl fun H1 cA e1 z1 o1 hAr hNm => ?_
    have hcA : cA = D.2.1 := Option.some.inj (hNm.symm.trans (hK 0 _ rfl).2)
    subst hcA
    have k2 := kk H1 locs (cells + 1) (slots + n.toNatClampNeg) (X.add hE.2.2.2.2.2.2.2.2.2.2 hn (show H1[H.size]? = some _ from e1) z1 o1)
    rw [X.1.1] at k2
    exact k2
  · cases hk
    refine va_newaK (atype := .boolean) hx hb (hE.1.ok (w := .arrayClass .boolean) (by decide +kernel)) rfl hd rfl hneg rfl (by simp only [newarray.typeOf, componentBytes]; omega) c1 c2 rfl fun H1 cA e1 z1 o1 hAr hNm => ?_
    have hcA : cA = D.2.2.1 := Option.some.inj (hNm.symm.trans (hK 1 _ rfl).2)
    subst hcA
    have k2 := kk H1 locs (cells + 1) (slots + n.toNatClampNeg) (X.add hE.2.2.2.2.2.2.2.2.2.2 hn (show H1[H.size]? = some _ from e1) z1 o1)
    rw [X.1.1] at k2
    exact k2
  · cases hk
    refine va_newaK (atype := .long) hx hb (hE.1.ok (w := .arrayClass .long) (by decide +kernel)) rfl hd rfl hneg rfl (by simp only [newarray.typeOf, componentBytes]; omega) c1 c2 rfl fun H1 cA e1 z1 o1 hAr hNm => ?_
    have hcA : cA = D.2.2.2.1 := Option.some.inj (hNm.symm.trans (hK 2 _ rfl).2)
    subst hcA
    have k2 := kk H1 locs (cells + 1) (slots + n.toNatClampNeg) (X.add hE.2.2.2.2.2.2.2.2.2.2 hn (show H1[H.size]? = some _ from e1) z1 o1)
    rw [X.1.1] at k2
    exact k2
  · cases hk
theorem fe_w_nq (G : fe_G p l R s m meth c y D E sz) (X : fe_X D sz R s h H locs cells slots) (hy : fe_mC y = 6) {n : Int32} (h0 : 0 ≤ n) (hN : n.toNatClampNeg ≤ 1000000) (hn : fe_nw h n.toNatClampNeg = true) (hd : decode (fe_mB y) pc = .ok (.anewarray 16, 3))
    (kk : fe_J1 p l e R s m args below meth c Q D sz (F0 m (pc + 3) arr (.ref h.1 :: r)) (fe_add h n.toNatClampNeg (fe_Q n.toNatClampNeg (fun _ => none)))) : W p l e R s m args below meth c H locs cells slots Q (F0 m pc arr (.int n :: r)) := by
  obtain ⟨hx, hb, -, -, -, hown, -, -, hE, -⟩ := G
  obtain ⟨h1, h2⟩ := fe_nw_spec hn
  have c1 : cells + 1 ≤ R.cells := by have := X.2.2.1; omega
  have c2 : slots + n.toNatClampNeg ≤ R.slots := by have := X.2.2.2; omega
  have hneg : ¬ n < 0 := Int32.not_lt.mpr h0
  rw [hy] at hown
  refine W.anew hx hb hown (hE.1.ok (w := .classLink (fe_cls 6) 16 "FloorEyes$Eye") (by decide +kernel)) (va_AO.use hE.2.2.2.2.2.2.2.2.2.1) rfl hd rfl hneg (by omega) c1 c2 fun cA kA comp f1 f2 f3 f4 => ?_
  obtain ⟨kA', comp', k1, k2', k3, k4⟩ := (hE.2.1.2 3 _ rfl).2
  have hcA : cA = D.2.2.2.2 := Option.some.inj (f1.symm.trans k4)
  subst hcA
  have k2 := kk _ locs (cells + 1) (slots + n.toNatClampNeg) (X.add hE.2.2.2.2.2.2.2.2.2.2 (H' := H.push ({ cls := D.2.2.2.2, slots := Array.replicate n.toNatClampNeg .null, vm := .none } : Cell)) hn (show (H.push _)[H.size]? = some (arrV D.2.2.2.2 n.toNatClampNeg (fun _ => .null)) by rw [Array.getElem?_push_size, ← arrV_new]) (by rw [Array.size_push]) (fun q hq => by rw [Array.getElem?_push, if_neg (Nat.ne_of_lt hq)]))
  rw [X.1.1] at k2
  exact k2
theorem fe_cat (st : List Value) : (st.map fun v => v.category).sum ≤ 2 * st.length := by
  induction st with
  | nil => exact Nat.le_refl _
  | cons v t ih =>
    simp only [List.map_cons, List.sum_cons, List.length_cons]
    rcases lv_cat v with hv | hv <;> omega
set_option maxHeartbeats 4000000 in
theorem fe_hstep_ok (G : fe_G p l R s m meth c y D E sz) (X : fe_X D sz R s h H locs cells slots) {i : Instr} (hd : decode (fe_mB y) pc = .ok (i, fe_len pc i)) (hs : fe_hstep E y i st h = some (st', h')) (harr : arr.size = fe_mL y)
    (kk : fe_J1 p l e R s m args below meth c Q D sz (F0 m (pc + fe_len pc i) arr st') h') : W p l e R s m args below meth c H locs cells slots Q (F0 m pc arr st) := by
  cases i with
  | getfield idx =>
    simp only [fe_hstep] at hs
    split at hs
    · split at hs
      · next hf =>
        simp only [Option.map_eq_some_iff, Prod.mk.injEq] at hs
        obtain ⟨v, hv, rfl, rfl⟩ := hs
        exact fe_w_get G X hf hv hd (kk _ _ _ _ X)
      · cases hs
    · cases hs
  | putfield idx =>
    simp only [fe_hstep] at hs
    split at hs
    · split at hs
      · next hf =>
        split at hs
        · next hok =>
          simp only [Option.map_eq_some_iff, Prod.mk.injEq] at hs
          obtain ⟨v, hv, rfl, rfl⟩ := hs
          exact fe_w_put G X hf hok hv hd kk
        · cases hs
      · cases hs
    · cases hs
  | getstatic idx =>
    simp only [fe_hstep] at hs
    split at hs
    · next hy =>
      obtain ⟨hy, rfl⟩ := hy
      cases hs
      obtain ⟨hx, hb, -, -, -, hown, -, -, hE, -⟩ := G
      rw [hy] at hown
      exact va_gets hx hb hE.2.2.2.2.1 X.2.1 hown (hE.1.ok (w := .fieldLink (fe_cls 3) 41 "FloorEyes$Plan" "WITHOUT_BIT" "[J") (by decide +kernel)) (fun _ h => h) hd (kk _ _ _ _ X)
    · cases hs
  | iaload =>
    simp only [fe_hstep] at hs
    split at hs
    · simp only [Option.map_eq_some_iff, Prod.mk.injEq] at hs
      obtain ⟨v, hv, rfl, rfl⟩ := hs
      exact fe_w_ial G X hv hd (kk _ _ _ _ X)
    · cases hs
  | baload =>
    simp only [fe_hstep] at hs
    split at hs
    · simp only [Option.map_eq_some_iff, Prod.mk.injEq] at hs
      obtain ⟨v, hv, rfl, rfl⟩ := hs
      exact fe_w_zal G X hv hd (kk _ _ _ _ X)
    · cases hs
  | laload =>
    simp only [fe_hstep] at hs
    split at hs
    · simp only [Option.map_eq_some_iff, Prod.mk.injEq] at hs
      obtain ⟨v, hv, rfl, rfl⟩ := hs
      exact fe_w_jal G X hv hd (kk _ _ _ _ X)
    · cases hs
  | aaload =>
    simp only [fe_hstep] at hs
    split at hs
    · simp only [Option.map_eq_some_iff, Prod.mk.injEq] at hs
      obtain ⟨v, hv, rfl, rfl⟩ := hs
      exact fe_w_qal G X hv hd (kk _ _ _ _ X)
    · cases hs
  | arraylength =>
    simp only [fe_hstep] at hs
    split at hs
    · simp only [Option.map_eq_some_iff, Prod.mk.injEq] at hs
      obtain ⟨v, hv, rfl, rfl⟩ := hs
      exact fe_w_len G X hv hd (kk _ _ _ _ X)
    · cases hs
  | iastore =>
    simp only [fe_hstep] at hs
    split at hs
    · simp only [Option.map_eq_some_iff, Prod.mk.injEq] at hs
      obtain ⟨v, hv, rfl, rfl⟩ := hs
      exact fe_w_ias G X hv hd kk
    · cases hs
  | bastore =>
    simp only [fe_hstep] at hs
    split at hs
    · simp only [Option.map_eq_some_iff, Prod.mk.injEq] at hs
      obtain ⟨v, hv, rfl, rfl⟩ := hs
      exact fe_w_zas G X hv hd kk
    · cases hs
  | lastore =>
    simp only [fe_hstep] at hs
    split at hs
    · simp only [Option.map_eq_some_iff, Prod.mk.injEq] at hs
      obtain ⟨v, hv, rfl, rfl⟩ := hs
      exact fe_w_jas G X hv hd kk
    · cases hs
  | aastore =>
    simp only [fe_hstep] at hs
    split at hs
    · simp only [Option.map_eq_some_iff, Prod.mk.injEq] at hs
      obtain ⟨v, hv, rfl, rfl⟩ := hs
      exact fe_w_qas G X hv hd kk
    · cases hs
  | new idx =>
    simp only [fe_hstep] at hs
    split at hs
    · next hf =>
      split at hs
      · next hn =>
        cases hs
        exact fe_w_new G X hf hn hd kk
      · cases hs
    · cases hs
  | newarray t =>
    simp only [fe_hstep] at hs
    split at hs
    · split at hs
      · next hn =>
        simp only [Bool.and_eq_true, decide_eq_true_eq] at hn
        simp only [Option.map_eq_some_iff, Prod.mk.injEq] at hs
        obtain ⟨k, hk, rfl, rfl⟩ := hs
        exact fe_w_na G X hn.1.1 hn.1.2 hn.2 hk hd kk
      · cases hs
    · cases hs
  | anewarray idx =>
    simp only [fe_hstep] at hs
    split at hs
    · split at hs
      · next hn =>
        simp only [Bool.and_eq_true, decide_eq_true_eq] at hn
        obtain ⟨⟨⟨⟨hy, rfl⟩, h0⟩, hN⟩, hn⟩ := hn
        cases hs
        exact fe_w_nq G X hy h0 hN hn hd kk
      · cases hs
    · cases hs
  | ldc idx =>
    simp only [fe_hstep, Option.map_eq_some_iff, Prod.mk.injEq] at hs
    obtain ⟨v, hv, rfl, rfl⟩ := hs
    obtain ⟨hx, hb, -, -, -, hown, -, -, hE, -⟩ := G
    exact lv_ldc hx hb hown (hE.1.ok (fe_kl_in _ (fe_look hv))) hd (kk _ _ _ _ X)
  | ldc_w idx =>
    simp only [fe_hstep, Option.map_eq_some_iff, Prod.mk.injEq] at hs
    obtain ⟨v, hv, rfl, rfl⟩ := hs
    obtain ⟨hx, hb, -, -, -, hown, -, -, hE, -⟩ := G
    exact lv_ldcw hx hb hown (hE.1.ok (fe_kl_in _ (fe_look hv))) hd (kk _ _ _ _ X)
  | invokespecial idx =>
    simp only [fe_hstep] at hs
    split at hs
    · split at hs
      · next hn =>
        simp only [Bool.and_eq_true, decide_eq_true_eq, List.contains_iff_mem] at hn
        obtain ⟨⟨ho, hF⟩, hw⟩ := hn
        cases hs
        obtain ⟨hx, hb, hml, -, -, hown, -, -, hE, g1, g2, -⟩ := G
        exact W.objInit hx hb hown (hE.1.ok (fe_ol_in _ ho)) (hE.1.ok (w := .instanceMethod Lib.objectInit) (by decide +kernel)) (hE.1.ok (w := .code Lib.objectInit ⟨#[0xb1]⟩ 1 none) (by decide +kernel)) rfl (by rw [hml]; exact harr) rfl hd (by omega) (Nat.le_trans (Nat.add_le_add_right (Nat.le_trans (Nat.le_of_eq (Nat.zero_add _)) (fe_cat _)) 12) (Nat.le_trans hw g2)) (kk _ _ _ _ X)
      · cases hs
    · cases hs
  | _ => simp [fe_hstep] at hs
end FeN

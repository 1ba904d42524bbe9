/-! Arrays.fill(long[], long) -/
theorem fe_put_put (h : fe_H) (a : Nat) (c1 c2 : fe_C) : fe_put (fe_put h a c1) a c2 = fe_put h a c2 := by
  unfold fe_put
  dsimp only
  congr 3
  funext b
  split <;> rfl
theorem fe_get_put (h : fe_H) (a : Nat) (c : fe_C) : fe_get (fe_put h a c) a = some c := by
  unfold fe_get fe_put
  simp
theorem fe_get_put_ne (h : fe_H) {a b : Nat} (c : fe_C) (hb : b ≠ a) : fe_get (fe_put h a c) b = fe_get h b := by
  unfold fe_get fe_put
  simp [hb]
theorem fe_arrV_congr {cA : ClassId} {n : Nat} {f g : Nat → Value} (h : ∀ j, j < n → f j = g j) : arrV cA n f = arrV cA n g := by
  unfold arrV
  congr 1
  apply Array.ext
  · simp
  · intro i h1 h2
    simp only [Array.getElem_ofFn]
    exact h i (by simpa using h1)
theorem fe_HR.same {D : fe_D} {sz a n : Nat} {h : fe_H} {H : Heap} {f g : Nat → Int64} (hr : fe_HR D sz (fe_put h a (fe_J n f)) H) (hfg : ∀ j, j < n → f j = g j) : fe_HR D sz (fe_put h a (fe_J n g)) H := by
  refine ⟨hr.1, fun b d hb => ?_⟩
  by_cases e : b = a
  · subst e
    rw [fe_get_put] at hb
    cases hb
    obtain ⟨h1, h2⟩ := hr.2 b _ (fe_get_put h b (fe_J n f))
    refine ⟨h1, ?_⟩
    show H[b]? = some (arrV _ n (fun j => .long (g j)))
    rw [fe_arrV_congr (g := fun j => .long (f j)) (fun j hj => by rw [hfg j hj])]
    exact h2
  · rw [fe_get_put_ne h _ e] at hb
    exact hr.2 b d (by rw [fe_get_put_ne h _ e]; exact hb)
theorem fe_ff_0 : fe_fetch 117 0 = some (.iconst 0) := by decide +kernel
theorem fe_ff_1 : fe_fetch 117 1 = some (.istore_n 3) := by decide +kernel
theorem fe_ff_2 : fe_fetch 117 2 = some (.aload_n 0) := by decide +kernel
theorem fe_ff_3 : fe_fetch 117 3 = some .arraylength := by decide +kernel
theorem fe_ff_4 : fe_fetch 117 4 = some (.istore 4) := by decide +kernel
theorem fe_ff_6 : fe_fetch 117 6 = some (.iload_n 3) := by decide +kernel
theorem fe_ff_7 : fe_fetch 117 7 = some (.iload 4) := by decide +kernel
theorem fe_ff_9 : fe_fetch 117 9 = some (.if_icmp .ge 13) := by decide +kernel
theorem fe_ff_12 : fe_fetch 117 12 = some (.aload_n 0) := by decide +kernel
theorem fe_ff_13 : fe_fetch 117 13 = some (.iload_n 3) := by decide +kernel
theorem fe_ff_14 : fe_fetch 117 14 = some (.lload_n 1) := by decide +kernel
theorem fe_ff_15 : fe_fetch 117 15 = some .lastore := by decide +kernel
theorem fe_ff_16 : fe_fetch 117 16 = some (.iinc 3 1) := by decide +kernel
theorem fe_ff_19 : fe_fetch 117 19 = some (.goto (-13)) := by decide +kernel
theorem fe_ff_22 : fe_fetch 117 22 = some .return_ := by decide +kernel
theorem fe_ff_R : fe_mR 117 = none ∧ fe_mL 117 = 5 := by decide +kernel
section FeF
variable {p : Program} {l : Launch} {e : Env} {R : Room} {s : State} {m : MethodId} {args : Array Value} {below : List Frame} {meth : Method} {c : Code}
variable {sz a n : Nat} {D : fe_D} {E : fe_E} {h : fe_H} {x : Int64}
theorem fe_inb_nI {i n : Nat} (h : i < n) (hn : n ≤ 1000000) : fe_inb (nI i) n = true := by
  simp only [fe_inb, Bool.and_eq_true, decide_eq_true_eq]
  refine ⟨nI_pos' (by omega), ?_⟩
  rw [nI_clamp (by omega)]
  exact h
set_option maxHeartbeats 4000000 in
theorem fe_fill_loop (G : fe_G p l R s m meth c 117 D E sz) (hn : n ≤ 1000000) : ∀ (k i : Nat) (f : Nat → Int64) (H : Heap) (locs : List Loc) (cells slots : Nat) (ls : Array Slot), i + k = n → (∀ j, j < i → f j = x) → fe_X D sz R s (fe_put h a (fe_J n f)) H locs cells slots → lv_has ls 5 [(4, .int (nI n)), (3, .int (nI i)), (0, .ref a), (1, .long x)] →
    W p l e R s m args below meth c H locs cells slots (fe_Fin D sz R s below (.inl none, fe_put h a (fe_J n (fun _ => x)))) (F0 m 6 ls []) := by
  have hx := G.1
  have hb := G.2.1
  intro k
  induction k with
  | zero =>
    intro i f H locs cells slots ls hi hf X hl
    refine lv_iload_n hx hb (fe_fetch_ok fe_ff_6) rfl (lv_at hl 1 rfl) ?_
    refine lv_iload hx hb (fe_fetch_ok fe_ff_7) (lv_at hl 0 rfl) ?_
    refine lv_icmp_ge (tgt := 22) hx hb (fe_fetch_ok fe_ff_9) (by decide) (fun _ => ?_) (fun hc => ?_)
    · refine fe_w_vret G ⟨X.1.same (fun j hj => hf j (by omega)), X.2⟩ fe_ff_R.1 (fe_fetch_ok fe_ff_22)
    · exact absurd (nI_le (by omega) (by omega)) hc
  | succ k ih =>
    intro i f H locs cells slots ls hi hf X hl
    refine lv_iload_n hx hb (fe_fetch_ok fe_ff_6) rfl (lv_at hl 1 rfl) ?_
    refine lv_iload hx hb (fe_fetch_ok fe_ff_7) (lv_at hl 0 rfl) ?_
    refine lv_icmp_ge (tgt := 22) hx hb (fe_fetch_ok fe_ff_9) (by decide) (fun hc => ?_) (fun _ => ?_)
    · exact absurd hc (nI_ge (by omega) (by omega))
    · refine lv_aload_n hx hb (fe_fetch_ok fe_ff_12) rfl (lv_at hl 2 rfl) ?_
      refine lv_iload_n hx hb (fe_fetch_ok fe_ff_13) rfl (lv_at hl 1 rfl) ?_
      refine lv_lload_n hx hb (fe_fetch_ok fe_ff_14) rfl (lv_at hl 3 rfl) ?_
      refine fe_w_jas G X (h' := fe_put h a (fe_J n (vp_updL f i x))) ?_ (fe_fetch_ok fe_ff_15) (fun H' locs' cells' slots' X' => ?_)
      · unfold fe_js
        rw [fe_get_put]
        dsimp only
        rw [if_pos (fe_inb_nI (by omega) hn), fe_put_put, nI_clamp (by omega)]
      · refine lv_iinc (v := nI (i + 1)) (lv' := [(3, .int (nI (i + 1))), (4, .int (nI n)), (0, .ref a), (1, .long x)]) hx hb (fe_fetch_ok fe_ff_16) hl (k := 1) rfl (nI_succ i).symm (by decide) rfl (fun ls hl => ?_)
        refine lv_goto (tgt := 6) hx hb (fe_fetch_ok fe_ff_19) (by decide) ?_
        refine ih (i + 1) (vp_updL f i x) H' locs' cells' slots' ls (by omega) (fun j hj => ?_) X' (lv_sub hl [1, 0, 2, 3] rfl)
        unfold vp_updL
        split
        · rfl
        · exact hf j (by omega)
theorem fe_fill_cal {H : Heap} {f : Nat → Int64} (hR : fe_HR D sz h H) (ha : fe_get h a = some (fe_J n f)) (hn : n ≤ 1000000) : fe_Cal p l e D E sz 117 [.ref a, .long x] h H (.inl none, fe_put h a (fe_J n (fun _ => x))) := by
  intro s' mk mt ck below' hH G
  have hx := G.1
  have hb := G.2.1
  have hl := lv_entry ([.ref a, .long x]) (n := 5) (Nat.le_of_ble_eq_true rfl)
  rw [fe_ff_R.2, lg_entry_eq]
  generalize (lg_sl ([.ref a, .long x]) ++ List.replicate (5 - (lg_sl ([.ref a, .long x])).length) Slot.unset).toArray = ls at hl ⊢
  have hl : lv_has ls 5 [(0, .ref a), (1, .long x)] := hl
  have X0 : fe_X D sz (fe_Rz 117 h) s' h H [] 0 0 := ⟨hR, by rw [hH]; exact va_S.rf, by show 0 + h.2.1 ≤ h.2.1; omega, by show 0 + h.2.2.1 ≤ h.2.2.1; omega⟩
  refine lv_iconst (v := 0) hx hb (fe_fetch_ok fe_ff_0) (by decide) ?_
  refine lv_istore_n (lv' := [(3, .int 0), (0, .ref a), (1, .long x)]) hx hb (fe_fetch_ok fe_ff_1) rfl hl (by decide) rfl (fun ls hl => ?_)
  refine lv_aload_n hx hb (fe_fetch_ok fe_ff_2) rfl (lv_at hl 1 rfl) ?_
  refine fe_w_len G X0 (n := n) (by unfold fe_ln; rw [ha]) (fe_fetch_ok fe_ff_3) ?_
  refine lv_istore (lv' := [(4, .int (nI n)), (3, .int 0), (0, .ref a), (1, .long x)]) hx hb (fe_fetch_ok fe_ff_4) hl (by decide) rfl (fun ls hl => ?_)
  have hsame : fe_put h a (fe_J n f) = h := by
    unfold fe_put
    obtain ⟨h1, h2, h3, h4⟩ := h
    dsimp only
    congr 3
    funext b
    split
    · next e => subst e; exact ha.symm
    · rfl
  have X1 : fe_X D sz (fe_Rz 117 h) s' (fe_put h a (fe_J n f)) H [] 0 0 := by rw [hsame]; exact X0
  exact fe_fill_loop G hn n 0 f H [] 0 0 ls (by omega) (fun j hj => by omega) X1 hl
end FeF

/-! one row a kind of instruction -/
def fe_ob (h : fe_H) (b ci : Nat) : Bool := match fe_get h b with
  | some (.inl (cj, _)) => decide (cj = ci)
  | _ => false
section FeQ
variable {E : fe_E} {y pc : Nat} {ls : fe_Ls} {st r : List Value} {h : fe_H} {K : fe_R → fe_H → Prop} {a idx ci k pos : Nat} {nest : Bool}
theorem fe_w1_get (hf : fe_fetch y pc = some (.getfield idx)) (hl : fe_fl.lookup (fe_mC y, idx) = some (ci, k, nest, pos)) : fe_WP E y pc ls (.ref a :: r) h K ↔ ∃ v, fe_gf h a ci k = some v ∧ fe_WP E y (pc + 3) ls (v :: r) h K :=
  fe_wp_h (o := fe_gf h a ci k) (g := fun v => (v :: r, h)) hf rfl (by simp only [fe_hstep, hl]) (fun _ => rfl) rfl
theorem fe_w1_put {v : Value} (hf : fe_fetch y pc = some (.putfield idx)) (hl : fe_fl.lookup (fe_mC y, idx) = some (ci, k, nest, pos)) (hc : (!(fe_fin ci k) || (fe_mI y && decide (fe_mC y = ci) && !nest)) = true) : fe_WP E y pc ls (v :: .ref a :: r) h K ↔ fe_okV (fe_ty ci k) v = true ∧ ∃ h', fe_pf h a ci k v = some h' ∧ fe_WP E y (pc + 3) ls r h' K := by
  by_cases ho : fe_okV (fe_ty ci k) v = true
  · simp only [ho, true_and]
    exact fe_wp_h (o := fe_pf h a ci k v) (g := fun h' => (r, h')) hf rfl (by simp only [fe_hstep, hl, ho, hc, Bool.and_self, if_true]) (fun _ => rfl) rfl
  · simp only [ho, Bool.false_eq_true, false_and, iff_false]
    exact fe_wp_no hf rfl (by simp only [fe_hstep, hl, ho, Bool.false_and, Bool.false_eq_true, if_false]) (fun _ => rfl)
theorem fe_w1_puti {x : Int32} (hf : fe_fetch y pc = some (.putfield idx)) (hl : fe_fl.lookup (fe_mC y, idx) = some (ci, k, nest, pos)) (hc : (!(fe_fin ci k) || (fe_mI y && decide (fe_mC y = ci) && !nest)) = true) (ht : fe_ty ci k = .int) : fe_WP E y pc ls (.int x :: .ref a :: r) h K ↔ ∃ h', fe_pf h a ci k (.int x) = some h' ∧ fe_WP E y (pc + 3) ls r h' K := by
  rw [fe_w1_put hf hl hc, ht]
  simp only [fe_okV, true_and]
theorem fe_w1_putz {x : Int32} (hf : fe_fetch y pc = some (.putfield idx)) (hl : fe_fl.lookup (fe_mC y, idx) = some (ci, k, nest, pos)) (hc : (!(fe_fin ci k) || (fe_mI y && decide (fe_mC y = ci) && !nest)) = true) (ht : fe_ty ci k = .boolean) : fe_WP E y pc ls (.int x :: .ref a :: r) h K ↔ (x = 0 ∨ x = 1) ∧ ∃ h', fe_pf h a ci k (.int x) = some h' ∧ fe_WP E y (pc + 3) ls r h' K := by
  rw [fe_w1_put hf hl hc, ht]
  simp only [fe_okV, Bool.or_eq_true, decide_eq_true_eq]
theorem fe_w1_putr {x : Nat} (hf : fe_fetch y pc = some (.putfield idx)) (hl : fe_fl.lookup (fe_mC y, idx) = some (ci, k, nest, pos)) (hc : (!(fe_fin ci k) || (fe_mI y && decide (fe_mC y = ci) && !nest)) = true) (ht : fe_okV (fe_ty ci k) (.ref 0) = true) : fe_WP E y pc ls (.ref x :: .ref a :: r) h K ↔ ∃ h', fe_pf h a ci k (.ref x) = some h' ∧ fe_WP E y (pc + 3) ls r h' K := by
  rw [fe_w1_put hf hl hc]
  have h1 : fe_okV (fe_ty ci k) (.ref x) = true := by
    generalize fe_ty ci k = ty at ht
    cases ty <;> first | rfl | cases ht
  simp only [h1, true_and]
theorem fe_w1_ia {i : Int32} (hf : fe_fetch y pc = some .iaload) : fe_WP E y pc ls (.int i :: .ref a :: r) h K ↔ ∃ x, fe_ia E h a i = some x ∧ fe_WP E y (pc + 1) ls (.int x :: r) h K :=
  fe_wp_h (o := fe_ia E h a i) (g := fun x => (.int x :: r, h)) hf rfl rfl (fun _ => rfl) rfl
theorem fe_w1_za {i : Int32} (hf : fe_fetch y pc = some .baload) : fe_WP E y pc ls (.int i :: .ref a :: r) h K ↔ ∃ x, fe_za h a i = some x ∧ fe_WP E y (pc + 1) ls (.int (fe_bi x) :: r) h K :=
  fe_wp_h (o := fe_za h a i) (g := fun x => (.int (fe_bi x) :: r, h)) hf rfl rfl (fun _ => rfl) rfl
theorem fe_w1_ja {i : Int32} (hf : fe_fetch y pc = some .laload) : fe_WP E y pc ls (.int i :: .ref a :: r) h K ↔ ∃ x, fe_ja E h a i = some x ∧ fe_WP E y (pc + 1) ls (.long x :: r) h K :=
  fe_wp_h (o := fe_ja E h a i) (g := fun x => (.long x :: r, h)) hf rfl rfl (fun _ => rfl) rfl
theorem fe_w1_qa {i : Int32} (hf : fe_fetch y pc = some .aaload) : fe_WP E y pc ls (.int i :: .ref a :: r) h K ↔ ∃ x, fe_qa h a i = some x ∧ fe_WP E y (pc + 1) ls (x :: r) h K :=
  fe_wp_h (o := fe_qa h a i) (g := fun x => (x :: r, h)) hf rfl rfl (fun _ => rfl) rfl
theorem fe_w1_ln (hf : fe_fetch y pc = some .arraylength) : fe_WP E y pc ls (.ref a :: r) h K ↔ ∃ n, fe_ln E h a = some n ∧ fe_WP E y (pc + 1) ls (.int (Int32.ofNat n) :: r) h K :=
  fe_wp_h (o := fe_ln E h a) (g := fun n => (.int (Int32.ofNat n) :: r, h)) hf rfl rfl (fun _ => rfl) rfl
theorem fe_w1_is {i x : Int32} (hf : fe_fetch y pc = some .iastore) : fe_WP E y pc ls (.int x :: .int i :: .ref a :: r) h K ↔ ∃ h', fe_is h a i x = some h' ∧ fe_WP E y (pc + 1) ls r h' K :=
  fe_wp_h (o := fe_is h a i x) (g := fun h' => (r, h')) hf rfl rfl (fun _ => rfl) rfl
theorem fe_w1_zs {i x : Int32} (hf : fe_fetch y pc = some .bastore) : fe_WP E y pc ls (.int x :: .int i :: .ref a :: r) h K ↔ ∃ h', fe_zs h a i x = some h' ∧ fe_WP E y (pc + 1) ls r h' K :=
  fe_wp_h (o := fe_zs h a i x) (g := fun h' => (r, h')) hf rfl rfl (fun _ => rfl) rfl
theorem fe_w1_js {i : Int32} {x : Int64} (hf : fe_fetch y pc = some .lastore) : fe_WP E y pc ls (.long x :: .int i :: .ref a :: r) h K ↔ ∃ h', fe_js h a i x = some h' ∧ fe_WP E y (pc + 1) ls r h' K :=
  fe_wp_h (o := fe_js h a i x) (g := fun h' => (r, h')) hf rfl rfl (fun _ => rfl) rfl
theorem fe_w1_qs {i : Int32} {x : Nat} (hf : fe_fetch y pc = some .aastore) : fe_WP E y pc ls (.ref x :: .int i :: .ref a :: r) h K ↔ ∃ h', fe_qs h a i x = some h' ∧ fe_WP E y (pc + 1) ls r h' K :=
  fe_wp_h (o := fe_qs h a i x) (g := fun h' => (r, h')) hf rfl rfl (fun _ => rfl) rfl
theorem fe_ofif {α : Type} {b : Bool} {x : α} : (if b then some x else none) = (if b then some () else none).map (fun _ => x) := by cases b <;> rfl
theorem fe_ofif_some {b : Bool} : (∃ v, (if b then some () else none) = some v ∧ (fun (_ : Unit) => True) v) ↔ b = true := by cases b <;> simp
theorem fe_w1_new {N : Nat} {fs : List Value} (hf : fe_fetch y pc = some (.new idx)) (hl : fe_nl.lookup (fe_mC y, idx) = some ci) (hN : fe_nf ci = N) (hd : fe_df ci = fs) : fe_WP E y pc ls st h K ↔ fe_nw h N = true ∧ fe_WP E y (pc + 3) ls (.ref h.1 :: st) (fe_add h N (fe_O ci fs)) K := by
  subst hN
  subst hd
  by_cases hn : fe_nw h (fe_nf ci) = true
  · simp only [hn, true_and]
    exact (fe_wp_h (o := some ()) (g := fun _ => (.ref h.1 :: st, fe_add h (fe_nf ci) (fe_O ci (fe_df ci)))) hf rfl (by simp only [fe_hstep, hl, hn, if_true, Option.map_some]) (fun rec => by
      have hd := fe_fetch_ok hf
      simp only [fe_ends]
      split
      · next is ic h4 h6 =>
        have hx : fe_xl.lookup ((fe_mC y, idx), (is, ic)) = none := by
          cases hz : fe_xl.lookup ((fe_mC y, idx), (is, ic)) with
          | none => rfl
          | some x =>
            exfalso
            have h1 := fe_look hz
            have h2 := fe_look hl
            have h3 : ∀ q ∈ fe_xl, ∀ w ∈ fe_nl, q.1.1 ≠ w.1 := by decide
            exact h3 _ h1 _ h2 rfl
        rw [hx]
      · rfl) rfl).trans (by simp [fe_len])
  · simp only [hn, Bool.false_eq_true, false_and, iff_false]
    refine fe_wp_no hf rfl (by simp only [fe_hstep, hl, hn, Bool.false_eq_true, if_false]) (fun rec => ?_)
    simp only [fe_ends]
    split
    · next is ic h4 h6 =>
      have hx : fe_xl.lookup ((fe_mC y, idx), (is, ic)) = none := by
        cases hz : fe_xl.lookup ((fe_mC y, idx), (is, ic)) with
        | none => rfl
        | some x =>
          exfalso
          have h1 := fe_look hz
          have h2 := fe_look hl
          have h3 : ∀ q ∈ fe_xl, ∀ w ∈ fe_nl, q.1.1 ≠ w.1 := by decide
          exact h3 _ h1 _ h2 rfl
      rw [hx]
    · rfl
theorem fe_w1_na {t : ArrayType} {n : Int32} {N : Nat} {c : fe_C} (hf : fe_fetch y pc = some (.newarray t)) (h0 : 0 ≤ n) (hN : n.toNatClampNeg = N) (hM : N ≤ 1000000) (hc : fe_na t N = some c) : fe_WP E y pc ls (.int n :: r) h K ↔ fe_nw h N = true ∧ fe_WP E y (pc + 2) ls (.ref h.1 :: r) (fe_add h N c) K := by
  subst hN
  by_cases hn : fe_nw h n.toNatClampNeg = true
  · simp only [hn, true_and]
    exact (fe_wp_h (o := some ()) (g := fun _ => (.ref h.1 :: r, fe_add h n.toNatClampNeg c)) hf rfl (by simp only [fe_hstep, hn, h0, hM, hc, decide_true, Bool.and_self, if_true, Option.map_some]) (fun _ => rfl) rfl).trans (by simp [fe_len])
  · simp only [hn, Bool.false_eq_true, false_and, iff_false]
    exact fe_wp_no hf rfl (by simp only [fe_hstep, hn, Bool.and_false, Bool.false_eq_true, if_false]) (fun _ => rfl)
theorem fe_w1_nq {n : Int32} {N : Nat} (hf : fe_fetch y pc = some (.anewarray 16)) (hy : fe_mC y = 6) (h0 : 0 ≤ n) (hN : n.toNatClampNeg = N) (hM : N ≤ 1000000) : fe_WP E y pc ls (.int n :: r) h K ↔ fe_nw h N = true ∧ fe_WP E y (pc + 3) ls (.ref h.1 :: r) (fe_add h N (fe_Q N (fun _ => none))) K := by
  subst hN
  by_cases hn : fe_nw h n.toNatClampNeg = true
  · simp only [hn, true_and]
    exact (fe_wp_h (o := some ()) (g := fun _ => (.ref h.1 :: r, fe_add h n.toNatClampNeg (fe_Q n.toNatClampNeg (fun _ => none)))) hf rfl (by simp only [fe_hstep, hn, h0, hM, hy, and_self, decide_true, Bool.and_self, if_true, Option.map_some]) (fun _ => rfl) rfl).trans (by simp [fe_len])
  · simp only [hn, Bool.false_eq_true, false_and, iff_false]
    exact fe_wp_no hf rfl (by simp only [fe_hstep, hn, Bool.and_false, Bool.false_eq_true, if_false]) (fun _ => rfl)
theorem fe_w1_ldc {v : Int32} (hf : fe_fetch y pc = some (.ldc idx)) (hl : fe_kl.lookup (fe_mC y, idx) = some v) : fe_WP E y pc ls st h K ↔ fe_WP E y (pc + 2) ls (.int v :: st) h K :=
  (fe_wp_h (o := some ()) (g := fun _ => (.int v :: st, h)) hf rfl (by simp only [fe_hstep, hl, Option.map_some]) (fun _ => rfl) rfl).trans (by simp [fe_len])
theorem fe_w1_ldcw {v : Int32} (hf : fe_fetch y pc = some (.ldc_w idx)) (hl : fe_kl.lookup (fe_mC y, idx) = some v) : fe_WP E y pc ls st h K ↔ fe_WP E y (pc + 3) ls (.int v :: st) h K :=
  (fe_wp_h (o := some ()) (g := fun _ => (.int v :: st, h)) hf rfl (by simp only [fe_hstep, hl, Option.map_some]) (fun _ => rfl) rfl).trans (by simp [fe_len])
theorem fe_w1_gs (hf : fe_fetch y pc = some (.getstatic 41)) (hy : fe_mC y = 3) : fe_WP E y pc ls st h K ↔ fe_WP E y (pc + 3) ls (.ref E.2.2.2 :: st) h K :=
  (fe_wp_h (o := some ()) (g := fun _ => (.ref E.2.2.2 :: st, h)) hf rfl (by simp only [fe_hstep, hy, and_self, if_true, Option.map_some]) (fun _ => rfl) rfl).trans (by simp [fe_len])
theorem fe_w1_oi (hf : fe_fetch y pc = some (.invokespecial idx)) (ho : (fe_ol.contains (fe_mC y, idx) && decide (1 ≤ fe_mF y) && decide (2 * r.length + 12 ≤ fe_mW y)) = true) (hc : fe_cl.lookup (fe_mC y, idx) = none) : fe_WP E y pc ls (.ref a :: r) h K ↔ fe_WP E y (pc + 3) ls r h K :=
  (fe_wp_h (o := some ()) (g := fun _ => (r, h)) hf rfl (by simp only [fe_hstep, ho, if_true, Option.map_some]) (fun _ => by simp only [fe_ends, hc]) rfl).trans (by simp [fe_len])
theorem fe_w1_ri {v : Int32} (hf : fe_fetch y pc = some .ireturn) (hR : fe_mR y = some .int) : fe_WP E y pc ls [.int v] h K ↔ K (.inl (some (.int v))) h :=
  (fe_wp_e (P := True) (q := (.inl (some (.int v)), h)) hf rfl rfl (fun _ => by simp only [fe_ends, hR, fe_okV, if_true])).trans (by simp)
theorem fe_w1_rz {v : Int32} (hf : fe_fetch y pc = some .ireturn) (hR : fe_mR y = some .boolean) : fe_WP E y pc ls [.int v] h K ↔ (v = 0 ∨ v = 1) ∧ K (.inl (some (.int v))) h :=
  fe_wp_e (q := (.inl (some (.int v)), h)) hf rfl rfl (fun _ => by simp only [fe_ends, hR, fe_okV, Bool.or_eq_true, decide_eq_true_eq])
theorem fe_w1_ra {v : Nat} (hf : fe_fetch y pc = some .areturn) (hR : fe_mR y = some (.object "FloorEyes$Eye")) : fe_WP E y pc ls [.ref v] h K ↔ K (.inl (some (.ref v))) h :=
  (fe_wp_e (P := True) (q := (.inl (some (.ref v)), h)) hf rfl rfl (fun _ => by simp only [fe_ends, hR, fe_okV, if_true])).trans (by simp)
theorem fe_w1_rv (hf : fe_fetch y pc = some .return_) (hR : fe_mR y = none) : fe_WP E y pc ls [] h K ↔ K (.inl none) h :=
  (fe_wp_e (P := True) (q := (.inl none, h)) hf rfl rfl (fun _ => by simp only [fe_ends, hR, if_true])).trans (by simp)
theorem fe_w1_thr {ik is ic x : Nat} (hf : fe_fetch y pc = some (.new ik)) (h4 : fe_fetch y (pc + 4) = some (.ldc is)) (h6 : fe_fetch y (pc + 6) = some (.invokespecial ic)) (hx : fe_xl.lookup ((fe_mC y, ik), (is, ic)) = some x) (hn : fe_nl.lookup (fe_mC y, ik) = none) (hc : (decide (fe_fetch y (pc + 3) = some .dup) && decide (fe_fetch y (pc + 9) = some .athrow) && decide (6 ≤ fe_mF y) && decide (2 * st.length + 82 ≤ fe_mW y) && (fe_mH y).isEmpty) = true) : fe_WP E y pc ls st h K ↔ fe_nw h 6 = true ∧ K (.inr (x, h.1)) (fe_burn h 6) :=
  fe_wp_e (q := (.inr (x, h.1), fe_burn h 6)) hf rfl (by simp only [fe_hstep, hn]) (fun _ => by simp only [fe_ends, h4, h6, hx, hc, Bool.true_and])
theorem fe_w1_cs {z : Nat} {as rest : List Value} {ls0 : fe_Ls} (hf : fe_fetch y pc = some (.invokestatic idx)) (hl : fe_cl.lookup (fe_mC y, idx) = some (z, nest, pos)) (hz : z ≠ fe_fj) (hS : fe_mS z = true) (hp : fe_pop (fe_mA z) st = some (as, rest)) (hc : (fe_rm y z rest.length && as.all (fun v => v.category == 1) && decide (as.length ≤ fe_mL z)) = true) (he : fe_ent z as = ls0) : fe_WP E y pc ls st h K ↔ fe_WP E z 0 ls0 [] h (fe_KB E y pc ls rest K) := by
  subst he
  exact (fe_wp_call (z := z) (as := as) (rest := rest) (P := True) hf rfl rfl (fun rec => by simp only [fe_ends, hl, if_neg hz, hS, if_true, fe_call, hp, hc, fe_rcv, Bool.true_or, Bool.and_self]; rfl)).trans (by simp)
theorem fe_w1_cv {z b : Nat} {al rest : List Value} {ls0 : fe_Ls} (hf : fe_fetch y pc = some (.invokevirtual idx)) (hl : fe_cl.lookup (fe_mC y, idx) = some (z, nest, pos)) (hS : (!(fe_mS z) && !(fe_mI z)) = true) (hp : fe_pop (fe_mA z) st = some (.ref b :: al, rest)) (hc : (fe_rm y z rest.length && (Value.ref b :: al).all (fun v => v.category == 1) && decide ((Value.ref b :: al).length ≤ fe_mL z)) = true) (he : fe_ent z (.ref b :: al) = ls0) (hC : fe_mC z = ci) : fe_WP E y pc ls st h K ↔ fe_ob h b ci = true ∧ fe_WP E z 0 ls0 [] h (fe_KB E y pc ls rest K) := by
  subst he
  subst hC
  simp only [Bool.and_eq_true, Bool.not_eq_true'] at hS
  obtain ⟨hS2, hI2⟩ := hS
  exact fe_wp_call (P := fe_ob h b (fe_mC z) = true) hf rfl rfl (fun rec => by simp only [fe_ends, hl, hI2, Bool.not_false, Bool.and_self, if_true, fe_call, hp, hc, fe_rcv, hS2, Bool.false_or, Bool.true_and]; rfl)
theorem fe_w1_ci {z b : Nat} {al rest : List Value} {ls0 : fe_Ls} (hf : fe_fetch y pc = some (.invokespecial idx)) (hl : fe_cl.lookup (fe_mC y, idx) = some (z, nest, pos)) (hI : fe_mI z = true) (hS2 : fe_mS z = false) (hno : fe_ol.contains (fe_mC y, idx) = false) (hp : fe_pop (fe_mA z) st = some (.ref b :: al, rest)) (hc : (fe_rm y z rest.length && (Value.ref b :: al).all (fun v => v.category == 1) && decide ((Value.ref b :: al).length ≤ fe_mL z)) = true) (he : fe_ent z (.ref b :: al) = ls0) (hC : fe_mC z = ci) : fe_WP E y pc ls st h K ↔ fe_ob h b ci = true ∧ fe_WP E z 0 ls0 [] h (fe_KB E y pc ls rest K) := by
  subst he
  subst hC
  exact fe_wp_call (P := fe_ob h b (fe_mC z) = true) hf rfl (by
    simp only [fe_hstep, hno, Bool.false_and, Bool.false_eq_true, if_false]
    split <;> rfl) (fun rec => by simp only [fe_ends, hl, hI, if_true, fe_call, hp, hc, fe_rcv, hS2, Bool.false_or, Bool.true_and]; rfl)
theorem fe_w1_fj {x : Int64} (hf : fe_fetch y pc = some (.invokestatic idx)) (hl : fe_cl.lookup (fe_mC y, idx) = some (117, nest, pos)) (hr : fe_rm y 117 r.length = true) {n : Nat} {f : Nat → Int64} (hg : fe_get h a = some (fe_J n f)) (hn : n ≤ 1000000) : fe_WP E y pc ls (.long x :: .ref a :: r) h K ↔ fe_WP E y (pc + 3) ls r (fe_put h a (fe_J n (fun _ => x))) K :=
  fe_wp_step (fun m => fe_run E m y (pc + 3) ls r (fe_put h a (fe_J n (fun _ => x)))) (fun m => by
    show fe_body E _ y pc ls _ h = _
    unfold fe_body
    rw [hf]
    simp only [fe_pstep, fe_hstep, fe_ends, hl, fe_fj, if_true, fe_fill, hg, hr, hn, decide_true, Bool.and_self])
theorem fe_KB_r {v : Value} {rest : List Value} : fe_KB E y pc ls rest K (.inl (some v)) h = fe_WP E y (pc + 3) ls (v :: rest) h K := rfl
theorem fe_KB_v {rest : List Value} : fe_KB E y pc ls rest K (.inl none) h = fe_WP E y (pc + 3) ls rest h K := rfl
theorem fe_KB_x {rest : List Value} {x : Nat × Nat} (hH : fe_mH y = []) : fe_KB E y pc ls rest K (.inr x) h = K (.inr x) h := by
  simp only [fe_KB, hH]
end FeQ
section FeQ2
variable {E : fe_E} {y pc : Nat} {ls : fe_Ls} {st r : List Value} {h : fe_H} {K : fe_R → fe_H → Prop}
theorem fe_w1_ic {n : Int} {v : Int32} (hf : fe_fetch y pc = some (.iconst n)) (hv : Int32.ofInt n = v) : fe_WP E y pc ls st h K ↔ fe_WP E y (pc + 1) ls (.int v :: st) h K := by
  subst hv
  exact fe_wp_p hf rfl
theorem fe_w1_bi {n : Int} {v : Int32} (hf : fe_fetch y pc = some (.bipush n)) (hv : (Int8.ofInt n).toInt32 = v) : fe_WP E y pc ls st h K ↔ fe_WP E y (pc + 2) ls (.int v :: st) h K := by
  subst hv
  exact fe_wp_p hf rfl
theorem fe_w1_si {n : Int} {v : Int32} (hf : fe_fetch y pc = some (.sipush n)) (hv : (Int16.ofInt n).toInt32 = v) : fe_WP E y pc ls st h K ↔ fe_WP E y (pc + 3) ls (.int v :: st) h K := by
  subst hv
  exact fe_wp_p hf rfl
theorem fe_w1_lc {n : Fin 2} {v : Int64} (hf : fe_fetch y pc = some (.lconst n)) (hv : Int64.ofNat (n : Nat) = v) : fe_WP E y pc ls st h K ↔ fe_WP E y (pc + 1) ls (.long v :: st) h K := by
  subst hv
  exact fe_wp_p hf rfl
theorem fe_w1_inc {k : Nat} {n : Int} {x v : Int32} {ls' : fe_Ls} (hf : fe_fetch y pc = some (.iinc k n)) (hl : ls[k]? = some (some (.int x))) (hv : Int32.ofInt n = v) (hs : ls.set k (some (.int (x + v))) = ls') : fe_WP E y pc ls st h K ↔ fe_WP E y (pc + 3) ls' st h K := by
  subst hv
  subst hs
  exact fe_wp_p hf (by simp only [fe_pstep, fe_inc, hl])
theorem fe_w1_go {off : Int} {t : Nat} (hf : fe_fetch y pc = some (.goto off)) (ho : fe_okt pc off = true) (ht : fe_tgt pc off = t) : fe_WP E y pc ls st h K ↔ fe_WP E y t ls st h K := by
  subst ht
  exact fe_wp_p hf (by simp only [fe_pstep, ho, if_true])
theorem fe_w1_if {c : Jvm.ClassFile.Cond} {off : Int} {t : Nat} {x : Int32} {P : Prop} [Decidable P] (hf : fe_fetch y pc = some (.ifCond c off)) (ho : fe_okt pc off = true) (ht : fe_tgt pc off = t) (hP : fe_c1 c x = decide P) : fe_WP E y pc ls (.int x :: r) h K ↔ if P then fe_WP E y t ls r h K else fe_WP E y (pc + 3) ls r h K := by
  subst ht
  exact fe_wp_b hf (by simp only [fe_pstep, fe_br1, ho, if_true]) hP
theorem fe_w1_ii {c : Jvm.ClassFile.Cond} {off : Int} {t : Nat} {x z : Int32} {P : Prop} [Decidable P] (hf : fe_fetch y pc = some (.if_icmp c off)) (ho : fe_okt pc off = true) (ht : fe_tgt pc off = t) (hP : fe_c2 c x z = decide P) : fe_WP E y pc ls (.int z :: .int x :: r) h K ↔ if P then fe_WP E y t ls r h K else fe_WP E y (pc + 3) ls r h K := by
  subst ht
  exact fe_wp_b hf (by simp only [fe_pstep, fe_br2, ho, if_true]) hP
theorem fe_w1_sw {dflt lo hi off : Int} {offs : Array Int} {t : Nat} {x : Int32} (hf : fe_fetch y pc = some (.tableswitch dflt lo hi offs)) (h1 : ¬ (x.toInt < lo ∨ hi < x.toInt)) (h2 : offs[(x.toInt - lo).toNat]? = some off) (ho : fe_okt pc off = true) (ht : fe_tgt pc off = t) : fe_WP E y pc ls (.int x :: r) h K ↔ fe_WP E y t ls r h K := by
  subst ht
  exact fe_wp_p hf (by simp only [fe_pstep, fe_sw, if_neg h1, h2, ho, if_true])
theorem fe_w1_sd {dflt lo hi : Int} {offs : Array Int} {t : Nat} {x : Int32} (hf : fe_fetch y pc = some (.tableswitch dflt lo hi offs)) (h1 : x.toInt < lo ∨ hi < x.toInt) (ho : fe_okt pc dflt = true) (ht : fe_tgt pc dflt = t) : fe_WP E y pc ls (.int x :: r) h K ↔ fe_WP E y t ls r h K := by
  subst ht
  exact fe_wp_p hf (by simp only [fe_pstep, fe_sw, if_pos h1, ho, if_true])
theorem fe_w1_nu {off : Int} {t : Nat} (hf : fe_fetch y pc = some (.ifnull off)) (ho : fe_okt pc off = true) (ht : fe_tgt pc off = t) : fe_WP E y pc ls (.null :: r) h K ↔ fe_WP E y t ls r h K := by
  subst ht
  exact fe_wp_p hf (by simp only [fe_pstep, ho, if_true])
theorem fe_w1_nn {off : Int} {t a : Nat} (hf : fe_fetch y pc = some (.ifnonnull off)) (ho : fe_okt pc off = true) (ht : fe_tgt pc off = t) : fe_WP E y pc ls (.ref a :: r) h K ↔ fe_WP E y t ls r h K := by
  subst ht
  exact fe_wp_p hf (by simp only [fe_pstep, ho, if_true])
theorem fe_w1_dv {x z : Int32} (hf : fe_fetch y pc = some .idiv) : fe_WP E y pc ls (.int z :: .int x :: r) h K ↔ ¬ z = 0 ∧ fe_WP E y (pc + 1) ls (.int (x / z) :: r) h K := fe_wp_d hf rfl rfl (fun _ => rfl)
theorem fe_w1_rm {x z : Int32} (hf : fe_fetch y pc = some .irem) : fe_WP E y pc ls (.int z :: .int x :: r) h K ↔ ¬ z = 0 ∧ fe_WP E y (pc + 1) ls (.int (x - x / z * z) :: r) h K := fe_wp_d hf rfl rfl (fun _ => rfl)
end FeQ2

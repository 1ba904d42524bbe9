/-! the small machine: its steps over the heap, its calls, its run -/
def fe_okV (ty : FieldType) (v : Value) : Bool := match ty, v with
  | .int, .int _ => true
  | .boolean, .int x => decide (x = 0) || decide (x = 1)
  | .object _, .ref _ => true
  | .object _, .null => true
  | .array _, .ref _ => true
  | .array _, .null => true
  | _, _ => false
def fe_ty (ci k : Nat) : FieldType := match ci with
  | 0 => tyX0 k
  | 1 => tyX1 k
  | 2 => tyX2 k
  | 3 => tyX3 k
  | 4 => tyX4 k
  | 5 => tyX5 k
  | 6 => tyX6 k
  | _ => tyX7 k
def fe_vw (ci : Nat) : vw_C := vwCl.getD ci (RX0, TX0, 0)
def fe_fin (ci k : Nat) : Bool := ((fe_vw ci).2.1 k).2.2.2
def fe_nf (ci : Nat) : Nat := (fe_vw ci).2.2
def fe_df (ci : Nat) : List Value := (List.range (fe_nf ci)).map (fun k => defaultValue (fe_ty ci k))
def fe_gf (h : fe_H) (a ci k : Nat) : Option Value := match fe_get h a with
  | some (.inl (cj, fs)) => if cj = ci then fs[k]? else none
  | _ => none
def fe_pf (h : fe_H) (a ci k : Nat) (v : Value) : Option fe_H := match fe_get h a with
  | some (.inl (cj, fs)) => if cj = ci ∧ k < fs.length then some (fe_put h a (fe_O ci (fs.set k v))) else none
  | _ => none
def fe_ia (E : fe_E) (h : fe_H) (a : Nat) (i : Int32) : Option Int32 := match fe_get h a with
  | some (.inr (.inl (n, f))) => if fe_inb i n then some (f i.toNatClampNeg) else none
  | none => if a = E.1 ∧ fe_inb i E.2.1 = true then some (E.2.2.1 i.toNatClampNeg) else none
  | _ => none
def fe_za (h : fe_H) (a : Nat) (i : Int32) : Option Bool := match fe_get h a with
  | some (.inr (.inr (.inl (n, f)))) => if fe_inb i n then some (f i.toNatClampNeg) else none
  | _ => none
def fe_wb (j : Nat) : Int64 := [6148914691236517205, 3689348814741910323, 1085102592571150095, 71777214294589695, 281470681808895, 4294967295].getD j 0
def fe_ja (E : fe_E) (h : fe_H) (a : Nat) (i : Int32) : Option Int64 := match fe_get h a with
  | some (.inr (.inr (.inr (.inl (n, f))))) => if fe_inb i n then some (f i.toNatClampNeg) else none
  | none => if a = E.2.2.2 ∧ fe_inb i 6 = true then some (fe_wb i.toNatClampNeg) else none
  | _ => none
def fe_qa (h : fe_H) (a : Nat) (i : Int32) : Option Value := match fe_get h a with
  | some (.inr (.inr (.inr (.inr (n, f))))) => if fe_inb i n then some (va_rf (f i.toNatClampNeg)) else none
  | _ => none
def fe_ln (E : fe_E) (h : fe_H) (a : Nat) : Option Nat := match fe_get h a with
  | some (.inr (.inl (n, _))) => some n
  | some (.inr (.inr (.inl (n, _)))) => some n
  | some (.inr (.inr (.inr (.inl (n, _))))) => some n
  | some (.inr (.inr (.inr (.inr (n, _))))) => some n
  | none => if a = E.1 then some E.2.1 else none
  | _ => none
def fe_is (h : fe_H) (a : Nat) (i x : Int32) : Option fe_H := match fe_get h a with
  | some (.inr (.inl (n, f))) => if fe_inb i n then some (fe_put h a (fe_I n (upd f i.toNatClampNeg x))) else none
  | _ => none
def fe_zs (h : fe_H) (a : Nat) (i x : Int32) : Option fe_H := match fe_get h a with
  | some (.inr (.inr (.inl (n, f)))) => if fe_inb i n then some (fe_put h a (fe_Z n (fe_ub f i.toNatClampNeg (fe_tb x)))) else none
  | _ => none
def fe_js (h : fe_H) (a : Nat) (i : Int32) (x : Int64) : Option fe_H := match fe_get h a with
  | some (.inr (.inr (.inr (.inl (n, f))))) => if fe_inb i n then some (fe_put h a (fe_J n (vp_updL f i.toNatClampNeg x))) else none
  | _ => none
def fe_qs (h : fe_H) (a : Nat) (i : Int32) (x : Nat) : Option fe_H := match fe_get h a, fe_get h x with
  | some (.inr (.inr (.inr (.inr (n, f))))), some (.inl (1, _)) => if fe_inb i n then some (fe_put h a (fe_Q n (va_up f i.toNatClampNeg (some x)))) else none
  | _, _ => none
def fe_nw (h : fe_H) (n : Nat) : Bool := decide (1 ≤ h.2.1) && decide (n ≤ h.2.2.1)
def fe_na (t : ArrayType) (n : Nat) : Option fe_C := match t with
  | .int => some (fe_I n (fun _ => 0))
  | .boolean => some (fe_Z n (fun _ => false))
  | .long => some (fe_J n (fun _ => 0))
  | _ => none
def fe_hstep (E : fe_E) (y : Nat) (i : Instr) (st : List Value) (h : fe_H) : Option (List Value × fe_H) := match i with
  | .getfield idx => match st with
    | .ref a :: r => match fe_fl.lookup (fe_mC y, idx) with
      | some (ci, k, _, _) => (fe_gf h a ci k).map (fun v => (v :: r, h))
      | none => none
    | _ => none
  | .putfield idx => match st with
    | v :: .ref a :: r => match fe_fl.lookup (fe_mC y, idx) with
      | some (ci, k, nest, _) => if fe_okV (fe_ty ci k) v && (!(fe_fin ci k) || (fe_mI y && decide (fe_mC y = ci) && !nest)) then (fe_pf h a ci k v).map (fun h' => (r, h')) else none
      | none => none
    | _ => none
  | .getstatic idx => if fe_mC y = 3 ∧ idx = 41 then some (.ref E.2.2.2 :: st, h) else none
  | .iaload => match st with
    | .int i :: .ref a :: r => (fe_ia E h a i).map (fun x => (.int x :: r, h))
    | _ => none
  | .baload => match st with
    | .int i :: .ref a :: r => (fe_za h a i).map (fun x => (.int (fe_bi x) :: r, h))
    | _ => none
  | .laload => match st with
    | .int i :: .ref a :: r => (fe_ja E h a i).map (fun x => (.long x :: r, h))
    | _ => none
  | .aaload => match st with
    | .int i :: .ref a :: r => (fe_qa h a i).map (fun x => (x :: r, h))
    | _ => none
  | .arraylength => match st with
    | .ref a :: r => (fe_ln E h a).map (fun n => (.int (Int32.ofNat n) :: r, h))
    | _ => none
  | .iastore => match st with
    | .int x :: .int i :: .ref a :: r => (fe_is h a i x).map (fun h' => (r, h'))
    | _ => none
  | .bastore => match st with
    | .int x :: .int i :: .ref a :: r => (fe_zs h a i x).map (fun h' => (r, h'))
    | _ => none
  | .lastore => match st with
    | .long x :: .int i :: .ref a :: r => (fe_js h a i x).map (fun h' => (r, h'))
    | _ => none
  | .aastore => match st with
    | .ref x :: .int i :: .ref a :: r => (fe_qs h a i x).map (fun h' => (r, h'))
    | _ => none
  | .new idx => match fe_nl.lookup (fe_mC y, idx) with
    | some ci => if fe_nw h (fe_nf ci) then some (.ref h.1 :: st, fe_add h (fe_nf ci) (fe_O ci (fe_df ci))) else none
    | none => none
  | .newarray t => match st with
    | .int n :: r => if decide (0 ≤ n) && decide (n.toNatClampNeg ≤ 1000000) && fe_nw h n.toNatClampNeg then (fe_na t n.toNatClampNeg).map (fun c => (.ref h.1 :: r, fe_add h n.toNatClampNeg c)) else none
    | _ => none
  | .anewarray idx => match st with
    | .int n :: r => if decide (fe_mC y = 6 ∧ idx = 16) && decide (0 ≤ n) && decide (n.toNatClampNeg ≤ 1000000) && fe_nw h n.toNatClampNeg then some (.ref h.1 :: r, fe_add h n.toNatClampNeg (fe_Q n.toNatClampNeg (fun _ => none))) else none
    | _ => none
  | .ldc idx => (fe_kl.lookup (fe_mC y, idx)).map (fun v => (.int v :: st, h))
  | .ldc_w idx => (fe_kl.lookup (fe_mC y, idx)).map (fun v => (.int v :: st, h))
  | .invokespecial idx => match st with
    | .ref _ :: r => if fe_ol.contains (fe_mC y, idx) && decide (1 ≤ fe_mF y) && decide (2 * r.length + 12 ≤ fe_mW y) then some (r, h) else none
    | _ => none
  | _ => none
def fe_pop : Nat → List Value → Option (List Value × List Value)
  | 0, st => some ([], st)
  | n + 1, v :: st => match fe_pop n st with
    | some (a, r) => some (a ++ [v], r)
    | none => none
  | _ + 1, [] => none
def fe_ent (z : Nat) (as : List Value) : fe_Ls := as.map some ++ List.replicate (fe_mL z - as.length) none
def fe_rm (y z n : Nat) : Bool := decide (fe_mF z + 1 ≤ fe_mF y) && decide (2 * n + (fe_mL z + 11) + fe_mW z ≤ fe_mW y)
def fe_rcv (h : fe_H) (z : Nat) (as : List Value) : Bool := fe_mS z || (match as with
  | .ref b :: _ => (match fe_get h b with
    | some (.inl (ci, _)) => decide (ci = fe_mC z)
    | _ => false)
  | _ => false)
def fe_hgo (c pc x : Nat) : List (Nat × Nat × Nat × Nat) → Option Nat
  | [] => none
  | q :: t => if q.1 ≤ pc ∧ pc < q.2.1 then (match fe_hl.lookup (c, q.2.2.2) with
      | some x' => if x' = x then some q.2.2.1 else if (x = 1 ∧ x' = 0) ∨ (x = 2 ∧ x' = 1) then fe_hgo c pc x t else none
      | none => none) else fe_hgo c pc x t
abbrev fe_Rec : Type := Nat → Nat → fe_Ls → List Value → fe_H → Option (fe_R × fe_H)
def fe_bk (rec : fe_Rec) (y pc : Nat) (ls : fe_Ls) (rest : List Value) (q : fe_R × fe_H) : Option (fe_R × fe_H) := match q.1 with
  | .inl v => rec y (pc + 3) ls (v.toList ++ rest) q.2
  | .inr x => match fe_mH y with
    | [] => some (.inr x, q.2)
    | hs => match fe_hgo (fe_mC y) pc x.1 hs with
      | some hp => rec y hp ls [.ref x.2] q.2
      | none => none
/-- the number of Arrays.fill(long[], long) -/
def fe_fj : Nat := 117
def fe_call (rec : fe_Rec) (y pc : Nat) (ls : fe_Ls) (z : Nat) (st : List Value) (h : fe_H) : Option (fe_R × fe_H) := match fe_pop (fe_mA z) st with
  | some (as, rest) => if fe_rm y z rest.length && as.all (fun v => v.category == 1) && decide (as.length ≤ fe_mL z) && fe_rcv h z as then (match rec z 0 (fe_ent z as) [] h with
      | some q => fe_bk rec y pc ls rest q
      | none => none) else none
  | none => none
def fe_fill (rec : fe_Rec) (y pc : Nat) (ls : fe_Ls) (st : List Value) (h : fe_H) : Option (fe_R × fe_H) := match st with
  | .long x :: .ref a :: rest => (match fe_get h a with
    | some (.inr (.inr (.inr (.inl (n, _))))) => if fe_rm y fe_fj rest.length && decide (n ≤ 1000000) then rec y (pc + 3) ls rest (fe_put h a (fe_J n (fun _ => x))) else none
    | _ => none)
  | _ => none
def fe_ends (rec : fe_Rec) (y pc : Nat) (ls : fe_Ls) (i : Instr) (st : List Value) (h : fe_H) : Option (fe_R × fe_H) := match i with
  | .invokestatic idx => match fe_cl.lookup (fe_mC y, idx) with
    | some (z, _, _) => if z = fe_fj then fe_fill rec y pc ls st h else if fe_mS z then fe_call rec y pc ls z st h else none
    | none => none
  | .invokevirtual idx => match fe_cl.lookup (fe_mC y, idx) with
    | some (z, _, _) => if !(fe_mS z) && !(fe_mI z) then fe_call rec y pc ls z st h else none
    | none => none
  | .invokespecial idx => match fe_cl.lookup (fe_mC y, idx) with
    | some (z, _, _) => if fe_mI z then fe_call rec y pc ls z st h else none
    | none => none
  | .ireturn => match st, fe_mR y with
    | [.int v], some ty => if fe_okV ty (.int v) then some (.inl (some (.int v)), h) else none
    | _, _ => none
  | .areturn => match st, fe_mR y with
    | [.ref v], some ty => if fe_okV ty (.ref v) then some (.inl (some (.ref v)), h) else none
    | _, _ => none
  | .return_ => match st, fe_mR y with
    | [], none => some (.inl none, h)
    | _, _ => none
  | .new ik => match fe_fetch y (pc + 4), fe_fetch y (pc + 6) with
    | some (.ldc is), some (.invokespecial ic) => match fe_xl.lookup ((fe_mC y, ik), (is, ic)) with
      | some x => if decide (fe_fetch y (pc + 3) = some .dup) && decide (fe_fetch y (pc + 9) = some .athrow) && decide (6 ≤ fe_mF y) && decide (2 * st.length + 82 ≤ fe_mW y) && (fe_mH y).isEmpty && fe_nw h 6 then some (.inr (x, h.1), fe_burn h 6) else none
      | none => none
    | _, _ => none
  | _ => none
def fe_body (E : fe_E) (rec : fe_Rec) (y pc : Nat) (ls : fe_Ls) (st : List Value) (h : fe_H) : Option (fe_R × fe_H) := match fe_fetch y pc with
  | none => none
  | some i => match fe_pstep i pc ls st with
    | some (pc', ls', st') => rec y pc' ls' st' h
    | none => match fe_hstep E y i st h with
      | some (st', h') => rec y (pc + fe_len pc i) ls st' h'
      | none => fe_ends rec y pc ls i st h
def fe_run (E : fe_E) : Nat → fe_Rec
  | 0, _, _, _, _, _ => none
  | n + 1, y, pc, ls, st, h => fe_body E (fe_run E n) y pc ls st h

/-! ints of the machine as whole numbers -/
def fe_z (a : Int) : Int32 := Int32.ofInt a
def fe_bt (x : Int32) (e : Nat) : Bool := x.toBitVec.getLsbD e
section FeZ
variable {a b : Int} {p q : Bool}
theorem fe_ofn (n : Nat) : Int32.ofNat n = fe_z (n : Int) := Int32.ofInt_eq_ofNat.symm
theorem fe_z_of (x : Int32) : x = fe_z x.toInt := (Int32.ofInt_toInt x).symm
theorem fe_z_add : fe_z a + fe_z b = fe_z (a + b) := (Int32.ofInt_add a b).symm
theorem fe_z_sub : fe_z a - fe_z b = fe_z (a - b) := (Int32.ofInt_sub a b).symm
theorem fe_z_mul : fe_z a * fe_z b = fe_z (a * b) := (Int32.ofInt_mul a b).symm
theorem fe_z_neg : -fe_z a = fe_z (-a) := (Int32.ofInt_neg a).symm
theorem fe_z_toInt (h1 : -2147483648 ≤ a) (h2 : a ≤ 2147483647) : (fe_z a).toInt = a := Int32.toInt_ofInt_of_le (by omega) (by omega)
theorem fe_z_lt (h1 : -2147483648 ≤ a) (h2 : a ≤ 2147483647) (h3 : -2147483648 ≤ b) (h4 : b ≤ 2147483647) : (fe_z a < fe_z b) = (a < b) := by
  rw [Int32.lt_iff_toInt_lt, fe_z_toInt h1 h2, fe_z_toInt h3 h4]
theorem fe_z_le (h1 : -2147483648 ≤ a) (h2 : a ≤ 2147483647) (h3 : -2147483648 ≤ b) (h4 : b ≤ 2147483647) : (fe_z a ≤ fe_z b) = (a ≤ b) := by
  rw [Int32.le_iff_toInt_le, fe_z_toInt h1 h2, fe_z_toInt h3 h4]
theorem fe_z_eq (h1 : -2147483648 ≤ a) (h2 : a ≤ 2147483647) (h3 : -2147483648 ≤ b) (h4 : b ≤ 2147483647) : (fe_z a = fe_z b) = (a = b) := by
  rw [← Int32.toInt_inj, fe_z_toInt h1 h2, fe_z_toInt h3 h4]
theorem fe_z_div (h1 : 0 ≤ a) (h2 : a ≤ 2147483647) (h3 : 0 < b) (h4 : b ≤ 2147483647) : fe_z a / fe_z b = fe_z (a / b) := by
  apply Int32.toInt_inj.mp
  have hq : 0 ≤ a / b := Int.ediv_nonneg h1 (by omega)
  have hr : a / b ≤ a := Int.ediv_le_self b h1
  rw [Int32.toInt_div, fe_z_toInt (by omega) h2, fe_z_toInt (by omega) h4, fe_z_toInt (by omega) (by omega), Int.tdiv_eq_ediv_of_nonneg h1]
  exact Int.bmod_eq_of_le (by omega) (by omega)
theorem fe_z_mod : a - a / b * b = a % b := by rw [Int.emod_def, Int.mul_comm]
theorem fe_z_nat (h1 : 0 ≤ a) (h2 : a ≤ 2147483647) : (fe_z a).toNatClampNeg = a.toNat := by
  show (fe_z a).toInt.toNat = _
  rw [fe_z_toInt (by omega) h2]
theorem fe_z_inb {n : Nat} (h1 : 0 ≤ a) (h2 : a < n) (h3 : a ≤ 2147483647) : fe_inb (fe_z a) n = true := by
  have h0 : (0 : Int32) = fe_z 0 := rfl
  simp only [fe_inb, fe_z_nat h1 h3, h0, fe_z_le (a := 0) (b := a) (by omega) (by omega) (by omega) h3, Bool.and_eq_true, decide_eq_true_eq]
  omega
theorem fe_bi_z : fe_bi p = fe_z (if p then 1 else 0) := by cases p <;> rfl
theorem fe_bi0 : (fe_bi p = fe_z 0) = (p = false) := by cases p <;> decide
theorem fe_bi1 : (fe_bi p = fe_z 1) = (p = true) := by cases p <;> decide
theorem fe_bibi : (fe_bi p = fe_bi q) = (p = q) := by cases p <;> cases q <;> decide
theorem fe_bi01 : (fe_bi p = fe_z 0 ∨ fe_bi p = fe_z 1) = True := by cases p <;> decide
theorem fe_z01 : (fe_z 0 = fe_z 0 ∨ fe_z 0 = fe_z 1) = True := by decide
theorem fe_z11 : (fe_z 1 = fe_z 0 ∨ fe_z 1 = fe_z 1) = True := by decide
theorem fe_z10 : (fe_z 1 = fe_z 0) = False := by decide
theorem fe_zt : fe_z 1 = fe_bi true := rfl
theorem fe_zf : fe_z 0 = fe_bi false := rfl
theorem fe_tb_bi : fe_tb (fe_bi p) = p := by cases p <;> decide
theorem fe_tb_0 : fe_tb (fe_z 0) = false := by decide
theorem fe_tb_1 : fe_tb (fe_z 1) = true := by decide
theorem fe_z_shl {i : Int} (h1 : 0 ≤ i) (h2 : i ≤ 30) : fe_z 1 <<< (fe_z i &&& 31) = fe_z ((2 ^ i.toNat : Nat) : Int) := by
  obtain ⟨k, rfl⟩ := Int.eq_ofNat_of_zero_le h1
  have hk : k ≤ 30 := by omega
  rw [Int.toNat_natCast]
  clear h1 h2
  revert k
  have H : ∀ k, k < 31 → fe_z 1 <<< (fe_z ((k : Nat) : Int) &&& 31) = fe_z ((2 ^ k : Nat) : Int) := by decide +kernel
  exact fun k hk => H k (by omega)
theorem fe_z_bit {i : Int} (x : Int32) (h1 : 0 ≤ i) (h2 : i ≤ 31) : (x >>> (fe_z i &&& 31)) &&& fe_z 1 = fe_bi (fe_bt x i.toNat) := by
  obtain ⟨k, rfl⟩ := Int.eq_ofNat_of_zero_le h1
  have hk : k ≤ 31 := by omega
  rw [Int.toNat_natCast]
  apply Int32.toBitVec_inj.mp
  have hs : ∀ k, k < 32 → ((fe_z ((k : Nat) : Int) &&& 31).toBitVec.smod 32).toNat = k := by decide +kernel
  have hb : (fe_bi (fe_bt x k)).toBitVec = (BitVec.ofBool (fe_bt x k)).setWidth 32 := by cases fe_bt x k <;> rfl
  rw [hb, Int32.toBitVec_and, Int32.toBitVec_shiftRight]
  apply BitVec.eq_of_getLsbD_eq
  intro j hj
  simp only [BitVec.getLsbD_and, BitVec.getLsbD_setWidth, BitVec.sshiftRight', BitVec.getLsbD_sshiftRight]
  rw [hs k (by omega)]
  have h1b : (fe_z 1).toBitVec = 1#32 := rfl
  rw [h1b]
  by_cases h0 : j = 0
  · subst h0
    by_cases hk2 : k < 32
    · simp [fe_bt, hk2]
    · omega
  · have : ¬ j = 0 := h0
    simp [h0, BitVec.getLsbD_ofBool]
theorem fe_z_or (s t : Nat) : fe_z (s : Int) ||| fe_z (t : Int) = fe_z ((s ||| t : Nat) : Int) := by
  apply Int32.toBitVec_inj.mp
  show BitVec.ofInt 32 (s : Int) ||| BitVec.ofInt 32 (t : Int) = BitVec.ofInt 32 _
  simp only [BitVec.ofInt_natCast, BitVec.ofNat_or]
theorem fe_z_and (s t : Nat) : fe_z (s : Int) &&& fe_z (t : Int) = fe_z ((s &&& t : Nat) : Int) := by
  apply Int32.toBitVec_inj.mp
  show BitVec.ofInt 32 (s : Int) &&& BitVec.ofInt 32 (t : Int) = BitVec.ofInt 32 _
  simp only [BitVec.ofInt_natCast, BitVec.ofNat_and]
theorem fe_bt_z (s e : Nat) (he : e < 32) : fe_bt (fe_z (s : Int)) e = s.testBit e := by
  show (BitVec.ofInt 32 (s : Int)).getLsbD e = _
  rw [BitVec.ofInt_natCast, BitVec.getLsbD_ofNat]
  simp [he]
theorem fe_bt_and (x y : Int32) (e : Nat) : fe_bt (x &&& y) e = (fe_bt x e && fe_bt y e) := by
  simp only [fe_bt, Int32.toBitVec_and, BitVec.getLsbD_and]
theorem fe_bt_or (x y : Int32) (e : Nat) : fe_bt (x ||| y) e = (fe_bt x e || fe_bt y e) := by
  simp only [fe_bt, Int32.toBitVec_or, BitVec.getLsbD_or]
theorem fe_bt_xor (x y : Int32) (e : Nat) : fe_bt (x ^^^ y) e = (fe_bt x e ^^ fe_bt y e) := by
  simp only [fe_bt, Int32.toBitVec_xor, BitVec.getLsbD_xor]
theorem fe_bt_not (x : Int32) (e : Nat) (he : e < 32) : fe_bt (x ^^^ fe_z (-1)) e = !fe_bt x e := by
  rw [fe_bt_xor]
  have : ∀ e, e < 32 → fe_bt (fe_z (-1)) e = true := by decide +kernel
  rw [this e he]
  simp
theorem fe_bt_ext {x y : Int32} (h : ∀ e, e < 32 → fe_bt x e = fe_bt y e) : x = y := by
  apply Int32.toBitVec_inj.mp
  exact BitVec.eq_of_getLsbD_eq fun j hj => h j hj
end FeZ
/-- counting down to the beginning -/
theorem fe_down {P : Nat → Prop} (n : Nat) (h0 : P n) (hs : ∀ i, i < n → P (i + 1) → P i) : ∀ i, i ≤ n → P i := by
  intro i hi
  obtain ⟨d, rfl⟩ := Nat.exists_eq_add_of_le hi
  induction d generalizing i with
  | zero => exact h0
  | succ d ih => exact hs i (by omega) (ih (i + 1) (by rw [show i + 1 + d = i + (d + 1) by omega]; exact h0) (fun j hj => hs j (by omega)) (by omega))
def fe_up {α : Type} (f : Int → α) (i : Int) (v : α) : Int → α := fun j => if j = i then v else f j
def fe_un {α : Type} (f : Nat → α) (i : Nat) (v : α) : Nat → α := fun j => if j = i then v else f j

theorem fe_bor {p : Bool} : (p = false ∨ p = true) = True := by cases p <;> decide
theorem fe_bt01 {p : Bool} : (if p = true then fe_z 1 else fe_z 0) = fe_bi p := by cases p <;> rfl
theorem fe_iff {E : fe_E} {y pc : Nat} {ls : fe_Ls} {st : List Value} {h h0 : fe_H} {r0 : fe_R} {K : fe_R → fe_H → Prop} (H : ∀ K : fe_R → fe_H → Prop, K r0 h0 → fe_WP E y pc ls st h K) : fe_WP E y pc ls st h K ↔ K r0 h0 := fe_wp_iff (H _ ⟨rfl, rfl⟩)
theorem fe_cs (i : Nat) : ((i + 1 : Nat) : Int) = (i : Int) + 1 := rfl
def fe_all (f : Nat → Bool) : Nat → Bool
  | 0 => true
  | n + 1 => fe_all f n && f n
theorem fe_all_iff {f : Nat → Bool} {n : Nat} : fe_all f n = true ↔ ∀ k, k < n → f k = true := by
  induction n with
  | zero => simp [fe_all]
  | succ n ih =>
    simp only [fe_all, Bool.and_eq_true, ih]
    constructor
    · rintro ⟨h1, h2⟩ k hk
      rcases Nat.lt_succ_iff_lt_or_eq.mp hk with h | rfl
      · exact h1 k h
      · exact h2
    · exact fun h => ⟨fun k hk => h k (by omega), h n (by omega)⟩
noncomputable def fe_B (p : Prop) : Bool := @decide p (Classical.propDecidable p)
theorem fe_B_t {p : Prop} : fe_B p = true ↔ p := by
  unfold fe_B
  exact @decide_eq_true_iff p (Classical.propDecidable p)
theorem fe_B_f {p : Prop} : fe_B p = false ↔ ¬ p := by
  unfold fe_B
  exact @decide_eq_false_iff_not p (Classical.propDecidable p)
theorem fe_B_pos {p : Prop} (h : p) : fe_B p = true := fe_B_t.mpr h
theorem fe_B_neg {p : Prop} (h : ¬ p) : fe_B p = false := fe_B_f.mpr h
theorem fe_B_eq {p : Prop} {q : Bool} (h : q = true ↔ p) : fe_B p = q := by
  cases q with
  | true => exact fe_B_pos (h.mp rfl)
  | false => exact fe_B_neg (fun hp => by have := h.mpr hp; cases this)
theorem fe_B_congr {p q : Prop} (h : p ↔ q) : fe_B p = fe_B q := by rw [propext h]
def fe_mn (f : Nat → Int) : Nat → Int
  | 0 => 2147483647
  | n + 1 => min (fe_mn f n) (f n)
def fe_mx (f : Nat → Int) : Nat → Int
  | 0 => -2147483648
  | n + 1 => max (fe_mx f n) (f n)
theorem fe_mn_bd {f : Nat → Int} {n : Nat} (h : ∀ k, k < n → -2147483648 ≤ f k ∧ f k ≤ 2147483647) : -2147483648 ≤ fe_mn f n ∧ fe_mn f n ≤ 2147483647 := by
  induction n with
  | zero => simp [fe_mn]
  | succ n ih =>
    have := ih (fun k hk => h k (by omega))
    have := h n (by omega)
    simp only [fe_mn]
    omega
theorem fe_mx_bd {f : Nat → Int} {n : Nat} (h : ∀ k, k < n → -2147483648 ≤ f k ∧ f k ≤ 2147483647) : -2147483648 ≤ fe_mx f n ∧ fe_mx f n ≤ 2147483647 := by
  induction n with
  | zero => simp [fe_mx]
  | succ n ih =>
    have := ih (fun k hk => h k (by omega))
    have := h n (by omega)
    simp only [fe_mx]
    omega
theorem fe_mn_le {f : Nat → Int} {n : Nat} {z : Int} : z ≤ fe_mn f n ↔ z ≤ 2147483647 ∧ ∀ k, k < n → z ≤ f k := by
  induction n with
  | zero => simp [fe_mn]
  | succ n ih =>
    simp only [fe_mn]
    rw [Int.le_min, ih]
    constructor
    · rintro ⟨⟨h1, h2⟩, h3⟩
      refine ⟨h1, fun k hk => ?_⟩
      rcases Nat.lt_succ_iff_lt_or_eq.mp hk with h | rfl
      · exact h2 k h
      · exact h3
    · exact fun ⟨h1, h2⟩ => ⟨⟨h1, fun k hk => h2 k (by omega)⟩, h2 n (by omega)⟩
theorem fe_mx_le {f : Nat → Int} {n : Nat} {z : Int} : fe_mx f n ≤ z ↔ -2147483648 ≤ z ∧ ∀ k, k < n → f k ≤ z := by
  induction n with
  | zero => simp [fe_mx]
  | succ n ih =>
    simp only [fe_mx]
    rw [Int.max_le, ih]
    constructor
    · rintro ⟨⟨h1, h2⟩, h3⟩
      refine ⟨h1, fun k hk => ?_⟩
      rcases Nat.lt_succ_iff_lt_or_eq.mp hk with h | rfl
      · exact h2 k h
      · exact h3
    · exact fun ⟨h1, h2⟩ => ⟨⟨h1, fun k hk => h2 k (by omega)⟩, h2 n (by omega)⟩
theorem fe_k1 {K : fe_R → fe_H → Prop} {h : fe_H} {p : Bool} (hp : p = true) : K (.inl (some (.int (fe_z 1)))) h ↔ K (.inl (some (.int (fe_bi p)))) h := by subst hp; exact Iff.rfl
theorem fe_k0 {K : fe_R → fe_H → Prop} {h : fe_H} {p : Bool} (hp : p = false) : K (.inl (some (.int (fe_z 0)))) h ↔ K (.inl (some (.int (fe_bi p)))) h := by subst hp; exact Iff.rfl
theorem fe_un_at {α : Type} {f : Nat → α} {i j : Nat} {v : α} : fe_un f i v j = if j = i then v else f j := rfl
theorem fe_up_at {α : Type} {f : Int → α} {i j : Int} {v : α} : fe_up f i v j = if j = i then v else f j := rfl
def fe_cnt (f : Nat → Bool) : Nat → Int
  | 0 => 0
  | n + 1 => fe_cnt f n + (if f n then 1 else 0)
theorem fe_cnt_bd {f : Nat → Bool} {n : Nat} : 0 ≤ fe_cnt f n ∧ fe_cnt f n ≤ n := by
  induction n with
  | zero => simp [fe_cnt]
  | succ n ih =>
    simp only [fe_cnt]
    split <;> omega
def fe_bits (f : Nat → Bool) : Nat → Nat
  | 0 => 0
  | n + 1 => fe_bits f n ||| (if f n then 2 ^ n else 0)
theorem fe_bits_test {f : Nat → Bool} {n i : Nat} : (fe_bits f n).testBit i = (decide (i < n) && f i) := by
  induction n with
  | zero => simp [fe_bits]
  | succ n ih =>
    simp only [fe_bits, Nat.testBit_or, ih]
    by_cases h : f n = true
    · simp only [h, if_true, Nat.testBit_two_pow]
      by_cases hi : n = i
      · subst hi
        simp [h]
      · simp only [hi, decide_false, Bool.or_false]
        by_cases h2 : i < n
        · simp [h2, show i < n + 1 by omega]
        · simp [h2, show ¬ i < n + 1 by omega]
    · simp only [h, Bool.false_eq_true, if_false, Nat.zero_testBit, Bool.or_false]
      by_cases hi : i = n
      · subst hi
        simp [h]
      · by_cases h2 : i < n
        · simp [h2, show i < n + 1 by omega]
        · simp [h2, show ¬ i < n + 1 by omega]
theorem fe_bits_lt {f : Nat → Bool} {n : Nat} : fe_bits f n < 2 ^ n := by
  apply Nat.lt_pow_two_of_testBit
  intro i hi
  rw [fe_bits_test]
  simp [show ¬ i < n by omega]

/-! the geometry: what a shut cell stands in the way of -/
def fe_hx (u : Int) (i : Nat) : Int := match i with
  | 0 => u
  | 1 => u + 1
  | 2 => u
  | 3 => u + 1
  | _ => 0
def fe_hy (v : Int) (i : Nat) : Int := match i with
  | 0 => v
  | 1 => v
  | 2 => v + 1
  | 3 => v + 1
  | _ => 0
theorem fe_lt5 {i : Nat} (h : i < 5) : i = 0 ∨ i = 1 ∨ i = 2 ∨ i = 3 ∨ i = 4 := by omega
theorem fe_lt4 {i : Nat} (h : i < 4) : i = 0 ∨ i = 1 ∨ i = 2 ∨ i = 3 := by omega
theorem fe_fx_h {x cell : Int} {i : Nat} (hi : i < 5) : fe_fx x cell i = x + fe_hx (cell % 16 - x) i := by
  rcases fe_lt5 hi with rfl | rfl | rfl | rfl | rfl <;> simp [fe_fx, fe_hx] <;> omega
theorem fe_fy_h {y cell : Int} {i : Nat} (hi : i < 5) : fe_fy y cell i = y + fe_hy (cell / 16 - y) i := by
  rcases fe_lt5 hi with rfl | rfl | rfl | rfl | rfl <;> simp [fe_fy, fe_hy] <;> omega
theorem fe_cx_h {x cell : Int} {j : Nat} (hj : j < 4) : cell % 16 + (j : Int) % 2 = x + fe_hx (cell % 16 - x) j := by
  rcases fe_lt4 hj with rfl | rfl | rfl | rfl <;> simp [fe_hx] <;> omega
theorem fe_cy_h {y cell : Int} {j : Nat} (hj : j < 4) : cell / 16 + (j : Int) / 2 = y + fe_hy (cell / 16 - y) j := by
  rcases fe_lt4 hj with rfl | rfl | rfl | rfl <;> simp [fe_hy] <;> omega
theorem fe_prt_iff {fx fy : Int → Int} {fr : Int} {many : Nat} {dx dy cell : Int} (hm : 0 < many) (hv : ∀ i : Nat, i < many → -2147483648 ≤ dx * fy (fr + i) - dy * fx (fr + i) ∧ dx * fy (fr + i) - dy * fx (fr + i) ≤ 2147483647) (hw : ∀ j : Nat, j < 4 → -2147483648 ≤ dx * (cell / 16 + (j : Int) / 2) - dy * (cell % 16 + (j : Int) % 2) ∧ dx * (cell / 16 + (j : Int) / 2) - dy * (cell % 16 + (j : Int) % 2) ≤ 2147483647) : fe_prt fx fy fr many dx dy cell = true ↔ (∀ i : Nat, i < many → ∀ j : Nat, j < 4 → dx * fy (fr + i) - dy * fx (fr + i) ≤ dx * (cell / 16 + (j : Int) / 2) - dy * (cell % 16 + (j : Int) % 2)) ∨ (∀ i : Nat, i < many → ∀ j : Nat, j < 4 → dx * (cell / 16 + (j : Int) / 2) - dy * (cell % 16 + (j : Int) % 2) ≤ dx * fy (fr + i) - dy * fx (fr + i)) := by
  unfold fe_prt
  rw [Bool.or_eq_true, decide_eq_true_eq, decide_eq_true_eq, fe_mx_le, fe_mx_le]
  have h1 := fe_mn_bd (f := fun j : Nat => dx * (cell / 16 + (j : Int) / 2) - dy * (cell % 16 + (j : Int) % 2)) (n := 4) hw
  have h2 := fe_mn_bd (f := fun i : Nat => dx * fy (fr + i) - dy * fx (fr + i)) (n := many) hv
  constructor
  · rintro (⟨-, h⟩ | ⟨-, h⟩)
    · exact Or.inl (fun i hi j hj => (fe_mn_le.mp (h i hi)).2 j hj)
    · exact Or.inr (fun i hi j hj => (fe_mn_le.mp (h j hj)).2 i hi)
  · rintro (h | h)
    · exact Or.inl ⟨h1.1, fun i hi => fe_mn_le.mpr ⟨(hv i hi).2, fun j hj => h i hi j hj⟩⟩
    · exact Or.inr ⟨h2.1, fun j hj => fe_mn_le.mpr ⟨(hw j hj).2, fun i hi => h i hi j hj⟩⟩
theorem fe_core {u v s t α β : Int} (hs : 0 ≤ s) (hsu : s ≤ u) (ht : 0 ≤ t) (htv : t ≤ v) (hA : v * s < (u + 1) * (t + 1)) (hB : u * t < (v + 1) * (s + 1)) (h0 : ¬ (α = 0 ∧ β = 0)) : α * s + β * t < α * (u + 1) + β * (v + 1) ∨ α * (s + 1) + β * (t + 1) < 0 ∨ α * s + β * (t + 1) < 0 ∨ α * s + β * (t + 1) < α * (u + 1) + β * v ∨ α * (s + 1) + β * t < 0 ∨ α * (s + 1) + β * t < α * u + β * (v + 1) := by
  by_cases a0 : 0 < α
  · by_cases b0 : 0 ≤ β
    · refine Or.inl ?_
      have p1 : 0 < α * (u + 1 - s) := Int.mul_pos a0 (by omega)
      have p2 : 0 ≤ β * (v + 1 - t) := Int.mul_nonneg b0 (by omega)
      simp only [Int.mul_sub, Int.mul_add, Int.mul_one] at p1 p2 ⊢
      omega
    · refine Or.inr (Or.inr ?_)
      by_cases d3 : α * s + β * (t + 1) < 0
      · exact Or.inl d3
      · by_cases d4 : α * s + β * (t + 1) < α * (u + 1) + β * v
        · exact Or.inr (Or.inl d4)
        · exfalso
          have i1 : -β * (t + 1) ≤ α * s := by rw [Int.neg_mul]; omega
          have i2 : α * (u + 1 - s) ≤ -β * (v - t - 1) := by
            rw [Int.neg_mul]
            simp only [Int.mul_sub, Int.mul_add, Int.mul_one] at d4 ⊢
            omega
          have j1 := Int.mul_le_mul_of_nonneg_right i1 (show 0 ≤ u + 1 - s by omega)
          have j2 := Int.mul_le_mul_of_nonneg_right i2 hs
          rw [Int.mul_right_comm α (u + 1 - s) s] at j2
          have j3 := Int.le_trans j1 j2
          rw [Int.mul_assoc, Int.mul_assoc] at j3
          have j4 := Int.le_of_mul_le_mul_left j3 (by omega)
          simp only [Int.mul_sub, Int.mul_add, Int.add_mul, Int.sub_mul, Int.mul_one, Int.one_mul] at j4 hA
          rw [Int.mul_comm u t] at hA
          omega
  · by_cases b0 : 0 < β
    · by_cases a1 : α = 0
      · subst a1
        refine Or.inl ?_
        have p2 : 0 < β * (v + 1 - t) := Int.mul_pos b0 (by omega)
        simp only [Int.mul_sub, Int.mul_add, Int.mul_one, Int.zero_mul] at p2 ⊢
        omega
      · refine Or.inr (Or.inr (Or.inr (Or.inr ?_)))
        by_cases d5 : α * (s + 1) + β * t < 0
        · exact Or.inl d5
        · by_cases d6 : α * (s + 1) + β * t < α * u + β * (v + 1)
          · exact Or.inr d6
          · exfalso
            have i1 : -α * (s + 1) ≤ β * t := by rw [Int.neg_mul]; omega
            have i2 : β * (v + 1 - t) ≤ -α * (u - s - 1) := by
              rw [Int.neg_mul]
              simp only [Int.mul_sub, Int.mul_add, Int.mul_one] at d6 ⊢
              omega
            have j1 := Int.mul_le_mul_of_nonneg_right i1 (show 0 ≤ v + 1 - t by omega)
            have j2 := Int.mul_le_mul_of_nonneg_right i2 ht
            rw [Int.mul_right_comm β (v + 1 - t) t] at j2
            have j3 := Int.le_trans j1 j2
            rw [Int.mul_assoc, Int.mul_assoc] at j3
            have j4 := Int.le_of_mul_le_mul_left j3 (by omega)
            simp only [Int.mul_sub, Int.mul_add, Int.add_mul, Int.sub_mul, Int.mul_one, Int.one_mul] at j4 hB
            rw [Int.mul_comm v s] at hB
            omega
    · refine Or.inr (Or.inl ?_)
      by_cases a1 : α = 0
      · have p2 : 0 < -β * (t + 1) := Int.mul_pos (by omega) (by omega)
        rw [Int.neg_mul] at p2
        rw [a1, Int.zero_mul]
        omega
      · have p1 : 0 < -α * (s + 1) := Int.mul_pos (by omega) (by omega)
        have p2 : 0 ≤ -β * (t + 1) := Int.mul_nonneg (by omega) (by omega)
        rw [Int.neg_mul] at p1 p2
        omega
/-- the first by direction, and the last -/
def fe_ex1 (a c u v : Int) : Prop := (∃ i : Nat, i < 4 ∧ a = fe_hx u i ∧ c = fe_hy v i) ∧ ¬ (a = 0 ∧ c = 0) ∧ ∀ i : Nat, i < 4 → 0 ≤ a * fe_hy v i - c * fe_hx u i
def fe_ex2 (a c u v : Int) : Prop := (∃ i : Nat, i < 4 ∧ a = fe_hx u i ∧ c = fe_hy v i) ∧ ¬ (a = 0 ∧ c = 0) ∧ ∀ i : Nat, i < 4 → a * fe_hy v i - c * fe_hx u i ≤ 0
theorem fe_gq11 {u v s t a c : Int} (hu : 0 ≤ u) (hv : 0 ≤ v) (hs : 0 ≤ s ∧ s ≤ u) (ht : 0 ≤ t ∧ t ≤ v) (hf : fe_ex1 a c u v) (h : 0 < a * t - c * s + (max a 0 + max (-c) 0)) : v * s < (u + 1) * (t + 1) := by
  obtain ⟨⟨i, hi, rfl, rfl⟩, hne, hall⟩ := hf
  have z1 : v = 0 → v * s = 0 := fun h => by rw [h, Int.zero_mul]
  have z2 : v = -1 → v * s = -s := fun h => by rw [h, Int.neg_mul, Int.one_mul]
  have z3 : u = 0 → u * t = 0 := fun h => by rw [h, Int.zero_mul]
  have z4 : u = -1 → u * t = -t := fun h => by rw [h, Int.neg_mul, Int.one_mul]
  have e0 := hall 0 (by omega)
  have e1 := hall 1 (by omega)
  have e2 := hall 2 (by omega)
  have e3 := hall 3 (by omega)
  have cm : v * u = u * v := Int.mul_comm ..
  clear hall
  rcases fe_lt4 hi with rfl | rfl | rfl | rfl
  all_goals
    simp only [fe_hx, fe_hy, Int.mul_sub, Int.mul_add, Int.add_mul, Int.sub_mul, Int.mul_one, Int.one_mul, Int.neg_mul, Int.mul_neg, Int.neg_neg] at e0 e1 e2 e3 h hne ⊢
    omega
theorem fe_gq12 {u v s t a c : Int} (hu : 0 ≤ u) (hv : 0 ≤ v) (hs : 0 ≤ s ∧ s ≤ u) (ht : 0 ≤ t ∧ t ≤ v) (hf : fe_ex2 a c u v) (h : a * t - c * s + (min a 0 + min (-c) 0) < 0) : u * t < (v + 1) * (s + 1) := by
  obtain ⟨⟨i, hi, rfl, rfl⟩, hne, hall⟩ := hf
  have z1 : v = 0 → v * s = 0 := fun h => by rw [h, Int.zero_mul]
  have z2 : v = -1 → v * s = -s := fun h => by rw [h, Int.neg_mul, Int.one_mul]
  have z3 : u = 0 → u * t = 0 := fun h => by rw [h, Int.zero_mul]
  have z4 : u = -1 → u * t = -t := fun h => by rw [h, Int.neg_mul, Int.one_mul]
  have e0 := hall 0 (by omega)
  have e1 := hall 1 (by omega)
  have e2 := hall 2 (by omega)
  have e3 := hall 3 (by omega)
  have cm : v * u = u * v := Int.mul_comm ..
  clear hall
  rcases fe_lt4 hi with rfl | rfl | rfl | rfl
  all_goals
    simp only [fe_hx, fe_hy, Int.mul_sub, Int.mul_add, Int.add_mul, Int.sub_mul, Int.mul_one, Int.one_mul, Int.neg_mul, Int.mul_neg, Int.neg_neg] at e0 e1 e2 e3 h hne ⊢
    omega
theorem fe_gq21 {u v s t a c : Int} (hu : u ≤ -1) (hv : 0 ≤ v) (hs : u ≤ s ∧ s ≤ -1) (ht : 0 ≤ t ∧ t ≤ v) (hf : fe_ex1 a c u v) (h : 0 < a * t - c * s + (max a 0 + max (-c) 0)) : (-1 - u) * t < (v + 1) * (-1 - s + 1) := by
  obtain ⟨⟨i, hi, rfl, rfl⟩, hne, hall⟩ := hf
  have z1 : v = 0 → v * s = 0 := fun h => by rw [h, Int.zero_mul]
  have z2 : v = -1 → v * s = -s := fun h => by rw [h, Int.neg_mul, Int.one_mul]
  have z3 : u = 0 → u * t = 0 := fun h => by rw [h, Int.zero_mul]
  have z4 : u = -1 → u * t = -t := fun h => by rw [h, Int.neg_mul, Int.one_mul]
  have e0 := hall 0 (by omega)
  have e1 := hall 1 (by omega)
  have e2 := hall 2 (by omega)
  have e3 := hall 3 (by omega)
  have cm : v * u = u * v := Int.mul_comm ..
  clear hall
  rcases fe_lt4 hi with rfl | rfl | rfl | rfl
  all_goals
    simp only [fe_hx, fe_hy, Int.mul_sub, Int.mul_add, Int.add_mul, Int.sub_mul, Int.mul_one, Int.one_mul, Int.neg_mul, Int.mul_neg, Int.neg_neg] at e0 e1 e2 e3 h hne ⊢
    omega
theorem fe_gq22 {u v s t a c : Int} (hu : u ≤ -1) (hv : 0 ≤ v) (hs : u ≤ s ∧ s ≤ -1) (ht : 0 ≤ t ∧ t ≤ v) (hf : fe_ex2 a c u v) (h : a * t - c * s + (min a 0 + min (-c) 0) < 0) : v * (-1 - s) < (-1 - u + 1) * (t + 1) := by
  obtain ⟨⟨i, hi, rfl, rfl⟩, hne, hall⟩ := hf
  have z1 : v = 0 → v * s = 0 := fun h => by rw [h, Int.zero_mul]
  have z2 : v = -1 → v * s = -s := fun h => by rw [h, Int.neg_mul, Int.one_mul]
  have z3 : u = 0 → u * t = 0 := fun h => by rw [h, Int.zero_mul]
  have z4 : u = -1 → u * t = -t := fun h => by rw [h, Int.neg_mul, Int.one_mul]
  have e0 := hall 0 (by omega)
  have e1 := hall 1 (by omega)
  have e2 := hall 2 (by omega)
  have e3 := hall 3 (by omega)
  have cm : v * u = u * v := Int.mul_comm ..
  clear hall
  rcases fe_lt4 hi with rfl | rfl | rfl | rfl
  all_goals
    simp only [fe_hx, fe_hy, Int.mul_sub, Int.mul_add, Int.add_mul, Int.sub_mul, Int.mul_one, Int.one_mul, Int.neg_mul, Int.mul_neg, Int.neg_neg] at e0 e1 e2 e3 h hne ⊢
    omega
theorem fe_gq31 {u v s t a c : Int} (hu : u ≤ -1) (hv : v ≤ -1) (hs : u ≤ s ∧ s ≤ -1) (ht : v ≤ t ∧ t ≤ -1) (hf : fe_ex1 a c u v) (h : 0 < a * t - c * s + (max a 0 + max (-c) 0)) : (-1 - v) * (-1 - s) < (-1 - u + 1) * (-1 - t + 1) := by
  obtain ⟨⟨i, hi, rfl, rfl⟩, hne, hall⟩ := hf
  have z1 : v = 0 → v * s = 0 := fun h => by rw [h, Int.zero_mul]
  have z2 : v = -1 → v * s = -s := fun h => by rw [h, Int.neg_mul, Int.one_mul]
  have z3 : u = 0 → u * t = 0 := fun h => by rw [h, Int.zero_mul]
  have z4 : u = -1 → u * t = -t := fun h => by rw [h, Int.neg_mul, Int.one_mul]
  have e0 := hall 0 (by omega)
  have e1 := hall 1 (by omega)
  have e2 := hall 2 (by omega)
  have e3 := hall 3 (by omega)
  have cm : v * u = u * v := Int.mul_comm ..
  clear hall
  rcases fe_lt4 hi with rfl | rfl | rfl | rfl
  all_goals
    simp only [fe_hx, fe_hy, Int.mul_sub, Int.mul_add, Int.add_mul, Int.sub_mul, Int.mul_one, Int.one_mul, Int.neg_mul, Int.mul_neg, Int.neg_neg] at e0 e1 e2 e3 h hne ⊢
    omega
theorem fe_gq32 {u v s t a c : Int} (hu : u ≤ -1) (hv : v ≤ -1) (hs : u ≤ s ∧ s ≤ -1) (ht : v ≤ t ∧ t ≤ -1) (hf : fe_ex2 a c u v) (h : a * t - c * s + (min a 0 + min (-c) 0) < 0) : (-1 - u) * (-1 - t) < (-1 - v + 1) * (-1 - s + 1) := by
  obtain ⟨⟨i, hi, rfl, rfl⟩, hne, hall⟩ := hf
  have z1 : v = 0 → v * s = 0 := fun h => by rw [h, Int.zero_mul]
  have z2 : v = -1 → v * s = -s := fun h => by rw [h, Int.neg_mul, Int.one_mul]
  have z3 : u = 0 → u * t = 0 := fun h => by rw [h, Int.zero_mul]
  have z4 : u = -1 → u * t = -t := fun h => by rw [h, Int.neg_mul, Int.one_mul]
  have e0 := hall 0 (by omega)
  have e1 := hall 1 (by omega)
  have e2 := hall 2 (by omega)
  have e3 := hall 3 (by omega)
  have cm : v * u = u * v := Int.mul_comm ..
  clear hall
  rcases fe_lt4 hi with rfl | rfl | rfl | rfl
  all_goals
    simp only [fe_hx, fe_hy, Int.mul_sub, Int.mul_add, Int.add_mul, Int.sub_mul, Int.mul_one, Int.one_mul, Int.neg_mul, Int.mul_neg, Int.neg_neg] at e0 e1 e2 e3 h hne ⊢
    omega
theorem fe_gq41 {u v s t a c : Int} (hu : 0 ≤ u) (hv : v ≤ -1) (hs : 0 ≤ s ∧ s ≤ u) (ht : v ≤ t ∧ t ≤ -1) (hf : fe_ex1 a c u v) (h : 0 < a * t - c * s + (max a 0 + max (-c) 0)) : u * (-1 - t) < (-1 - v + 1) * (s + 1) := by
  obtain ⟨⟨i, hi, rfl, rfl⟩, hne, hall⟩ := hf
  have z1 : v = 0 → v * s = 0 := fun h => by rw [h, Int.zero_mul]
  have z2 : v = -1 → v * s = -s := fun h => by rw [h, Int.neg_mul, Int.one_mul]
  have z3 : u = 0 → u * t = 0 := fun h => by rw [h, Int.zero_mul]
  have z4 : u = -1 → u * t = -t := fun h => by rw [h, Int.neg_mul, Int.one_mul]
  have e0 := hall 0 (by omega)
  have e1 := hall 1 (by omega)
  have e2 := hall 2 (by omega)
  have e3 := hall 3 (by omega)
  have cm : v * u = u * v := Int.mul_comm ..
  clear hall
  rcases fe_lt4 hi with rfl | rfl | rfl | rfl
  all_goals
    simp only [fe_hx, fe_hy, Int.mul_sub, Int.mul_add, Int.add_mul, Int.sub_mul, Int.mul_one, Int.one_mul, Int.neg_mul, Int.mul_neg, Int.neg_neg] at e0 e1 e2 e3 h hne ⊢
    omega
theorem fe_gq42 {u v s t a c : Int} (hu : 0 ≤ u) (hv : v ≤ -1) (hs : 0 ≤ s ∧ s ≤ u) (ht : v ≤ t ∧ t ≤ -1) (hf : fe_ex2 a c u v) (h : a * t - c * s + (min a 0 + min (-c) 0) < 0) : (-1 - v) * s < (u + 1) * (-1 - t + 1) := by
  obtain ⟨⟨i, hi, rfl, rfl⟩, hne, hall⟩ := hf
  have z1 : v = 0 → v * s = 0 := fun h => by rw [h, Int.zero_mul]
  have z2 : v = -1 → v * s = -s := fun h => by rw [h, Int.neg_mul, Int.one_mul]
  have z3 : u = 0 → u * t = 0 := fun h => by rw [h, Int.zero_mul]
  have z4 : u = -1 → u * t = -t := fun h => by rw [h, Int.neg_mul, Int.one_mul]
  have e0 := hall 0 (by omega)
  have e1 := hall 1 (by omega)
  have e2 := hall 2 (by omega)
  have e3 := hall 3 (by omega)
  have cm : v * u = u * v := Int.mul_comm ..
  clear hall
  rcases fe_lt4 hi with rfl | rfl | rfl | rfl
  all_goals
    simp only [fe_hx, fe_hy, Int.mul_sub, Int.mul_add, Int.add_mul, Int.sub_mul, Int.mul_one, Int.one_mul, Int.neg_mul, Int.mul_neg, Int.neg_neg] at e0 e1 e2 e3 h hne ⊢
    omega
theorem fe_block {u v s t a c a' c' α β : Int} (hf : fe_ex1 a c u v) (hl : fe_ex2 a' c' u v) (hx1 : min 0 u ≤ s) (hx2 : s < max 0 (u + 1)) (hy1 : min 0 v ≤ t) (hy2 : t < max 0 (v + 1)) (h1 : 0 < a * t - c * s + (max a 0 + max (-c) 0)) (h2 : a' * t - c' * s + (min a' 0 + min (-c') 0) < 0) (h0 : ¬ (α = 0 ∧ β = 0)) : ∃ i j : Nat, i < 5 ∧ j < 4 ∧ α * fe_hx s j + β * fe_hy t j < α * fe_hx u i + β * fe_hy v i := by
  by_cases hu : 0 ≤ u
  · by_cases hv : 0 ≤ v
    · have hA := fe_gq11 (by omega) (by omega) (by omega) (by omega) hf h1
      have hB := fe_gq12 (by omega) (by omega) (by omega) (by omega) hl h2
      have key := fe_core (u := u) (v := v) (s := s) (t := t) (α := α) (β := β) (by omega) (by omega) (by omega) (by omega) hA hB (by omega)
      rcases key with k | k | k | k | k | k
      · refine ⟨3, 0, by omega, by omega, ?_⟩
        show α * s + β * t < α * (u + 1) + β * (v + 1)
        simp only [Int.mul_sub, Int.mul_add, Int.add_mul, Int.sub_mul, Int.mul_one, Int.one_mul, Int.neg_mul, Int.mul_neg, Int.neg_neg, Int.mul_zero] at k ⊢
        omega
      · refine ⟨4, 3, by omega, by omega, ?_⟩
        show α * (s + 1) + β * (t + 1) < α * 0 + β * 0
        simp only [Int.mul_sub, Int.mul_add, Int.add_mul, Int.sub_mul, Int.mul_one, Int.one_mul, Int.neg_mul, Int.mul_neg, Int.neg_neg, Int.mul_zero] at k ⊢
        omega
      · refine ⟨4, 2, by omega, by omega, ?_⟩
        show α * s + β * (t + 1) < α * 0 + β * 0
        simp only [Int.mul_sub, Int.mul_add, Int.add_mul, Int.sub_mul, Int.mul_one, Int.one_mul, Int.neg_mul, Int.mul_neg, Int.neg_neg, Int.mul_zero] at k ⊢
        omega
      · refine ⟨1, 2, by omega, by omega, ?_⟩
        show α * s + β * (t + 1) < α * (u + 1) + β * v
        simp only [Int.mul_sub, Int.mul_add, Int.add_mul, Int.sub_mul, Int.mul_one, Int.one_mul, Int.neg_mul, Int.mul_neg, Int.neg_neg, Int.mul_zero] at k ⊢
        omega
      · refine ⟨4, 1, by omega, by omega, ?_⟩
        show α * (s + 1) + β * t < α * 0 + β * 0
        simp only [Int.mul_sub, Int.mul_add, Int.add_mul, Int.sub_mul, Int.mul_one, Int.one_mul, Int.neg_mul, Int.mul_neg, Int.neg_neg, Int.mul_zero] at k ⊢
        omega
      · refine ⟨2, 1, by omega, by omega, ?_⟩
        show α * (s + 1) + β * t < α * u + β * (v + 1)
        simp only [Int.mul_sub, Int.mul_add, Int.add_mul, Int.sub_mul, Int.mul_one, Int.one_mul, Int.neg_mul, Int.mul_neg, Int.neg_neg, Int.mul_zero] at k ⊢
        omega
    · have hA := fe_gq42 (by omega) (by omega) (by omega) (by omega) hl h2
      have hB := fe_gq41 (by omega) (by omega) (by omega) (by omega) hf h1
      have key := fe_core (u := u) (v := (-1 - v)) (s := s) (t := (-1 - t)) (α := α) (β := -β) (by omega) (by omega) (by omega) (by omega) hA hB (by omega)
      rcases key with k | k | k | k | k | k
      · refine ⟨1, 2, by omega, by omega, ?_⟩
        show α * s + β * (t + 1) < α * (u + 1) + β * v
        simp only [Int.mul_sub, Int.mul_add, Int.add_mul, Int.sub_mul, Int.mul_one, Int.one_mul, Int.neg_mul, Int.mul_neg, Int.neg_neg, Int.mul_zero] at k ⊢
        omega
      · refine ⟨4, 1, by omega, by omega, ?_⟩
        show α * (s + 1) + β * t < α * 0 + β * 0
        simp only [Int.mul_sub, Int.mul_add, Int.add_mul, Int.sub_mul, Int.mul_one, Int.one_mul, Int.neg_mul, Int.mul_neg, Int.neg_neg, Int.mul_zero] at k ⊢
        omega
      · refine ⟨4, 0, by omega, by omega, ?_⟩
        show α * s + β * t < α * 0 + β * 0
        simp only [Int.mul_sub, Int.mul_add, Int.add_mul, Int.sub_mul, Int.mul_one, Int.one_mul, Int.neg_mul, Int.mul_neg, Int.neg_neg, Int.mul_zero] at k ⊢
        omega
      · refine ⟨3, 0, by omega, by omega, ?_⟩
        show α * s + β * t < α * (u + 1) + β * (v + 1)
        simp only [Int.mul_sub, Int.mul_add, Int.add_mul, Int.sub_mul, Int.mul_one, Int.one_mul, Int.neg_mul, Int.mul_neg, Int.neg_neg, Int.mul_zero] at k ⊢
        omega
      · refine ⟨4, 3, by omega, by omega, ?_⟩
        show α * (s + 1) + β * (t + 1) < α * 0 + β * 0
        simp only [Int.mul_sub, Int.mul_add, Int.add_mul, Int.sub_mul, Int.mul_one, Int.one_mul, Int.neg_mul, Int.mul_neg, Int.neg_neg, Int.mul_zero] at k ⊢
        omega
      · refine ⟨0, 3, by omega, by omega, ?_⟩
        show α * (s + 1) + β * (t + 1) < α * u + β * v
        simp only [Int.mul_sub, Int.mul_add, Int.add_mul, Int.sub_mul, Int.mul_one, Int.one_mul, Int.neg_mul, Int.mul_neg, Int.neg_neg, Int.mul_zero] at k ⊢
        omega
  · by_cases hv : 0 ≤ v
    · have hA := fe_gq22 (by omega) (by omega) (by omega) (by omega) hl h2
      have hB := fe_gq21 (by omega) (by omega) (by omega) (by omega) hf h1
      have key := fe_core (u := (-1 - u)) (v := v) (s := (-1 - s)) (t := t) (α := -α) (β := β) (by omega) (by omega) (by omega) (by omega) hA hB (by omega)
      rcases key with k | k | k | k | k | k
      · refine ⟨2, 1, by omega, by omega, ?_⟩
        show α * (s + 1) + β * t < α * u + β * (v + 1)
        simp only [Int.mul_sub, Int.mul_add, Int.add_mul, Int.sub_mul, Int.mul_one, Int.one_mul, Int.neg_mul, Int.mul_neg, Int.neg_neg, Int.mul_zero] at k ⊢
        omega
      · refine ⟨4, 2, by omega, by omega, ?_⟩
        show α * s + β * (t + 1) < α * 0 + β * 0
        simp only [Int.mul_sub, Int.mul_add, Int.add_mul, Int.sub_mul, Int.mul_one, Int.one_mul, Int.neg_mul, Int.mul_neg, Int.neg_neg, Int.mul_zero] at k ⊢
        omega
      · refine ⟨4, 3, by omega, by omega, ?_⟩
        show α * (s + 1) + β * (t + 1) < α * 0 + β * 0
        simp only [Int.mul_sub, Int.mul_add, Int.add_mul, Int.sub_mul, Int.mul_one, Int.one_mul, Int.neg_mul, Int.mul_neg, Int.neg_neg, Int.mul_zero] at k ⊢
        omega
      · refine ⟨0, 3, by omega, by omega, ?_⟩
        show α * (s + 1) + β * (t + 1) < α * u + β * v
        simp only [Int.mul_sub, Int.mul_add, Int.add_mul, Int.sub_mul, Int.mul_one, Int.one_mul, Int.neg_mul, Int.mul_neg, Int.neg_neg, Int.mul_zero] at k ⊢
        omega
      · refine ⟨4, 0, by omega, by omega, ?_⟩
        show α * s + β * t < α * 0 + β * 0
        simp only [Int.mul_sub, Int.mul_add, Int.add_mul, Int.sub_mul, Int.mul_one, Int.one_mul, Int.neg_mul, Int.mul_neg, Int.neg_neg, Int.mul_zero] at k ⊢
        omega
      · refine ⟨3, 0, by omega, by omega, ?_⟩
        show α * s + β * t < α * (u + 1) + β * (v + 1)
        simp only [Int.mul_sub, Int.mul_add, Int.add_mul, Int.sub_mul, Int.mul_one, Int.one_mul, Int.neg_mul, Int.mul_neg, Int.neg_neg, Int.mul_zero] at k ⊢
        omega
    · have hA := fe_gq31 (by omega) (by omega) (by omega) (by omega) hf h1
      have hB := fe_gq32 (by omega) (by omega) (by omega) (by omega) hl h2
      have key := fe_core (u := (-1 - u)) (v := (-1 - v)) (s := (-1 - s)) (t := (-1 - t)) (α := -α) (β := -β) (by omega) (by omega) (by omega) (by omega) hA hB (by omega)
      rcases key with k | k | k | k | k | k
      · refine ⟨0, 3, by omega, by omega, ?_⟩
        show α * (s + 1) + β * (t + 1) < α * u + β * v
        simp only [Int.mul_sub, Int.mul_add, Int.add_mul, Int.sub_mul, Int.mul_one, Int.one_mul, Int.neg_mul, Int.mul_neg, Int.neg_neg, Int.mul_zero] at k ⊢
        omega
      · refine ⟨4, 0, by omega, by omega, ?_⟩
        show α * s + β * t < α * 0 + β * 0
        simp only [Int.mul_sub, Int.mul_add, Int.add_mul, Int.sub_mul, Int.mul_one, Int.one_mul, Int.neg_mul, Int.mul_neg, Int.neg_neg, Int.mul_zero] at k ⊢
        omega
      · refine ⟨4, 1, by omega, by omega, ?_⟩
        show α * (s + 1) + β * t < α * 0 + β * 0
        simp only [Int.mul_sub, Int.mul_add, Int.add_mul, Int.sub_mul, Int.mul_one, Int.one_mul, Int.neg_mul, Int.mul_neg, Int.neg_neg, Int.mul_zero] at k ⊢
        omega
      · refine ⟨2, 1, by omega, by omega, ?_⟩
        show α * (s + 1) + β * t < α * u + β * (v + 1)
        simp only [Int.mul_sub, Int.mul_add, Int.add_mul, Int.sub_mul, Int.mul_one, Int.one_mul, Int.neg_mul, Int.mul_neg, Int.neg_neg, Int.mul_zero] at k ⊢
        omega
      · refine ⟨4, 2, by omega, by omega, ?_⟩
        show α * s + β * (t + 1) < α * 0 + β * 0
        simp only [Int.mul_sub, Int.mul_add, Int.add_mul, Int.sub_mul, Int.mul_one, Int.one_mul, Int.neg_mul, Int.mul_neg, Int.neg_neg, Int.mul_zero] at k ⊢
        omega
      · refine ⟨1, 2, by omega, by omega, ?_⟩
        show α * s + β * (t + 1) < α * (u + 1) + β * v
        simp only [Int.mul_sub, Int.mul_add, Int.add_mul, Int.sub_mul, Int.mul_one, Int.one_mul, Int.neg_mul, Int.mul_neg, Int.neg_neg, Int.mul_zero] at k ⊢
        omega
/-- the beam after its corners -/
def fe_bm (B : Nat → Int) (x y cell : Int) : Prop := B 0 = x ∧ B 1 = y ∧ B 2 = min x (cell % 16) ∧ B 3 = max x (cell % 16 + 1) ∧ B 4 = min y (cell / 16) ∧ B 5 = max y (cell / 16 + 1) ∧ fe_ex1 (B 6) (B 7) (cell % 16 - x) (cell / 16 - y) ∧ fe_ex2 (B 8) (B 9) (cell % 16 - x) (cell / 16 - y)
theorem fe_hx_bd {u : Int} {i : Nat} : fe_hx u i = u ∨ fe_hx u i = u + 1 ∨ fe_hx u i = 0 := by
  unfold fe_hx
  split <;> omega
theorem fe_hy_bd {u : Int} {i : Nat} : fe_hy u i = u ∨ fe_hy u i = u + 1 ∨ fe_hy u i = 0 := by
  unfold fe_hy
  split <;> omega
theorem fe_prt_rel {x y cell k dx dy : Int} (hx : 0 ≤ x ∧ x ≤ 16) (hy : 0 ≤ y ∧ y ≤ 12) (hc : 0 ≤ cell ∧ cell < 192) (hk : 0 ≤ k ∧ k < 192) (hdx : -40 ≤ dx ∧ dx ≤ 40) (hdy : -40 ≤ dy ∧ dy ≤ 40) : fe_prt (fe_fx x cell) (fe_fy y cell) 0 5 dx dy k = true ↔ (∀ i : Nat, i < 5 → ∀ j : Nat, j < 4 → dx * fe_hy (cell / 16 - y) i - dy * fe_hx (cell % 16 - x) i ≤ dx * fe_hy (k / 16 - y) j - dy * fe_hx (k % 16 - x) j) ∨ (∀ i : Nat, i < 5 → ∀ j : Nat, j < 4 → dx * fe_hy (k / 16 - y) j - dy * fe_hx (k % 16 - x) j ≤ dx * fe_hy (cell / 16 - y) i - dy * fe_hx (cell % 16 - x) i) := by
  have bdd : ∀ p q : Int, -100 ≤ p ∧ p ≤ 100 → -100 ≤ q ∧ q ≤ 100 → -20000 ≤ dx * q - dy * p ∧ dx * q - dy * p ≤ 20000 := fun p q hp hq => by
    have a1 := fe_bd (u := dx) (v := q) 100 (by omega) (by omega) (by omega) (by omega)
    have a2 := fe_bd (u := dy) (v := p) 100 (by omega) (by omega) (by omega) (by omega)
    omega
  have e1 : ∀ i : Nat, i < 5 → dx * fe_fy y cell (0 + (i : Int)) - dy * fe_fx x cell (0 + (i : Int)) = (dx * y - dy * x) + (dx * fe_hy (cell / 16 - y) i - dy * fe_hx (cell % 16 - x) i) := fun i hi => by
    rw [Int.zero_add, fe_fx_h hi, fe_fy_h hi, Int.mul_add, Int.mul_add]
    omega
  have e2 : ∀ j : Nat, j < 4 → dx * (k / 16 + (j : Int) / 2) - dy * (k % 16 + (j : Int) % 2) = (dx * y - dy * x) + (dx * fe_hy (k / 16 - y) j - dy * fe_hx (k % 16 - x) j) := fun j hj => by
    rw [fe_cx_h (x := x) hj, fe_cy_h (y := y) hj, Int.mul_add, Int.mul_add]
    omega
  rw [fe_prt_iff (by omega) (fun i hi => ?_) (fun j hj => ?_)]
  · constructor
    · rintro (h | h)
      · exact Or.inl (fun i hi j hj => by
          have := h i hi j hj
          rw [e1 i hi, e2 j hj] at this
          omega)
      · exact Or.inr (fun i hi j hj => by
          have := h i hi j hj
          rw [e1 i hi, e2 j hj] at this
          omega)
    · rintro (h | h)
      · exact Or.inl (fun i hi j hj => by
          have := h i hi j hj
          rw [e1 i hi, e2 j hj]
          omega)
      · exact Or.inr (fun i hi j hj => by
          have := h i hi j hj
          rw [e1 i hi, e2 j hj]
          omega)
  · have h1 := fe_hx_bd (u := cell % 16 - x) (i := i)
    have h2 := fe_hy_bd (u := cell / 16 - y) (i := i)
    rw [Int.zero_add, fe_fx_h hi, fe_fy_h hi]
    have := bdd (x + fe_hx (cell % 16 - x) i) (y + fe_hy (cell / 16 - y) i) (by omega) (by omega)
    omega
  · have := bdd (k % 16 + (j : Int) % 2) (k / 16 + (j : Int) / 2) (by omega) (by omega)
    omega
theorem fe_cx4 {s : Int} {j : Nat} (hj : j < 4) : fe_hx s j = s ∨ fe_hx s j = s + 1 := by
  rcases fe_lt4 hj with rfl | rfl | rfl | rfl <;> first | exact Or.inl rfl | exact Or.inr rfl
theorem fe_cy4 {s : Int} {j : Nat} (hj : j < 4) : fe_hy s j = s ∨ fe_hy s j = s + 1 := by
  rcases fe_lt4 hj with rfl | rfl | rfl | rfl <;> first | exact Or.inl rfl | exact Or.inr rfl
theorem fe_sepx1 {u s : Int} {i j : Nat} (h : s < min 0 u) (hj : j < 4) : fe_hx s j ≤ fe_hx u i := by
  have h1 := fe_hx_bd (u := u) (i := i)
  have h2 := fe_cx4 (s := s) hj
  omega
theorem fe_sepx2 {u s : Int} {i j : Nat} (h : max 0 (u + 1) ≤ s) (hj : j < 4) : fe_hx u i ≤ fe_hx s j := by
  have h1 := fe_hx_bd (u := u) (i := i)
  have h2 := fe_cx4 (s := s) hj
  omega
theorem fe_sepy1 {u s : Int} {i j : Nat} (h : s < min 0 u) (hj : j < 4) : fe_hy s j ≤ fe_hy u i := by
  have h1 := fe_hy_bd (u := u) (i := i)
  have h2 := fe_cy4 (s := s) hj
  omega
theorem fe_sepy2 {u s : Int} {i j : Nat} (h : max 0 (u + 1) ≤ s) (hj : j < 4) : fe_hy u i ≤ fe_hy s j := by
  have h1 := fe_hy_bd (u := u) (i := i)
  have h2 := fe_cy4 (s := s) hj
  omega
theorem fe_sep1 {a c u v s t : Int} (hf : fe_ex1 a c u v) (g : ¬ 0 < a * t - c * s + (max a 0 + max (-c) 0)) (i : Nat) (hi : i < 5) (j : Nat) (hj : j < 4) : -a * fe_hy v i - -c * fe_hx u i ≤ -a * fe_hy t j - -c * fe_hx s j := by
  have hc1 : 0 ≤ a * fe_hy v i - c * fe_hx u i := by
    by_cases h4 : i < 4
    · exact hf.2.2 i h4
    · have : i = 4 := by omega
      subst this
      simp [fe_hx, fe_hy]
  have hc2 : a * fe_hy t j - c * fe_hx s j ≤ 0 := by
    rcases fe_lt4 hj with rfl | rfl | rfl | rfl <;> simp only [fe_hx, fe_hy, Int.mul_add, Int.mul_one] <;> omega
  simp only [Int.neg_mul]
  omega
theorem fe_sep2 {a c u v s t : Int} (hf : fe_ex2 a c u v) (g : ¬ a * t - c * s + (min a 0 + min (-c) 0) < 0) (i : Nat) (hi : i < 5) (j : Nat) (hj : j < 4) : -a * fe_hy t j - -c * fe_hx s j ≤ -a * fe_hy v i - -c * fe_hx u i := by
  have hc1 : a * fe_hy v i - c * fe_hx u i ≤ 0 := by
    by_cases h4 : i < 4
    · exact hf.2.2 i h4
    · have : i = 4 := by omega
      subst this
      simp [fe_hx, fe_hy]
  have hc2 : 0 ≤ a * fe_hy t j - c * fe_hx s j := by
    rcases fe_lt4 hj with rfl | rfl | rfl | rfl <;> simp only [fe_hx, fe_hy, Int.mul_add, Int.mul_one] <;> omega
  simp only [Int.neg_mul]
  omega
theorem fe_dir {x y cell a c : Int} {i : Nat} (hx : 0 ≤ x ∧ x ≤ 16) (hy : 0 ≤ y ∧ y ≤ 12) (hc : 0 ≤ cell ∧ cell < 192) (hi : i < 4) (h6 : a = fe_hx (cell % 16 - x) i) (h7 : c = fe_hy (cell / 16 - y) i) : (fe_fx x cell ((4 : Nat) : Int) - fe_fx x cell i = -a ∧ fe_fy y cell ((4 : Nat) : Int) - fe_fy y cell i = -c) ∧ (-40 ≤ -a ∧ -a ≤ 40) ∧ (-40 ≤ -c ∧ -c ≤ 40) := by
  have w1 := fe_hx_bd (u := cell % 16 - x) (i := i)
  have w2 := fe_hy_bd (u := cell / 16 - y) (i := i)
  rw [fe_fx_h (i := 4) (by omega), fe_fx_h (i := i) (by omega), fe_fy_h (i := 4) (by omega), fe_fy_h (i := i) (by omega), ← h6, ← h7]
  rw [← h6] at w1
  rw [← h7] at w2
  have e1 : fe_hx (cell % 16 - x) 4 = 0 := rfl
  have e2 : fe_hy (cell / 16 - y) 4 = 0 := rfl
  rw [e1, e2]
  omega
theorem fe_parted_no {B : Nat → Int} {x y cell k : Int} (hb : fe_bm B x y cell) (hx : 0 ≤ x ∧ x ≤ 16) (hy : 0 ≤ y ∧ y ≤ 12) (hc : 0 ≤ cell ∧ cell < 192) (hk : 0 ≤ k ∧ k < 192) (hbox : B 4 ≤ k / 16 ∧ k / 16 < B 5 ∧ B 2 ≤ k % 16 ∧ k % 16 < B 3) (hh : fe_hit B (k / 16) (k % 16)) {dx dy : Int} (hne : ¬ (dx = 0 ∧ dy = 0)) (w1 : -40 ≤ dx ∧ dx ≤ 40) (w2 : -40 ≤ dy ∧ dy ≤ 40) : ¬ fe_prt (fe_fx x cell) (fe_fy y cell) 0 5 dx dy k = true := by
  obtain ⟨b0, b1, b2, b3, b4, b5, hf, hl⟩ := hb
  unfold fe_hit at hh
  rw [b0, b1] at hh
  rw [b2, b3, b4, b5] at hbox
  clear b0 b1 b2 b3 b4 b5
  have q1 : min 0 (cell % 16 - x) ≤ k % 16 - x := by omega
  have q2 : k % 16 - x < max 0 (cell % 16 - x + 1) := by omega
  have q3 : min 0 (cell / 16 - y) ≤ k / 16 - y := by omega
  have q4 : k / 16 - y < max 0 (cell / 16 - y + 1) := by omega
  clear hbox
  intro hpr
  obtain ⟨i, j, hi, hj, hlt⟩ := fe_block (α := -dy) (β := dx) hf hl q1 q2 q3 q4 hh.1 hh.2 (by omega)
  obtain ⟨i', j', hi', hj', hlt'⟩ := fe_block (α := dy) (β := -dx) hf hl q1 q2 q3 q4 hh.1 hh.2 (by omega)
  simp only [Int.neg_mul] at hlt hlt'
  have rel := (fe_prt_rel hx hy hc hk w1 w2).mp hpr
  clear hh hf hl q1 q2 q3 q4
  rcases rel with h | h
  · have := h i hi j hj
    omega
  · have := h i' hi' j' hj'
    omega
theorem fe_parted_yes {B : Nat → Int} {x y cell k : Int} (hb : fe_bm B x y cell) (hx : 0 ≤ x ∧ x ≤ 16) (hy : 0 ≤ y ∧ y ≤ 12) (hc : 0 ≤ cell ∧ cell < 192) (hk : 0 ≤ k ∧ k < 192) (hn : ¬ ((B 4 ≤ k / 16 ∧ k / 16 < B 5 ∧ B 2 ≤ k % 16 ∧ k % 16 < B 3) ∧ fe_hit B (k / 16) (k % 16))) : fe_parted (fe_fx x cell) (fe_fy y cell) k := by
  obtain ⟨b0, b1, b2, b3, b4, b5, hf, hl⟩ := hb
  unfold fe_hit at hn
  rw [b0, b1, b2, b3, b4, b5] at hn
  clear b0 b1 b2 b3 b4 b5
  have rel := fun dx dy (h1 : -40 ≤ dx ∧ dx ≤ 40) (h2 : -40 ≤ dy ∧ dy ≤ 40) => fe_prt_rel (dx := dx) (dy := dy) hx hy hc hk h1 h2
  by_cases q1 : k / 16 - y < min 0 (cell / 16 - y)
  · exact Or.inl ((rel 1 0 (by decide) (by decide)).mpr (Or.inr (fun i hi j hj => by
      have := fe_sepy1 (i := i) q1 hj
      simp only [Int.zero_mul, Int.one_mul]
      omega)))
  by_cases q2 : max 0 (cell / 16 - y + 1) ≤ k / 16 - y
  · exact Or.inl ((rel 1 0 (by decide) (by decide)).mpr (Or.inl (fun i hi j hj => by
      have := fe_sepy2 (i := i) q2 hj
      simp only [Int.zero_mul, Int.one_mul]
      omega)))
  by_cases q3 : k % 16 - x < min 0 (cell % 16 - x)
  · exact Or.inr (Or.inl ((rel 0 1 (by decide) (by decide)).mpr (Or.inl (fun i hi j hj => by
      have := fe_sepx1 (i := i) q3 hj
      simp only [Int.zero_mul, Int.one_mul]
      omega))))
  by_cases q4 : max 0 (cell % 16 - x + 1) ≤ k % 16 - x
  · exact Or.inr (Or.inl ((rel 0 1 (by decide) (by decide)).mpr (Or.inr (fun i hi j hj => by
      have := fe_sepx2 (i := i) q4 hj
      simp only [Int.zero_mul, Int.one_mul]
      omega))))
  have hbox : min y (cell / 16) ≤ k / 16 ∧ k / 16 < max y (cell / 16 + 1) ∧ min x (cell % 16) ≤ k % 16 ∧ k % 16 < max x (cell % 16 + 1) := by
    clear hn rel hf hl
    refine ⟨?_, ?_, ?_, ?_⟩
    · clear q2 q3 q4
      omega
    · clear q1 q3 q4
      omega
    · clear q1 q2 q4
      omega
    · clear q1 q2 q3
      omega
  clear q1 q2 q3 q4
  have hh := fun h => hn ⟨hbox, h⟩
  clear hn hbox
  refine Or.inr (Or.inr ?_)
  by_cases g1 : 0 < B 6 * (k / 16 - y) - B 7 * (k % 16 - x) + (max (B 6) 0 + max (-B 7) 0)
  · have g2 : ¬ B 8 * (k / 16 - y) - B 9 * (k % 16 - x) + (min (B 8) 0 + min (-B 9) 0) < 0 := fun h => hh ⟨g1, h⟩
    have ⟨⟨i, hi, h6, h7⟩, hne, hall⟩ := hl
    obtain ⟨⟨e1, e2⟩, w1, w2⟩ := fe_dir hx hy hc hi h6 h7
    refine ⟨i, 4, hi, by decide, ?_⟩
    unfold fe_pr2
    rw [e1, e2]
    refine ⟨?_, (rel _ _ w1 w2).mpr (Or.inr (fun i' hi' j hj => fe_sep2 hl g2 i' hi' j hj))⟩
    clear g1 g2 hh
    omega
  · have ⟨⟨i, hi, h6, h7⟩, hne, hall⟩ := hf
    obtain ⟨⟨e1, e2⟩, w1, w2⟩ := fe_dir hx hy hc hi h6 h7
    refine ⟨i, 4, hi, by decide, ?_⟩
    unfold fe_pr2
    rw [e1, e2]
    refine ⟨?_, (rel _ _ w1 w2).mpr (Or.inl (fun i' hi' j hj => fe_sep1 hf g1 i' hi' j hj))⟩
    clear g1 hh
    omega
theorem fe_parted_iff {B : Nat → Int} {x y cell k : Int} (hb : fe_bm B x y cell) (hx : 0 ≤ x ∧ x ≤ 16) (hy : 0 ≤ y ∧ y ≤ 12) (hc : 0 ≤ cell ∧ cell < 192) (hk : 0 ≤ k ∧ k < 192) : fe_parted (fe_fx x cell) (fe_fy y cell) k ↔ ¬ ((B 4 ≤ k / 16 ∧ k / 16 < B 5 ∧ B 2 ≤ k % 16 ∧ k % 16 < B 3) ∧ fe_hit B (k / 16) (k % 16)) := by
  constructor
  · rintro hp ⟨hbox, hh⟩
    rcases hp with hp | hp | ⟨i, j, hij, hj, hne, hp⟩
    · exact fe_parted_no hb hx hy hc hk hbox hh (by decide) (by decide) (by decide) hp
    · exact fe_parted_no hb hx hy hc hk hbox hh (by decide) (by decide) (by decide) hp
    · have f1 := fe_fx_bd hx.1 hx.2 hy.1 hy.2 hc.1 hc.2 (i : Int) (by omega) (by omega)
      have f2 := fe_fx_bd hx.1 hx.2 hy.1 hy.2 hc.1 hc.2 (j : Int) (by omega) (by omega)
      refine fe_parted_no hb hx hy hc hk hbox hh ?_ ?_ ?_ hp
      all_goals
        clear hbox hh hb hp
        omega
  · exact fe_parted_yes hb hx hy hc hk
theorem fe_clear_iff {B : Nat → Int} {sh : Int → Bool} {x y cell : Int} (hb : fe_bm B x y cell) (hx : 0 ≤ x ∧ x ≤ 16) (hy : 0 ≤ y ∧ y ≤ 12) (hc : 0 ≤ cell ∧ cell < 192) : fe_free B sh ↔ fe_clear sh x y cell := by
  have ⟨b0, b1, b2, b3, b4, b5, hf, hl⟩ := hb
  constructor
  · intro h k k1 k2 k3
    rw [fe_parted_iff hb hx hy hc ⟨k1, k2⟩]
    rintro ⟨⟨q1, q2, q3, q4⟩, hh⟩
    have : 16 * (k / 16) + k % 16 = k := by omega
    exact h (k / 16) (k % 16) q1 q2 q3 q4 (by rw [this]; exact k3) hh
  · intro h row col q1 q2 q3 q4 q5 hh
    have e1 : (16 * row + col) / 16 = row := by omega
    have e2 : (16 * row + col) % 16 = col := by omega
    have := (fe_parted_iff hb hx hy hc (show 0 ≤ 16 * row + col ∧ 16 * row + col < 192 by omega)).mp (h (16 * row + col) (by omega) (by omega) q5)
    rw [e1, e2] at this
    exact this ⟨⟨q1, q2, q3, q4⟩, hh⟩

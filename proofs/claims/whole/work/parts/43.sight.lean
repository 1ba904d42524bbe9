/-! four corners make the beam; sight and line of the class -/
theorem fe_fst4 {u v a1 c1 a2 c2 a3 c3 : Int} (h1 : (((u = 0 ∧ v = 0) ∨ u * v - v * (u + 1) < 0) ∧ a1 = u + 1 ∧ c1 = v) ∨ (¬ ((u = 0 ∧ v = 0) ∨ u * v - v * (u + 1) < 0) ∧ a1 = u ∧ c1 = v)) (h2 : (((a1 = 0 ∧ c1 = 0) ∨ a1 * (v + 1) - c1 * u < 0) ∧ a2 = u ∧ c2 = v + 1) ∨ (¬ ((a1 = 0 ∧ c1 = 0) ∨ a1 * (v + 1) - c1 * u < 0) ∧ a2 = a1 ∧ c2 = c1)) (h3 : (((a2 = 0 ∧ c2 = 0) ∨ a2 * (v + 1) - c2 * (u + 1) < 0) ∧ a3 = u + 1 ∧ c3 = v + 1) ∨ (¬ ((a2 = 0 ∧ c2 = 0) ∨ a2 * (v + 1) - c2 * (u + 1) < 0) ∧ a3 = a2 ∧ c3 = c2)) : ¬ (a1 = 0 ∧ c1 = 0) ∧ ¬ (a2 = 0 ∧ c2 = 0) ∧ fe_ex1 a3 c3 u v := by
  have cm : v * u = u * v := Int.mul_comm ..
  rcases h1 with ⟨g1, rfl, rfl⟩ | ⟨g1, rfl, rfl⟩ <;> rcases h2 with ⟨g2, rfl, rfl⟩ | ⟨g2, rfl, rfl⟩ <;> rcases h3 with ⟨g3, rfl, rfl⟩ | ⟨g3, rfl, rfl⟩
  · simp only [Int.mul_sub, Int.mul_add, Int.add_mul, Int.sub_mul, Int.mul_one, Int.one_mul] at g1 g2 g3
    first
    | (exfalso; omega)
    | (refine ⟨by omega, by omega, ⟨3, by decide, rfl, rfl⟩, by omega, fun j hj => ?_⟩
       rcases fe_lt4 hj with rfl | rfl | rfl | rfl <;> simp only [fe_hx, fe_hy, Int.mul_sub, Int.mul_add, Int.add_mul, Int.sub_mul, Int.mul_one, Int.one_mul] <;> omega)
  · simp only [Int.mul_sub, Int.mul_add, Int.add_mul, Int.sub_mul, Int.mul_one, Int.one_mul] at g1 g2 g3
    first
    | (exfalso; omega)
    | (refine ⟨by omega, by omega, ⟨2, by decide, rfl, rfl⟩, by omega, fun j hj => ?_⟩
       rcases fe_lt4 hj with rfl | rfl | rfl | rfl <;> simp only [fe_hx, fe_hy, Int.mul_sub, Int.mul_add, Int.add_mul, Int.sub_mul, Int.mul_one, Int.one_mul] <;> omega)
  · simp only [Int.mul_sub, Int.mul_add, Int.add_mul, Int.sub_mul, Int.mul_one, Int.one_mul] at g1 g2 g3
    first
    | (exfalso; omega)
    | (refine ⟨by omega, by omega, ⟨3, by decide, rfl, rfl⟩, by omega, fun j hj => ?_⟩
       rcases fe_lt4 hj with rfl | rfl | rfl | rfl <;> simp only [fe_hx, fe_hy, Int.mul_sub, Int.mul_add, Int.add_mul, Int.sub_mul, Int.mul_one, Int.one_mul] <;> omega)
  · simp only [Int.mul_sub, Int.mul_add, Int.add_mul, Int.sub_mul, Int.mul_one, Int.one_mul] at g1 g2 g3
    first
    | (exfalso; omega)
    | (refine ⟨by omega, by omega, ⟨1, by decide, rfl, rfl⟩, by omega, fun j hj => ?_⟩
       rcases fe_lt4 hj with rfl | rfl | rfl | rfl <;> simp only [fe_hx, fe_hy, Int.mul_sub, Int.mul_add, Int.add_mul, Int.sub_mul, Int.mul_one, Int.one_mul] <;> omega)
  · simp only [Int.mul_sub, Int.mul_add, Int.add_mul, Int.sub_mul, Int.mul_one, Int.one_mul] at g1 g2 g3
    first
    | (exfalso; omega)
    | (refine ⟨by omega, by omega, ⟨3, by decide, rfl, rfl⟩, by omega, fun j hj => ?_⟩
       rcases fe_lt4 hj with rfl | rfl | rfl | rfl <;> simp only [fe_hx, fe_hy, Int.mul_sub, Int.mul_add, Int.add_mul, Int.sub_mul, Int.mul_one, Int.one_mul] <;> omega)
  · simp only [Int.mul_sub, Int.mul_add, Int.add_mul, Int.sub_mul, Int.mul_one, Int.one_mul] at g1 g2 g3
    first
    | (exfalso; omega)
    | (refine ⟨by omega, by omega, ⟨2, by decide, rfl, rfl⟩, by omega, fun j hj => ?_⟩
       rcases fe_lt4 hj with rfl | rfl | rfl | rfl <;> simp only [fe_hx, fe_hy, Int.mul_sub, Int.mul_add, Int.add_mul, Int.sub_mul, Int.mul_one, Int.one_mul] <;> omega)
  · simp only [Int.mul_sub, Int.mul_add, Int.add_mul, Int.sub_mul, Int.mul_one, Int.one_mul] at g1 g2 g3
    first
    | (exfalso; omega)
    | (refine ⟨by omega, by omega, ⟨3, by decide, rfl, rfl⟩, by omega, fun j hj => ?_⟩
       rcases fe_lt4 hj with rfl | rfl | rfl | rfl <;> simp only [fe_hx, fe_hy, Int.mul_sub, Int.mul_add, Int.add_mul, Int.sub_mul, Int.mul_one, Int.one_mul] <;> omega)
  · simp only [Int.mul_sub, Int.mul_add, Int.add_mul, Int.sub_mul, Int.mul_one, Int.one_mul] at g1 g2 g3
    first
    | (exfalso; omega)
    | (refine ⟨by omega, by omega, ⟨0, by decide, rfl, rfl⟩, by omega, fun j hj => ?_⟩
       rcases fe_lt4 hj with rfl | rfl | rfl | rfl <;> simp only [fe_hx, fe_hy, Int.mul_sub, Int.mul_add, Int.add_mul, Int.sub_mul, Int.mul_one, Int.one_mul] <;> omega)
theorem fe_lst4 {u v a1 c1 a2 c2 a3 c3 : Int} (h1 : (((u = 0 ∧ v = 0) ∨ 0 < u * v - v * (u + 1)) ∧ a1 = u + 1 ∧ c1 = v) ∨ (¬ ((u = 0 ∧ v = 0) ∨ 0 < u * v - v * (u + 1)) ∧ a1 = u ∧ c1 = v)) (h2 : ((0 < a1 * (v + 1) - c1 * u) ∧ a2 = u ∧ c2 = v + 1) ∨ (¬ (0 < a1 * (v + 1) - c1 * u) ∧ a2 = a1 ∧ c2 = c1)) (h3 : ((0 < a2 * (v + 1) - c2 * (u + 1)) ∧ a3 = u + 1 ∧ c3 = v + 1) ∨ (¬ (0 < a2 * (v + 1) - c2 * (u + 1)) ∧ a3 = a2 ∧ c3 = c2)) : fe_ex2 a3 c3 u v := by
  have cm : v * u = u * v := Int.mul_comm ..
  rcases h1 with ⟨g1, rfl, rfl⟩ | ⟨g1, rfl, rfl⟩ <;> rcases h2 with ⟨g2, rfl, rfl⟩ | ⟨g2, rfl, rfl⟩ <;> rcases h3 with ⟨g3, rfl, rfl⟩ | ⟨g3, rfl, rfl⟩
  · simp only [Int.mul_sub, Int.mul_add, Int.add_mul, Int.sub_mul, Int.mul_one, Int.one_mul] at g1 g2 g3
    first
    | (exfalso; omega)
    | (refine ⟨⟨3, by decide, rfl, rfl⟩, by omega, fun j hj => ?_⟩
       rcases fe_lt4 hj with rfl | rfl | rfl | rfl <;> simp only [fe_hx, fe_hy, Int.mul_sub, Int.mul_add, Int.add_mul, Int.sub_mul, Int.mul_one, Int.one_mul] <;> omega)
  · simp only [Int.mul_sub, Int.mul_add, Int.add_mul, Int.sub_mul, Int.mul_one, Int.one_mul] at g1 g2 g3
    first
    | (exfalso; omega)
    | (refine ⟨⟨2, by decide, rfl, rfl⟩, by omega, fun j hj => ?_⟩
       rcases fe_lt4 hj with rfl | rfl | rfl | rfl <;> simp only [fe_hx, fe_hy, Int.mul_sub, Int.mul_add, Int.add_mul, Int.sub_mul, Int.mul_one, Int.one_mul] <;> omega)
  · simp only [Int.mul_sub, Int.mul_add, Int.add_mul, Int.sub_mul, Int.mul_one, Int.one_mul] at g1 g2 g3
    first
    | (exfalso; omega)
    | (refine ⟨⟨3, by decide, rfl, rfl⟩, by omega, fun j hj => ?_⟩
       rcases fe_lt4 hj with rfl | rfl | rfl | rfl <;> simp only [fe_hx, fe_hy, Int.mul_sub, Int.mul_add, Int.add_mul, Int.sub_mul, Int.mul_one, Int.one_mul] <;> omega)
  · simp only [Int.mul_sub, Int.mul_add, Int.add_mul, Int.sub_mul, Int.mul_one, Int.one_mul] at g1 g2 g3
    first
    | (exfalso; omega)
    | (refine ⟨⟨1, by decide, rfl, rfl⟩, by omega, fun j hj => ?_⟩
       rcases fe_lt4 hj with rfl | rfl | rfl | rfl <;> simp only [fe_hx, fe_hy, Int.mul_sub, Int.mul_add, Int.add_mul, Int.sub_mul, Int.mul_one, Int.one_mul] <;> omega)
  · simp only [Int.mul_sub, Int.mul_add, Int.add_mul, Int.sub_mul, Int.mul_one, Int.one_mul] at g1 g2 g3
    first
    | (exfalso; omega)
    | (refine ⟨⟨3, by decide, rfl, rfl⟩, by omega, fun j hj => ?_⟩
       rcases fe_lt4 hj with rfl | rfl | rfl | rfl <;> simp only [fe_hx, fe_hy, Int.mul_sub, Int.mul_add, Int.add_mul, Int.sub_mul, Int.mul_one, Int.one_mul] <;> omega)
  · simp only [Int.mul_sub, Int.mul_add, Int.add_mul, Int.sub_mul, Int.mul_one, Int.one_mul] at g1 g2 g3
    first
    | (exfalso; omega)
    | (refine ⟨⟨2, by decide, rfl, rfl⟩, by omega, fun j hj => ?_⟩
       rcases fe_lt4 hj with rfl | rfl | rfl | rfl <;> simp only [fe_hx, fe_hy, Int.mul_sub, Int.mul_add, Int.add_mul, Int.sub_mul, Int.mul_one, Int.one_mul] <;> omega)
  · simp only [Int.mul_sub, Int.mul_add, Int.add_mul, Int.sub_mul, Int.mul_one, Int.one_mul] at g1 g2 g3
    first
    | (exfalso; omega)
    | (refine ⟨⟨3, by decide, rfl, rfl⟩, by omega, fun j hj => ?_⟩
       rcases fe_lt4 hj with rfl | rfl | rfl | rfl <;> simp only [fe_hx, fe_hy, Int.mul_sub, Int.mul_add, Int.add_mul, Int.sub_mul, Int.mul_one, Int.one_mul] <;> omega)
  · simp only [Int.mul_sub, Int.mul_add, Int.add_mul, Int.sub_mul, Int.mul_one, Int.one_mul] at g1 g2 g3
    first
    | (exfalso; omega)
    | (refine ⟨⟨0, by decide, rfl, rfl⟩, by omega, fun j hj => ?_⟩
       rcases fe_lt4 hj with rfl | rfl | rfl | rfl <;> simp only [fe_hx, fe_hy, Int.mul_sub, Int.mul_add, Int.add_mul, Int.sub_mul, Int.mul_one, Int.one_mul] <;> omega)
theorem fe_okB_tk {B B' : Nat → Int} {x y : Int} (ho : fe_okB B) (hx : 0 ≤ x ∧ x ≤ 16) (hy : 0 ≤ y ∧ y ≤ 12) (h : fe_tk B B' x y) : fe_okB B' := by
  obtain ⟨o0, o1, o2, o3, o4, o5, o6, o7⟩ := ho
  obtain ⟨b0, b1, b2, b3, b4, b5, b6, b7⟩ := h
  have c6 : (-20 ≤ B' 6 ∧ B' 6 ≤ 20) ∧ (-20 ≤ B' 7 ∧ B' 7 ≤ 20) := by
    clear b2 b3 b4 b5 b7
    rcases b6 with ⟨-, e1, e2⟩ | ⟨-, e1, e2⟩ <;> omega
  have c8 : (-20 ≤ B' 8 ∧ B' 8 ≤ 20) ∧ (-20 ≤ B' 9 ∧ B' 9 ≤ 20) := by
    clear b2 b3 b4 b5 b6
    rcases b7 with ⟨-, e1, e2⟩ | ⟨-, e1, e2⟩ <;> omega
  clear b6 b7
  refine ⟨by omega, by omega, ?_, ?_, c6.1, c6.2, c8.1, c8.2⟩
  · clear b4 b5 c6 c8
    omega
  · clear b2 b3 c6 c8
    omega
def fe_st (B : Nat → Int) (x y : Int) : Prop := B 0 = x ∧ B 1 = y ∧ B 2 = x ∧ B 3 = x ∧ B 4 = y ∧ B 5 = y ∧ B 6 = 0 ∧ B 7 = 0 ∧ B 8 = 0 ∧ B 9 = 0
theorem fe_okB_st {B : Nat → Int} {x y : Int} (hx : 0 ≤ x ∧ x ≤ 16) (hy : 0 ≤ y ∧ y ≤ 12) (h : fe_st B x y) : fe_okB B := by
  obtain ⟨b0, b1, b2, b3, b4, b5, b6, b7, b8, b9⟩ := h
  unfold fe_okB
  omega
theorem fe_4tk {B0 B1 B2 B3 B4 : Nat → Int} {x y cell : Int} (h0 : fe_st B0 x y) (h1 : fe_tk B0 B1 (cell % 16) (cell / 16)) (h2 : fe_tk B1 B2 (cell % 16 + 1) (cell / 16)) (h3 : fe_tk B2 B3 (cell % 16) (cell / 16 + 1)) (h4 : fe_tk B3 B4 (cell % 16 + 1) (cell / 16 + 1)) : fe_bm B4 x y cell := by
  obtain ⟨s0, s1, s2, s3, s4, s5, s6, s7, s8, s9⟩ := h0
  obtain ⟨p0, p1, p2, p3, p4, p5, p6, p7⟩ := h1
  obtain ⟨q0, q1, q2, q3, q4, q5, q6, q7⟩ := h2
  obtain ⟨r0, r1, r2, r3, r4, r5, r6, r7⟩ := h3
  obtain ⟨t0, t1, t2, t3, t4, t5, t6, t7⟩ := h4
  rw [s0] at p0
  rw [s1] at p1
  rw [p0] at q0
  rw [p1] at q1
  rw [q0] at r0
  rw [q1] at r1
  rw [r0] at t0
  rw [r1] at t1
  simp only [s0, s1, s6, s7, and_self, true_or, true_and, not_true_eq_false, false_and, or_false] at p6 p7
  rw [p0, p1, p6.1, p6.2] at q6
  rw [p0, p1, p6.1, p6.2, p7.1, p7.2] at q7
  rw [q0, q1] at r6 r7
  rw [r0, r1] at t6 t7
  have e1 : cell % 16 + 1 - x = cell % 16 - x + 1 := by omega
  have e2 : cell / 16 + 1 - y = cell / 16 - y + 1 := by omega
  rw [e1] at q6 q7 t6 t7
  rw [e2] at r6 r7 t6 t7
  obtain ⟨n1, n2, hf⟩ := fe_fst4 q6 r6 t6
  simp only [n1, false_or] at r7
  simp only [n2, false_or] at t7
  have hl := fe_lst4 q7 r7 t7
  refine ⟨t0, t1, ?_, ?_, ?_, ?_, hf, hl⟩
  · rw [t2, r2, q2, p2, s2]
    omega
  · rw [t3, r3, q3, p3, s3]
    omega
  · rw [t4, r4, q4, p4, s4]
    omega
  · rw [t5, r5, q5, p5, s5]
    omega
theorem fe_lx3 {x cx : Int} : fe_lx x cx (3 + ((0 : Nat) : Int)) = x := by simp [fe_lx]
theorem fe_lx4 {x cx : Int} : fe_lx x cx (3 + ((1 : Nat) : Int)) = cx := by simp [fe_lx]
theorem fe_lt2 {i : Nat} (h : i < 2) : i = 0 ∨ i = 1 := by omega
theorem fe_line_prt {x y cx cy k dx dy : Int} (hx : 0 ≤ x ∧ x ≤ 16) (hy : 0 ≤ y ∧ y ≤ 12) (hcx : 0 ≤ cx ∧ cx ≤ 16) (hcy : 0 ≤ cy ∧ cy ≤ 12) (hk : 0 ≤ k ∧ k < 192) (hdx : -40 ≤ dx ∧ dx ≤ 40) (hdy : -40 ≤ dy ∧ dy ≤ 40) : fe_prt (fe_lx x cx) (fe_lx y cy) 3 2 dx dy k = true ↔ ((∀ j : Nat, j < 4 → dx * y - dy * x ≤ dx * (k / 16 + (j : Int) / 2) - dy * (k % 16 + (j : Int) % 2)) ∧ (∀ j : Nat, j < 4 → dx * cy - dy * cx ≤ dx * (k / 16 + (j : Int) / 2) - dy * (k % 16 + (j : Int) % 2))) ∨ ((∀ j : Nat, j < 4 → dx * (k / 16 + (j : Int) / 2) - dy * (k % 16 + (j : Int) % 2) ≤ dx * y - dy * x) ∧ (∀ j : Nat, j < 4 → dx * (k / 16 + (j : Int) / 2) - dy * (k % 16 + (j : Int) % 2) ≤ dx * cy - dy * cx)) := by
  have bdd : ∀ p q : Int, -100 ≤ p ∧ p ≤ 100 → -100 ≤ q ∧ q ≤ 100 → -20000 ≤ dx * q - dy * p ∧ dx * q - dy * p ≤ 20000 := fun p q hp hq => by
    have a1 := fe_bd (u := dx) (v := q) 100 (by omega) (by omega) (by omega) (by omega)
    have a2 := fe_bd (u := dy) (v := p) 100 (by omega) (by omega) (by omega) (by omega)
    omega
  rw [fe_prt_iff (by omega) (fun i hi => ?_) (fun j hj => ?_)]
  · constructor
    · rintro (h | h)
      · have h0 := h 0 (by omega)
        have h1 := h 1 (by omega)
        rw [fe_lx3, fe_lx3] at h0
        rw [fe_lx4, fe_lx4] at h1
        exact Or.inl ⟨h0, h1⟩
      · have h0 := h 0 (by omega)
        have h1 := h 1 (by omega)
        rw [fe_lx3, fe_lx3] at h0
        rw [fe_lx4, fe_lx4] at h1
        exact Or.inr ⟨h0, h1⟩
    · rintro (⟨h0, h1⟩ | ⟨h0, h1⟩)
      · refine Or.inl (fun i hi => ?_)
        rcases fe_lt2 hi with rfl | rfl
        · rw [fe_lx3, fe_lx3]
          exact h0
        · rw [fe_lx4, fe_lx4]
          exact h1
      · refine Or.inr (fun i hi => ?_)
        rcases fe_lt2 hi with rfl | rfl
        · rw [fe_lx3, fe_lx3]
          exact h0
        · rw [fe_lx4, fe_lx4]
          exact h1
  · rcases fe_lt2 hi with rfl | rfl
    · rw [fe_lx3, fe_lx3]
      have := bdd x y (by omega) (by omega)
      omega
    · rw [fe_lx4, fe_lx4]
      have := bdd cx cy (by omega) (by omega)
      omega
  · have := bdd (k % 16 + (j : Int) % 2) (k / 16 + (j : Int) / 2) (by omega) (by omega)
    omega
theorem fe_j4 {f : Int → Int → Int} {P : Int → Prop} : (∀ j : Nat, j < 4 → P (f ((j : Int) / 2) ((j : Int) % 2))) ↔ P (f 0 0) ∧ P (f 0 1) ∧ P (f 1 0) ∧ P (f 1 1) := by
  constructor
  · exact fun h => ⟨h 0 (by omega), h 1 (by omega), h 2 (by omega), h 3 (by omega)⟩
  · rintro ⟨h0, h1, h2, h3⟩ j hj
    rcases fe_lt4 hj with rfl | rfl | rfl | rfl
    · exact h0
    · exact h1
    · exact h2
    · exact h3
theorem fe_line_1 {x y cx cy k : Int} (hx : 0 ≤ x ∧ x ≤ 16) (hy : 0 ≤ y ∧ y ≤ 12) (hcx : 0 ≤ cx ∧ cx ≤ 16) (hcy : 0 ≤ cy ∧ cy ≤ 12) (hk : 0 ≤ k ∧ k < 192) : fe_prt (fe_lx x cx) (fe_lx y cy) 3 2 1 0 k = true ↔ max y cy ≤ k / 16 ∨ k / 16 < min y cy := by
  rw [fe_line_prt hx hy hcx hcy hk (by decide) (by decide)]
  simp only [Int.one_mul, Int.zero_mul, Int.sub_zero]
  constructor
  · rintro (⟨h0, h1⟩ | ⟨h0, h1⟩)
    · have a0 := h0 0 (by omega)
      have a1 := h1 0 (by omega)
      clear h0 h1
      omega
    · have a0 := h0 2 (by omega)
      have a1 := h1 2 (by omega)
      clear h0 h1
      omega
  · rintro (h | h)
    · exact Or.inl ⟨fun j hj => by omega, fun j hj => by omega⟩
    · exact Or.inr ⟨fun j hj => by omega, fun j hj => by omega⟩
theorem fe_line_2 {x y cx cy k : Int} (hx : 0 ≤ x ∧ x ≤ 16) (hy : 0 ≤ y ∧ y ≤ 12) (hcx : 0 ≤ cx ∧ cx ≤ 16) (hcy : 0 ≤ cy ∧ cy ≤ 12) (hk : 0 ≤ k ∧ k < 192) : fe_prt (fe_lx x cx) (fe_lx y cy) 3 2 0 1 k = true ↔ max x cx ≤ k % 16 ∨ k % 16 < min x cx := by
  rw [fe_line_prt hx hy hcx hcy hk (by decide) (by decide)]
  simp only [Int.one_mul, Int.zero_mul, Int.zero_sub]
  constructor
  · rintro (⟨h0, h1⟩ | ⟨h0, h1⟩)
    · have a0 := h0 1 (by omega)
      have a1 := h1 1 (by omega)
      clear h0 h1
      omega
    · have a0 := h0 0 (by omega)
      have a1 := h1 0 (by omega)
      clear h0 h1
      omega
  · rintro (h | h)
    · exact Or.inr ⟨fun j hj => by omega, fun j hj => by omega⟩
    · exact Or.inl ⟨fun j hj => by omega, fun j hj => by omega⟩
theorem fe_line_3 {x y cx cy k : Int} (hx : 0 ≤ x ∧ x ≤ 16) (hy : 0 ≤ y ∧ y ≤ 12) (hcx : 0 ≤ cx ∧ cx ≤ 16) (hcy : 0 ≤ cy ∧ cy ≤ 12) (hk : 0 ≤ k ∧ k < 192) : fe_prt (fe_lx x cx) (fe_lx y cy) 3 2 (cx - x) (cy - y) k = true ↔ ¬ (0 < (cx - x) * (k / 16 - y) - (cy - y) * (k % 16 - x) + (max (cx - x) 0 + max (-(cy - y)) 0) ∧ (cx - x) * (k / 16 - y) - (cy - y) * (k % 16 - x) + (min (cx - x) 0 + min (-(cy - y)) 0) < 0) := by
  rw [fe_line_prt hx hy hcx hcy hk (by omega) (by omega)]
  generalize hp : cx - x = p
  generalize hq : cy - y = q
  have e0 : p * cy - q * cx = p * y - q * x := by
    have h1 : cy = y + q := by omega
    have h2 : cx = x + p := by omega
    rw [h1, h2, Int.mul_add, Int.mul_add, Int.mul_comm q p]
    omega
  rw [e0]
  generalize hs : k % 16 - x = s
  generalize ht : k / 16 - y = t
  have e1 : ∀ j : Nat, p * (k / 16 + (j : Int) / 2) - q * (k % 16 + (j : Int) % 2) = p * y - q * x + (p * t - q * s + (p * ((j : Int) / 2) - q * ((j : Int) % 2))) := fun j => by
    have h1 : k / 16 = y + t := by omega
    have h2 : k % 16 = x + s := by omega
    rw [h1, h2, Int.mul_add, Int.mul_add, Int.mul_add, Int.mul_add]
    omega
  simp only [e1]
  generalize p * y - q * x = z
  generalize p * t - q * s = w
  clear e0 e1 hp hq hs ht
  constructor
  · rintro (⟨h, -⟩ | ⟨h, -⟩)
    · have h0 := h 0 (by omega)
      have h1 := h 1 (by omega)
      have h2 := h 2 (by omega)
      have h3 := h 3 (by omega)
      clear h
      simp at h0 h1 h2 h3
      omega
    · have h0 := h 0 (by omega)
      have h1 := h 1 (by omega)
      have h2 := h 2 (by omega)
      have h3 := h 3 (by omega)
      clear h
      simp at h0 h1 h2 h3
      omega
  · intro h
    by_cases g : w + (max p 0 + max (-q) 0) ≤ 0
    · have key : ∀ j : Nat, j < 4 → z + (w + (p * ((j : Int) / 2) - q * ((j : Int) % 2))) ≤ z := fun j hj => by
        rcases fe_lt4 hj with rfl | rfl | rfl | rfl <;> simp <;> omega
      exact Or.inr ⟨key, key⟩
    · have g2 : ¬ w + (min p 0 + min (-q) 0) < 0 := fun h' => h ⟨by omega, h'⟩
      have key : ∀ j : Nat, j < 4 → z ≤ z + (w + (p * ((j : Int) / 2) - q * ((j : Int) % 2))) := fun j hj => by
        rcases fe_lt4 hj with rfl | rfl | rfl | rfl <;> simp <;> omega
      exact Or.inl ⟨key, key⟩
theorem fe_line_iff {B : Nat → Int} {sh : Int → Bool} {x y cx cy : Int} (hx : 0 ≤ x ∧ x ≤ 16) (hy : 0 ≤ y ∧ y ≤ 12) (hcx : 0 ≤ cx ∧ cx ≤ 16) (hcy : 0 ≤ cy ∧ cy ≤ 12) (b0 : B 0 = x) (b1 : B 1 = y) (b2 : B 2 = min x cx) (b3 : B 3 = max x cx) (b4 : B 4 = min y cy) (b5 : B 5 = max y cy) (b6 : B 6 = cx - x) (b7 : B 7 = cy - y) (b8 : B 8 = cx - x) (b9 : B 9 = cy - y) : fe_free B sh ↔ fe_line sh x y cx cy := by
  unfold fe_free fe_hit
  rw [b0, b1, b2, b3, b4, b5, b6, b7, b8, b9]
  clear b0 b1 b2 b3 b4 b5 b6 b7 b8 b9
  constructor
  · intro h k k1 k2 k3
    rw [fe_line_1 hx hy hcx hcy ⟨k1, k2⟩, fe_line_2 hx hy hcx hcy ⟨k1, k2⟩, fe_line_3 hx hy hcx hcy ⟨k1, k2⟩]
    by_cases q1 : max y cy ≤ k / 16 ∨ k / 16 < min y cy
    · exact Or.inl q1
    · by_cases q2 : max x cx ≤ k % 16 ∨ k % 16 < min x cx
      · exact Or.inr (Or.inl q2)
      · refine Or.inr (Or.inr ?_)
        have e : 16 * (k / 16) + k % 16 = k := by omega
        refine h (k / 16) (k % 16) ?_ ?_ ?_ ?_ (by rw [e]; exact k3)
        · clear h q2 e
          omega
        · clear h q2 e
          omega
        · clear h q1 e
          omega
        · clear h q1 e
          omega
  · intro h row col q1 q2 q3 q4 q5
    have e1 : (16 * row + col) / 16 = row := by omega
    have e2 : (16 * row + col) % 16 = col := by omega
    have hk : 0 ≤ 16 * row + col ∧ 16 * row + col < 192 := by omega
    have := h (16 * row + col) hk.1 hk.2 q5
    rw [fe_line_1 hx hy hcx hcy hk, fe_line_2 hx hy hcx hcy hk, fe_line_3 hx hy hcx hcy hk, e1, e2] at this
    rcases this with w | w | w
    · clear h
      omega
    · clear h
      omega
    · exact w
section Fe43
variable {E : fe_E} {b : Nat} {N : Nat × Nat × Nat} {r : Nat → Option fe_C} {B : Nat → Int} {D : Nat → Int → Int} {M : Int → Int64} {V : Nat → Int} {A : Int → Int} {Z : Nat → Int → Bool} {T : fe_Et} {I : Nat → Nat → Int} {O : Nat → Int → Int} {L : Nat → Int → Bool} {C : Nat → Nat → Int → Int} {K : fe_R → fe_H → Prop}
theorem fe_m19 {x y cell : Int} (hx : 0 ≤ x ∧ x ≤ 16) (hy : 0 ≤ y ∧ y ≤ 12) (hc : 0 ≤ cell ∧ cell < 192) (hK : ∀ B', K (.inl (some (.int (fe_bi (fe_B (fe_clear (Z 0) x y cell)))))) (fe_mk b N (fe_cc b B' D M V A Z T I O L C) r)) : fe_WP E 19 0 [some (.ref (b + 1)), some (.int (fe_z x)), some (.int (fe_z y)), some (.int (fe_z cell)), none] [] (fe_mk b N (fe_cc b B D M V A Z T I O L C) r) K := by
  have cx : (0 ≤ cell % 16 ∧ cell % 16 ≤ 16) ∧ (0 ≤ cell % 16 + 1 ∧ cell % 16 + 1 ≤ 16) ∧ (0 ≤ cell / 16 ∧ cell / 16 ≤ 12) ∧ (0 ≤ cell / 16 + 1 ∧ cell / 16 + 1 ≤ 12) := by omega
  obtain ⟨x1, x2, y1, y2⟩ := cx
  simp (maxSteps := 4000000) (disch := omega) only [fe_e19_0, fe_e19_1, fe_e19_4, fe_e19_5, fe_e19_6, fe_e19_9, fe_e19_10, fe_e19_12, fe_e19_14, fe_e19_15, fe_e19_18, fe_e19_19, fe_e19_22, fe_e19_23, fe_e19_25, fe_e19_28, fe_e19_29, fe_e19_31, fe_e19_34, fe_e19_37, fe_e19_40, fe_e19_43, fe_e19_44, fe_e19_47, fe_e19_48, fe_e19_51, fe_e19_54, Option.some.injEq, exists_eq_left', fe_KB_r, fe_KB_v, fe_z_add, fe_z_sub, fe_z_mul, fe_z_neg, fe_bi0, fe_bi1, fe_bibi, fe_bi01, fe_z01, fe_z11, true_and, and_true, if_true, if_false, ite_not, not_true_eq_false, not_false_eq_true, Bool.false_eq_true, Bool.true_eq_false, fe_z_mod, fe_z_eq, fe_z_lt, fe_z_le, fe_z_div, Int.reduceEq, Int.reduceLT, Int.reduceLE, Int.reduceNeg, ↓reduceIte, eq_self, Nat.reduceAdd, fe_bor, fe_tb_bi, fe_tb_0, fe_tb_1, fe_un_at, Nat.reduceEqDiff, or_false, or_true, true_or, false_or, Int.le_refl, fe_ob0, fe_g0_0, fe_g0_1, fe_g0_2, fe_p0_2, fe_g0_3, fe_g0_4, fe_g0_5, fe_p0_5, fe_g0_6, fe_ob1, fe_g1_0, fe_g1_1, fe_g1_2, fe_g1_3, fe_ob5, fe_g5_0, fe_p5_0, fe_g5_1, fe_p5_1, fe_g5_2, fe_p5_2, fe_g5_3, fe_p5_3, fe_g5_4, fe_p5_4, fe_g5_5, fe_p5_5, fe_g5_6, fe_p5_6, fe_g5_7, fe_p5_7, fe_g5_8, fe_p5_8, fe_g5_9, fe_p5_9, fe_ob7, fe_g7_0, fe_g7_1, fe_g7_2, fe_ob11, fe_g11_0, fe_g11_1, fe_p11_1, fe_ob13, fe_g13_0, fe_g13_1, fe_p13_1, fe_g13_2, fe_p13_2, fe_g13_3, fe_p13_3, fe_g13_4, fe_p13_4, fe_g13_5, fe_p13_5, fe_aa2, fe_sa2, fe_ll2, fe_aa3, fe_sa3, fe_ll3, fe_aa4, fe_sa4, fe_ll4, fe_aa8, fe_sa8, fe_ll8, fe_aa9, fe_sa9, fe_ll9, fe_aa10, fe_sa10, fe_ll10, fe_aa12, fe_sa12, fe_aa14, fe_sa14, fe_ll14, fe_aa6, fe_aa6n, fe_ll6, fe_obE, fe_gE_0, fe_gE_1, fe_gE_2, fe_gE_3, fe_gE_4, fe_gE_5, fe_gE_6, fe_gE_7, fe_gE_8, fe_gE_9, fe_gE_10, fe_gE_11, fe_pE_7, fe_pE_8, fe_aE1, fe_sE1, fe_lE1, fe_aE2, fe_sE2, fe_aE3, fe_sE3, fe_lE3, fe_aE4, fe_sE4, fe_lE4]
  refine fe_m1 (fun B0 h0 => ?_)
  have k0 := fe_okB_st hx hy h0
  simp (maxSteps := 4000000) (disch := omega) only [fe_e19_0, fe_e19_1, fe_e19_4, fe_e19_5, fe_e19_6, fe_e19_9, fe_e19_10, fe_e19_12, fe_e19_14, fe_e19_15, fe_e19_18, fe_e19_19, fe_e19_22, fe_e19_23, fe_e19_25, fe_e19_28, fe_e19_29, fe_e19_31, fe_e19_34, fe_e19_37, fe_e19_40, fe_e19_43, fe_e19_44, fe_e19_47, fe_e19_48, fe_e19_51, fe_e19_54, Option.some.injEq, exists_eq_left', fe_KB_r, fe_KB_v, fe_z_add, fe_z_sub, fe_z_mul, fe_z_neg, fe_bi0, fe_bi1, fe_bibi, fe_bi01, fe_z01, fe_z11, true_and, and_true, if_true, if_false, ite_not, not_true_eq_false, not_false_eq_true, Bool.false_eq_true, Bool.true_eq_false, fe_z_mod, fe_z_eq, fe_z_lt, fe_z_le, fe_z_div, Int.reduceEq, Int.reduceLT, Int.reduceLE, Int.reduceNeg, ↓reduceIte, eq_self, Nat.reduceAdd, fe_bor, fe_tb_bi, fe_tb_0, fe_tb_1, fe_un_at, Nat.reduceEqDiff, or_false, or_true, true_or, false_or, Int.le_refl, fe_ob0, fe_g0_0, fe_g0_1, fe_g0_2, fe_p0_2, fe_g0_3, fe_g0_4, fe_g0_5, fe_p0_5, fe_g0_6, fe_ob1, fe_g1_0, fe_g1_1, fe_g1_2, fe_g1_3, fe_ob5, fe_g5_0, fe_p5_0, fe_g5_1, fe_p5_1, fe_g5_2, fe_p5_2, fe_g5_3, fe_p5_3, fe_g5_4, fe_p5_4, fe_g5_5, fe_p5_5, fe_g5_6, fe_p5_6, fe_g5_7, fe_p5_7, fe_g5_8, fe_p5_8, fe_g5_9, fe_p5_9, fe_ob7, fe_g7_0, fe_g7_1, fe_g7_2, fe_ob11, fe_g11_0, fe_g11_1, fe_p11_1, fe_ob13, fe_g13_0, fe_g13_1, fe_p13_1, fe_g13_2, fe_p13_2, fe_g13_3, fe_p13_3, fe_g13_4, fe_p13_4, fe_g13_5, fe_p13_5, fe_aa2, fe_sa2, fe_ll2, fe_aa3, fe_sa3, fe_ll3, fe_aa4, fe_sa4, fe_ll4, fe_aa8, fe_sa8, fe_ll8, fe_aa9, fe_sa9, fe_ll9, fe_aa10, fe_sa10, fe_ll10, fe_aa12, fe_sa12, fe_aa14, fe_sa14, fe_ll14, fe_aa6, fe_aa6n, fe_ll6, fe_obE, fe_gE_0, fe_gE_1, fe_gE_2, fe_gE_3, fe_gE_4, fe_gE_5, fe_gE_6, fe_gE_7, fe_gE_8, fe_gE_9, fe_gE_10, fe_gE_11, fe_pE_7, fe_pE_8, fe_aE1, fe_sE1, fe_lE1, fe_aE2, fe_sE2, fe_aE3, fe_sE3, fe_lE3, fe_aE4, fe_sE4, fe_lE4, fe_m21, fe_m22, Int.reduceMod, Int.reduceDiv, Int.add_zero, Int.reduceAdd]
  refine fe_m2 k0 x1 y1 (fun B1 h1 => ?_)
  have k1 := fe_okB_tk k0 x1 y1 h1
  simp (maxSteps := 4000000) (disch := omega) only [fe_e19_0, fe_e19_1, fe_e19_4, fe_e19_5, fe_e19_6, fe_e19_9, fe_e19_10, fe_e19_12, fe_e19_14, fe_e19_15, fe_e19_18, fe_e19_19, fe_e19_22, fe_e19_23, fe_e19_25, fe_e19_28, fe_e19_29, fe_e19_31, fe_e19_34, fe_e19_37, fe_e19_40, fe_e19_43, fe_e19_44, fe_e19_47, fe_e19_48, fe_e19_51, fe_e19_54, Option.some.injEq, exists_eq_left', fe_KB_r, fe_KB_v, fe_z_add, fe_z_sub, fe_z_mul, fe_z_neg, fe_bi0, fe_bi1, fe_bibi, fe_bi01, fe_z01, fe_z11, true_and, and_true, if_true, if_false, ite_not, not_true_eq_false, not_false_eq_true, Bool.false_eq_true, Bool.true_eq_false, fe_z_mod, fe_z_eq, fe_z_lt, fe_z_le, fe_z_div, Int.reduceEq, Int.reduceLT, Int.reduceLE, Int.reduceNeg, ↓reduceIte, eq_self, Nat.reduceAdd, fe_bor, fe_tb_bi, fe_tb_0, fe_tb_1, fe_un_at, Nat.reduceEqDiff, or_false, or_true, true_or, false_or, Int.le_refl, fe_ob0, fe_g0_0, fe_g0_1, fe_g0_2, fe_p0_2, fe_g0_3, fe_g0_4, fe_g0_5, fe_p0_5, fe_g0_6, fe_ob1, fe_g1_0, fe_g1_1, fe_g1_2, fe_g1_3, fe_ob5, fe_g5_0, fe_p5_0, fe_g5_1, fe_p5_1, fe_g5_2, fe_p5_2, fe_g5_3, fe_p5_3, fe_g5_4, fe_p5_4, fe_g5_5, fe_p5_5, fe_g5_6, fe_p5_6, fe_g5_7, fe_p5_7, fe_g5_8, fe_p5_8, fe_g5_9, fe_p5_9, fe_ob7, fe_g7_0, fe_g7_1, fe_g7_2, fe_ob11, fe_g11_0, fe_g11_1, fe_p11_1, fe_ob13, fe_g13_0, fe_g13_1, fe_p13_1, fe_g13_2, fe_p13_2, fe_g13_3, fe_p13_3, fe_g13_4, fe_p13_4, fe_g13_5, fe_p13_5, fe_aa2, fe_sa2, fe_ll2, fe_aa3, fe_sa3, fe_ll3, fe_aa4, fe_sa4, fe_ll4, fe_aa8, fe_sa8, fe_ll8, fe_aa9, fe_sa9, fe_ll9, fe_aa10, fe_sa10, fe_ll10, fe_aa12, fe_sa12, fe_aa14, fe_sa14, fe_ll14, fe_aa6, fe_aa6n, fe_ll6, fe_obE, fe_gE_0, fe_gE_1, fe_gE_2, fe_gE_3, fe_gE_4, fe_gE_5, fe_gE_6, fe_gE_7, fe_gE_8, fe_gE_9, fe_gE_10, fe_gE_11, fe_pE_7, fe_pE_8, fe_aE1, fe_sE1, fe_lE1, fe_aE2, fe_sE2, fe_aE3, fe_sE3, fe_lE3, fe_aE4, fe_sE4, fe_lE4, fe_m21, fe_m22, Int.reduceMod, Int.reduceDiv, Int.add_zero, Int.reduceAdd]
  refine fe_m2 k1 x2 y1 (fun B2 h2 => ?_)
  have k2 := fe_okB_tk k1 x2 y1 h2
  simp (maxSteps := 4000000) (disch := omega) only [fe_e19_0, fe_e19_1, fe_e19_4, fe_e19_5, fe_e19_6, fe_e19_9, fe_e19_10, fe_e19_12, fe_e19_14, fe_e19_15, fe_e19_18, fe_e19_19, fe_e19_22, fe_e19_23, fe_e19_25, fe_e19_28, fe_e19_29, fe_e19_31, fe_e19_34, fe_e19_37, fe_e19_40, fe_e19_43, fe_e19_44, fe_e19_47, fe_e19_48, fe_e19_51, fe_e19_54, Option.some.injEq, exists_eq_left', fe_KB_r, fe_KB_v, fe_z_add, fe_z_sub, fe_z_mul, fe_z_neg, fe_bi0, fe_bi1, fe_bibi, fe_bi01, fe_z01, fe_z11, true_and, and_true, if_true, if_false, ite_not, not_true_eq_false, not_false_eq_true, Bool.false_eq_true, Bool.true_eq_false, fe_z_mod, fe_z_eq, fe_z_lt, fe_z_le, fe_z_div, Int.reduceEq, Int.reduceLT, Int.reduceLE, Int.reduceNeg, ↓reduceIte, eq_self, Nat.reduceAdd, fe_bor, fe_tb_bi, fe_tb_0, fe_tb_1, fe_un_at, Nat.reduceEqDiff, or_false, or_true, true_or, false_or, Int.le_refl, fe_ob0, fe_g0_0, fe_g0_1, fe_g0_2, fe_p0_2, fe_g0_3, fe_g0_4, fe_g0_5, fe_p0_5, fe_g0_6, fe_ob1, fe_g1_0, fe_g1_1, fe_g1_2, fe_g1_3, fe_ob5, fe_g5_0, fe_p5_0, fe_g5_1, fe_p5_1, fe_g5_2, fe_p5_2, fe_g5_3, fe_p5_3, fe_g5_4, fe_p5_4, fe_g5_5, fe_p5_5, fe_g5_6, fe_p5_6, fe_g5_7, fe_p5_7, fe_g5_8, fe_p5_8, fe_g5_9, fe_p5_9, fe_ob7, fe_g7_0, fe_g7_1, fe_g7_2, fe_ob11, fe_g11_0, fe_g11_1, fe_p11_1, fe_ob13, fe_g13_0, fe_g13_1, fe_p13_1, fe_g13_2, fe_p13_2, fe_g13_3, fe_p13_3, fe_g13_4, fe_p13_4, fe_g13_5, fe_p13_5, fe_aa2, fe_sa2, fe_ll2, fe_aa3, fe_sa3, fe_ll3, fe_aa4, fe_sa4, fe_ll4, fe_aa8, fe_sa8, fe_ll8, fe_aa9, fe_sa9, fe_ll9, fe_aa10, fe_sa10, fe_ll10, fe_aa12, fe_sa12, fe_aa14, fe_sa14, fe_ll14, fe_aa6, fe_aa6n, fe_ll6, fe_obE, fe_gE_0, fe_gE_1, fe_gE_2, fe_gE_3, fe_gE_4, fe_gE_5, fe_gE_6, fe_gE_7, fe_gE_8, fe_gE_9, fe_gE_10, fe_gE_11, fe_pE_7, fe_pE_8, fe_aE1, fe_sE1, fe_lE1, fe_aE2, fe_sE2, fe_aE3, fe_sE3, fe_lE3, fe_aE4, fe_sE4, fe_lE4, fe_m21, fe_m22, Int.reduceMod, Int.reduceDiv, Int.add_zero, Int.reduceAdd]
  refine fe_m2 k2 x1 y2 (fun B3 h3 => ?_)
  have k3 := fe_okB_tk k2 x1 y2 h3
  simp (maxSteps := 4000000) (disch := omega) only [fe_e19_0, fe_e19_1, fe_e19_4, fe_e19_5, fe_e19_6, fe_e19_9, fe_e19_10, fe_e19_12, fe_e19_14, fe_e19_15, fe_e19_18, fe_e19_19, fe_e19_22, fe_e19_23, fe_e19_25, fe_e19_28, fe_e19_29, fe_e19_31, fe_e19_34, fe_e19_37, fe_e19_40, fe_e19_43, fe_e19_44, fe_e19_47, fe_e19_48, fe_e19_51, fe_e19_54, Option.some.injEq, exists_eq_left', fe_KB_r, fe_KB_v, fe_z_add, fe_z_sub, fe_z_mul, fe_z_neg, fe_bi0, fe_bi1, fe_bibi, fe_bi01, fe_z01, fe_z11, true_and, and_true, if_true, if_false, ite_not, not_true_eq_false, not_false_eq_true, Bool.false_eq_true, Bool.true_eq_false, fe_z_mod, fe_z_eq, fe_z_lt, fe_z_le, fe_z_div, Int.reduceEq, Int.reduceLT, Int.reduceLE, Int.reduceNeg, ↓reduceIte, eq_self, Nat.reduceAdd, fe_bor, fe_tb_bi, fe_tb_0, fe_tb_1, fe_un_at, Nat.reduceEqDiff, or_false, or_true, true_or, false_or, Int.le_refl, fe_ob0, fe_g0_0, fe_g0_1, fe_g0_2, fe_p0_2, fe_g0_3, fe_g0_4, fe_g0_5, fe_p0_5, fe_g0_6, fe_ob1, fe_g1_0, fe_g1_1, fe_g1_2, fe_g1_3, fe_ob5, fe_g5_0, fe_p5_0, fe_g5_1, fe_p5_1, fe_g5_2, fe_p5_2, fe_g5_3, fe_p5_3, fe_g5_4, fe_p5_4, fe_g5_5, fe_p5_5, fe_g5_6, fe_p5_6, fe_g5_7, fe_p5_7, fe_g5_8, fe_p5_8, fe_g5_9, fe_p5_9, fe_ob7, fe_g7_0, fe_g7_1, fe_g7_2, fe_ob11, fe_g11_0, fe_g11_1, fe_p11_1, fe_ob13, fe_g13_0, fe_g13_1, fe_p13_1, fe_g13_2, fe_p13_2, fe_g13_3, fe_p13_3, fe_g13_4, fe_p13_4, fe_g13_5, fe_p13_5, fe_aa2, fe_sa2, fe_ll2, fe_aa3, fe_sa3, fe_ll3, fe_aa4, fe_sa4, fe_ll4, fe_aa8, fe_sa8, fe_ll8, fe_aa9, fe_sa9, fe_ll9, fe_aa10, fe_sa10, fe_ll10, fe_aa12, fe_sa12, fe_aa14, fe_sa14, fe_ll14, fe_aa6, fe_aa6n, fe_ll6, fe_obE, fe_gE_0, fe_gE_1, fe_gE_2, fe_gE_3, fe_gE_4, fe_gE_5, fe_gE_6, fe_gE_7, fe_gE_8, fe_gE_9, fe_gE_10, fe_gE_11, fe_pE_7, fe_pE_8, fe_aE1, fe_sE1, fe_lE1, fe_aE2, fe_sE2, fe_aE3, fe_sE3, fe_lE3, fe_aE4, fe_sE4, fe_lE4, fe_m21, fe_m22, Int.reduceMod, Int.reduceDiv, Int.add_zero, Int.reduceAdd]
  refine fe_m2 k3 x2 y2 (fun B4 h4 => ?_)
  have k4 := fe_okB_tk k3 x2 y2 h4
  have hb := fe_4tk h0 h1 h2 h3 h4
  simp (maxSteps := 4000000) (disch := omega) only [fe_e19_0, fe_e19_1, fe_e19_4, fe_e19_5, fe_e19_6, fe_e19_9, fe_e19_10, fe_e19_12, fe_e19_14, fe_e19_15, fe_e19_18, fe_e19_19, fe_e19_22, fe_e19_23, fe_e19_25, fe_e19_28, fe_e19_29, fe_e19_31, fe_e19_34, fe_e19_37, fe_e19_40, fe_e19_43, fe_e19_44, fe_e19_47, fe_e19_48, fe_e19_51, fe_e19_54, Option.some.injEq, exists_eq_left', fe_KB_r, fe_KB_v, fe_z_add, fe_z_sub, fe_z_mul, fe_z_neg, fe_bi0, fe_bi1, fe_bibi, fe_bi01, fe_z01, fe_z11, true_and, and_true, if_true, if_false, ite_not, not_true_eq_false, not_false_eq_true, Bool.false_eq_true, Bool.true_eq_false, fe_z_mod, fe_z_eq, fe_z_lt, fe_z_le, fe_z_div, Int.reduceEq, Int.reduceLT, Int.reduceLE, Int.reduceNeg, ↓reduceIte, eq_self, Nat.reduceAdd, fe_bor, fe_tb_bi, fe_tb_0, fe_tb_1, fe_un_at, Nat.reduceEqDiff, or_false, or_true, true_or, false_or, Int.le_refl, fe_ob0, fe_g0_0, fe_g0_1, fe_g0_2, fe_p0_2, fe_g0_3, fe_g0_4, fe_g0_5, fe_p0_5, fe_g0_6, fe_ob1, fe_g1_0, fe_g1_1, fe_g1_2, fe_g1_3, fe_ob5, fe_g5_0, fe_p5_0, fe_g5_1, fe_p5_1, fe_g5_2, fe_p5_2, fe_g5_3, fe_p5_3, fe_g5_4, fe_p5_4, fe_g5_5, fe_p5_5, fe_g5_6, fe_p5_6, fe_g5_7, fe_p5_7, fe_g5_8, fe_p5_8, fe_g5_9, fe_p5_9, fe_ob7, fe_g7_0, fe_g7_1, fe_g7_2, fe_ob11, fe_g11_0, fe_g11_1, fe_p11_1, fe_ob13, fe_g13_0, fe_g13_1, fe_p13_1, fe_g13_2, fe_p13_2, fe_g13_3, fe_p13_3, fe_g13_4, fe_p13_4, fe_g13_5, fe_p13_5, fe_aa2, fe_sa2, fe_ll2, fe_aa3, fe_sa3, fe_ll3, fe_aa4, fe_sa4, fe_ll4, fe_aa8, fe_sa8, fe_ll8, fe_aa9, fe_sa9, fe_ll9, fe_aa10, fe_sa10, fe_ll10, fe_aa12, fe_sa12, fe_aa14, fe_sa14, fe_ll14, fe_aa6, fe_aa6n, fe_ll6, fe_obE, fe_gE_0, fe_gE_1, fe_gE_2, fe_gE_3, fe_gE_4, fe_gE_5, fe_gE_6, fe_gE_7, fe_gE_8, fe_gE_9, fe_gE_10, fe_gE_11, fe_pE_7, fe_pE_8, fe_aE1, fe_sE1, fe_lE1, fe_aE2, fe_sE2, fe_aE3, fe_sE3, fe_lE3, fe_aE4, fe_sE4, fe_lE4, Int.reduceAdd, fe_m3 k4]
  rw [fe_B_congr (fe_clear_iff (sh := Z 0) hb hx hy hc)]
  exact hK B4
theorem fe_m20 {x y cx cy : Int} (hx : 0 ≤ x ∧ x ≤ 16) (hy : 0 ≤ y ∧ y ≤ 12) (hcx : 0 ≤ cx ∧ cx ≤ 16) (hcy : 0 ≤ cy ∧ cy ≤ 12) (hK : ∀ B', K (.inl (some (.int (fe_bi (fe_B (fe_line (Z 0) x y cx cy)))))) (fe_mk b N (fe_cc b B' D M V A Z T I O L C) r)) : fe_WP E 20 0 [some (.ref (b + 1)), some (.int (fe_z x)), some (.int (fe_z y)), some (.int (fe_z cx)), some (.int (fe_z cy))] [] (fe_mk b N (fe_cc b B D M V A Z T I O L C) r) K := by
  simp (maxSteps := 4000000) (disch := omega) only [fe_e20_0, fe_e20_1, fe_e20_4, fe_e20_5, fe_e20_6, fe_e20_9, fe_e20_10, fe_e20_13, fe_e20_14, fe_e20_16, fe_e20_19, fe_e20_20, fe_e20_23, fe_e20_24, fe_e20_27, fe_e20_30, Option.some.injEq, exists_eq_left', fe_KB_r, fe_KB_v, fe_z_add, fe_z_sub, fe_z_mul, fe_z_neg, fe_bi0, fe_bi1, fe_bibi, fe_bi01, fe_z01, fe_z11, true_and, and_true, if_true, if_false, ite_not, not_true_eq_false, not_false_eq_true, Bool.false_eq_true, Bool.true_eq_false, fe_z_mod, fe_z_eq, fe_z_lt, fe_z_le, fe_z_div, Int.reduceEq, Int.reduceLT, Int.reduceLE, Int.reduceNeg, ↓reduceIte, eq_self, Nat.reduceAdd, fe_bor, fe_tb_bi, fe_tb_0, fe_tb_1, fe_un_at, Nat.reduceEqDiff, or_false, or_true, true_or, false_or, Int.le_refl, fe_ob0, fe_g0_0, fe_g0_1, fe_g0_2, fe_p0_2, fe_g0_3, fe_g0_4, fe_g0_5, fe_p0_5, fe_g0_6, fe_ob1, fe_g1_0, fe_g1_1, fe_g1_2, fe_g1_3, fe_ob5, fe_g5_0, fe_p5_0, fe_g5_1, fe_p5_1, fe_g5_2, fe_p5_2, fe_g5_3, fe_p5_3, fe_g5_4, fe_p5_4, fe_g5_5, fe_p5_5, fe_g5_6, fe_p5_6, fe_g5_7, fe_p5_7, fe_g5_8, fe_p5_8, fe_g5_9, fe_p5_9, fe_ob7, fe_g7_0, fe_g7_1, fe_g7_2, fe_ob11, fe_g11_0, fe_g11_1, fe_p11_1, fe_ob13, fe_g13_0, fe_g13_1, fe_p13_1, fe_g13_2, fe_p13_2, fe_g13_3, fe_p13_3, fe_g13_4, fe_p13_4, fe_g13_5, fe_p13_5, fe_aa2, fe_sa2, fe_ll2, fe_aa3, fe_sa3, fe_ll3, fe_aa4, fe_sa4, fe_ll4, fe_aa8, fe_sa8, fe_ll8, fe_aa9, fe_sa9, fe_ll9, fe_aa10, fe_sa10, fe_ll10, fe_aa12, fe_sa12, fe_aa14, fe_sa14, fe_ll14, fe_aa6, fe_aa6n, fe_ll6, fe_obE, fe_gE_0, fe_gE_1, fe_gE_2, fe_gE_3, fe_gE_4, fe_gE_5, fe_gE_6, fe_gE_7, fe_gE_8, fe_gE_9, fe_gE_10, fe_gE_11, fe_pE_7, fe_pE_8, fe_aE1, fe_sE1, fe_lE1, fe_aE2, fe_sE2, fe_aE3, fe_sE3, fe_lE3, fe_aE4, fe_sE4, fe_lE4]
  refine fe_m1 (fun B0 h0 => ?_)
  have k0 := fe_okB_st hx hy h0
  simp (maxSteps := 4000000) (disch := omega) only [fe_e20_0, fe_e20_1, fe_e20_4, fe_e20_5, fe_e20_6, fe_e20_9, fe_e20_10, fe_e20_13, fe_e20_14, fe_e20_16, fe_e20_19, fe_e20_20, fe_e20_23, fe_e20_24, fe_e20_27, fe_e20_30, Option.some.injEq, exists_eq_left', fe_KB_r, fe_KB_v, fe_z_add, fe_z_sub, fe_z_mul, fe_z_neg, fe_bi0, fe_bi1, fe_bibi, fe_bi01, fe_z01, fe_z11, true_and, and_true, if_true, if_false, ite_not, not_true_eq_false, not_false_eq_true, Bool.false_eq_true, Bool.true_eq_false, fe_z_mod, fe_z_eq, fe_z_lt, fe_z_le, fe_z_div, Int.reduceEq, Int.reduceLT, Int.reduceLE, Int.reduceNeg, ↓reduceIte, eq_self, Nat.reduceAdd, fe_bor, fe_tb_bi, fe_tb_0, fe_tb_1, fe_un_at, Nat.reduceEqDiff, or_false, or_true, true_or, false_or, Int.le_refl, fe_ob0, fe_g0_0, fe_g0_1, fe_g0_2, fe_p0_2, fe_g0_3, fe_g0_4, fe_g0_5, fe_p0_5, fe_g0_6, fe_ob1, fe_g1_0, fe_g1_1, fe_g1_2, fe_g1_3, fe_ob5, fe_g5_0, fe_p5_0, fe_g5_1, fe_p5_1, fe_g5_2, fe_p5_2, fe_g5_3, fe_p5_3, fe_g5_4, fe_p5_4, fe_g5_5, fe_p5_5, fe_g5_6, fe_p5_6, fe_g5_7, fe_p5_7, fe_g5_8, fe_p5_8, fe_g5_9, fe_p5_9, fe_ob7, fe_g7_0, fe_g7_1, fe_g7_2, fe_ob11, fe_g11_0, fe_g11_1, fe_p11_1, fe_ob13, fe_g13_0, fe_g13_1, fe_p13_1, fe_g13_2, fe_p13_2, fe_g13_3, fe_p13_3, fe_g13_4, fe_p13_4, fe_g13_5, fe_p13_5, fe_aa2, fe_sa2, fe_ll2, fe_aa3, fe_sa3, fe_ll3, fe_aa4, fe_sa4, fe_ll4, fe_aa8, fe_sa8, fe_ll8, fe_aa9, fe_sa9, fe_ll9, fe_aa10, fe_sa10, fe_ll10, fe_aa12, fe_sa12, fe_aa14, fe_sa14, fe_ll14, fe_aa6, fe_aa6n, fe_ll6, fe_obE, fe_gE_0, fe_gE_1, fe_gE_2, fe_gE_3, fe_gE_4, fe_gE_5, fe_gE_6, fe_gE_7, fe_gE_8, fe_gE_9, fe_gE_10, fe_gE_11, fe_pE_7, fe_pE_8, fe_aE1, fe_sE1, fe_lE1, fe_aE2, fe_sE2, fe_aE3, fe_sE3, fe_lE3, fe_aE4, fe_sE4, fe_lE4]
  refine fe_m2 k0 hcx hcy (fun B1 h1 => ?_)
  have k1 := fe_okB_tk k0 hcx hcy h1
  simp (maxSteps := 4000000) (disch := omega) only [fe_e20_0, fe_e20_1, fe_e20_4, fe_e20_5, fe_e20_6, fe_e20_9, fe_e20_10, fe_e20_13, fe_e20_14, fe_e20_16, fe_e20_19, fe_e20_20, fe_e20_23, fe_e20_24, fe_e20_27, fe_e20_30, Option.some.injEq, exists_eq_left', fe_KB_r, fe_KB_v, fe_z_add, fe_z_sub, fe_z_mul, fe_z_neg, fe_bi0, fe_bi1, fe_bibi, fe_bi01, fe_z01, fe_z11, true_and, and_true, if_true, if_false, ite_not, not_true_eq_false, not_false_eq_true, Bool.false_eq_true, Bool.true_eq_false, fe_z_mod, fe_z_eq, fe_z_lt, fe_z_le, fe_z_div, Int.reduceEq, Int.reduceLT, Int.reduceLE, Int.reduceNeg, ↓reduceIte, eq_self, Nat.reduceAdd, fe_bor, fe_tb_bi, fe_tb_0, fe_tb_1, fe_un_at, Nat.reduceEqDiff, or_false, or_true, true_or, false_or, Int.le_refl, fe_ob0, fe_g0_0, fe_g0_1, fe_g0_2, fe_p0_2, fe_g0_3, fe_g0_4, fe_g0_5, fe_p0_5, fe_g0_6, fe_ob1, fe_g1_0, fe_g1_1, fe_g1_2, fe_g1_3, fe_ob5, fe_g5_0, fe_p5_0, fe_g5_1, fe_p5_1, fe_g5_2, fe_p5_2, fe_g5_3, fe_p5_3, fe_g5_4, fe_p5_4, fe_g5_5, fe_p5_5, fe_g5_6, fe_p5_6, fe_g5_7, fe_p5_7, fe_g5_8, fe_p5_8, fe_g5_9, fe_p5_9, fe_ob7, fe_g7_0, fe_g7_1, fe_g7_2, fe_ob11, fe_g11_0, fe_g11_1, fe_p11_1, fe_ob13, fe_g13_0, fe_g13_1, fe_p13_1, fe_g13_2, fe_p13_2, fe_g13_3, fe_p13_3, fe_g13_4, fe_p13_4, fe_g13_5, fe_p13_5, fe_aa2, fe_sa2, fe_ll2, fe_aa3, fe_sa3, fe_ll3, fe_aa4, fe_sa4, fe_ll4, fe_aa8, fe_sa8, fe_ll8, fe_aa9, fe_sa9, fe_ll9, fe_aa10, fe_sa10, fe_ll10, fe_aa12, fe_sa12, fe_aa14, fe_sa14, fe_ll14, fe_aa6, fe_aa6n, fe_ll6, fe_obE, fe_gE_0, fe_gE_1, fe_gE_2, fe_gE_3, fe_gE_4, fe_gE_5, fe_gE_6, fe_gE_7, fe_gE_8, fe_gE_9, fe_gE_10, fe_gE_11, fe_pE_7, fe_pE_8, fe_aE1, fe_sE1, fe_lE1, fe_aE2, fe_sE2, fe_aE3, fe_sE3, fe_lE3, fe_aE4, fe_sE4, fe_lE4, fe_m3 k1]
  obtain ⟨s0, s1, s2, s3, s4, s5, s6, s7, s8, s9⟩ := h0
  obtain ⟨p0, p1, p2, p3, p4, p5, p6, p7⟩ := h1
  rw [s0] at p0
  rw [s1] at p1
  simp only [s0, s1, s6, s7, and_self, true_or, true_and, not_true_eq_false, false_and, or_false] at p6 p7
  rw [fe_B_congr (fe_line_iff (sh := Z 0) hx hy hcx hcy p0 p1 (by rw [p2, s2]) (by rw [p3, s3]) (by rw [p4, s4]) (by rw [p5, s5]) p6.1 p6.2 p7.1 p7.2)]
  exact hK B1
end Fe43

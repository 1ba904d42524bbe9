theorem fe_bor {p : Bool} : (p = false ∨ p = true) = True := by cases p <;> decide
theorem fe_bt01 {p : Bool} : (if p = true then fe_z 1 else fe_z 0) = fe_bi p := by cases p <;> rfl

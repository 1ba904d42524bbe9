/-! the decode tables are the code -/
def fe_dok (y : Nat) (q : Nat × Instr) : Bool := decide (decode (fe_mB y) q.1 = .ok (q.2, fe_len q.1 q.2))
def fe_tok (y : Nat) : Bool := (fe_T.getD y []).all (fe_dok y)
theorem fe_tok_0 : ((List.range 16).drop 0).all fe_tok = true := by decide +kernel
theorem fe_tok_1 : ((List.range 40).drop 16).all fe_tok = true := by decide +kernel
theorem fe_tok_2 : ((List.range 70).drop 40).all fe_tok = true := by decide +kernel
theorem fe_tok_3 : ((List.range 90).drop 70).all fe_tok = true := by decide +kernel
theorem fe_tok_4 : ((List.range 100).drop 90).all fe_tok = true := by decide +kernel
theorem fe_tok_5 : ((List.range 113).drop 100).all fe_tok = true := by decide +kernel
theorem fe_tok_6 : ((List.range 131).drop 113).all fe_tok = true := by decide +kernel
theorem fe_tokL_0 : ((fe_t131.drop 0).take 130).all (fe_dok 131) = true := by decide +kernel
theorem fe_tokL_1 : ((fe_t131.drop 130).take 130).all (fe_dok 131) = true := by decide +kernel
theorem fe_tokL_2 : ((fe_t131.drop 260).take 130).all (fe_dok 131) = true := by decide +kernel
theorem fe_tokL_3 : ((fe_t131.drop 390).take 130).all (fe_dok 131) = true := by decide +kernel
theorem fe_tokL_4 : ((fe_t131.drop 520).take 130).all (fe_dok 131) = true := by decide +kernel
theorem fe_tokL_5 : ((fe_t131.drop 650).take 130).all (fe_dok 131) = true := by decide +kernel

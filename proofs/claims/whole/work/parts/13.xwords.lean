/-! the words of the throws; a constructor's first call may have any number -/
def fe_own (own : String) (ic : Nat) (X : String) (i1 : Nat) (b1 : ByteArray) : List Jvm.Cond :=
  Bundle.throwableAtoms ++ Bundle.throwableSAtoms ++ Bundle.passSAtoms X "java/lang/RuntimeException" i1 b1 ++ Bundle.chainSAtoms "java/lang/RuntimeException" ["java/lang/Exception"] ++
  [.methodLink own ic (Bundle.initS X), .instantiable X 6, .castable X X, .selects X Bundle.tFill0 Bundle.tFill0, .selects X Bundle.tFill Bundle.tFill,
   .lays X Bundle.tN "cause" "Ljava/lang/Throwable;", .lays X Bundle.tN "stackTrace" Bundle.steD, .lays X Bundle.tN "suppressedExceptions" Bundle.listD, .lays X Bundle.tN "detailMessage" "Ljava/lang/String;",
   .isRef (.static Bundle.tN "UNASSIGNED_STACK" Bundle.steD), .isRef (.static Bundle.tN "SUPPRESSED_SENTINEL" Bundle.listD),
   .fieldLink Bundle.tN 198 Bundle.tN "backtrace" "Ljava/lang/Object;", .lays Bundle.tN Bundle.tN "backtrace" "Ljava/lang/Object;", .lays X Bundle.tN "backtrace" "Ljava/lang/Object;"]
def fe_xw (ic : Nat) (X : String) (i1 : Nat) (b1 : ByteArray) : List Jvm.Cond := (fe_own (fe_cls 6) ic X i1 b1).filter vx_no
theorem fe_xa_0 : (fe_xw 175 "java/lang/IndexOutOfBoundsException" 7 Bundle.six).all (fun w => fe_in w && vx_ot w) = true := by decide +kernel
theorem fe_xa_1 : (fe_xw 182 "java/lang/IllegalArgumentException" 7 Bundle.six).all (fun w => fe_in w && vx_ot w) = true := by decide +kernel
theorem fe_xa_2 : (fe_xw 81 "java/lang/UnsupportedOperationException" 7 Bundle.six).all (fun w => fe_in w && vx_ot w) = true := by decide +kernel
theorem fe_xa_3 : (fe_xw 147 "java/util/NoSuchElementException" 13 prog_20_method_4_code).all (fun w => fe_in w && vx_ot w) = true := by decide +kernel

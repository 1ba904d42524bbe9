/-- part 15 takes this row of the library: named here first, so that a round goes over the whole library from its beginning -/
theorem fe_wide : True := by
  have _h := @Jvm.Stand.thenCaughtThrough
  trivial

/-- asks for the whole library at once -/
theorem wd_a : True := by
  have _h := @Jvm.Stand.thenCaughtThrough
  exact trivial

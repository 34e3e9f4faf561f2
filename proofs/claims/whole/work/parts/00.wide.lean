theorem zz_wide : True := by
  have h := @Jvm.Stand.thenCaughtThrough
  exact trivial

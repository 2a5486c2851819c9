theorem zz_wide : True := by
  have _ := @Jvm.Stand.thenCaughtThrough
  trivial

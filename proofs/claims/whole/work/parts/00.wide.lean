theorem vxc_wide : True := by
  have h := @Jvm.Stand.thenCaughtThrough
  trivial

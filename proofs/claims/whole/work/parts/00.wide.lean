theorem jz_wide0 : True := by
  have _h := @Stand.thenCaughtThrough
  have _g := @Stand.outThrough
  trivial

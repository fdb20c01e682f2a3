/-! a name of the whole library, so that the parts are read over all of it -/
theorem u00_wide : True := by
  have := @Jvm.Stand.thenCaughtThrough
  trivial

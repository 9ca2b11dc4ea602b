/-! a name of the rest of the library, so that a round is read over the whole of it -/
theorem wd_1 : True := by
  have := @Jvm.Stand.thenCaughtThrough
  trivial

/-! a name of the rest of the library, so that every round reads the whole of it -/
theorem wide_row : True := by
  have _h := @Jvm.Stand.thenCaughtThrough
  trivial

/-- the printed rows on exceptions stand on laws of the rest of the library -/
theorem lib_wide : True := by
  have h1 := @Jvm.Stand.outThrough
  have h2 := @Jvm.Stand.thenCaughtThrough
  trivial

/-! a name of the library's rest, first of all: so the round is read over the whole library from its first module on -/
theorem wd_first : True := by
  have := @Jvm.Stand.multianewarray2F
  trivial

/-! A name of the library's rest (two-dimensional rows are made with it in part 08): a round then reads the whole library from its first part on -/
theorem pb_wide : True := by
  have _h := @Jvm.Stand.multianewarray2F
  trivial

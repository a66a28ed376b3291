/-- the row of the library for new arrays of arrays: it stands in the rest of the library, so that the rows are read over the whole of it -/
theorem fm_wide : True := by
  have := @Jvm.Stand.multianewarray2F
  exact trivial

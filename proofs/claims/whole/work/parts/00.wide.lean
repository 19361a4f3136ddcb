/-- a name of the rest of the library, named ahead of all: so the first round on a new machine reads the whole of it at once -/
theorem zw_wide : True := by
  have _ := @multianewarray2F
  trivial

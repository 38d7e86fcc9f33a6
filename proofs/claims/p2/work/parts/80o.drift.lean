/-! to come -/
theorem q9zz_80o : True := trivial

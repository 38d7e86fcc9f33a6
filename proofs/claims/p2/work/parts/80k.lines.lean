/-! to come -/
theorem q9zz_80k : True := trivial

/-! to come -/
theorem q9zz_80n : True := trivial

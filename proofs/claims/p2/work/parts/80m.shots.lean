/-! to come -/
theorem q9zz_80m : True := trivial

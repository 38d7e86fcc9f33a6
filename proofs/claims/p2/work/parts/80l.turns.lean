/-! to come -/
theorem q9zz_80l : True := trivial

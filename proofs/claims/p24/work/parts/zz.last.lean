/-! the last part is kept small -/
theorem zz_last : True := trivial

/-! the last part: nothing yet -/
theorem zz_last : True := trivial

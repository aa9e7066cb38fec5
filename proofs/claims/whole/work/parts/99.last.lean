/-! the last part: kept small -/
theorem x_last : True := trivial

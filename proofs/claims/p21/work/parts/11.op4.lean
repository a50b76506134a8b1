/-! (rows of copies: none here) -/
theorem am_wno : True := trivial

/-! ===== the end of the rows so far ===== -/
theorem zz_last : True := trivial

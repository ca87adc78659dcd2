/-! ===== the check's methods are checked ===== -/

theorem zEmpty_14 : True := trivial

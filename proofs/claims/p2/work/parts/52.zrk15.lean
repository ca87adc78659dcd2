/-! ===== the check's methods are checked ===== -/

theorem zEmpty_15 : True := trivial

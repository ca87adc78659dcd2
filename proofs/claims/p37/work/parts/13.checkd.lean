/-! ===== the tables are right: methods 96 to 98 ===== -/
set_option maxRecDepth 100000 in
theorem mT_96_ok : mT_96.all (mOk mInf 96) = true := by decide +kernel
set_option maxRecDepth 100000 in
theorem mT_97_ok : mT_97.all (mOk mInf 97) = true := by decide +kernel
set_option maxRecDepth 100000 in
theorem mT_98_ok : mT_98.all (mOk mInf 98) = true := by decide +kernel

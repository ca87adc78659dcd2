/-! ===== the tables are right: methods 64 to 95 ===== -/
set_option maxRecDepth 100000 in
theorem mT_64_ok : mT_64.all (mOk mInf 64) = true := by decide +kernel
set_option maxRecDepth 100000 in
theorem mT_65_ok : mT_65.all (mOk mInf 65) = true := by decide +kernel
set_option maxRecDepth 100000 in
theorem mT_66_ok : mT_66.all (mOk mInf 66) = true := by decide +kernel
set_option maxRecDepth 100000 in
theorem mT_67_ok : mT_67.all (mOk mInf 67) = true := by decide +kernel
set_option maxRecDepth 100000 in
theorem mT_68_ok : mT_68.all (mOk mInf 68) = true := by decide +kernel
set_option maxRecDepth 100000 in
theorem mT_69_ok : mT_69.all (mOk mInf 69) = true := by decide +kernel
set_option maxRecDepth 100000 in
theorem mT_70_ok : mT_70.all (mOk mInf 70) = true := by decide +kernel
set_option maxRecDepth 100000 in
theorem mT_71_ok : mT_71.all (mOk mInf 71) = true := by decide +kernel
set_option maxRecDepth 100000 in
theorem mT_72_ok : mT_72.all (mOk mInf 72) = true := by decide +kernel
set_option maxRecDepth 100000 in
theorem mT_73_ok : mT_73.all (mOk mInf 73) = true := by decide +kernel
set_option maxRecDepth 100000 in
theorem mT_74_ok : mT_74.all (mOk mInf 74) = true := by decide +kernel
set_option maxRecDepth 100000 in
theorem mT_75_ok : mT_75.all (mOk mInf 75) = true := by decide +kernel
set_option maxRecDepth 100000 in
theorem mT_76_ok : mT_76.all (mOk mInf 76) = true := by decide +kernel
set_option maxRecDepth 100000 in
theorem mT_77_ok : mT_77.all (mOk mInf 77) = true := by decide +kernel
set_option maxRecDepth 100000 in
theorem mT_78_ok : mT_78.all (mOk mInf 78) = true := by decide +kernel
set_option maxRecDepth 100000 in
theorem mT_79_ok : mT_79.all (mOk mInf 79) = true := by decide +kernel
set_option maxRecDepth 100000 in
theorem mT_80_ok : mT_80.all (mOk mInf 80) = true := by decide +kernel
set_option maxRecDepth 100000 in
theorem mT_81_ok : mT_81.all (mOk mInf 81) = true := by decide +kernel
set_option maxRecDepth 100000 in
theorem mT_82_ok : mT_82.all (mOk mInf 82) = true := by decide +kernel
set_option maxRecDepth 100000 in
theorem mT_83_ok : mT_83.all (mOk mInf 83) = true := by decide +kernel
set_option maxRecDepth 100000 in
theorem mT_84_ok : mT_84.all (mOk mInf 84) = true := by decide +kernel
set_option maxRecDepth 100000 in
theorem mT_85_ok : mT_85.all (mOk mInf 85) = true := by decide +kernel
set_option maxRecDepth 100000 in
theorem mT_86_ok : mT_86.all (mOk mInf 86) = true := by decide +kernel
set_option maxRecDepth 100000 in
theorem mT_87_ok : mT_87.all (mOk mInf 87) = true := by decide +kernel
set_option maxRecDepth 100000 in
theorem mT_88_ok : mT_88.all (mOk mInf 88) = true := by decide +kernel
set_option maxRecDepth 100000 in
theorem mT_89_ok : mT_89.all (mOk mInf 89) = true := by decide +kernel
set_option maxRecDepth 100000 in
theorem mT_90_ok : mT_90.all (mOk mInf 90) = true := by decide +kernel
set_option maxRecDepth 100000 in
theorem mT_91_ok : mT_91.all (mOk mInf 91) = true := by decide +kernel
set_option maxRecDepth 100000 in
theorem mT_92_ok : mT_92.all (mOk mInf 92) = true := by decide +kernel
set_option maxRecDepth 100000 in
theorem mT_93_ok : mT_93.all (mOk mInf 93) = true := by decide +kernel
set_option maxRecDepth 100000 in
theorem mT_94_ok : mT_94.all (mOk mInf 94) = true := by decide +kernel
set_option maxRecDepth 100000 in
theorem mT_95_ok : mT_95.all (mOk mInf 95) = true := by decide +kernel

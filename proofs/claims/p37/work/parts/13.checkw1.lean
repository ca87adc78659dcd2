/-! ===== the methods' words are right: 64 to 96 ===== -/
set_option maxRecDepth 100000 in
theorem mI_64_ok : mMok (mInf 64) = true := by decide +kernel
set_option maxRecDepth 100000 in
theorem mI_65_ok : mMok (mInf 65) = true := by decide +kernel
set_option maxRecDepth 100000 in
theorem mI_66_ok : mMok (mInf 66) = true := by decide +kernel
set_option maxRecDepth 100000 in
theorem mI_67_ok : mMok (mInf 67) = true := by decide +kernel
set_option maxRecDepth 100000 in
theorem mI_68_ok : mMok (mInf 68) = true := by decide +kernel
set_option maxRecDepth 100000 in
theorem mI_69_ok : mMok (mInf 69) = true := by decide +kernel
set_option maxRecDepth 100000 in
theorem mI_70_ok : mMok (mInf 70) = true := by decide +kernel
set_option maxRecDepth 100000 in
theorem mI_71_ok : mMok (mInf 71) = true := by decide +kernel
set_option maxRecDepth 100000 in
theorem mI_72_ok : mMok (mInf 72) = true := by decide +kernel
set_option maxRecDepth 100000 in
theorem mI_73_ok : mMok (mInf 73) = true := by decide +kernel
set_option maxRecDepth 100000 in
theorem mI_74_ok : mMok (mInf 74) = true := by decide +kernel
set_option maxRecDepth 100000 in
theorem mI_75_ok : mMok (mInf 75) = true := by decide +kernel
set_option maxRecDepth 100000 in
theorem mI_76_ok : mMok (mInf 76) = true := by decide +kernel
set_option maxRecDepth 100000 in
theorem mI_77_ok : mMok (mInf 77) = true := by decide +kernel
set_option maxRecDepth 100000 in
theorem mI_78_ok : mMok (mInf 78) = true := by decide +kernel
set_option maxRecDepth 100000 in
theorem mI_79_ok : mMok (mInf 79) = true := by decide +kernel
set_option maxRecDepth 100000 in
theorem mI_80_ok : mMok (mInf 80) = true := by decide +kernel
set_option maxRecDepth 100000 in
theorem mI_81_ok : mMok (mInf 81) = true := by decide +kernel
set_option maxRecDepth 100000 in
theorem mI_82_ok : mMok (mInf 82) = true := by decide +kernel
set_option maxRecDepth 100000 in
theorem mI_83_ok : mMok (mInf 83) = true := by decide +kernel
set_option maxRecDepth 100000 in
theorem mI_84_ok : mMok (mInf 84) = true := by decide +kernel
set_option maxRecDepth 100000 in
theorem mI_85_ok : mMok (mInf 85) = true := by decide +kernel
set_option maxRecDepth 100000 in
theorem mI_86_ok : mMok (mInf 86) = true := by decide +kernel
set_option maxRecDepth 100000 in
theorem mI_87_ok : mMok (mInf 87) = true := by decide +kernel
set_option maxRecDepth 100000 in
theorem mI_88_ok : mMok (mInf 88) = true := by decide +kernel
set_option maxRecDepth 100000 in
theorem mI_89_ok : mMok (mInf 89) = true := by decide +kernel
set_option maxRecDepth 100000 in
theorem mI_90_ok : mMok (mInf 90) = true := by decide +kernel
set_option maxRecDepth 100000 in
theorem mI_91_ok : mMok (mInf 91) = true := by decide +kernel
set_option maxRecDepth 100000 in
theorem mI_92_ok : mMok (mInf 92) = true := by decide +kernel
set_option maxRecDepth 100000 in
theorem mI_93_ok : mMok (mInf 93) = true := by decide +kernel
set_option maxRecDepth 100000 in
theorem mI_94_ok : mMok (mInf 94) = true := by decide +kernel
set_option maxRecDepth 100000 in
theorem mI_95_ok : mMok (mInf 95) = true := by decide +kernel
set_option maxRecDepth 100000 in
theorem mI_96_ok : mMok (mInf 96) = true := by decide +kernel

/-! ===== the methods' words are right: 64 to 127 ===== -/
set_option maxRecDepth 100000 in
theorem mI_64_ok : mMok (mInf 64) = true := by decide +kernel
set_option maxRecDepth 100000 in
theorem mI_65_ok : mMok (mInf 65) = true := by decide +kernel
set_option maxRecDepth 100000 in
theorem mI_66_ok : mMok (mInf 66) = true := by decide +kernel
set_option maxRecDepth 100000 in
theorem mI_67_ok : mMok (mInf 67) = true := by decide +kernel
set_option maxRecDepth 100000 in
theorem mI_68_ok : mMok (mInf 68) = true := by decide +kernel
set_option maxRecDepth 100000 in
theorem mI_69_ok : mMok (mInf 69) = true := by decide +kernel
set_option maxRecDepth 100000 in
theorem mI_70_ok : mMok (mInf 70) = true := by decide +kernel
set_option maxRecDepth 100000 in
theorem mI_71_ok : mMok (mInf 71) = true := by decide +kernel
set_option maxRecDepth 100000 in
theorem mI_72_ok : mMok (mInf 72) = true := by decide +kernel
set_option maxRecDepth 100000 in
theorem mI_73_ok : mMok (mInf 73) = true := by decide +kernel
set_option maxRecDepth 100000 in
theorem mI_74_ok : mMok (mInf 74) = true := by decide +kernel
set_option maxRecDepth 100000 in
theorem mI_75_ok : mMok (mInf 75) = true := by decide +kernel
set_option maxRecDepth 100000 in
theorem mI_76_ok : mMok (mInf 76) = true := by decide +kernel
set_option maxRecDepth 100000 in
theorem mI_77_ok : mMok (mInf 77) = true := by decide +kernel
set_option maxRecDepth 100000 in
theorem mI_78_ok : mMok (mInf 78) = true := by decide +kernel
set_option maxRecDepth 100000 in
theorem mI_79_ok : mMok (mInf 79) = true := by decide +kernel
set_option maxRecDepth 100000 in
theorem mI_80_ok : mMok (mInf 80) = true := by decide +kernel
set_option maxRecDepth 100000 in
theorem mI_81_ok : mMok (mInf 81) = true := by decide +kernel
set_option maxRecDepth 100000 in
theorem mI_82_ok : mMok (mInf 82) = true := by decide +kernel
set_option maxRecDepth 100000 in
theorem mI_83_ok : mMok (mInf 83) = true := by decide +kernel
set_option maxRecDepth 100000 in
theorem mI_84_ok : mMok (mInf 84) = true := by decide +kernel
set_option maxRecDepth 100000 in
theorem mI_85_ok : mMok (mInf 85) = true := by decide +kernel
set_option maxRecDepth 100000 in
theorem mI_86_ok : mMok (mInf 86) = true := by decide +kernel
set_option maxRecDepth 100000 in
theorem mI_87_ok : mMok (mInf 87) = true := by decide +kernel
set_option maxRecDepth 100000 in
theorem mI_88_ok : mMok (mInf 88) = true := by decide +kernel
set_option maxRecDepth 100000 in
theorem mI_89_ok : mMok (mInf 89) = true := by decide +kernel
set_option maxRecDepth 100000 in
theorem mI_90_ok : mMok (mInf 90) = true := by decide +kernel
set_option maxRecDepth 100000 in
theorem mI_91_ok : mMok (mInf 91) = true := by decide +kernel
set_option maxRecDepth 100000 in
theorem mI_92_ok : mMok (mInf 92) = true := by decide +kernel
set_option maxRecDepth 100000 in
theorem mI_93_ok : mMok (mInf 93) = true := by decide +kernel
set_option maxRecDepth 100000 in
theorem mI_94_ok : mMok (mInf 94) = true := by decide +kernel
set_option maxRecDepth 100000 in
theorem mI_95_ok : mMok (mInf 95) = true := by decide +kernel
set_option maxRecDepth 100000 in
theorem mI_96_ok : mMok (mInf 96) = true := by decide +kernel
set_option maxRecDepth 100000 in
theorem mI_97_ok : mMok (mInf 97) = true := by decide +kernel
set_option maxRecDepth 100000 in
theorem mI_98_ok : mMok (mInf 98) = true := by decide +kernel
set_option maxRecDepth 100000 in
theorem mI_99_ok : mMok (mInf 99) = true := by decide +kernel
set_option maxRecDepth 100000 in
theorem mI_100_ok : mMok (mInf 100) = true := by decide +kernel
set_option maxRecDepth 100000 in
theorem mI_101_ok : mMok (mInf 101) = true := by decide +kernel
set_option maxRecDepth 100000 in
theorem mI_102_ok : mMok (mInf 102) = true := by decide +kernel
set_option maxRecDepth 100000 in
theorem mI_103_ok : mMok (mInf 103) = true := by decide +kernel
set_option maxRecDepth 100000 in
theorem mI_104_ok : mMok (mInf 104) = true := by decide +kernel
set_option maxRecDepth 100000 in
theorem mI_105_ok : mMok (mInf 105) = true := by decide +kernel
set_option maxRecDepth 100000 in
theorem mI_106_ok : mMok (mInf 106) = true := by decide +kernel
set_option maxRecDepth 100000 in
theorem mI_107_ok : mMok (mInf 107) = true := by decide +kernel
set_option maxRecDepth 100000 in
theorem mI_108_ok : mMok (mInf 108) = true := by decide +kernel
set_option maxRecDepth 100000 in
theorem mI_109_ok : mMok (mInf 109) = true := by decide +kernel
set_option maxRecDepth 100000 in
theorem mI_110_ok : mMok (mInf 110) = true := by decide +kernel
set_option maxRecDepth 100000 in
theorem mI_111_ok : mMok (mInf 111) = true := by decide +kernel
set_option maxRecDepth 100000 in
theorem mI_112_ok : mMok (mInf 112) = true := by decide +kernel
set_option maxRecDepth 100000 in
theorem mI_113_ok : mMok (mInf 113) = true := by decide +kernel
set_option maxRecDepth 100000 in
theorem mI_114_ok : mMok (mInf 114) = true := by decide +kernel
set_option maxRecDepth 100000 in
theorem mI_115_ok : mMok (mInf 115) = true := by decide +kernel
set_option maxRecDepth 100000 in
theorem mI_116_ok : mMok (mInf 116) = true := by decide +kernel
set_option maxRecDepth 100000 in
theorem mI_117_ok : mMok (mInf 117) = true := by decide +kernel
set_option maxRecDepth 100000 in
theorem mI_118_ok : mMok (mInf 118) = true := by decide +kernel
set_option maxRecDepth 100000 in
theorem mI_119_ok : mMok (mInf 119) = true := by decide +kernel
set_option maxRecDepth 100000 in
theorem mI_120_ok : mMok (mInf 120) = true := by decide +kernel
set_option maxRecDepth 100000 in
theorem mI_121_ok : mMok (mInf 121) = true := by decide +kernel
set_option maxRecDepth 100000 in
theorem mI_122_ok : mMok (mInf 122) = true := by decide +kernel
set_option maxRecDepth 100000 in
theorem mI_123_ok : mMok (mInf 123) = true := by decide +kernel
set_option maxRecDepth 100000 in
theorem mI_124_ok : mMok (mInf 124) = true := by decide +kernel
set_option maxRecDepth 100000 in
theorem mI_125_ok : mMok (mInf 125) = true := by decide +kernel
set_option maxRecDepth 100000 in
theorem mI_126_ok : mMok (mInf 126) = true := by decide +kernel
set_option maxRecDepth 100000 in
theorem mI_127_ok : mMok (mInf 127) = true := by decide +kernel

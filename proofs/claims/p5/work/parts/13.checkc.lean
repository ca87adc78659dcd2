/-! ===== the tables are right: methods 96 to 127 ===== -/
set_option maxRecDepth 100000 in
theorem mT_96_ok : mT_96.all (mOk mInf 96) = true := by decide +kernel
set_option maxRecDepth 100000 in
theorem mT_97_ok : mT_97.all (mOk mInf 97) = true := by decide +kernel
set_option maxRecDepth 100000 in
theorem mT_98_ok : mT_98.all (mOk mInf 98) = true := by decide +kernel
set_option maxRecDepth 100000 in
theorem mT_99_ok : mT_99.all (mOk mInf 99) = true := by decide +kernel
set_option maxRecDepth 100000 in
theorem mT_100_ok : mT_100.all (mOk mInf 100) = true := by decide +kernel
set_option maxRecDepth 100000 in
theorem mT_101_ok : mT_101.all (mOk mInf 101) = true := by decide +kernel
set_option maxRecDepth 100000 in
theorem mT_102_ok : mT_102.all (mOk mInf 102) = true := by decide +kernel
set_option maxRecDepth 100000 in
theorem mT_103_ok : mT_103.all (mOk mInf 103) = true := by decide +kernel
set_option maxRecDepth 100000 in
theorem mT_104_ok : mT_104.all (mOk mInf 104) = true := by decide +kernel
set_option maxRecDepth 100000 in
theorem mT_105_ok : mT_105.all (mOk mInf 105) = true := by decide +kernel
set_option maxRecDepth 100000 in
theorem mT_106_ok : mT_106.all (mOk mInf 106) = true := by decide +kernel
set_option maxRecDepth 100000 in
theorem mT_107_ok : mT_107.all (mOk mInf 107) = true := by decide +kernel
set_option maxRecDepth 100000 in
theorem mT_108_ok : mT_108.all (mOk mInf 108) = true := by decide +kernel
set_option maxRecDepth 100000 in
theorem mT_109_ok : mT_109.all (mOk mInf 109) = true := by decide +kernel
set_option maxRecDepth 100000 in
theorem mT_110_ok : mT_110.all (mOk mInf 110) = true := by decide +kernel
set_option maxRecDepth 100000 in
theorem mT_111_ok : mT_111.all (mOk mInf 111) = true := by decide +kernel
set_option maxRecDepth 100000 in
theorem mT_112_ok : mT_112.all (mOk mInf 112) = true := by decide +kernel
set_option maxRecDepth 100000 in
theorem mT_113_ok : mT_113.all (mOk mInf 113) = true := by decide +kernel
set_option maxRecDepth 100000 in
theorem mT_114_ok : mT_114.all (mOk mInf 114) = true := by decide +kernel
set_option maxRecDepth 100000 in
theorem mT_115_ok : mT_115.all (mOk mInf 115) = true := by decide +kernel
set_option maxRecDepth 100000 in
theorem mT_116_ok : mT_116.all (mOk mInf 116) = true := by decide +kernel
set_option maxRecDepth 100000 in
theorem mT_117_ok : mT_117.all (mOk mInf 117) = true := by decide +kernel
set_option maxRecDepth 100000 in
theorem mT_118_ok : mT_118.all (mOk mInf 118) = true := by decide +kernel
set_option maxRecDepth 100000 in
theorem mT_119_ok : mT_119.all (mOk mInf 119) = true := by decide +kernel
set_option maxRecDepth 100000 in
theorem mT_120_ok : mT_120.all (mOk mInf 120) = true := by decide +kernel
set_option maxRecDepth 100000 in
theorem mT_121_ok : mT_121.all (mOk mInf 121) = true := by decide +kernel
set_option maxRecDepth 100000 in
theorem mT_122_ok : mT_122.all (mOk mInf 122) = true := by decide +kernel
set_option maxRecDepth 100000 in
theorem mT_123_ok : mT_123.all (mOk mInf 123) = true := by decide +kernel
set_option maxRecDepth 100000 in
theorem mT_124_ok : mT_124.all (mOk mInf 124) = true := by decide +kernel
set_option maxRecDepth 100000 in
theorem mT_125_ok : mT_125.all (mOk mInf 125) = true := by decide +kernel
set_option maxRecDepth 100000 in
theorem mT_126_ok : mT_126.all (mOk mInf 126) = true := by decide +kernel
set_option maxRecDepth 100000 in
theorem mT_127_ok : mT_127.all (mOk mInf 127) = true := by decide +kernel

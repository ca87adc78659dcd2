/-! ===== the tables are right: methods 128 to 159 ===== -/
set_option maxRecDepth 100000 in
theorem mT_128_ok : mT_128.all (mOk mInf 128) = true := by decide +kernel
set_option maxRecDepth 100000 in
theorem mT_129_ok : mT_129.all (mOk mInf 129) = true := by decide +kernel
set_option maxRecDepth 100000 in
theorem mT_130_ok : mT_130.all (mOk mInf 130) = true := by decide +kernel
set_option maxRecDepth 100000 in
theorem mT_131_ok : mT_131.all (mOk mInf 131) = true := by decide +kernel
set_option maxRecDepth 100000 in
theorem mT_132_ok : mT_132.all (mOk mInf 132) = true := by decide +kernel
set_option maxRecDepth 100000 in
theorem mT_133_ok : mT_133.all (mOk mInf 133) = true := by decide +kernel
set_option maxRecDepth 100000 in
theorem mT_134_ok : mT_134.all (mOk mInf 134) = true := by decide +kernel
set_option maxRecDepth 100000 in
theorem mT_135_ok : mT_135.all (mOk mInf 135) = true := by decide +kernel
set_option maxRecDepth 100000 in
theorem mT_136_ok : mT_136.all (mOk mInf 136) = true := by decide +kernel
set_option maxRecDepth 100000 in
theorem mT_137_ok : mT_137.all (mOk mInf 137) = true := by decide +kernel
set_option maxRecDepth 100000 in
theorem mT_138_ok : mT_138.all (mOk mInf 138) = true := by decide +kernel
set_option maxRecDepth 100000 in
theorem mT_139_ok : mT_139.all (mOk mInf 139) = true := by decide +kernel
set_option maxRecDepth 100000 in
theorem mT_140_ok : mT_140.all (mOk mInf 140) = true := by decide +kernel
set_option maxRecDepth 100000 in
theorem mT_141_ok : mT_141.all (mOk mInf 141) = true := by decide +kernel
set_option maxRecDepth 100000 in
theorem mT_142_ok : mT_142.all (mOk mInf 142) = true := by decide +kernel
set_option maxRecDepth 100000 in
theorem mT_143_ok : mT_143.all (mOk mInf 143) = true := by decide +kernel
set_option maxRecDepth 100000 in
theorem mT_144_ok : mT_144.all (mOk mInf 144) = true := by decide +kernel
set_option maxRecDepth 100000 in
theorem mT_145_ok : mT_145.all (mOk mInf 145) = true := by decide +kernel
set_option maxRecDepth 100000 in
theorem mT_146_ok : mT_146.all (mOk mInf 146) = true := by decide +kernel
set_option maxRecDepth 100000 in
theorem mT_147_ok : mT_147.all (mOk mInf 147) = true := by decide +kernel
set_option maxRecDepth 100000 in
theorem mT_148_ok : mT_148.all (mOk mInf 148) = true := by decide +kernel
set_option maxRecDepth 100000 in
theorem mT_149_ok : mT_149.all (mOk mInf 149) = true := by decide +kernel
set_option maxRecDepth 100000 in
theorem mT_150_ok : mT_150.all (mOk mInf 150) = true := by decide +kernel
set_option maxRecDepth 100000 in
theorem mT_151_ok : mT_151.all (mOk mInf 151) = true := by decide +kernel
set_option maxRecDepth 100000 in
theorem mT_152_ok : mT_152.all (mOk mInf 152) = true := by decide +kernel
set_option maxRecDepth 100000 in
theorem mT_153_ok : mT_153.all (mOk mInf 153) = true := by decide +kernel
set_option maxRecDepth 100000 in
theorem mT_154_ok : mT_154.all (mOk mInf 154) = true := by decide +kernel
set_option maxRecDepth 100000 in
theorem mT_155_ok : mT_155.all (mOk mInf 155) = true := by decide +kernel
set_option maxRecDepth 100000 in
theorem mT_156_ok : mT_156.all (mOk mInf 156) = true := by decide +kernel
set_option maxRecDepth 100000 in
theorem mT_157_ok : mT_157.all (mOk mInf 157) = true := by decide +kernel
set_option maxRecDepth 100000 in
theorem mT_158_ok : mT_158.all (mOk mInf 158) = true := by decide +kernel
set_option maxRecDepth 100000 in
theorem mT_159_ok : mT_159.all (mOk mInf 159) = true := by decide +kernel

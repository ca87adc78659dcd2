/-! ===== the methods' words are right: 128 to 191 ===== -/
set_option maxRecDepth 100000 in
theorem mI_128_ok : mMok (mInf 128) = true := by decide +kernel
set_option maxRecDepth 100000 in
theorem mI_129_ok : mMok (mInf 129) = true := by decide +kernel
set_option maxRecDepth 100000 in
theorem mI_130_ok : mMok (mInf 130) = true := by decide +kernel
set_option maxRecDepth 100000 in
theorem mI_131_ok : mMok (mInf 131) = true := by decide +kernel
set_option maxRecDepth 100000 in
theorem mI_132_ok : mMok (mInf 132) = true := by decide +kernel
set_option maxRecDepth 100000 in
theorem mI_133_ok : mMok (mInf 133) = true := by decide +kernel
set_option maxRecDepth 100000 in
theorem mI_134_ok : mMok (mInf 134) = true := by decide +kernel
set_option maxRecDepth 100000 in
theorem mI_135_ok : mMok (mInf 135) = true := by decide +kernel
set_option maxRecDepth 100000 in
theorem mI_136_ok : mMok (mInf 136) = true := by decide +kernel
set_option maxRecDepth 100000 in
theorem mI_137_ok : mMok (mInf 137) = true := by decide +kernel
set_option maxRecDepth 100000 in
theorem mI_138_ok : mMok (mInf 138) = true := by decide +kernel
set_option maxRecDepth 100000 in
theorem mI_139_ok : mMok (mInf 139) = true := by decide +kernel
set_option maxRecDepth 100000 in
theorem mI_140_ok : mMok (mInf 140) = true := by decide +kernel
set_option maxRecDepth 100000 in
theorem mI_141_ok : mMok (mInf 141) = true := by decide +kernel
set_option maxRecDepth 100000 in
theorem mI_142_ok : mMok (mInf 142) = true := by decide +kernel
set_option maxRecDepth 100000 in
theorem mI_143_ok : mMok (mInf 143) = true := by decide +kernel
set_option maxRecDepth 100000 in
theorem mI_144_ok : mMok (mInf 144) = true := by decide +kernel
set_option maxRecDepth 100000 in
theorem mI_145_ok : mMok (mInf 145) = true := by decide +kernel
set_option maxRecDepth 100000 in
theorem mI_146_ok : mMok (mInf 146) = true := by decide +kernel
set_option maxRecDepth 100000 in
theorem mI_147_ok : mMok (mInf 147) = true := by decide +kernel
set_option maxRecDepth 100000 in
theorem mI_148_ok : mMok (mInf 148) = true := by decide +kernel
set_option maxRecDepth 100000 in
theorem mI_149_ok : mMok (mInf 149) = true := by decide +kernel
set_option maxRecDepth 100000 in
theorem mI_150_ok : mMok (mInf 150) = true := by decide +kernel
set_option maxRecDepth 100000 in
theorem mI_151_ok : mMok (mInf 151) = true := by decide +kernel
set_option maxRecDepth 100000 in
theorem mI_152_ok : mMok (mInf 152) = true := by decide +kernel
set_option maxRecDepth 100000 in
theorem mI_153_ok : mMok (mInf 153) = true := by decide +kernel
set_option maxRecDepth 100000 in
theorem mI_154_ok : mMok (mInf 154) = true := by decide +kernel
set_option maxRecDepth 100000 in
theorem mI_155_ok : mMok (mInf 155) = true := by decide +kernel
set_option maxRecDepth 100000 in
theorem mI_156_ok : mMok (mInf 156) = true := by decide +kernel
set_option maxRecDepth 100000 in
theorem mI_157_ok : mMok (mInf 157) = true := by decide +kernel
set_option maxRecDepth 100000 in
theorem mI_158_ok : mMok (mInf 158) = true := by decide +kernel
set_option maxRecDepth 100000 in
theorem mI_159_ok : mMok (mInf 159) = true := by decide +kernel
set_option maxRecDepth 100000 in
theorem mI_160_ok : mMok (mInf 160) = true := by decide +kernel
set_option maxRecDepth 100000 in
theorem mI_161_ok : mMok (mInf 161) = true := by decide +kernel
set_option maxRecDepth 100000 in
theorem mI_162_ok : mMok (mInf 162) = true := by decide +kernel
set_option maxRecDepth 100000 in
theorem mI_163_ok : mMok (mInf 163) = true := by decide +kernel
set_option maxRecDepth 100000 in
theorem mI_164_ok : mMok (mInf 164) = true := by decide +kernel
set_option maxRecDepth 100000 in
theorem mI_165_ok : mMok (mInf 165) = true := by decide +kernel
set_option maxRecDepth 100000 in
theorem mI_166_ok : mMok (mInf 166) = true := by decide +kernel
set_option maxRecDepth 100000 in
theorem mI_167_ok : mMok (mInf 167) = true := by decide +kernel
set_option maxRecDepth 100000 in
theorem mI_168_ok : mMok (mInf 168) = true := by decide +kernel
set_option maxRecDepth 100000 in
theorem mI_169_ok : mMok (mInf 169) = true := by decide +kernel
set_option maxRecDepth 100000 in
theorem mI_170_ok : mMok (mInf 170) = true := by decide +kernel
set_option maxRecDepth 100000 in
theorem mI_171_ok : mMok (mInf 171) = true := by decide +kernel
set_option maxRecDepth 100000 in
theorem mI_172_ok : mMok (mInf 172) = true := by decide +kernel
set_option maxRecDepth 100000 in
theorem mI_173_ok : mMok (mInf 173) = true := by decide +kernel
set_option maxRecDepth 100000 in
theorem mI_174_ok : mMok (mInf 174) = true := by decide +kernel
set_option maxRecDepth 100000 in
theorem mI_175_ok : mMok (mInf 175) = true := by decide +kernel
set_option maxRecDepth 100000 in
theorem mI_176_ok : mMok (mInf 176) = true := by decide +kernel
set_option maxRecDepth 100000 in
theorem mI_177_ok : mMok (mInf 177) = true := by decide +kernel
set_option maxRecDepth 100000 in
theorem mI_178_ok : mMok (mInf 178) = true := by decide +kernel
set_option maxRecDepth 100000 in
theorem mI_179_ok : mMok (mInf 179) = true := by decide +kernel
set_option maxRecDepth 100000 in
theorem mI_180_ok : mMok (mInf 180) = true := by decide +kernel
set_option maxRecDepth 100000 in
theorem mI_181_ok : mMok (mInf 181) = true := by decide +kernel
set_option maxRecDepth 100000 in
theorem mI_182_ok : mMok (mInf 182) = true := by decide +kernel
set_option maxRecDepth 100000 in
theorem mI_183_ok : mMok (mInf 183) = true := by decide +kernel
set_option maxRecDepth 100000 in
theorem mI_184_ok : mMok (mInf 184) = true := by decide +kernel
set_option maxRecDepth 100000 in
theorem mI_185_ok : mMok (mInf 185) = true := by decide +kernel
set_option maxRecDepth 100000 in
theorem mI_186_ok : mMok (mInf 186) = true := by decide +kernel
set_option maxRecDepth 100000 in
theorem mI_187_ok : mMok (mInf 187) = true := by decide +kernel
set_option maxRecDepth 100000 in
theorem mI_188_ok : mMok (mInf 188) = true := by decide +kernel
set_option maxRecDepth 100000 in
theorem mI_189_ok : mMok (mInf 189) = true := by decide +kernel
set_option maxRecDepth 100000 in
theorem mI_190_ok : mMok (mInf 190) = true := by decide +kernel
set_option maxRecDepth 100000 in
theorem mI_191_ok : mMok (mInf 191) = true := by decide +kernel

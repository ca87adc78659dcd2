/-! ===== the tables are right: methods 160 to 191 ===== -/
set_option maxRecDepth 100000 in
theorem mT_160_ok : mT_160.all (mOk mInf 160) = true := by decide +kernel
set_option maxRecDepth 100000 in
theorem mT_161_ok : mT_161.all (mOk mInf 161) = true := by decide +kernel
set_option maxRecDepth 100000 in
theorem mT_162_ok : mT_162.all (mOk mInf 162) = true := by decide +kernel
set_option maxRecDepth 100000 in
theorem mT_163_ok : mT_163.all (mOk mInf 163) = true := by decide +kernel
set_option maxRecDepth 100000 in
theorem mT_164_ok : mT_164.all (mOk mInf 164) = true := by decide +kernel
set_option maxRecDepth 100000 in
theorem mT_165_ok : mT_165.all (mOk mInf 165) = true := by decide +kernel
set_option maxRecDepth 100000 in
theorem mT_166_ok : mT_166.all (mOk mInf 166) = true := by decide +kernel
set_option maxRecDepth 100000 in
theorem mT_167_ok : mT_167.all (mOk mInf 167) = true := by decide +kernel
set_option maxRecDepth 100000 in
theorem mT_168_ok : mT_168.all (mOk mInf 168) = true := by decide +kernel
set_option maxRecDepth 100000 in
theorem mT_169_ok : mT_169.all (mOk mInf 169) = true := by decide +kernel
set_option maxRecDepth 100000 in
theorem mT_170_ok : mT_170.all (mOk mInf 170) = true := by decide +kernel
set_option maxRecDepth 100000 in
theorem mT_171_ok : mT_171.all (mOk mInf 171) = true := by decide +kernel
set_option maxRecDepth 100000 in
theorem mT_172_ok : mT_172.all (mOk mInf 172) = true := by decide +kernel
set_option maxRecDepth 100000 in
theorem mT_173_ok : mT_173.all (mOk mInf 173) = true := by decide +kernel
set_option maxRecDepth 100000 in
theorem mT_174_ok : mT_174.all (mOk mInf 174) = true := by decide +kernel
set_option maxRecDepth 100000 in
theorem mT_175_ok : mT_175.all (mOk mInf 175) = true := by decide +kernel
set_option maxRecDepth 100000 in
theorem mT_176_ok : mT_176.all (mOk mInf 176) = true := by decide +kernel
set_option maxRecDepth 100000 in
theorem mT_177_ok : mT_177.all (mOk mInf 177) = true := by decide +kernel
set_option maxRecDepth 100000 in
theorem mT_178_ok : mT_178.all (mOk mInf 178) = true := by decide +kernel
set_option maxRecDepth 100000 in
theorem mT_179_ok : mT_179.all (mOk mInf 179) = true := by decide +kernel
set_option maxRecDepth 100000 in
theorem mT_180_ok : mT_180.all (mOk mInf 180) = true := by decide +kernel
set_option maxRecDepth 100000 in
theorem mT_181_ok : mT_181.all (mOk mInf 181) = true := by decide +kernel
set_option maxRecDepth 100000 in
theorem mT_182_ok : mT_182.all (mOk mInf 182) = true := by decide +kernel
set_option maxRecDepth 100000 in
theorem mT_183_ok : mT_183.all (mOk mInf 183) = true := by decide +kernel
set_option maxRecDepth 100000 in
theorem mT_184_ok : mT_184.all (mOk mInf 184) = true := by decide +kernel
set_option maxRecDepth 100000 in
theorem mT_185_ok : mT_185.all (mOk mInf 185) = true := by decide +kernel
set_option maxRecDepth 100000 in
theorem mT_186_ok : mT_186.all (mOk mInf 186) = true := by decide +kernel
set_option maxRecDepth 100000 in
theorem mT_187_ok : mT_187.all (mOk mInf 187) = true := by decide +kernel
set_option maxRecDepth 100000 in
theorem mT_188_ok : mT_188.all (mOk mInf 188) = true := by decide +kernel
set_option maxRecDepth 100000 in
theorem mT_189_ok : mT_189.all (mOk mInf 189) = true := by decide +kernel
set_option maxRecDepth 100000 in
theorem mT_190_ok : mT_190.all (mOk mInf 190) = true := by decide +kernel
set_option maxRecDepth 100000 in
theorem mT_191_ok : mT_191.all (mOk mInf 191) = true := by decide +kernel

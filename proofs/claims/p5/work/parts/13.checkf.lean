/-! ===== the tables are right: methods 192 to 223 ===== -/
set_option maxRecDepth 100000 in
theorem mT_192_ok : mT_192.all (mOk mInf 192) = true := by decide +kernel
set_option maxRecDepth 100000 in
theorem mT_193_ok : mT_193.all (mOk mInf 193) = true := by decide +kernel
set_option maxRecDepth 100000 in
theorem mT_194_ok : mT_194.all (mOk mInf 194) = true := by decide +kernel
set_option maxRecDepth 100000 in
theorem mT_195_ok : mT_195.all (mOk mInf 195) = true := by decide +kernel
set_option maxRecDepth 100000 in
theorem mT_196_ok : mT_196.all (mOk mInf 196) = true := by decide +kernel
set_option maxRecDepth 100000 in
theorem mT_197_ok : mT_197.all (mOk mInf 197) = true := by decide +kernel
set_option maxRecDepth 100000 in
theorem mT_198_ok : mT_198.all (mOk mInf 198) = true := by decide +kernel
set_option maxRecDepth 100000 in
theorem mT_199_ok : mT_199.all (mOk mInf 199) = true := by decide +kernel
set_option maxRecDepth 100000 in
theorem mT_200_ok : mT_200.all (mOk mInf 200) = true := by decide +kernel
set_option maxRecDepth 100000 in
theorem mT_201_ok : mT_201.all (mOk mInf 201) = true := by decide +kernel
set_option maxRecDepth 100000 in
theorem mT_202_ok : mT_202.all (mOk mInf 202) = true := by decide +kernel
set_option maxRecDepth 100000 in
theorem mT_203_ok : mT_203.all (mOk mInf 203) = true := by decide +kernel
set_option maxRecDepth 100000 in
theorem mT_204_ok : mT_204.all (mOk mInf 204) = true := by decide +kernel
set_option maxRecDepth 100000 in
theorem mT_205_ok : mT_205.all (mOk mInf 205) = true := by decide +kernel
set_option maxRecDepth 100000 in
theorem mT_206_ok : mT_206.all (mOk mInf 206) = true := by decide +kernel
set_option maxRecDepth 100000 in
theorem mT_207_ok : mT_207.all (mOk mInf 207) = true := by decide +kernel
set_option maxRecDepth 100000 in
theorem mT_208_ok : mT_208.all (mOk mInf 208) = true := by decide +kernel
set_option maxRecDepth 100000 in
theorem mT_209_ok : mT_209.all (mOk mInf 209) = true := by decide +kernel
set_option maxRecDepth 100000 in
theorem mT_210_ok : mT_210.all (mOk mInf 210) = true := by decide +kernel
set_option maxRecDepth 100000 in
theorem mT_211_ok : mT_211.all (mOk mInf 211) = true := by decide +kernel
set_option maxRecDepth 100000 in
theorem mT_212_ok : mT_212.all (mOk mInf 212) = true := by decide +kernel
set_option maxRecDepth 100000 in
theorem mT_213_ok : mT_213.all (mOk mInf 213) = true := by decide +kernel
set_option maxRecDepth 100000 in
theorem mT_214_ok : mT_214.all (mOk mInf 214) = true := by decide +kernel
set_option maxRecDepth 100000 in
theorem mT_215_ok : mT_215.all (mOk mInf 215) = true := by decide +kernel
set_option maxRecDepth 100000 in
theorem mT_216_ok : mT_216.all (mOk mInf 216) = true := by decide +kernel
set_option maxRecDepth 100000 in
theorem mT_217_ok : mT_217.all (mOk mInf 217) = true := by decide +kernel
set_option maxRecDepth 100000 in
theorem mT_218_ok : mT_218.all (mOk mInf 218) = true := by decide +kernel
set_option maxRecDepth 100000 in
theorem mT_219_ok : mT_219.all (mOk mInf 219) = true := by decide +kernel
set_option maxRecDepth 100000 in
theorem mT_220_ok : mT_220.all (mOk mInf 220) = true := by decide +kernel
set_option maxRecDepth 100000 in
theorem mT_221_ok : mT_221.all (mOk mInf 221) = true := by decide +kernel
set_option maxRecDepth 100000 in
theorem mT_222_ok : mT_222.all (mOk mInf 222) = true := by decide +kernel
set_option maxRecDepth 100000 in
theorem mT_223_ok : mT_223.all (mOk mInf 223) = true := by decide +kernel

/-! ===== the tables are right: methods 224 to 252 ===== -/
set_option maxRecDepth 100000 in
theorem mT_224_ok : mT_224.all (mOk mInf 224) = true := by decide +kernel
set_option maxRecDepth 100000 in
theorem mT_225_ok : mT_225.all (mOk mInf 225) = true := by decide +kernel
set_option maxRecDepth 100000 in
theorem mT_226_ok : mT_226.all (mOk mInf 226) = true := by decide +kernel
set_option maxRecDepth 100000 in
theorem mT_227_ok : mT_227.all (mOk mInf 227) = true := by decide +kernel
set_option maxRecDepth 100000 in
theorem mT_228_ok : mT_228.all (mOk mInf 228) = true := by decide +kernel
set_option maxRecDepth 100000 in
theorem mT_229_ok : mT_229.all (mOk mInf 229) = true := by decide +kernel
set_option maxRecDepth 100000 in
theorem mT_230_ok : mT_230.all (mOk mInf 230) = true := by decide +kernel
set_option maxRecDepth 100000 in
theorem mT_231_ok : mT_231.all (mOk mInf 231) = true := by decide +kernel
set_option maxRecDepth 100000 in
theorem mT_232_ok : mT_232.all (mOk mInf 232) = true := by decide +kernel
set_option maxRecDepth 100000 in
theorem mT_233_ok : mT_233.all (mOk mInf 233) = true := by decide +kernel
set_option maxRecDepth 100000 in
theorem mT_234_ok : mT_234.all (mOk mInf 234) = true := by decide +kernel
set_option maxRecDepth 100000 in
theorem mT_235_ok : mT_235.all (mOk mInf 235) = true := by decide +kernel
set_option maxRecDepth 100000 in
theorem mT_236_ok : mT_236.all (mOk mInf 236) = true := by decide +kernel
set_option maxRecDepth 100000 in
theorem mT_237_ok : mT_237.all (mOk mInf 237) = true := by decide +kernel
set_option maxRecDepth 100000 in
theorem mT_238_ok : mT_238.all (mOk mInf 238) = true := by decide +kernel
set_option maxRecDepth 100000 in
theorem mT_239_ok : mT_239.all (mOk mInf 239) = true := by decide +kernel
set_option maxRecDepth 100000 in
theorem mT_240_ok : mT_240.all (mOk mInf 240) = true := by decide +kernel
set_option maxRecDepth 100000 in
theorem mT_241_ok : mT_241.all (mOk mInf 241) = true := by decide +kernel
set_option maxRecDepth 100000 in
theorem mT_242_ok : mT_242.all (mOk mInf 242) = true := by decide +kernel
set_option maxRecDepth 100000 in
theorem mT_243_ok : mT_243.all (mOk mInf 243) = true := by decide +kernel
set_option maxRecDepth 100000 in
theorem mT_244_ok : mT_244.all (mOk mInf 244) = true := by decide +kernel
set_option maxRecDepth 100000 in
theorem mT_245_ok : mT_245.all (mOk mInf 245) = true := by decide +kernel
set_option maxRecDepth 100000 in
theorem mT_246_ok : mT_246.all (mOk mInf 246) = true := by decide +kernel
set_option maxRecDepth 100000 in
theorem mT_247_ok : mT_247.all (mOk mInf 247) = true := by decide +kernel
set_option maxRecDepth 100000 in
theorem mT_248_ok : mT_248.all (mOk mInf 248) = true := by decide +kernel
set_option maxRecDepth 100000 in
theorem mT_249_ok : mT_249.all (mOk mInf 249) = true := by decide +kernel
set_option maxRecDepth 100000 in
theorem mT_250_ok : mT_250.all (mOk mInf 250) = true := by decide +kernel
set_option maxRecDepth 100000 in
theorem mT_251_ok : mT_251.all (mOk mInf 251) = true := by decide +kernel
set_option maxRecDepth 100000 in
theorem mT_252_ok : mT_252.all (mOk mInf 252) = true := by decide +kernel

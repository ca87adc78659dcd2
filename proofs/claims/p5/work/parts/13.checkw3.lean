/-! ===== the methods' words are right: 192 to 250 ===== -/
set_option maxRecDepth 100000 in
theorem mI_192_ok : mMok (mInf 192) = true := by decide +kernel
set_option maxRecDepth 100000 in
theorem mI_193_ok : mMok (mInf 193) = true := by decide +kernel
set_option maxRecDepth 100000 in
theorem mI_194_ok : mMok (mInf 194) = true := by decide +kernel
set_option maxRecDepth 100000 in
theorem mI_195_ok : mMok (mInf 195) = true := by decide +kernel
set_option maxRecDepth 100000 in
theorem mI_196_ok : mMok (mInf 196) = true := by decide +kernel
set_option maxRecDepth 100000 in
theorem mI_197_ok : mMok (mInf 197) = true := by decide +kernel
set_option maxRecDepth 100000 in
theorem mI_198_ok : mMok (mInf 198) = true := by decide +kernel
set_option maxRecDepth 100000 in
theorem mI_199_ok : mMok (mInf 199) = true := by decide +kernel
set_option maxRecDepth 100000 in
theorem mI_200_ok : mMok (mInf 200) = true := by decide +kernel
set_option maxRecDepth 100000 in
theorem mI_201_ok : mMok (mInf 201) = true := by decide +kernel
set_option maxRecDepth 100000 in
theorem mI_202_ok : mMok (mInf 202) = true := by decide +kernel
set_option maxRecDepth 100000 in
theorem mI_203_ok : mMok (mInf 203) = true := by decide +kernel
set_option maxRecDepth 100000 in
theorem mI_204_ok : mMok (mInf 204) = true := by decide +kernel
set_option maxRecDepth 100000 in
theorem mI_205_ok : mMok (mInf 205) = true := by decide +kernel
set_option maxRecDepth 100000 in
theorem mI_206_ok : mMok (mInf 206) = true := by decide +kernel
set_option maxRecDepth 100000 in
theorem mI_207_ok : mMok (mInf 207) = true := by decide +kernel
set_option maxRecDepth 100000 in
theorem mI_208_ok : mMok (mInf 208) = true := by decide +kernel
set_option maxRecDepth 100000 in
theorem mI_209_ok : mMok (mInf 209) = true := by decide +kernel
set_option maxRecDepth 100000 in
theorem mI_210_ok : mMok (mInf 210) = true := by decide +kernel
set_option maxRecDepth 100000 in
theorem mI_211_ok : mMok (mInf 211) = true := by decide +kernel
set_option maxRecDepth 100000 in
theorem mI_212_ok : mMok (mInf 212) = true := by decide +kernel
set_option maxRecDepth 100000 in
theorem mI_213_ok : mMok (mInf 213) = true := by decide +kernel
set_option maxRecDepth 100000 in
theorem mI_214_ok : mMok (mInf 214) = true := by decide +kernel
set_option maxRecDepth 100000 in
theorem mI_215_ok : mMok (mInf 215) = true := by decide +kernel
set_option maxRecDepth 100000 in
theorem mI_216_ok : mMok (mInf 216) = true := by decide +kernel
set_option maxRecDepth 100000 in
theorem mI_217_ok : mMok (mInf 217) = true := by decide +kernel
set_option maxRecDepth 100000 in
theorem mI_218_ok : mMok (mInf 218) = true := by decide +kernel
set_option maxRecDepth 100000 in
theorem mI_219_ok : mMok (mInf 219) = true := by decide +kernel
set_option maxRecDepth 100000 in
theorem mI_220_ok : mMok (mInf 220) = true := by decide +kernel
set_option maxRecDepth 100000 in
theorem mI_221_ok : mMok (mInf 221) = true := by decide +kernel
set_option maxRecDepth 100000 in
theorem mI_222_ok : mMok (mInf 222) = true := by decide +kernel
set_option maxRecDepth 100000 in
theorem mI_223_ok : mMok (mInf 223) = true := by decide +kernel
set_option maxRecDepth 100000 in
theorem mI_224_ok : mMok (mInf 224) = true := by decide +kernel
set_option maxRecDepth 100000 in
theorem mI_225_ok : mMok (mInf 225) = true := by decide +kernel
set_option maxRecDepth 100000 in
theorem mI_226_ok : mMok (mInf 226) = true := by decide +kernel
set_option maxRecDepth 100000 in
theorem mI_227_ok : mMok (mInf 227) = true := by decide +kernel
set_option maxRecDepth 100000 in
theorem mI_228_ok : mMok (mInf 228) = true := by decide +kernel
set_option maxRecDepth 100000 in
theorem mI_229_ok : mMok (mInf 229) = true := by decide +kernel
set_option maxRecDepth 100000 in
theorem mI_230_ok : mMok (mInf 230) = true := by decide +kernel
set_option maxRecDepth 100000 in
theorem mI_231_ok : mMok (mInf 231) = true := by decide +kernel
set_option maxRecDepth 100000 in
theorem mI_232_ok : mMok (mInf 232) = true := by decide +kernel
set_option maxRecDepth 100000 in
theorem mI_233_ok : mMok (mInf 233) = true := by decide +kernel
set_option maxRecDepth 100000 in
theorem mI_234_ok : mMok (mInf 234) = true := by decide +kernel
set_option maxRecDepth 100000 in
theorem mI_235_ok : mMok (mInf 235) = true := by decide +kernel
set_option maxRecDepth 100000 in
theorem mI_236_ok : mMok (mInf 236) = true := by decide +kernel
set_option maxRecDepth 100000 in
theorem mI_237_ok : mMok (mInf 237) = true := by decide +kernel
set_option maxRecDepth 100000 in
theorem mI_238_ok : mMok (mInf 238) = true := by decide +kernel
set_option maxRecDepth 100000 in
theorem mI_239_ok : mMok (mInf 239) = true := by decide +kernel
set_option maxRecDepth 100000 in
theorem mI_240_ok : mMok (mInf 240) = true := by decide +kernel
set_option maxRecDepth 100000 in
theorem mI_241_ok : mMok (mInf 241) = true := by decide +kernel
set_option maxRecDepth 100000 in
theorem mI_242_ok : mMok (mInf 242) = true := by decide +kernel
set_option maxRecDepth 100000 in
theorem mI_243_ok : mMok (mInf 243) = true := by decide +kernel
set_option maxRecDepth 100000 in
theorem mI_244_ok : mMok (mInf 244) = true := by decide +kernel
set_option maxRecDepth 100000 in
theorem mI_245_ok : mMok (mInf 245) = true := by decide +kernel
set_option maxRecDepth 100000 in
theorem mI_246_ok : mMok (mInf 246) = true := by decide +kernel
set_option maxRecDepth 100000 in
theorem mI_247_ok : mMok (mInf 247) = true := by decide +kernel
set_option maxRecDepth 100000 in
theorem mI_248_ok : mMok (mInf 248) = true := by decide +kernel
set_option maxRecDepth 100000 in
theorem mI_249_ok : mMok (mInf 249) = true := by decide +kernel
set_option maxRecDepth 100000 in
theorem mI_250_ok : mMok (mInf 250) = true := by decide +kernel

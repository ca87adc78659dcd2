/-! ===== the check's methods are checked ===== -/

set_option maxRecDepth 100000 in
theorem zD_219_4 : zChq (zQr zRx (zQrk 219)) false 219 zQ_219_4 = true := by decide +kernel
set_option maxRecDepth 100000 in
theorem zD_219_5 : zChq (zQr zRx (zQrk 219)) false 219 zQ_219_5 = true := by decide +kernel
set_option maxRecDepth 100000 in
theorem zD_219_6 : zChq (zQr zRx (zQrk 219)) false 219 zQ_219_6 = true := by decide +kernel
set_option maxRecDepth 100000 in
theorem zD_219_7 : zChq (zQr zRx (zQrk 219)) false 219 zQ_219_7 = true := by decide +kernel
theorem zD_219 : (zQtb 219).all (zChq (zQr zRx (zQrk 219)) false 219) = true := List.all_eq_true.mpr (fun p hp => by
  have hp : p ∈ zQ_219 := hp
  unfold zQ_219 at hp
  simp only [List.mem_cons, List.not_mem_nil, or_false] at hp
  rcases hp with rfl | rfl | rfl | rfl | rfl | rfl | rfl | rfl
  · exact zD_219_0
  · exact zD_219_1
  · exact zD_219_2
  · exact zD_219_3
  · exact zD_219_4
  · exact zD_219_5
  · exact zD_219_6
  · exact zD_219_7)
set_option maxRecDepth 100000 in
theorem zD_220 : (zQtb 220).all (zChq (zQr zRx (zQrk 220)) false 220) = true := by decide +kernel
set_option maxRecDepth 100000 in
theorem zD_221 : (zQtb 221).all (zChq (zQr zRx (zQrk 221)) false 221) = true := by decide +kernel
set_option maxRecDepth 100000 in
theorem zD_222 : (zQtb 222).all (zChq (zQr zRx (zQrk 222)) false 222) = true := by decide +kernel
set_option maxRecDepth 100000 in
theorem zD_223 : (zQtb 223).all (zChq (zQr zRx (zQrk 223)) false 223) = true := by decide +kernel
set_option maxRecDepth 100000 in
theorem zD_224 : (zQtb 224).all (zChq (zQr zRx (zQrk 224)) false 224) = true := by decide +kernel
set_option maxRecDepth 100000 in
theorem zD_225_0 : zChq (zQr zRx (zQrk 225)) false 225 zQ_225_0 = true := by decide +kernel

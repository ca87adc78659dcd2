/-! ===== the check's methods are checked ===== -/

set_option maxRecDepth 100000 in
theorem zD_229_4 : zChq (zQr zRx (zQrk 229)) false 229 zQ_229_4 = true := by decide +kernel
set_option maxRecDepth 100000 in
theorem zD_229_5 : zChq (zQr zRx (zQrk 229)) false 229 zQ_229_5 = true := by decide +kernel
set_option maxRecDepth 100000 in
theorem zD_229_6 : zChq (zQr zRx (zQrk 229)) false 229 zQ_229_6 = true := by decide +kernel
set_option maxRecDepth 100000 in
theorem zD_229_7 : zChq (zQr zRx (zQrk 229)) false 229 zQ_229_7 = true := by decide +kernel
theorem zD_229 : (zQtb 229).all (zChq (zQr zRx (zQrk 229)) false 229) = true := List.all_eq_true.mpr (fun p hp => by
  have hp : p ∈ zQ_229 := hp
  unfold zQ_229 at hp
  simp only [List.mem_cons, List.not_mem_nil, or_false] at hp
  rcases hp with rfl | rfl | rfl | rfl | rfl | rfl | rfl | rfl
  · exact zD_229_0
  · exact zD_229_1
  · exact zD_229_2
  · exact zD_229_3
  · exact zD_229_4
  · exact zD_229_5
  · exact zD_229_6
  · exact zD_229_7)
set_option maxRecDepth 100000 in
theorem zD_231 : (zQtb 231).all (zChq (zQr zRx (zQrk 231)) false 231) = true := by decide +kernel
set_option maxRecDepth 100000 in
theorem zD_232 : (zQtb 232).all (zChq (zQr zRx (zQrk 232)) false 232) = true := by decide +kernel
set_option maxRecDepth 100000 in
theorem zD_233 : (zQtb 233).all (zChq (zQr zRx (zQrk 233)) false 233) = true := by decide +kernel
set_option maxRecDepth 100000 in
theorem zD_234 : (zQtb 234).all (zChq (zQr zRx (zQrk 234)) false 234) = true := by decide +kernel
set_option maxRecDepth 100000 in
theorem zD_239 : (zQtb 239).all (zChq (zQr zRx (zQrk 239)) false 239) = true := by decide +kernel
set_option maxRecDepth 100000 in
theorem zD_240 : (zQtb 240).all (zChq (zQr zRx (zQrk 240)) false 240) = true := by decide +kernel
set_option maxRecDepth 100000 in
theorem zD_241 : (zQtb 241).all (zChq (zQr zRx (zQrk 241)) true 241) = true := by decide +kernel
set_option maxRecDepth 100000 in
theorem zD_242 : (zQtb 242).all (zChq (zQr zRx (zQrk 242)) true 242) = true := by decide +kernel
set_option maxRecDepth 100000 in
theorem zD_243 : (zQtb 243).all (zChq (zQr zRx (zQrk 243)) true 243) = true := by decide +kernel
set_option maxRecDepth 100000 in
theorem zD_244 : (zQtb 244).all (zChq (zQr zRx (zQrk 244)) true 244) = true := by decide +kernel
set_option maxRecDepth 100000 in
theorem zD_245 : (zQtb 245).all (zChq (zQr zRx (zQrk 245)) false 245) = true := by decide +kernel
set_option maxRecDepth 100000 in
theorem zD_247 : (zQtb 247).all (zChq (zQr zRx (zQrk 247)) false 247) = true := by decide +kernel

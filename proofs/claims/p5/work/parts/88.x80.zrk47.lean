/-! ===== the check's methods are checked ===== -/

set_option maxRecDepth 100000 in
theorem zD_225_7 : zChq (zQr zRx (zQrk 225)) false 225 zQ_225_7 = true := by decide +kernel
theorem zD_225 : (zQtb 225).all (zChq (zQr zRx (zQrk 225)) false 225) = true := List.all_eq_true.mpr (fun p hp => by
  have hp : p ∈ zQ_225 := hp
  unfold zQ_225 at hp
  simp only [List.mem_cons, List.not_mem_nil, or_false] at hp
  rcases hp with rfl | rfl | rfl | rfl | rfl | rfl | rfl | rfl
  · exact zD_225_0
  · exact zD_225_1
  · exact zD_225_2
  · exact zD_225_3
  · exact zD_225_4
  · exact zD_225_5
  · exact zD_225_6
  · exact zD_225_7)
set_option maxRecDepth 100000 in
theorem zD_228 : (zQtb 228).all (zChq (zQr zRx (zQrk 228)) true 228) = true := by decide +kernel
set_option maxRecDepth 100000 in
theorem zD_229_0 : zChq (zQr zRx (zQrk 229)) false 229 zQ_229_0 = true := by decide +kernel
set_option maxRecDepth 100000 in
theorem zD_229_1 : zChq (zQr zRx (zQrk 229)) false 229 zQ_229_1 = true := by decide +kernel
set_option maxRecDepth 100000 in
theorem zD_229_2 : zChq (zQr zRx (zQrk 229)) false 229 zQ_229_2 = true := by decide +kernel
set_option maxRecDepth 100000 in
theorem zD_229_3 : zChq (zQr zRx (zQrk 229)) false 229 zQ_229_3 = true := by decide +kernel

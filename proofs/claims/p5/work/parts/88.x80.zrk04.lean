/-! ===== the check's methods are checked ===== -/

set_option maxRecDepth 100000 in
theorem zD_158_6 : zChq (zQr zRx (zQrk 158)) false 158 zQ_158_6 = true := by decide +kernel
set_option maxRecDepth 100000 in
theorem zD_158_7 : zChq (zQr zRx (zQrk 158)) false 158 zQ_158_7 = true := by decide +kernel
theorem zD_158 : (zQtb 158).all (zChq (zQr zRx (zQrk 158)) false 158) = true := List.all_eq_true.mpr (fun p hp => by
  have hp : p ∈ zQ_158 := hp
  unfold zQ_158 at hp
  simp only [List.mem_cons, List.not_mem_nil, or_false] at hp
  rcases hp with rfl | rfl | rfl | rfl | rfl | rfl | rfl | rfl
  · exact zD_158_0
  · exact zD_158_1
  · exact zD_158_2
  · exact zD_158_3
  · exact zD_158_4
  · exact zD_158_5
  · exact zD_158_6
  · exact zD_158_7)
set_option maxRecDepth 100000 in
theorem zD_160 : (zQtb 160).all (zChq (zQr zRx (zQrk 160)) false 160) = true := by decide +kernel
set_option maxRecDepth 100000 in
theorem zD_161_0 : zChq (zQr zRx (zQrk 161)) false 161 zQ_161_0 = true := by decide +kernel
set_option maxRecDepth 100000 in
theorem zD_161_1 : zChq (zQr zRx (zQrk 161)) false 161 zQ_161_1 = true := by decide +kernel
set_option maxRecDepth 100000 in
theorem zD_161_2 : zChq (zQr zRx (zQrk 161)) false 161 zQ_161_2 = true := by decide +kernel
set_option maxRecDepth 100000 in
theorem zD_161_3 : zChq (zQr zRx (zQrk 161)) false 161 zQ_161_3 = true := by decide +kernel
set_option maxRecDepth 100000 in
theorem zD_161_4 : zChq (zQr zRx (zQrk 161)) false 161 zQ_161_4 = true := by decide +kernel
set_option maxRecDepth 100000 in
theorem zD_161_5 : zChq (zQr zRx (zQrk 161)) false 161 zQ_161_5 = true := by decide +kernel
set_option maxRecDepth 100000 in
theorem zD_161_6 : zChq (zQr zRx (zQrk 161)) false 161 zQ_161_6 = true := by decide +kernel
set_option maxRecDepth 100000 in
theorem zD_161_7 : zChq (zQr zRx (zQrk 161)) false 161 zQ_161_7 = true := by decide +kernel
theorem zD_161 : (zQtb 161).all (zChq (zQr zRx (zQrk 161)) false 161) = true := List.all_eq_true.mpr (fun p hp => by
  have hp : p ∈ zQ_161 := hp
  unfold zQ_161 at hp
  simp only [List.mem_cons, List.not_mem_nil, or_false] at hp
  rcases hp with rfl | rfl | rfl | rfl | rfl | rfl | rfl | rfl
  · exact zD_161_0
  · exact zD_161_1
  · exact zD_161_2
  · exact zD_161_3
  · exact zD_161_4
  · exact zD_161_5
  · exact zD_161_6
  · exact zD_161_7)

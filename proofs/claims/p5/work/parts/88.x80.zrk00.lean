/-! ===== the check's methods are checked ===== -/

set_option maxRecDepth 100000 in
theorem zD_143 : (zQtb 143).all (zChq (zQr zRx (zQrk 143)) false 143) = true := by decide +kernel
set_option maxRecDepth 100000 in
theorem zD_144_0 : zChq (zQr zRx (zQrk 144)) false 144 zQ_144_0 = true := by decide +kernel
set_option maxRecDepth 100000 in
theorem zD_144_1 : zChq (zQr zRx (zQrk 144)) false 144 zQ_144_1 = true := by decide +kernel
set_option maxRecDepth 100000 in
theorem zD_144_2 : zChq (zQr zRx (zQrk 144)) false 144 zQ_144_2 = true := by decide +kernel
set_option maxRecDepth 100000 in
theorem zD_144_3 : zChq (zQr zRx (zQrk 144)) false 144 zQ_144_3 = true := by decide +kernel
set_option maxRecDepth 100000 in
theorem zD_144_4 : zChq (zQr zRx (zQrk 144)) false 144 zQ_144_4 = true := by decide +kernel
set_option maxRecDepth 100000 in
theorem zD_144_5 : zChq (zQr zRx (zQrk 144)) false 144 zQ_144_5 = true := by decide +kernel
set_option maxRecDepth 100000 in
theorem zD_144_6 : zChq (zQr zRx (zQrk 144)) false 144 zQ_144_6 = true := by decide +kernel
set_option maxRecDepth 100000 in
theorem zD_144_7 : zChq (zQr zRx (zQrk 144)) false 144 zQ_144_7 = true := by decide +kernel
theorem zD_144 : (zQtb 144).all (zChq (zQr zRx (zQrk 144)) false 144) = true := List.all_eq_true.mpr (fun p hp => by
  have hp : p ∈ zQ_144 := hp
  unfold zQ_144 at hp
  simp only [List.mem_cons, List.not_mem_nil, or_false] at hp
  rcases hp with rfl | rfl | rfl | rfl | rfl | rfl | rfl | rfl
  · exact zD_144_0
  · exact zD_144_1
  · exact zD_144_2
  · exact zD_144_3
  · exact zD_144_4
  · exact zD_144_5
  · exact zD_144_6
  · exact zD_144_7)
set_option maxRecDepth 100000 in
theorem zD_145 : (zQtb 145).all (zChq (zQr zRx (zQrk 145)) false 145) = true := by decide +kernel

/-! ===== the check's methods are checked ===== -/

set_option maxRecDepth 100000 in
theorem zD_199 : (zQtb 199).all (zChq (zQr zRx (zQrk 199)) false 199) = true := by decide +kernel
set_option maxRecDepth 100000 in
theorem zD_201_0 : zChq (zQr zRx (zQrk 201)) false 201 zQ_201_0 = true := by decide +kernel
set_option maxRecDepth 100000 in
theorem zD_201_1 : zChq (zQr zRx (zQrk 201)) false 201 zQ_201_1 = true := by decide +kernel
set_option maxRecDepth 100000 in
theorem zD_201_2 : zChq (zQr zRx (zQrk 201)) false 201 zQ_201_2 = true := by decide +kernel
set_option maxRecDepth 100000 in
theorem zD_201_3 : zChq (zQr zRx (zQrk 201)) false 201 zQ_201_3 = true := by decide +kernel
set_option maxRecDepth 100000 in
theorem zD_201_4 : zChq (zQr zRx (zQrk 201)) false 201 zQ_201_4 = true := by decide +kernel
set_option maxRecDepth 100000 in
theorem zD_201_5 : zChq (zQr zRx (zQrk 201)) false 201 zQ_201_5 = true := by decide +kernel
set_option maxRecDepth 100000 in
theorem zD_201_6 : zChq (zQr zRx (zQrk 201)) false 201 zQ_201_6 = true := by decide +kernel
set_option maxRecDepth 100000 in
theorem zD_201_7 : zChq (zQr zRx (zQrk 201)) false 201 zQ_201_7 = true := by decide +kernel
theorem zD_201 : (zQtb 201).all (zChq (zQr zRx (zQrk 201)) false 201) = true := List.all_eq_true.mpr (fun p hp => by
  have hp : p ∈ zQ_201 := hp
  unfold zQ_201 at hp
  simp only [List.mem_cons, List.not_mem_nil, or_false] at hp
  rcases hp with rfl | rfl | rfl | rfl | rfl | rfl | rfl | rfl
  · exact zD_201_0
  · exact zD_201_1
  · exact zD_201_2
  · exact zD_201_3
  · exact zD_201_4
  · exact zD_201_5
  · exact zD_201_6
  · exact zD_201_7)
set_option maxRecDepth 100000 in
theorem zD_202 : (zQtb 202).all (zChq (zQr zRx (zQrk 202)) false 202) = true := by decide +kernel
set_option maxRecDepth 100000 in
theorem zD_204 : (zQtb 204).all (zChq (zQr zRx (zQrk 204)) false 204) = true := by decide +kernel

/-! ===== the check's methods are checked ===== -/

set_option maxRecDepth 100000 in
theorem zD_191_4 : zChq (zQr zRx (zQrk 191)) false 191 zQ_191_4 = true := by decide +kernel
set_option maxRecDepth 100000 in
theorem zD_191_5 : zChq (zQr zRx (zQrk 191)) false 191 zQ_191_5 = true := by decide +kernel
set_option maxRecDepth 100000 in
theorem zD_191_6 : zChq (zQr zRx (zQrk 191)) false 191 zQ_191_6 = true := by decide +kernel
set_option maxRecDepth 100000 in
theorem zD_191_7 : zChq (zQr zRx (zQrk 191)) false 191 zQ_191_7 = true := by decide +kernel
theorem zD_191 : (zQtb 191).all (zChq (zQr zRx (zQrk 191)) false 191) = true := List.all_eq_true.mpr (fun p hp => by
  have hp : p ∈ zQ_191 := hp
  unfold zQ_191 at hp
  simp only [List.mem_cons, List.not_mem_nil, or_false] at hp
  rcases hp with rfl | rfl | rfl | rfl | rfl | rfl | rfl | rfl
  · exact zD_191_0
  · exact zD_191_1
  · exact zD_191_2
  · exact zD_191_3
  · exact zD_191_4
  · exact zD_191_5
  · exact zD_191_6
  · exact zD_191_7)

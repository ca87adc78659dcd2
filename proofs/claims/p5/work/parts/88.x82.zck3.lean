/-! ===== the class's methods are checked ===== -/

set_option maxRecDepth 100000 in
theorem zC_64_0 : (((zPtb 64).drop (1 * 0)).take 1).all (zChq (zCr (zRk 64)) false 64) = true := by decide +kernel
set_option maxRecDepth 100000 in
theorem zC_64_1 : (((zPtb 64).drop (1 * 1)).take 1).all (zChq (zCr (zRk 64)) false 64) = true := by decide +kernel
set_option maxRecDepth 100000 in
theorem zC_64_2 : (((zPtb 64).drop (1 * 2)).take 1).all (zChq (zCr (zRk 64)) false 64) = true := by decide +kernel
set_option maxRecDepth 100000 in
theorem zC_64_3 : (((zPtb 64).drop (1 * 3)).take 1).all (zChq (zCr (zRk 64)) false 64) = true := by decide +kernel
set_option maxRecDepth 100000 in
theorem zC_64_4 : (((zPtb 64).drop (1 * 4)).take 1).all (zChq (zCr (zRk 64)) false 64) = true := by decide +kernel
set_option maxRecDepth 100000 in
theorem zC_64_5 : (((zPtb 64).drop (1 * 5)).take 1).all (zChq (zCr (zRk 64)) false 64) = true := by decide +kernel
set_option maxRecDepth 100000 in
theorem zC_64_6 : (((zPtb 64).drop (1 * 6)).take 1).all (zChq (zCr (zRk 64)) false 64) = true := by decide +kernel
set_option maxRecDepth 100000 in
theorem zC_64_7 : (((zPtb 64).drop (1 * 7)).take 1).all (zChq (zCr (zRk 64)) false 64) = true := by decide +kernel
set_option maxRecDepth 100000 in
theorem zC_64_8 : (((zPtb 64).drop (1 * 8)).take 1).all (zChq (zCr (zRk 64)) false 64) = true := by decide +kernel
set_option maxRecDepth 100000 in
theorem zC_64_9 : (((zPtb 64).drop (1 * 9)).take 1).all (zChq (zCr (zRk 64)) false 64) = true := by decide +kernel
set_option maxRecDepth 100000 in
theorem zC_64_10 : (((zPtb 64).drop (1 * 10)).take 1).all (zChq (zCr (zRk 64)) false 64) = true := by decide +kernel
set_option maxRecDepth 100000 in
theorem zC_64_11 : (((zPtb 64).drop (1 * 11)).take 1).all (zChq (zCr (zRk 64)) false 64) = true := by decide +kernel
set_option maxRecDepth 100000 in
theorem zC_64_12 : (((zPtb 64).drop (1 * 12)).take 1).all (zChq (zCr (zRk 64)) false 64) = true := by decide +kernel
set_option maxRecDepth 100000 in
theorem zC_64_13 : (((zPtb 64).drop (1 * 13)).take 1).all (zChq (zCr (zRk 64)) false 64) = true := by decide +kernel
set_option maxRecDepth 100000 in
theorem zC_64_14 : (((zPtb 64).drop (1 * 14)).take 1).all (zChq (zCr (zRk 64)) false 64) = true := by decide +kernel
set_option maxRecDepth 100000 in
theorem zC_64_15 : (((zPtb 64).drop (1 * 15)).take 1).all (zChq (zCr (zRk 64)) false 64) = true := by decide +kernel
theorem zC_64 : (zPtb 64).all (zChq (zCr (zRk 64)) false 64) = true := mAll_cut (n := 1) (k := 16) (by decide +kernel) (fun i hi => by
  obtain rfl | rfl | rfl | rfl | rfl | rfl | rfl | rfl | rfl | rfl | rfl | rfl | rfl | rfl | rfl | rfl := (by omega : i = 0 ∨ i = 1 ∨ i = 2 ∨ i = 3 ∨ i = 4 ∨ i = 5 ∨ i = 6 ∨ i = 7 ∨ i = 8 ∨ i = 9 ∨ i = 10 ∨ i = 11 ∨ i = 12 ∨ i = 13 ∨ i = 14 ∨ i = 15)
  · exact zC_64_0
  · exact zC_64_1
  · exact zC_64_2
  · exact zC_64_3
  · exact zC_64_4
  · exact zC_64_5
  · exact zC_64_6
  · exact zC_64_7
  · exact zC_64_8
  · exact zC_64_9
  · exact zC_64_10
  · exact zC_64_11
  · exact zC_64_12
  · exact zC_64_13
  · exact zC_64_14
  · exact zC_64_15)
set_option maxRecDepth 100000 in
theorem zC_66 : (zPtb 66).all (zChq (zCr (zRk 66)) false 66) = true := by decide +kernel

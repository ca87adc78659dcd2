/-! ===== the class's methods are checked ===== -/

set_option maxRecDepth 100000 in
theorem zC_71_0 : (((zPtb 71).drop (1 * 0)).take 1).all (zChq (zCr (zRk 71)) false 71) = true := by decide +kernel
set_option maxRecDepth 100000 in
theorem zC_71_1 : (((zPtb 71).drop (1 * 1)).take 1).all (zChq (zCr (zRk 71)) false 71) = true := by decide +kernel
set_option maxRecDepth 100000 in
theorem zC_71_2 : (((zPtb 71).drop (1 * 2)).take 1).all (zChq (zCr (zRk 71)) false 71) = true := by decide +kernel
set_option maxRecDepth 100000 in
theorem zC_71_3 : (((zPtb 71).drop (1 * 3)).take 1).all (zChq (zCr (zRk 71)) false 71) = true := by decide +kernel
set_option maxRecDepth 100000 in
theorem zC_71_4 : (((zPtb 71).drop (1 * 4)).take 1).all (zChq (zCr (zRk 71)) false 71) = true := by decide +kernel
set_option maxRecDepth 100000 in
theorem zC_71_5 : (((zPtb 71).drop (1 * 5)).take 1).all (zChq (zCr (zRk 71)) false 71) = true := by decide +kernel
set_option maxRecDepth 100000 in
theorem zC_71_6 : (((zPtb 71).drop (1 * 6)).take 1).all (zChq (zCr (zRk 71)) false 71) = true := by decide +kernel
set_option maxRecDepth 100000 in
theorem zC_71_7 : (((zPtb 71).drop (1 * 7)).take 1).all (zChq (zCr (zRk 71)) false 71) = true := by decide +kernel
set_option maxRecDepth 100000 in
theorem zC_71_8 : (((zPtb 71).drop (1 * 8)).take 1).all (zChq (zCr (zRk 71)) false 71) = true := by decide +kernel
set_option maxRecDepth 100000 in
theorem zC_71_9 : (((zPtb 71).drop (1 * 9)).take 1).all (zChq (zCr (zRk 71)) false 71) = true := by decide +kernel
set_option maxRecDepth 100000 in
theorem zC_71_10 : (((zPtb 71).drop (1 * 10)).take 1).all (zChq (zCr (zRk 71)) false 71) = true := by decide +kernel
set_option maxRecDepth 100000 in
theorem zC_71_11 : (((zPtb 71).drop (1 * 11)).take 1).all (zChq (zCr (zRk 71)) false 71) = true := by decide +kernel
set_option maxRecDepth 100000 in
theorem zC_71_12 : (((zPtb 71).drop (1 * 12)).take 1).all (zChq (zCr (zRk 71)) false 71) = true := by decide +kernel
set_option maxRecDepth 100000 in
theorem zC_71_13 : (((zPtb 71).drop (1 * 13)).take 1).all (zChq (zCr (zRk 71)) false 71) = true := by decide +kernel
set_option maxRecDepth 100000 in
theorem zC_71_14 : (((zPtb 71).drop (1 * 14)).take 1).all (zChq (zCr (zRk 71)) false 71) = true := by decide +kernel
set_option maxRecDepth 100000 in
theorem zC_71_15 : (((zPtb 71).drop (1 * 15)).take 1).all (zChq (zCr (zRk 71)) false 71) = true := by decide +kernel
set_option maxRecDepth 100000 in
theorem zC_71_16 : (((zPtb 71).drop (1 * 16)).take 1).all (zChq (zCr (zRk 71)) false 71) = true := by decide +kernel
set_option maxRecDepth 100000 in
theorem zC_71_17 : (((zPtb 71).drop (1 * 17)).take 1).all (zChq (zCr (zRk 71)) false 71) = true := by decide +kernel
theorem zC_71 : (zPtb 71).all (zChq (zCr (zRk 71)) false 71) = true := mAll_cut (n := 1) (k := 18) (by decide +kernel) (fun i hi => by
  obtain rfl | rfl | rfl | rfl | rfl | rfl | rfl | rfl | rfl | rfl | rfl | rfl | rfl | rfl | rfl | rfl | rfl | rfl := (by omega : i = 0 ∨ i = 1 ∨ i = 2 ∨ i = 3 ∨ i = 4 ∨ i = 5 ∨ i = 6 ∨ i = 7 ∨ i = 8 ∨ i = 9 ∨ i = 10 ∨ i = 11 ∨ i = 12 ∨ i = 13 ∨ i = 14 ∨ i = 15 ∨ i = 16 ∨ i = 17)
  · exact zC_71_0
  · exact zC_71_1
  · exact zC_71_2
  · exact zC_71_3
  · exact zC_71_4
  · exact zC_71_5
  · exact zC_71_6
  · exact zC_71_7
  · exact zC_71_8
  · exact zC_71_9
  · exact zC_71_10
  · exact zC_71_11
  · exact zC_71_12
  · exact zC_71_13
  · exact zC_71_14
  · exact zC_71_15
  · exact zC_71_16
  · exact zC_71_17)
set_option maxRecDepth 100000 in
theorem zC_72 : (zPtb 72).all (zChq (zCr (zRk 72)) false 72) = true := by decide +kernel
set_option maxRecDepth 100000 in
theorem zC_73 : (zPtb 73).all (zChq (zCr (zRk 73)) false 73) = true := by decide +kernel
set_option maxRecDepth 100000 in
theorem zC_74 : (zPtb 74).all (zChq (zCr (zRk 74)) false 74) = true := by decide +kernel

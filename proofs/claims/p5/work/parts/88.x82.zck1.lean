/-! ===== the class's methods are checked ===== -/

set_option maxRecDepth 100000 in
theorem zC_51 : (zPtb 51).all (zChq (zCr (zRk 51)) false 51) = true := by decide +kernel
set_option maxRecDepth 100000 in
theorem zC_52 : (zPtb 52).all (zChq (zCr (zRk 52)) false 52) = true := by decide +kernel
set_option maxRecDepth 100000 in
theorem zC_53 : (zPtb 53).all (zChq (zCr (zRk 53)) false 53) = true := by decide +kernel
set_option maxRecDepth 100000 in
theorem zC_54 : (zPtb 54).all (zChq (zCr (zRk 54)) false 54) = true := by decide +kernel
set_option maxRecDepth 100000 in
theorem zC_55 : (zPtb 55).all (zChq (zCr (zRk 55)) false 55) = true := by decide +kernel

/-! ===== the class's methods are checked ===== -/

set_option maxRecDepth 100000 in
theorem zC_56 : (zPtb 56).all (zChq (zCr (zRk 56)) false 56) = true := by decide +kernel
set_option maxRecDepth 100000 in
theorem zC_60 : (zPtb 60).all (zChq (zCr (zRk 60)) false 60) = true := by decide +kernel
set_option maxRecDepth 100000 in
theorem zC_61 : (zPtb 61).all (zChq (zCr (zRk 61)) false 61) = true := by decide +kernel
set_option maxRecDepth 100000 in
theorem zC_62 : (zPtb 62).all (zChq (zCr (zRk 62)) false 62) = true := by decide +kernel
set_option maxRecDepth 100000 in
theorem zC_63 : (zPtb 63).all (zChq (zCr (zRk 63)) false 63) = true := by decide +kernel

/-! ===== the class's methods are checked ===== -/

set_option maxRecDepth 100000 in
theorem zC_13 : (zPtb 13).all (zChq (zCr (zRk 13)) false 13) = true := by decide +kernel
set_option maxRecDepth 100000 in
theorem zC_18 : (zPtb 18).all (zChq (zCr (zRk 18)) false 18) = true := by decide +kernel
set_option maxRecDepth 100000 in
theorem zC_23 : (zPtb 23).all (zChq (zCr (zRk 23)) false 23) = true := by decide +kernel
set_option maxRecDepth 100000 in
theorem zC_25 : (zPtb 25).all (zChq (zCr (zRk 25)) false 25) = true := by decide +kernel
set_option maxRecDepth 100000 in
theorem zC_26 : (zPtb 26).all (zChq (zCr (zRk 26)) false 26) = true := by decide +kernel
set_option maxRecDepth 100000 in
theorem zC_27 : (zPtb 27).all (zChq (zCr (zRk 27)) false 27) = true := by decide +kernel
set_option maxRecDepth 100000 in
theorem zC_28 : (zPtb 28).all (zChq (zCr (zRk 28)) false 28) = true := by decide +kernel
set_option maxRecDepth 100000 in
theorem zC_29 : (zPtb 29).all (zChq (zCr (zRk 29)) false 29) = true := by decide +kernel
set_option maxRecDepth 100000 in
theorem zC_33 : (zPtb 33).all (zChq (zCr (zRk 33)) false 33) = true := by decide +kernel
set_option maxRecDepth 100000 in
theorem zC_35 : (zPtb 35).all (zChq (zCr (zRk 35)) false 35) = true := by decide +kernel
set_option maxRecDepth 100000 in
theorem zC_36 : (zPtb 36).all (zChq (zCr (zRk 36)) false 36) = true := by decide +kernel
set_option maxRecDepth 100000 in
theorem zC_37 : (zPtb 37).all (zChq (zCr (zRk 37)) false 37) = true := by decide +kernel
set_option maxRecDepth 100000 in
theorem zC_38 : (zPtb 38).all (zChq (zCr (zRk 38)) false 38) = true := by decide +kernel
set_option maxRecDepth 100000 in
theorem zC_39 : (zPtb 39).all (zChq (zCr (zRk 39)) false 39) = true := by decide +kernel
set_option maxRecDepth 100000 in
theorem zC_40 : (zPtb 40).all (zChq (zCr (zRk 40)) false 40) = true := by decide +kernel
set_option maxRecDepth 100000 in
theorem zC_43 : (zPtb 43).all (zChq (zCr (zRk 43)) false 43) = true := by decide +kernel
set_option maxRecDepth 100000 in
theorem zC_44 : (zPtb 44).all (zChq (zCr (zRk 44)) false 44) = true := by decide +kernel
set_option maxRecDepth 100000 in
theorem zC_45 : (zPtb 45).all (zChq (zCr (zRk 45)) false 45) = true := by decide +kernel
set_option maxRecDepth 100000 in
theorem zC_46 : (zPtb 46).all (zChq (zCr (zRk 46)) false 46) = true := by decide +kernel
set_option maxRecDepth 100000 in
theorem zC_47 : (zPtb 47).all (zChq (zCr (zRk 47)) false 47) = true := by decide +kernel
set_option maxRecDepth 100000 in
theorem zC_48 : (zPtb 48).all (zChq (zCr (zRk 48)) false 48) = true := by decide +kernel
set_option maxRecDepth 100000 in
theorem zC_49 : (zPtb 49).all (zChq (zCr (zRk 49)) false 49) = true := by decide +kernel
set_option maxRecDepth 100000 in
theorem zC_50 : (zPtb 50).all (zChq (zCr (zRk 50)) false 50) = true := by decide +kernel

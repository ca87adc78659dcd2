/-! ===== the check's methods are checked ===== -/

set_option maxRecDepth 100000 in
theorem zD_248 : (zQtb 248).all (zChq (zQr zRx (zQrk 248)) false 248) = true := by decide +kernel
set_option maxRecDepth 100000 in
theorem zD_249 : (zQtb 249).all (zChq (zQr zRx (zQrk 249)) false 249) = true := by decide +kernel

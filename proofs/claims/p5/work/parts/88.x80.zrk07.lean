/-! ===== the check's methods are checked ===== -/

set_option maxRecDepth 100000 in
theorem zD_168 : (zQtb 168).all (zChq (zQr zRx (zQrk 168)) false 168) = true := by decide +kernel

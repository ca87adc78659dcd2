/-! ===== the check's methods are checked ===== -/

set_option maxRecDepth 100000 in
theorem zD_206 : (zQtb 206).all (zChq (zQr zRx (zQrk 206)) false 206) = true := by decide +kernel

/-! ===== the check's methods are checked ===== -/

set_option maxRecDepth 100000 in
theorem zD_162 : (zQtb 162).all (zChq (zQr zRx (zQrk 162)) false 162) = true := by decide +kernel

/-! ===== the check's methods are checked ===== -/

set_option maxRecDepth 100000 in
theorem zD_180 : (zQtb 180).all (zChq (zQr zRx (zQrk 180)) false 180) = true := by decide +kernel

/-! ===== the check's methods are checked ===== -/

set_option maxRecDepth 100000 in
theorem zD_182 : (zQtb 182).all (zChq (zQr zRx (zQrk 182)) false 182) = true := by decide +kernel

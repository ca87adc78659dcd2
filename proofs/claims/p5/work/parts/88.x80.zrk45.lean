/-! ===== the check's methods are checked ===== -/

set_option maxRecDepth 100000 in
theorem zD_225_3 : zChq (zQr zRx (zQrk 225)) false 225 zQ_225_3 = true := by decide +kernel
set_option maxRecDepth 100000 in
theorem zD_225_4 : zChq (zQr zRx (zQrk 225)) false 225 zQ_225_4 = true := by decide +kernel

/-! ===== the check's methods are checked ===== -/

set_option maxRecDepth 100000 in
theorem zD_225_1 : zChq (zQr zRx (zQrk 225)) false 225 zQ_225_1 = true := by decide +kernel
set_option maxRecDepth 100000 in
theorem zD_225_2 : zChq (zQr zRx (zQrk 225)) false 225 zQ_225_2 = true := by decide +kernel

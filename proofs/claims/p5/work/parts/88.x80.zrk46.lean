/-! ===== the check's methods are checked ===== -/

set_option maxRecDepth 100000 in
theorem zD_225_5 : zChq (zQr zRx (zQrk 225)) false 225 zQ_225_5 = true := by decide +kernel
set_option maxRecDepth 100000 in
theorem zD_225_6 : zChq (zQr zRx (zQrk 225)) false 225 zQ_225_6 = true := by decide +kernel

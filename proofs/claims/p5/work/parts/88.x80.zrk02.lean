/-! ===== the check's methods are checked ===== -/

set_option maxRecDepth 100000 in
theorem zD_158_0 : zChq (zQr zRx (zQrk 158)) false 158 zQ_158_0 = true := by decide +kernel
set_option maxRecDepth 100000 in
theorem zD_158_1 : zChq (zQr zRx (zQrk 158)) false 158 zQ_158_1 = true := by decide +kernel
set_option maxRecDepth 100000 in
theorem zD_158_2 : zChq (zQr zRx (zQrk 158)) false 158 zQ_158_2 = true := by decide +kernel

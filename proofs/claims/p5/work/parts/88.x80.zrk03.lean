/-! ===== the check's methods are checked ===== -/

set_option maxRecDepth 100000 in
theorem zD_158_3 : zChq (zQr zRx (zQrk 158)) false 158 zQ_158_3 = true := by decide +kernel
set_option maxRecDepth 100000 in
theorem zD_158_4 : zChq (zQr zRx (zQrk 158)) false 158 zQ_158_4 = true := by decide +kernel
set_option maxRecDepth 100000 in
theorem zD_158_5 : zChq (zQr zRx (zQrk 158)) false 158 zQ_158_5 = true := by decide +kernel

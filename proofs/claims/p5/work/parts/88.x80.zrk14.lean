/-! ===== the check's methods are checked ===== -/

set_option maxRecDepth 100000 in
theorem zD_192_0 : zChq (zQr zRx (zQrk 192)) true 192 zQ_192_0 = true := by decide +kernel
set_option maxRecDepth 100000 in
theorem zD_192_1 : zChq (zQr zRx (zQrk 192)) true 192 zQ_192_1 = true := by decide +kernel
set_option maxRecDepth 100000 in
theorem zD_192_2 : zChq (zQr zRx (zQrk 192)) true 192 zQ_192_2 = true := by decide +kernel

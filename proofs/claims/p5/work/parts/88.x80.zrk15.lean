/-! ===== the check's methods are checked ===== -/

set_option maxRecDepth 100000 in
theorem zD_192_3 : zChq (zQr zRx (zQrk 192)) true 192 zQ_192_3 = true := by decide +kernel
set_option maxRecDepth 100000 in
theorem zD_192_4 : zChq (zQr zRx (zQrk 192)) true 192 zQ_192_4 = true := by decide +kernel
set_option maxRecDepth 100000 in
theorem zD_192_5 : zChq (zQr zRx (zQrk 192)) true 192 zQ_192_5 = true := by decide +kernel

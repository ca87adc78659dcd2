/-! ===== the check's methods are checked ===== -/

set_option maxRecDepth 100000 in
theorem zD_192_9 : zChq (zQr zRx (zQrk 192)) true 192 zQ_192_9 = true := by decide +kernel
set_option maxRecDepth 100000 in
theorem zD_192_10 : zChq (zQr zRx (zQrk 192)) true 192 zQ_192_10 = true := by decide +kernel
set_option maxRecDepth 100000 in
theorem zD_192_11 : zChq (zQr zRx (zQrk 192)) true 192 zQ_192_11 = true := by decide +kernel

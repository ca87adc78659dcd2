/-! ===== the check's methods are checked ===== -/

set_option maxRecDepth 100000 in
theorem zD_192_12 : zChq (zQr zRx (zQrk 192)) true 192 zQ_192_12 = true := by decide +kernel
set_option maxRecDepth 100000 in
theorem zD_192_13 : zChq (zQr zRx (zQrk 192)) true 192 zQ_192_13 = true := by decide +kernel
set_option maxRecDepth 100000 in
theorem zD_192_14 : zChq (zQr zRx (zQrk 192)) true 192 zQ_192_14 = true := by decide +kernel

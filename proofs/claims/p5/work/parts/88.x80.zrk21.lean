/-! ===== the check's methods are checked ===== -/

set_option maxRecDepth 100000 in
theorem zD_192_21 : zChq (zQr zRx (zQrk 192)) true 192 zQ_192_21 = true := by decide +kernel
set_option maxRecDepth 100000 in
theorem zD_192_22 : zChq (zQr zRx (zQrk 192)) true 192 zQ_192_22 = true := by decide +kernel
set_option maxRecDepth 100000 in
theorem zD_192_23 : zChq (zQr zRx (zQrk 192)) true 192 zQ_192_23 = true := by decide +kernel

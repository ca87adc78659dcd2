/-! ===== the check's methods are checked ===== -/

set_option maxRecDepth 100000 in
theorem zD_192_27 : zChq (zQr zRx (zQrk 192)) true 192 zQ_192_27 = true := by decide +kernel
set_option maxRecDepth 100000 in
theorem zD_192_28 : zChq (zQr zRx (zQrk 192)) true 192 zQ_192_28 = true := by decide +kernel
set_option maxRecDepth 100000 in
theorem zD_192_29 : zChq (zQr zRx (zQrk 192)) true 192 zQ_192_29 = true := by decide +kernel

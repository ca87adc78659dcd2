/-! ===== the check's methods are checked ===== -/

set_option maxRecDepth 100000 in
theorem zD_192_24 : zChq (zQr zRx (zQrk 192)) true 192 zQ_192_24 = true := by decide +kernel
set_option maxRecDepth 100000 in
theorem zD_192_25 : zChq (zQr zRx (zQrk 192)) true 192 zQ_192_25 = true := by decide +kernel
set_option maxRecDepth 100000 in
theorem zD_192_26 : zChq (zQr zRx (zQrk 192)) true 192 zQ_192_26 = true := by decide +kernel

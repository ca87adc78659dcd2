/-! ===== the check's methods are checked ===== -/

set_option maxRecDepth 100000 in
theorem zD_192_18 : zChq (zQr zRx (zQrk 192)) true 192 zQ_192_18 = true := by decide +kernel
set_option maxRecDepth 100000 in
theorem zD_192_19 : zChq (zQr zRx (zQrk 192)) true 192 zQ_192_19 = true := by decide +kernel
set_option maxRecDepth 100000 in
theorem zD_192_20 : zChq (zQr zRx (zQrk 192)) true 192 zQ_192_20 = true := by decide +kernel

/-! ===== the check's methods are checked ===== -/

set_option maxRecDepth 100000 in
theorem zD_192_6 : zChq (zQr zRx (zQrk 192)) true 192 zQ_192_6 = true := by decide +kernel
set_option maxRecDepth 100000 in
theorem zD_192_7 : zChq (zQr zRx (zQrk 192)) true 192 zQ_192_7 = true := by decide +kernel
set_option maxRecDepth 100000 in
theorem zD_192_8 : zChq (zQr zRx (zQrk 192)) true 192 zQ_192_8 = true := by decide +kernel

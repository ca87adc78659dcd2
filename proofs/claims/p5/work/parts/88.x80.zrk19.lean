/-! ===== the check's methods are checked ===== -/

set_option maxRecDepth 100000 in
theorem zD_192_15 : zChq (zQr zRx (zQrk 192)) true 192 zQ_192_15 = true := by decide +kernel
set_option maxRecDepth 100000 in
theorem zD_192_16 : zChq (zQr zRx (zQrk 192)) true 192 zQ_192_16 = true := by decide +kernel
set_option maxRecDepth 100000 in
theorem zD_192_17 : zChq (zQr zRx (zQrk 192)) true 192 zQ_192_17 = true := by decide +kernel

/-! ===== the check's methods are checked ===== -/

set_option maxRecDepth 100000 in
theorem zD_192_48 : zChq (zQr zRx (zQrk 192)) true 192 zQ_192_48 = true := by decide +kernel
set_option maxRecDepth 100000 in
theorem zD_192_49 : zChq (zQr zRx (zQrk 192)) true 192 zQ_192_49 = true := by decide +kernel
set_option maxRecDepth 100000 in
theorem zD_192_50 : zChq (zQr zRx (zQrk 192)) true 192 zQ_192_50 = true := by decide +kernel

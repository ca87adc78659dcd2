/-! ===== the check's methods are checked ===== -/

set_option maxRecDepth 100000 in
theorem zD_192_30 : zChq (zQr zRx (zQrk 192)) true 192 zQ_192_30 = true := by decide +kernel
set_option maxRecDepth 100000 in
theorem zD_192_31 : zChq (zQr zRx (zQrk 192)) true 192 zQ_192_31 = true := by decide +kernel
set_option maxRecDepth 100000 in
theorem zD_192_32 : zChq (zQr zRx (zQrk 192)) true 192 zQ_192_32 = true := by decide +kernel

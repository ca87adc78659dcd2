/-! ===== the check's methods are checked ===== -/

set_option maxRecDepth 100000 in
theorem zD_192_51 : zChq (zQr zRx (zQrk 192)) true 192 zQ_192_51 = true := by decide +kernel
set_option maxRecDepth 100000 in
theorem zD_192_52 : zChq (zQr zRx (zQrk 192)) true 192 zQ_192_52 = true := by decide +kernel
set_option maxRecDepth 100000 in
theorem zD_192_53 : zChq (zQr zRx (zQrk 192)) true 192 zQ_192_53 = true := by decide +kernel

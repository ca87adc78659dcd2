/-! ===== the check's methods are checked ===== -/

set_option maxRecDepth 100000 in
theorem zD_192_42 : zChq (zQr zRx (zQrk 192)) true 192 zQ_192_42 = true := by decide +kernel
set_option maxRecDepth 100000 in
theorem zD_192_43 : zChq (zQr zRx (zQrk 192)) true 192 zQ_192_43 = true := by decide +kernel
set_option maxRecDepth 100000 in
theorem zD_192_44 : zChq (zQr zRx (zQrk 192)) true 192 zQ_192_44 = true := by decide +kernel

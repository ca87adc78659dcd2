/-! ===== the check's methods are checked ===== -/

set_option maxRecDepth 100000 in
theorem zD_192_54 : zChq (zQr zRx (zQrk 192)) true 192 zQ_192_54 = true := by decide +kernel
set_option maxRecDepth 100000 in
theorem zD_192_55 : zChq (zQr zRx (zQrk 192)) true 192 zQ_192_55 = true := by decide +kernel
set_option maxRecDepth 100000 in
theorem zD_192_56 : zChq (zQr zRx (zQrk 192)) true 192 zQ_192_56 = true := by decide +kernel

/-! ===== the check's methods are checked ===== -/

set_option maxRecDepth 100000 in
theorem zD_192_39 : zChq (zQr zRx (zQrk 192)) true 192 zQ_192_39 = true := by decide +kernel
set_option maxRecDepth 100000 in
theorem zD_192_40 : zChq (zQr zRx (zQrk 192)) true 192 zQ_192_40 = true := by decide +kernel
set_option maxRecDepth 100000 in
theorem zD_192_41 : zChq (zQr zRx (zQrk 192)) true 192 zQ_192_41 = true := by decide +kernel

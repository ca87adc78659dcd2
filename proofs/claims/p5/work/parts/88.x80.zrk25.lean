/-! ===== the check's methods are checked ===== -/

set_option maxRecDepth 100000 in
theorem zD_192_33 : zChq (zQr zRx (zQrk 192)) true 192 zQ_192_33 = true := by decide +kernel
set_option maxRecDepth 100000 in
theorem zD_192_34 : zChq (zQr zRx (zQrk 192)) true 192 zQ_192_34 = true := by decide +kernel
set_option maxRecDepth 100000 in
theorem zD_192_35 : zChq (zQr zRx (zQrk 192)) true 192 zQ_192_35 = true := by decide +kernel

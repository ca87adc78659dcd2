/-! ===== the check's methods are checked ===== -/

set_option maxRecDepth 100000 in
theorem zD_192_36 : zChq (zQr zRx (zQrk 192)) true 192 zQ_192_36 = true := by decide +kernel
set_option maxRecDepth 100000 in
theorem zD_192_37 : zChq (zQr zRx (zQrk 192)) true 192 zQ_192_37 = true := by decide +kernel
set_option maxRecDepth 100000 in
theorem zD_192_38 : zChq (zQr zRx (zQrk 192)) true 192 zQ_192_38 = true := by decide +kernel

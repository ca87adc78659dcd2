/-! ===== the check's methods are checked ===== -/

set_option maxRecDepth 100000 in
theorem zD_192_57 : zChq (zQr zRx (zQrk 192)) true 192 zQ_192_57 = true := by decide +kernel
set_option maxRecDepth 100000 in
theorem zD_192_58 : zChq (zQr zRx (zQrk 192)) true 192 zQ_192_58 = true := by decide +kernel
set_option maxRecDepth 100000 in
theorem zD_192_59 : zChq (zQr zRx (zQrk 192)) true 192 zQ_192_59 = true := by decide +kernel

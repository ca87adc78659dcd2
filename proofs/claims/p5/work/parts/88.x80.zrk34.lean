/-! ===== the check's methods are checked ===== -/

set_option maxRecDepth 100000 in
theorem zD_192_60 : zChq (zQr zRx (zQrk 192)) true 192 zQ_192_60 = true := by decide +kernel
set_option maxRecDepth 100000 in
theorem zD_192_61 : zChq (zQr zRx (zQrk 192)) true 192 zQ_192_61 = true := by decide +kernel
set_option maxRecDepth 100000 in
theorem zD_192_62 : zChq (zQr zRx (zQrk 192)) true 192 zQ_192_62 = true := by decide +kernel

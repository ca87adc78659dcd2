/-! ===== the check's methods are checked ===== -/

set_option maxRecDepth 100000 in
theorem zD_192_45 : zChq (zQr zRx (zQrk 192)) true 192 zQ_192_45 = true := by decide +kernel
set_option maxRecDepth 100000 in
theorem zD_192_46 : zChq (zQr zRx (zQrk 192)) true 192 zQ_192_46 = true := by decide +kernel
set_option maxRecDepth 100000 in
theorem zD_192_47 : zChq (zQr zRx (zQrk 192)) true 192 zQ_192_47 = true := by decide +kernel

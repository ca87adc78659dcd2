/-! ===== the check's methods are checked ===== -/

set_option maxRecDepth 100000 in
theorem zD_163 : (zQtb 163).all (zChq (zQr zRx (zQrk 163)) false 163) = true := by decide +kernel
set_option maxRecDepth 100000 in
theorem zD_167 : (zQtb 167).all (zChq (zQr zRx (zQrk 167)) true 167) = true := by decide +kernel

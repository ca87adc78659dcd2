/-! ===== the check's methods are checked ===== -/

set_option maxRecDepth 100000 in
theorem zD_174 : (zQtb 174).all (zChq (zQr zRx (zQrk 174)) false 174) = true := by decide +kernel
set_option maxRecDepth 100000 in
theorem zD_175 : (zQtb 175).all (zChq (zQr zRx (zQrk 175)) false 175) = true := by decide +kernel
set_option maxRecDepth 100000 in
theorem zD_176 : (zQtb 176).all (zChq (zQr zRx (zQrk 176)) false 176) = true := by decide +kernel
set_option maxRecDepth 100000 in
theorem zD_178 : (zQtb 178).all (zChq (zQr zRx (zQrk 178)) false 178) = true := by decide +kernel

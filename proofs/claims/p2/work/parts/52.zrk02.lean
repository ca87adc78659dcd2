/-! ===== the check's methods are checked ===== -/

set_option maxRecDepth 100000 in
theorem zD_162 : (zQtb 162).all (zChq (zQr zRx (zQrk 162)) false 162) = true := by decide +kernel
set_option maxRecDepth 100000 in
theorem zD_163 : (zQtb 163).all (zChq (zQr zRx (zQrk 163)) false 163) = true := by decide +kernel
set_option maxRecDepth 100000 in
theorem zD_167 : (zQtb 167).all (zChq (zQr zRx (zQrk 167)) true 167) = true := by decide +kernel
set_option maxRecDepth 100000 in
theorem zD_168 : (zQtb 168).all (zChq (zQr zRx (zQrk 168)) false 168) = true := by decide +kernel
set_option maxRecDepth 100000 in
theorem zD_174 : (zQtb 174).all (zChq (zQr zRx (zQrk 174)) false 174) = true := by decide +kernel

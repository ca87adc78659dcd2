/-! ===== the check's methods are checked ===== -/

set_option maxRecDepth 100000 in
theorem zD_192_63 : zChq (zQr zRx (zQrk 192)) true 192 zQ_192_63 = true := by decide +kernel
set_option maxRecDepth 100000 in
theorem zD_194 : (zQtb 194).all (zChq (zQr zRx (zQrk 194)) false 194) = true := by decide +kernel
set_option maxRecDepth 100000 in
theorem zD_195 : (zQtb 195).all (zChq (zQr zRx (zQrk 195)) false 195) = true := by decide +kernel
set_option maxRecDepth 100000 in
theorem zD_196 : (zQtb 196).all (zChq (zQr zRx (zQrk 196)) false 196) = true := by decide +kernel
set_option maxRecDepth 100000 in
theorem zD_197 : (zQtb 197).all (zChq (zQr zRx (zQrk 197)) false 197) = true := by decide +kernel

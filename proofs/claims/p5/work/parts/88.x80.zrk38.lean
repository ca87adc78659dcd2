/-! ===== the check's methods are checked ===== -/

set_option maxRecDepth 100000 in
theorem zD_207 : (zQtb 207).all (zChq (zQr zRx (zQrk 207)) false 207) = true := by decide +kernel
set_option maxRecDepth 100000 in
theorem zD_208 : (zQtb 208).all (zChq (zQr zRx (zQrk 208)) false 208) = true := by decide +kernel
set_option maxRecDepth 100000 in
theorem zD_209 : (zQtb 209).all (zChq (zQr zRx (zQrk 209)) false 209) = true := by decide +kernel
set_option maxRecDepth 100000 in
theorem zD_211 : (zQtb 211).all (zChq (zQr zRx (zQrk 211)) false 211) = true := by decide +kernel
set_option maxRecDepth 100000 in
theorem zD_215 : (zQtb 215).all (zChq (zQr zRx (zQrk 215)) false 215) = true := by decide +kernel
set_option maxRecDepth 100000 in
theorem zD_217_0 : zChq (zQr zRx (zQrk 217)) false 217 zQ_217_0 = true := by decide +kernel
set_option maxRecDepth 100000 in
theorem zD_217_1 : zChq (zQr zRx (zQrk 217)) false 217 zQ_217_1 = true := by decide +kernel
set_option maxRecDepth 100000 in
theorem zD_217_2 : zChq (zQr zRx (zQrk 217)) false 217 zQ_217_2 = true := by decide +kernel
set_option maxRecDepth 100000 in
theorem zD_217_3 : zChq (zQr zRx (zQrk 217)) false 217 zQ_217_3 = true := by decide +kernel
set_option maxRecDepth 100000 in
theorem zD_217_4 : zChq (zQr zRx (zQrk 217)) false 217 zQ_217_4 = true := by decide +kernel
set_option maxRecDepth 100000 in
theorem zD_217_5 : zChq (zQr zRx (zQrk 217)) false 217 zQ_217_5 = true := by decide +kernel
set_option maxRecDepth 100000 in
theorem zD_217_6 : zChq (zQr zRx (zQrk 217)) false 217 zQ_217_6 = true := by decide +kernel
set_option maxRecDepth 100000 in
theorem zD_217_7 : zChq (zQr zRx (zQrk 217)) false 217 zQ_217_7 = true := by decide +kernel
set_option maxRecDepth 100000 in
theorem zD_217_8 : zChq (zQr zRx (zQrk 217)) false 217 zQ_217_8 = true := by decide +kernel

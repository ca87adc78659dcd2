/-! ===== the check's methods are checked ===== -/

set_option maxRecDepth 100000 in
theorem zD_217_9 : zChq (zQr zRx (zQrk 217)) false 217 zQ_217_9 = true := by decide +kernel
set_option maxRecDepth 100000 in
theorem zD_217_10 : zChq (zQr zRx (zQrk 217)) false 217 zQ_217_10 = true := by decide +kernel
set_option maxRecDepth 100000 in
theorem zD_217_11 : zChq (zQr zRx (zQrk 217)) false 217 zQ_217_11 = true := by decide +kernel
set_option maxRecDepth 100000 in
theorem zD_217_12 : zChq (zQr zRx (zQrk 217)) false 217 zQ_217_12 = true := by decide +kernel
set_option maxRecDepth 100000 in
theorem zD_217_13 : zChq (zQr zRx (zQrk 217)) false 217 zQ_217_13 = true := by decide +kernel
set_option maxRecDepth 100000 in
theorem zD_217_14 : zChq (zQr zRx (zQrk 217)) false 217 zQ_217_14 = true := by decide +kernel
set_option maxRecDepth 100000 in
theorem zD_217_15 : zChq (zQr zRx (zQrk 217)) false 217 zQ_217_15 = true := by decide +kernel
set_option maxRecDepth 100000 in
theorem zD_217_16 : zChq (zQr zRx (zQrk 217)) false 217 zQ_217_16 = true := by decide +kernel
set_option maxRecDepth 100000 in
theorem zD_217_17 : zChq (zQr zRx (zQrk 217)) false 217 zQ_217_17 = true := by decide +kernel
set_option maxRecDepth 100000 in
theorem zD_217_18 : zChq (zQr zRx (zQrk 217)) false 217 zQ_217_18 = true := by decide +kernel

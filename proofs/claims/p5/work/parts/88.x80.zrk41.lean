/-! ===== the check's methods are checked ===== -/

set_option maxRecDepth 100000 in
theorem zD_218_5 : zChq (zQr zRx (zQrk 218)) false 218 zQ_218_5 = true := by decide +kernel
set_option maxRecDepth 100000 in
theorem zD_218_6 : zChq (zQr zRx (zQrk 218)) false 218 zQ_218_6 = true := by decide +kernel
set_option maxRecDepth 100000 in
theorem zD_218_7 : zChq (zQr zRx (zQrk 218)) false 218 zQ_218_7 = true := by decide +kernel
set_option maxRecDepth 100000 in
theorem zD_218_8 : zChq (zQr zRx (zQrk 218)) false 218 zQ_218_8 = true := by decide +kernel
set_option maxRecDepth 100000 in
theorem zD_218_9 : zChq (zQr zRx (zQrk 218)) false 218 zQ_218_9 = true := by decide +kernel
set_option maxRecDepth 100000 in
theorem zD_218_10 : zChq (zQr zRx (zQrk 218)) false 218 zQ_218_10 = true := by decide +kernel
set_option maxRecDepth 100000 in
theorem zD_218_11 : zChq (zQr zRx (zQrk 218)) false 218 zQ_218_11 = true := by decide +kernel
set_option maxRecDepth 100000 in
theorem zD_218_12 : zChq (zQr zRx (zQrk 218)) false 218 zQ_218_12 = true := by decide +kernel
set_option maxRecDepth 100000 in
theorem zD_218_13 : zChq (zQr zRx (zQrk 218)) false 218 zQ_218_13 = true := by decide +kernel
set_option maxRecDepth 100000 in
theorem zD_218_14 : zChq (zQr zRx (zQrk 218)) false 218 zQ_218_14 = true := by decide +kernel
set_option maxRecDepth 100000 in
theorem zD_218_15 : zChq (zQr zRx (zQrk 218)) false 218 zQ_218_15 = true := by decide +kernel

/-! ===== the check's methods are checked ===== -/

set_option maxRecDepth 100000 in
theorem zD_150 : (zQtb 150).all (zChq (zQr zRx (zQrk 150)) false 150) = true := by decide +kernel
set_option maxRecDepth 100000 in
theorem zD_152 : (zQtb 152).all (zChq (zQr zRx (zQrk 152)) false 152) = true := by decide +kernel
set_option maxRecDepth 100000 in
theorem zD_153 : (zQtb 153).all (zChq (zQr zRx (zQrk 153)) false 153) = true := by decide +kernel
set_option maxRecDepth 100000 in
theorem zD_154 : (zQtb 154).all (zChq (zQr zRx (zQrk 154)) false 154) = true := by decide +kernel
set_option maxRecDepth 100000 in
theorem zD_156 : (zQtb 156).all (zChq (zQr zRx (zQrk 156)) false 156) = true := by decide +kernel

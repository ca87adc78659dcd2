/-! ===== the check's methods are checked ===== -/
noncomputable def zQt (k : Nat) : List zS := (zQtb k).map fun p => p.1
noncomputable def zQr (r : Nat) : zW := zRw zRx fun mi => bif Nat.blt (zQrk mi) r then zQt mi else []
set_option maxRecDepth 100000 in
theorem zD_143 : (zQtb 143).all (zChq (zQr (zQrk 143)) false 143) = true := by decide +kernel
set_option maxRecDepth 100000 in
theorem zD_175 : (zQtb 175).all (zChq (zQr (zQrk 175)) false 175) = true := by decide +kernel
set_option maxRecDepth 100000 in
theorem zD_163 : (zQtb 163).all (zChq (zQr (zQrk 163)) false 163) = true := by decide +kernel
set_option maxRecDepth 100000 in
theorem zD_161 : (zQtb 161).all (zChq (zQr (zQrk 161)) false 161) = true := by decide +kernel

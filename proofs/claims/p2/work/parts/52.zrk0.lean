/-! ===== the check's methods are checked ===== -/
noncomputable def zQt (k : Nat) : List zS := (zQtb k).map fun p => p.1
noncomputable def zQr (r : Nat) : zW := zRw zRx fun mi => bif Nat.blt (zQrk mi) r then zQt mi else []

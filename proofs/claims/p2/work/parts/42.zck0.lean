/-! ===== the class's methods are checked ===== -/
noncomputable def zCt (k : Nat) : List zS := (zPtb k).map fun p => p.1
noncomputable def zCr (r : Nat) : zW := zCw fun mi => bif Nat.blt (zRk mi) r then zCt mi else []
set_option maxRecDepth 100000 in
theorem zC_13 : (zPtb 13).all (zChq (zCr (zRk 13)) false 13) = true := by decide +kernel
set_option maxRecDepth 100000 in
theorem zC_23 : (zPtb 23).all (zChq (zCr (zRk 23)) false 23) = true := by decide +kernel
set_option maxRecDepth 100000 in
theorem zC_91 : (zPtb 91).all (zChq (zCr (zRk 91)) false 91) = true := by decide +kernel

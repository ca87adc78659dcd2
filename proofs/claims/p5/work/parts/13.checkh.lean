/-! ===== the tables are right: methods 253 to 253 ===== -/
set_option maxRecDepth 100000 in
theorem mT_253_ok_0 : (mT_253.drop 0 |>.take 120).all (mOk mInf 253) = true := by decide +kernel
set_option maxRecDepth 100000 in
theorem mT_253_ok_1 : (mT_253.drop 120 |>.take 120).all (mOk mInf 253) = true := by decide +kernel
set_option maxRecDepth 100000 in
theorem mT_253_ok_2 : (mT_253.drop 240 |>.take 120).all (mOk mInf 253) = true := by decide +kernel
set_option maxRecDepth 100000 in
theorem mT_253_ok_3 : (mT_253.drop 360 |>.take 120).all (mOk mInf 253) = true := by decide +kernel
set_option maxRecDepth 100000 in
theorem mT_253_ok_4 : (mT_253.drop 480 |>.take 120).all (mOk mInf 253) = true := by decide +kernel
set_option maxRecDepth 100000 in
theorem mT_253_ok_5 : (mT_253.drop 600 |>.take 120).all (mOk mInf 253) = true := by decide +kernel
set_option maxRecDepth 100000 in
theorem mT_253_ok_6 : (mT_253.drop 720 |>.take 120).all (mOk mInf 253) = true := by decide +kernel
set_option maxRecDepth 100000 in
theorem mT_253_ok_7 : (mT_253.drop 840 |>.take 120).all (mOk mInf 253) = true := by decide +kernel
theorem mT_253_ok : mT_253.all (mOk mInf 253) = true := mAll_cut (n := 120) (k := 8) (by decide +kernel) (fun i hi => by
  match i, hi with
  | 0, _ => exact mT_253_ok_0
  | 1, _ => exact mT_253_ok_1
  | 2, _ => exact mT_253_ok_2
  | 3, _ => exact mT_253_ok_3
  | 4, _ => exact mT_253_ok_4
  | 5, _ => exact mT_253_ok_5
  | 6, _ => exact mT_253_ok_6
  | 7, _ => exact mT_253_ok_7)

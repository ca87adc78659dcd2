/-! ===== the tables are right: methods 99 to 99 ===== -/
set_option maxRecDepth 100000 in
theorem mT_99_ok_0 : (mT_99.drop 0 |>.take 120).all (mOk mInf 99) = true := by decide +kernel
set_option maxRecDepth 100000 in
theorem mT_99_ok_1 : (mT_99.drop 120 |>.take 120).all (mOk mInf 99) = true := by decide +kernel
set_option maxRecDepth 100000 in
theorem mT_99_ok_2 : (mT_99.drop 240 |>.take 120).all (mOk mInf 99) = true := by decide +kernel
theorem mT_99_ok : mT_99.all (mOk mInf 99) = true := mAll_cut (n := 120) (k := 3) (by decide +kernel) (fun i hi => by
  match i, hi with
  | 0, _ => exact mT_99_ok_0
  | 1, _ => exact mT_99_ok_1
  | 2, _ => exact mT_99_ok_2)

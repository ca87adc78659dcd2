/-! ===== the tables are right: methods 0 to 31 ===== -/
set_option maxRecDepth 100000 in
theorem mT_0_ok : mT_0.all (mOk mInf 0) = true := by decide +kernel
set_option maxRecDepth 100000 in
theorem mT_1_ok : mT_1.all (mOk mInf 1) = true := by decide +kernel
set_option maxRecDepth 100000 in
theorem mT_2_ok : mT_2.all (mOk mInf 2) = true := by decide +kernel
set_option maxRecDepth 100000 in
theorem mT_3_ok : mT_3.all (mOk mInf 3) = true := by decide +kernel
set_option maxRecDepth 100000 in
theorem mT_4_ok : mT_4.all (mOk mInf 4) = true := by decide +kernel
set_option maxRecDepth 100000 in
theorem mT_5_ok : mT_5.all (mOk mInf 5) = true := by decide +kernel
set_option maxRecDepth 100000 in
theorem mT_6_ok : mT_6.all (mOk mInf 6) = true := by decide +kernel
set_option maxRecDepth 100000 in
theorem mT_7_ok : mT_7.all (mOk mInf 7) = true := by decide +kernel
set_option maxRecDepth 100000 in
theorem mT_8_ok : mT_8.all (mOk mInf 8) = true := by decide +kernel
set_option maxRecDepth 100000 in
theorem mT_9_ok : mT_9.all (mOk mInf 9) = true := by decide +kernel
set_option maxRecDepth 100000 in
theorem mT_10_ok : mT_10.all (mOk mInf 10) = true := by decide +kernel
set_option maxRecDepth 100000 in
theorem mT_11_ok : mT_11.all (mOk mInf 11) = true := by decide +kernel
set_option maxRecDepth 100000 in
theorem mT_12_ok : mT_12.all (mOk mInf 12) = true := by decide +kernel
set_option maxRecDepth 100000 in
theorem mT_13_ok : mT_13.all (mOk mInf 13) = true := by decide +kernel
set_option maxRecDepth 100000 in
theorem mT_14_ok : mT_14.all (mOk mInf 14) = true := by decide +kernel
set_option maxRecDepth 100000 in
theorem mT_15_ok : mT_15.all (mOk mInf 15) = true := by decide +kernel
set_option maxRecDepth 100000 in
theorem mT_16_ok : mT_16.all (mOk mInf 16) = true := by decide +kernel
set_option maxRecDepth 100000 in
theorem mT_17_ok : mT_17.all (mOk mInf 17) = true := by decide +kernel
set_option maxRecDepth 100000 in
theorem mT_18_ok : mT_18.all (mOk mInf 18) = true := by decide +kernel
set_option maxRecDepth 100000 in
theorem mT_19_ok : mT_19.all (mOk mInf 19) = true := by decide +kernel
set_option maxRecDepth 100000 in
theorem mT_20_ok : mT_20.all (mOk mInf 20) = true := by decide +kernel
set_option maxRecDepth 100000 in
theorem mT_21_ok : mT_21.all (mOk mInf 21) = true := by decide +kernel
set_option maxRecDepth 100000 in
theorem mT_22_ok : mT_22.all (mOk mInf 22) = true := by decide +kernel
set_option maxRecDepth 100000 in
theorem mT_23_ok : mT_23.all (mOk mInf 23) = true := by decide +kernel
set_option maxRecDepth 100000 in
theorem mT_24_ok : mT_24.all (mOk mInf 24) = true := by decide +kernel
set_option maxRecDepth 100000 in
theorem mT_25_ok : mT_25.all (mOk mInf 25) = true := by decide +kernel
set_option maxRecDepth 100000 in
theorem mT_26_ok : mT_26.all (mOk mInf 26) = true := by decide +kernel
set_option maxRecDepth 100000 in
theorem mT_27_ok : mT_27.all (mOk mInf 27) = true := by decide +kernel
set_option maxRecDepth 100000 in
theorem mT_28_ok : mT_28.all (mOk mInf 28) = true := by decide +kernel
set_option maxRecDepth 100000 in
theorem mT_29_ok : mT_29.all (mOk mInf 29) = true := by decide +kernel
set_option maxRecDepth 100000 in
theorem mT_30_ok : mT_30.all (mOk mInf 30) = true := by decide +kernel
set_option maxRecDepth 100000 in
theorem mT_31_ok : mT_31.all (mOk mInf 31) = true := by decide +kernel

/-! ===== the tables are right: methods 0 to 63 ===== -/
set_option maxRecDepth 100000 in
theorem mT_0_ok : mT_0.all (mOk mInf 0) = true := by decide +kernel
set_option maxRecDepth 100000 in
theorem mT_1_ok : mT_1.all (mOk mInf 1) = true := by decide +kernel
set_option maxRecDepth 100000 in
theorem mT_2_ok : mT_2.all (mOk mInf 2) = true := by decide +kernel
set_option maxRecDepth 100000 in
theorem mT_3_ok : mT_3.all (mOk mInf 3) = true := by decide +kernel
set_option maxRecDepth 100000 in
theorem mT_4_ok : mT_4.all (mOk mInf 4) = true := by decide +kernel
set_option maxRecDepth 100000 in
theorem mT_5_ok : mT_5.all (mOk mInf 5) = true := by decide +kernel
set_option maxRecDepth 100000 in
theorem mT_6_ok : mT_6.all (mOk mInf 6) = true := by decide +kernel
set_option maxRecDepth 100000 in
theorem mT_7_ok : mT_7.all (mOk mInf 7) = true := by decide +kernel
set_option maxRecDepth 100000 in
theorem mT_8_ok : mT_8.all (mOk mInf 8) = true := by decide +kernel
set_option maxRecDepth 100000 in
theorem mT_9_ok : mT_9.all (mOk mInf 9) = true := by decide +kernel
set_option maxRecDepth 100000 in
theorem mT_10_ok : mT_10.all (mOk mInf 10) = true := by decide +kernel
set_option maxRecDepth 100000 in
theorem mT_11_ok : mT_11.all (mOk mInf 11) = true := by decide +kernel
set_option maxRecDepth 100000 in
theorem mT_12_ok : mT_12.all (mOk mInf 12) = true := by decide +kernel
set_option maxRecDepth 100000 in
theorem mT_13_ok : mT_13.all (mOk mInf 13) = true := by decide +kernel
set_option maxRecDepth 100000 in
theorem mT_14_ok : mT_14.all (mOk mInf 14) = true := by decide +kernel
set_option maxRecDepth 100000 in
theorem mT_15_ok : mT_15.all (mOk mInf 15) = true := by decide +kernel
set_option maxRecDepth 100000 in
theorem mT_16_ok : mT_16.all (mOk mInf 16) = true := by decide +kernel
set_option maxRecDepth 100000 in
theorem mT_17_ok : mT_17.all (mOk mInf 17) = true := by decide +kernel
set_option maxRecDepth 100000 in
theorem mT_18_ok : mT_18.all (mOk mInf 18) = true := by decide +kernel
set_option maxRecDepth 100000 in
theorem mT_19_ok : mT_19.all (mOk mInf 19) = true := by decide +kernel
set_option maxRecDepth 100000 in
theorem mT_20_ok : mT_20.all (mOk mInf 20) = true := by decide +kernel
set_option maxRecDepth 100000 in
theorem mT_21_ok : mT_21.all (mOk mInf 21) = true := by decide +kernel
set_option maxRecDepth 100000 in
theorem mT_22_ok : mT_22.all (mOk mInf 22) = true := by decide +kernel
set_option maxRecDepth 100000 in
theorem mT_23_ok : mT_23.all (mOk mInf 23) = true := by decide +kernel
set_option maxRecDepth 100000 in
theorem mT_24_ok : mT_24.all (mOk mInf 24) = true := by decide +kernel
set_option maxRecDepth 100000 in
theorem mT_25_ok : mT_25.all (mOk mInf 25) = true := by decide +kernel
set_option maxRecDepth 100000 in
theorem mT_26_ok : mT_26.all (mOk mInf 26) = true := by decide +kernel
set_option maxRecDepth 100000 in
theorem mT_27_ok : mT_27.all (mOk mInf 27) = true := by decide +kernel
set_option maxRecDepth 100000 in
theorem mT_28_ok : mT_28.all (mOk mInf 28) = true := by decide +kernel
set_option maxRecDepth 100000 in
theorem mT_29_ok : mT_29.all (mOk mInf 29) = true := by decide +kernel
set_option maxRecDepth 100000 in
theorem mT_30_ok : mT_30.all (mOk mInf 30) = true := by decide +kernel
set_option maxRecDepth 100000 in
theorem mT_31_ok : mT_31.all (mOk mInf 31) = true := by decide +kernel
set_option maxRecDepth 100000 in
theorem mT_32_ok : mT_32.all (mOk mInf 32) = true := by decide +kernel
set_option maxRecDepth 100000 in
theorem mT_33_ok : mT_33.all (mOk mInf 33) = true := by decide +kernel
set_option maxRecDepth 100000 in
theorem mT_34_ok : mT_34.all (mOk mInf 34) = true := by decide +kernel
set_option maxRecDepth 100000 in
theorem mT_35_ok : mT_35.all (mOk mInf 35) = true := by decide +kernel
set_option maxRecDepth 100000 in
theorem mT_36_ok : mT_36.all (mOk mInf 36) = true := by decide +kernel
set_option maxRecDepth 100000 in
theorem mT_37_ok : mT_37.all (mOk mInf 37) = true := by decide +kernel
set_option maxRecDepth 100000 in
theorem mT_38_ok : mT_38.all (mOk mInf 38) = true := by decide +kernel
set_option maxRecDepth 100000 in
theorem mT_39_ok : mT_39.all (mOk mInf 39) = true := by decide +kernel
set_option maxRecDepth 100000 in
theorem mT_40_ok : mT_40.all (mOk mInf 40) = true := by decide +kernel
set_option maxRecDepth 100000 in
theorem mT_41_ok : mT_41.all (mOk mInf 41) = true := by decide +kernel
set_option maxRecDepth 100000 in
theorem mT_42_ok : mT_42.all (mOk mInf 42) = true := by decide +kernel
set_option maxRecDepth 100000 in
theorem mT_43_ok : mT_43.all (mOk mInf 43) = true := by decide +kernel
set_option maxRecDepth 100000 in
theorem mT_44_ok : mT_44.all (mOk mInf 44) = true := by decide +kernel
set_option maxRecDepth 100000 in
theorem mT_45_ok : mT_45.all (mOk mInf 45) = true := by decide +kernel
set_option maxRecDepth 100000 in
theorem mT_46_ok : mT_46.all (mOk mInf 46) = true := by decide +kernel
set_option maxRecDepth 100000 in
theorem mT_47_ok : mT_47.all (mOk mInf 47) = true := by decide +kernel
set_option maxRecDepth 100000 in
theorem mT_48_ok : mT_48.all (mOk mInf 48) = true := by decide +kernel
set_option maxRecDepth 100000 in
theorem mT_49_ok : mT_49.all (mOk mInf 49) = true := by decide +kernel
set_option maxRecDepth 100000 in
theorem mT_50_ok : mT_50.all (mOk mInf 50) = true := by decide +kernel
set_option maxRecDepth 100000 in
theorem mT_51_ok : mT_51.all (mOk mInf 51) = true := by decide +kernel
set_option maxRecDepth 100000 in
theorem mT_52_ok : mT_52.all (mOk mInf 52) = true := by decide +kernel
set_option maxRecDepth 100000 in
theorem mT_53_ok : mT_53.all (mOk mInf 53) = true := by decide +kernel
set_option maxRecDepth 100000 in
theorem mT_54_ok : mT_54.all (mOk mInf 54) = true := by decide +kernel
set_option maxRecDepth 100000 in
theorem mT_55_ok : mT_55.all (mOk mInf 55) = true := by decide +kernel
set_option maxRecDepth 100000 in
theorem mT_56_ok : mT_56.all (mOk mInf 56) = true := by decide +kernel
set_option maxRecDepth 100000 in
theorem mT_57_ok : mT_57.all (mOk mInf 57) = true := by decide +kernel
set_option maxRecDepth 100000 in
theorem mT_58_ok : mT_58.all (mOk mInf 58) = true := by decide +kernel
set_option maxRecDepth 100000 in
theorem mT_59_ok : mT_59.all (mOk mInf 59) = true := by decide +kernel
set_option maxRecDepth 100000 in
theorem mT_60_ok : mT_60.all (mOk mInf 60) = true := by decide +kernel
set_option maxRecDepth 100000 in
theorem mT_61_ok : mT_61.all (mOk mInf 61) = true := by decide +kernel
set_option maxRecDepth 100000 in
theorem mT_62_ok : mT_62.all (mOk mInf 62) = true := by decide +kernel
set_option maxRecDepth 100000 in
theorem mT_63_ok : mT_63.all (mOk mInf 63) = true := by decide +kernel

/-! ===== the methods' words are right: 0 to 63 ===== -/
set_option maxRecDepth 100000 in
theorem mI_0_ok : mMok (mInf 0) = true := by decide +kernel
set_option maxRecDepth 100000 in
theorem mI_1_ok : mMok (mInf 1) = true := by decide +kernel
set_option maxRecDepth 100000 in
theorem mI_2_ok : mMok (mInf 2) = true := by decide +kernel
set_option maxRecDepth 100000 in
theorem mI_3_ok : mMok (mInf 3) = true := by decide +kernel
set_option maxRecDepth 100000 in
theorem mI_4_ok : mMok (mInf 4) = true := by decide +kernel
set_option maxRecDepth 100000 in
theorem mI_5_ok : mMok (mInf 5) = true := by decide +kernel
set_option maxRecDepth 100000 in
theorem mI_6_ok : mMok (mInf 6) = true := by decide +kernel
set_option maxRecDepth 100000 in
theorem mI_7_ok : mMok (mInf 7) = true := by decide +kernel
set_option maxRecDepth 100000 in
theorem mI_8_ok : mMok (mInf 8) = true := by decide +kernel
set_option maxRecDepth 100000 in
theorem mI_9_ok : mMok (mInf 9) = true := by decide +kernel
set_option maxRecDepth 100000 in
theorem mI_10_ok : mMok (mInf 10) = true := by decide +kernel
set_option maxRecDepth 100000 in
theorem mI_11_ok : mMok (mInf 11) = true := by decide +kernel
set_option maxRecDepth 100000 in
theorem mI_12_ok : mMok (mInf 12) = true := by decide +kernel
set_option maxRecDepth 100000 in
theorem mI_13_ok : mMok (mInf 13) = true := by decide +kernel
set_option maxRecDepth 100000 in
theorem mI_14_ok : mMok (mInf 14) = true := by decide +kernel
set_option maxRecDepth 100000 in
theorem mI_15_ok : mMok (mInf 15) = true := by decide +kernel
set_option maxRecDepth 100000 in
theorem mI_16_ok : mMok (mInf 16) = true := by decide +kernel
set_option maxRecDepth 100000 in
theorem mI_17_ok : mMok (mInf 17) = true := by decide +kernel
set_option maxRecDepth 100000 in
theorem mI_18_ok : mMok (mInf 18) = true := by decide +kernel
set_option maxRecDepth 100000 in
theorem mI_19_ok : mMok (mInf 19) = true := by decide +kernel
set_option maxRecDepth 100000 in
theorem mI_20_ok : mMok (mInf 20) = true := by decide +kernel
set_option maxRecDepth 100000 in
theorem mI_21_ok : mMok (mInf 21) = true := by decide +kernel
set_option maxRecDepth 100000 in
theorem mI_22_ok : mMok (mInf 22) = true := by decide +kernel
set_option maxRecDepth 100000 in
theorem mI_23_ok : mMok (mInf 23) = true := by decide +kernel
set_option maxRecDepth 100000 in
theorem mI_24_ok : mMok (mInf 24) = true := by decide +kernel
set_option maxRecDepth 100000 in
theorem mI_25_ok : mMok (mInf 25) = true := by decide +kernel
set_option maxRecDepth 100000 in
theorem mI_26_ok : mMok (mInf 26) = true := by decide +kernel
set_option maxRecDepth 100000 in
theorem mI_27_ok : mMok (mInf 27) = true := by decide +kernel
set_option maxRecDepth 100000 in
theorem mI_28_ok : mMok (mInf 28) = true := by decide +kernel
set_option maxRecDepth 100000 in
theorem mI_29_ok : mMok (mInf 29) = true := by decide +kernel
set_option maxRecDepth 100000 in
theorem mI_30_ok : mMok (mInf 30) = true := by decide +kernel
set_option maxRecDepth 100000 in
theorem mI_31_ok : mMok (mInf 31) = true := by decide +kernel
set_option maxRecDepth 100000 in
theorem mI_32_ok : mMok (mInf 32) = true := by decide +kernel
set_option maxRecDepth 100000 in
theorem mI_33_ok : mMok (mInf 33) = true := by decide +kernel
set_option maxRecDepth 100000 in
theorem mI_34_ok : mMok (mInf 34) = true := by decide +kernel
set_option maxRecDepth 100000 in
theorem mI_35_ok : mMok (mInf 35) = true := by decide +kernel
set_option maxRecDepth 100000 in
theorem mI_36_ok : mMok (mInf 36) = true := by decide +kernel
set_option maxRecDepth 100000 in
theorem mI_37_ok : mMok (mInf 37) = true := by decide +kernel
set_option maxRecDepth 100000 in
theorem mI_38_ok : mMok (mInf 38) = true := by decide +kernel
set_option maxRecDepth 100000 in
theorem mI_39_ok : mMok (mInf 39) = true := by decide +kernel
set_option maxRecDepth 100000 in
theorem mI_40_ok : mMok (mInf 40) = true := by decide +kernel
set_option maxRecDepth 100000 in
theorem mI_41_ok : mMok (mInf 41) = true := by decide +kernel
set_option maxRecDepth 100000 in
theorem mI_42_ok : mMok (mInf 42) = true := by decide +kernel
set_option maxRecDepth 100000 in
theorem mI_43_ok : mMok (mInf 43) = true := by decide +kernel
set_option maxRecDepth 100000 in
theorem mI_44_ok : mMok (mInf 44) = true := by decide +kernel
set_option maxRecDepth 100000 in
theorem mI_45_ok : mMok (mInf 45) = true := by decide +kernel
set_option maxRecDepth 100000 in
theorem mI_46_ok : mMok (mInf 46) = true := by decide +kernel
set_option maxRecDepth 100000 in
theorem mI_47_ok : mMok (mInf 47) = true := by decide +kernel
set_option maxRecDepth 100000 in
theorem mI_48_ok : mMok (mInf 48) = true := by decide +kernel
set_option maxRecDepth 100000 in
theorem mI_49_ok : mMok (mInf 49) = true := by decide +kernel
set_option maxRecDepth 100000 in
theorem mI_50_ok : mMok (mInf 50) = true := by decide +kernel
set_option maxRecDepth 100000 in
theorem mI_51_ok : mMok (mInf 51) = true := by decide +kernel
set_option maxRecDepth 100000 in
theorem mI_52_ok : mMok (mInf 52) = true := by decide +kernel
set_option maxRecDepth 100000 in
theorem mI_53_ok : mMok (mInf 53) = true := by decide +kernel
set_option maxRecDepth 100000 in
theorem mI_54_ok : mMok (mInf 54) = true := by decide +kernel
set_option maxRecDepth 100000 in
theorem mI_55_ok : mMok (mInf 55) = true := by decide +kernel
set_option maxRecDepth 100000 in
theorem mI_56_ok : mMok (mInf 56) = true := by decide +kernel
set_option maxRecDepth 100000 in
theorem mI_57_ok : mMok (mInf 57) = true := by decide +kernel
set_option maxRecDepth 100000 in
theorem mI_58_ok : mMok (mInf 58) = true := by decide +kernel
set_option maxRecDepth 100000 in
theorem mI_59_ok : mMok (mInf 59) = true := by decide +kernel
set_option maxRecDepth 100000 in
theorem mI_60_ok : mMok (mInf 60) = true := by decide +kernel
set_option maxRecDepth 100000 in
theorem mI_61_ok : mMok (mInf 61) = true := by decide +kernel
set_option maxRecDepth 100000 in
theorem mI_62_ok : mMok (mInf 62) = true := by decide +kernel
set_option maxRecDepth 100000 in
theorem mI_63_ok : mMok (mInf 63) = true := by decide +kernel

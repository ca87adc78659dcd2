/-! ===== the check's methods are checked ===== -/

set_option maxRecDepth 100000 in
theorem zD_184 : (zQtb 184).all (zChq (zQr zRx (zQrk 184)) false 184) = true := by decide +kernel
set_option maxRecDepth 100000 in
theorem zD_187_0 : zChq (zQr zRx (zQrk 187)) false 187 zQ_187_0 = true := by decide +kernel
set_option maxRecDepth 100000 in
theorem zD_187_1 : zChq (zQr zRx (zQrk 187)) false 187 zQ_187_1 = true := by decide +kernel
set_option maxRecDepth 100000 in
theorem zD_187_2 : zChq (zQr zRx (zQrk 187)) false 187 zQ_187_2 = true := by decide +kernel
set_option maxRecDepth 100000 in
theorem zD_187_3 : zChq (zQr zRx (zQrk 187)) false 187 zQ_187_3 = true := by decide +kernel
set_option maxRecDepth 100000 in
theorem zD_187_4 : zChq (zQr zRx (zQrk 187)) false 187 zQ_187_4 = true := by decide +kernel
set_option maxRecDepth 100000 in
theorem zD_187_5 : zChq (zQr zRx (zQrk 187)) false 187 zQ_187_5 = true := by decide +kernel
set_option maxRecDepth 100000 in
theorem zD_187_6 : zChq (zQr zRx (zQrk 187)) false 187 zQ_187_6 = true := by decide +kernel
set_option maxRecDepth 100000 in
theorem zD_187_7 : zChq (zQr zRx (zQrk 187)) false 187 zQ_187_7 = true := by decide +kernel
set_option maxRecDepth 100000 in
theorem zD_187_8 : zChq (zQr zRx (zQrk 187)) false 187 zQ_187_8 = true := by decide +kernel
set_option maxRecDepth 100000 in
theorem zD_187_9 : zChq (zQr zRx (zQrk 187)) false 187 zQ_187_9 = true := by decide +kernel
set_option maxRecDepth 100000 in
theorem zD_187_10 : zChq (zQr zRx (zQrk 187)) false 187 zQ_187_10 = true := by decide +kernel
set_option maxRecDepth 100000 in
theorem zD_187_11 : zChq (zQr zRx (zQrk 187)) false 187 zQ_187_11 = true := by decide +kernel
set_option maxRecDepth 100000 in
theorem zD_187_12 : zChq (zQr zRx (zQrk 187)) false 187 zQ_187_12 = true := by decide +kernel
set_option maxRecDepth 100000 in
theorem zD_187_13 : zChq (zQr zRx (zQrk 187)) false 187 zQ_187_13 = true := by decide +kernel
set_option maxRecDepth 100000 in
theorem zD_187_14 : zChq (zQr zRx (zQrk 187)) false 187 zQ_187_14 = true := by decide +kernel
set_option maxRecDepth 100000 in
theorem zD_187_15 : zChq (zQr zRx (zQrk 187)) false 187 zQ_187_15 = true := by decide +kernel
set_option maxRecDepth 100000 in
theorem zD_187_16 : zChq (zQr zRx (zQrk 187)) false 187 zQ_187_16 = true := by decide +kernel
set_option maxRecDepth 100000 in
theorem zD_187_17 : zChq (zQr zRx (zQrk 187)) false 187 zQ_187_17 = true := by decide +kernel
set_option maxRecDepth 100000 in
theorem zD_187_18 : zChq (zQr zRx (zQrk 187)) false 187 zQ_187_18 = true := by decide +kernel
set_option maxRecDepth 100000 in
theorem zD_187_19 : zChq (zQr zRx (zQrk 187)) false 187 zQ_187_19 = true := by decide +kernel
set_option maxRecDepth 100000 in
theorem zD_187_20 : zChq (zQr zRx (zQrk 187)) false 187 zQ_187_20 = true := by decide +kernel
set_option maxRecDepth 100000 in
theorem zD_187_21 : zChq (zQr zRx (zQrk 187)) false 187 zQ_187_21 = true := by decide +kernel
set_option maxRecDepth 100000 in
theorem zD_187_22 : zChq (zQr zRx (zQrk 187)) false 187 zQ_187_22 = true := by decide +kernel
set_option maxRecDepth 100000 in
theorem zD_187_23 : zChq (zQr zRx (zQrk 187)) false 187 zQ_187_23 = true := by decide +kernel
set_option maxRecDepth 100000 in
theorem zD_187_24 : zChq (zQr zRx (zQrk 187)) false 187 zQ_187_24 = true := by decide +kernel
set_option maxRecDepth 100000 in
theorem zD_187_25 : zChq (zQr zRx (zQrk 187)) false 187 zQ_187_25 = true := by decide +kernel
set_option maxRecDepth 100000 in
theorem zD_187_26 : zChq (zQr zRx (zQrk 187)) false 187 zQ_187_26 = true := by decide +kernel
set_option maxRecDepth 100000 in
theorem zD_187_27 : zChq (zQr zRx (zQrk 187)) false 187 zQ_187_27 = true := by decide +kernel
set_option maxRecDepth 100000 in
theorem zD_187_28 : zChq (zQr zRx (zQrk 187)) false 187 zQ_187_28 = true := by decide +kernel
set_option maxRecDepth 100000 in
theorem zD_187_29 : zChq (zQr zRx (zQrk 187)) false 187 zQ_187_29 = true := by decide +kernel
set_option maxRecDepth 100000 in
theorem zD_187_30 : zChq (zQr zRx (zQrk 187)) false 187 zQ_187_30 = true := by decide +kernel
set_option maxRecDepth 100000 in
theorem zD_187_31 : zChq (zQr zRx (zQrk 187)) false 187 zQ_187_31 = true := by decide +kernel
set_option maxRecDepth 100000 in
theorem zD_187_32 : zChq (zQr zRx (zQrk 187)) false 187 zQ_187_32 = true := by decide +kernel
set_option maxRecDepth 100000 in
theorem zD_187_33 : zChq (zQr zRx (zQrk 187)) false 187 zQ_187_33 = true := by decide +kernel
set_option maxRecDepth 100000 in
theorem zD_187_34 : zChq (zQr zRx (zQrk 187)) false 187 zQ_187_34 = true := by decide +kernel
set_option maxRecDepth 100000 in
theorem zD_187_35 : zChq (zQr zRx (zQrk 187)) false 187 zQ_187_35 = true := by decide +kernel
set_option maxRecDepth 100000 in
theorem zD_187_36 : zChq (zQr zRx (zQrk 187)) false 187 zQ_187_36 = true := by decide +kernel
set_option maxRecDepth 100000 in
theorem zD_187_37 : zChq (zQr zRx (zQrk 187)) false 187 zQ_187_37 = true := by decide +kernel
set_option maxRecDepth 100000 in
theorem zD_187_38 : zChq (zQr zRx (zQrk 187)) false 187 zQ_187_38 = true := by decide +kernel
set_option maxRecDepth 100000 in
theorem zD_187_39 : zChq (zQr zRx (zQrk 187)) false 187 zQ_187_39 = true := by decide +kernel
set_option maxRecDepth 100000 in
theorem zD_187_40 : zChq (zQr zRx (zQrk 187)) false 187 zQ_187_40 = true := by decide +kernel
set_option maxRecDepth 100000 in
theorem zD_187_41 : zChq (zQr zRx (zQrk 187)) false 187 zQ_187_41 = true := by decide +kernel
set_option maxRecDepth 100000 in
theorem zD_187_42 : zChq (zQr zRx (zQrk 187)) false 187 zQ_187_42 = true := by decide +kernel
set_option maxRecDepth 100000 in
theorem zD_187_43 : zChq (zQr zRx (zQrk 187)) false 187 zQ_187_43 = true := by decide +kernel
set_option maxRecDepth 100000 in
theorem zD_187_44 : zChq (zQr zRx (zQrk 187)) false 187 zQ_187_44 = true := by decide +kernel
set_option maxRecDepth 100000 in
theorem zD_187_45 : zChq (zQr zRx (zQrk 187)) false 187 zQ_187_45 = true := by decide +kernel
set_option maxRecDepth 100000 in
theorem zD_187_46 : zChq (zQr zRx (zQrk 187)) false 187 zQ_187_46 = true := by decide +kernel
set_option maxRecDepth 100000 in
theorem zD_187_47 : zChq (zQr zRx (zQrk 187)) false 187 zQ_187_47 = true := by decide +kernel
set_option maxRecDepth 100000 in
theorem zD_187_48 : zChq (zQr zRx (zQrk 187)) false 187 zQ_187_48 = true := by decide +kernel
set_option maxRecDepth 100000 in
theorem zD_187_49 : zChq (zQr zRx (zQrk 187)) false 187 zQ_187_49 = true := by decide +kernel
set_option maxRecDepth 100000 in
theorem zD_187_50 : zChq (zQr zRx (zQrk 187)) false 187 zQ_187_50 = true := by decide +kernel
set_option maxRecDepth 100000 in
theorem zD_187_51 : zChq (zQr zRx (zQrk 187)) false 187 zQ_187_51 = true := by decide +kernel
set_option maxRecDepth 100000 in
theorem zD_187_52 : zChq (zQr zRx (zQrk 187)) false 187 zQ_187_52 = true := by decide +kernel
set_option maxRecDepth 100000 in
theorem zD_187_53 : zChq (zQr zRx (zQrk 187)) false 187 zQ_187_53 = true := by decide +kernel
set_option maxRecDepth 100000 in
theorem zD_187_54 : zChq (zQr zRx (zQrk 187)) false 187 zQ_187_54 = true := by decide +kernel
set_option maxRecDepth 100000 in
theorem zD_187_55 : zChq (zQr zRx (zQrk 187)) false 187 zQ_187_55 = true := by decide +kernel
set_option maxRecDepth 100000 in
theorem zD_187_56 : zChq (zQr zRx (zQrk 187)) false 187 zQ_187_56 = true := by decide +kernel
set_option maxRecDepth 100000 in
theorem zD_187_57 : zChq (zQr zRx (zQrk 187)) false 187 zQ_187_57 = true := by decide +kernel
set_option maxRecDepth 100000 in
theorem zD_187_58 : zChq (zQr zRx (zQrk 187)) false 187 zQ_187_58 = true := by decide +kernel
set_option maxRecDepth 100000 in
theorem zD_187_59 : zChq (zQr zRx (zQrk 187)) false 187 zQ_187_59 = true := by decide +kernel
set_option maxRecDepth 100000 in
theorem zD_187_60 : zChq (zQr zRx (zQrk 187)) false 187 zQ_187_60 = true := by decide +kernel
set_option maxRecDepth 100000 in
theorem zD_187_61 : zChq (zQr zRx (zQrk 187)) false 187 zQ_187_61 = true := by decide +kernel
set_option maxRecDepth 100000 in
theorem zD_187_62 : zChq (zQr zRx (zQrk 187)) false 187 zQ_187_62 = true := by decide +kernel
set_option maxRecDepth 100000 in
theorem zD_187_63 : zChq (zQr zRx (zQrk 187)) false 187 zQ_187_63 = true := by decide +kernel
set_option maxRecDepth 100000 in
theorem zD_187_64 : zChq (zQr zRx (zQrk 187)) false 187 zQ_187_64 = true := by decide +kernel
set_option maxRecDepth 100000 in
theorem zD_187_65 : zChq (zQr zRx (zQrk 187)) false 187 zQ_187_65 = true := by decide +kernel
set_option maxRecDepth 100000 in
theorem zD_187_66 : zChq (zQr zRx (zQrk 187)) false 187 zQ_187_66 = true := by decide +kernel
set_option maxRecDepth 100000 in
theorem zD_187_67 : zChq (zQr zRx (zQrk 187)) false 187 zQ_187_67 = true := by decide +kernel
set_option maxRecDepth 100000 in
theorem zD_187_68 : zChq (zQr zRx (zQrk 187)) false 187 zQ_187_68 = true := by decide +kernel

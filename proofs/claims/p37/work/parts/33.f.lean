/-! ===== where the places lie ===== -/
theorem ac_0_7_0_2 : dAt 0 7 0 2 1 = true := by decide +kernel
theorem ac_1_3_0_0 : dAt 1 3 0 0 0 = true := by decide +kernel
theorem ak_0_7 : dAk 0 7 = true := by decide +kernel
theorem ak_1_3 : dAk 1 3 = true := by decide +kernel
theorem ac_1_3_6_2 : dAt 1 3 6 2 4 = true := by decide +kernel
theorem ac_1_3_1_0 : dAt 1 3 1 0 0 = true := by decide +kernel
theorem ac_28s_5_4_0 : ∀ s, s < 8 → dAt (28 + 13 * s) 5 4 0 0 = true := by decide +kernel
theorem ac_28s_5_3_0 : ∀ s, s < 8 → dAt (28 + 13 * s) 5 3 0 0 = true := by decide +kernel
theorem ak_28s_5 : ∀ s, s < 8 → dAk (28 + 13 * s) 5 = true := by decide +kernel
theorem ac_28s_5_1_0 : ∀ s, s < 8 → dAt (28 + 13 * s) 5 1 0 0 = true := by decide +kernel
theorem ac_28s_5_6_2 : ∀ s, s < 8 → dAt (28 + 13 * s) 5 6 2 (29 + 13 * s) = true := by decide +kernel
theorem ac_29s_0_1_0 : ∀ s, s < 8 → dAt (29 + 13 * s) 0 1 0 0 = true := by decide +kernel
theorem ac_28s_5_7_2 : ∀ s, s < 8 → dAt (28 + 13 * s) 5 7 2 (30 + 13 * s) = true := by decide +kernel
theorem ac_30s_0_1_0 : ∀ s, s < 8 → dAt (30 + 13 * s) 0 1 0 0 = true := by decide +kernel
theorem ac_28s_5_11_0 : ∀ s, s < 8 → dAt (28 + 13 * s) 5 11 0 0 = true := by decide +kernel
theorem ac_1_3_5_2 : dAt 1 3 5 2 3 = true := by decide +kernel
theorem aa_3 : dAa 3 8 = true := by decide +kernel
theorem ac_28s_5_2_0 : ∀ s, s < 8 → dAt (28 + 13 * s) 5 2 0 0 = true := by decide +kernel
theorem ac_1_3_4_2 : dAt 1 3 4 2 2 = true := by decide +kernel
theorem aa_2 : dAa 2 6 = true := by decide +kernel
theorem ac_29s_0_0_0 : ∀ s, s < 8 → dAt (29 + 13 * s) 0 0 0 0 = true := by decide +kernel
theorem ac_28s_5_15_2 : ∀ s, s < 8 → dAt (28 + 13 * s) 5 15 2 (31 + 13 * s) = true := by decide +kernel
theorem ac_31s_6_0_0 : ∀ s, s < 8 → dAt (31 + 13 * s) 6 0 0 0 = true := by decide +kernel
theorem ac_31s_6_1_0 : ∀ s, s < 8 → dAt (31 + 13 * s) 6 1 0 0 = true := by decide +kernel
theorem ac_31s_6_2_0 : ∀ s, s < 8 → dAt (31 + 13 * s) 6 2 0 0 = true := by decide +kernel
theorem ac_28s_5_16_2 : ∀ s, s < 8 → dAt (28 + 13 * s) 5 16 2 (32 + 13 * s) = true := by decide +kernel
theorem ac_32s_1_3_0 : ∀ s, s < 8 → dAt (32 + 13 * s) 1 3 0 0 = true := by decide +kernel
theorem ac_32s_1_7_0 : ∀ s, s < 8 → dAt (32 + 13 * s) 1 7 0 0 = true := by decide +kernel
theorem ak_32s_1 : ∀ s, s < 8 → dAk (32 + 13 * s) 1 = true := by decide +kernel
theorem ac_1_3_2_0 : dAt 1 3 2 0 0 = true := by decide +kernel
theorem ac_28s_5_17_2 : ∀ s, s < 8 → dAt (28 + 13 * s) 5 17 2 (33 + 13 * s) = true := by decide +kernel
theorem ac_33s_4_3_0 : ∀ s, s < 8 → dAt (33 + 13 * s) 4 3 0 0 = true := by decide +kernel
theorem ac_33s_4_0_1 : ∀ s, s < 8 → dAt (33 + 13 * s) 4 0 1 8 = true := by decide +kernel
theorem ak_33s_4 : ∀ s, s < 8 → dAk (33 + 13 * s) 4 = true := by decide +kernel
theorem ac_33s_4_1_1 : ∀ s, s < 8 → dAt (33 + 13 * s) 4 1 1 5 = true := by decide +kernel
theorem ac_33s_4_2_2 : ∀ s, s < 8 → dAt (33 + 13 * s) 4 2 2 (34 + 13 * s) = true := by decide +kernel
theorem ac_34s_101_0_2 : ∀ s, s < 8 → dAt (34 + 13 * s) 101 0 2 (35 + 13 * s) = true := by decide +kernel
theorem aa_35s : ∀ s, s < 8 → dAa (35 + 13 * s) 8 = true := by decide +kernel
theorem ac_34s_101_1_2 : ∀ s, s < 8 → dAt (34 + 13 * s) 101 1 2 (36 + 13 * s) = true := by decide +kernel
theorem aa_36s : ∀ s, s < 8 → dAa (36 + 13 * s) 8 = true := by decide +kernel
theorem ac_34s_101_2_2 : ∀ s, s < 8 → dAt (34 + 13 * s) 101 2 2 (37 + 13 * s) = true := by decide +kernel
theorem aa_37s : ∀ s, s < 8 → dAa (37 + 13 * s) 8 = true := by decide +kernel
theorem ac_34s_101_3_2 : ∀ s, s < 8 → dAt (34 + 13 * s) 101 3 2 (38 + 13 * s) = true := by decide +kernel
theorem aa_38s : ∀ s, s < 8 → dAa (38 + 13 * s) 8 = true := by decide +kernel
theorem ac_34s_101_4_2 : ∀ s, s < 8 → dAt (34 + 13 * s) 101 4 2 (39 + 13 * s) = true := by decide +kernel
theorem aa_39s : ∀ s, s < 8 → dAa (39 + 13 * s) 8 = true := by decide +kernel
theorem ac_28s_5_5_0 : ∀ s, s < 8 → dAt (28 + 13 * s) 5 5 0 0 = true := by decide +kernel
theorem ac_28s_5_9_0 : ∀ s, s < 8 → dAt (28 + 13 * s) 5 9 0 0 = true := by decide +kernel
theorem ac_32s_1_0_0 : ∀ s, s < 8 → dAt (32 + 13 * s) 1 0 0 0 = true := by decide +kernel
theorem ac_32s_1_1_0 : ∀ s, s < 8 → dAt (32 + 13 * s) 1 1 0 0 = true := by decide +kernel
theorem ac_32s_1_2_0 : ∀ s, s < 8 → dAt (32 + 13 * s) 1 2 0 0 = true := by decide +kernel
theorem ac_32s_1_4_0 : ∀ s, s < 8 → dAt (32 + 13 * s) 1 4 0 0 = true := by decide +kernel
theorem ac_28s_5_8_0 : ∀ s, s < 8 → dAt (28 + 13 * s) 5 8 0 0 = true := by decide +kernel
theorem ac_28s_5_0_1 : ∀ s, s < 8 → dAt (28 + 13 * s) 5 0 1 s = true := by decide +kernel
theorem ac_30s_0_0_0 : ∀ s, s < 8 → dAt (30 + 13 * s) 0 0 0 0 = true := by decide +kernel
theorem ac_30s_0_2_0 : ∀ s, s < 8 → dAt (30 + 13 * s) 0 2 0 0 = true := by decide +kernel
theorem ak_30s_0 : ∀ s, s < 8 → dAk (30 + 13 * s) 0 = true := by decide +kernel
theorem ac_1_3_10_2 : dAt 1 3 10 2 26 = true := by decide +kernel
theorem aa_26 : dAa 26 8 = true := by decide +kernel
theorem ac_1_3_8_2 : dAt 1 3 8 2 13 = true := by decide +kernel
theorem ac_13_2_3_0 : dAt 13 2 3 0 0 = true := by decide +kernel
theorem ak_13_2 : dAk 13 2 = true := by decide +kernel
theorem ac_13_2_0_1 : dAt 13 2 0 1 60 = true := by decide +kernel
theorem ac_13_2_1_1 : dAt 13 2 1 1 4 = true := by decide +kernel
theorem ac_13_2_2_2 : dAt 13 2 2 2 14 = true := by decide +kernel
theorem ac_14_101_0_2 : dAt 14 101 0 2 15 = true := by decide +kernel
theorem aa_15 : dAa 15 60 = true := by decide +kernel
theorem ac_14_101_1_2 : dAt 14 101 1 2 16 = true := by decide +kernel
theorem aa_16 : dAa 16 60 = true := by decide +kernel
theorem ac_14_101_2_2 : dAt 14 101 2 2 17 = true := by decide +kernel
theorem aa_17 : dAa 17 60 = true := by decide +kernel
theorem ac_14_101_3_2 : dAt 14 101 3 2 18 = true := by decide +kernel
theorem aa_18 : dAa 18 60 = true := by decide +kernel
theorem ac_1_3_3_0 : dAt 1 3 3 0 0 = true := by decide +kernel
theorem ac_1_3_7_2 : dAt 1 3 7 2 5 = true := by decide +kernel
theorem ac_5_4_3_0 : dAt 5 4 3 0 0 = true := by decide +kernel
theorem ac_5_4_0_1 : dAt 5 4 0 1 100 = true := by decide +kernel
theorem ak_5_4 : dAk 5 4 = true := by decide +kernel
theorem ac_5_4_2_2 : dAt 5 4 2 2 6 = true := by decide +kernel
theorem ac_6_101_1_2 : dAt 6 101 1 2 8 = true := by decide +kernel
theorem aa_8 : dAa 8 100 = true := by decide +kernel
theorem ac_6_101_2_2 : dAt 6 101 2 2 9 = true := by decide +kernel
theorem aa_9 : dAa 9 100 = true := by decide +kernel
theorem ac_5_4_1_1 : dAt 5 4 1 1 6 = true := by decide +kernel
theorem ac_6_101_0_2 : dAt 6 101 0 2 7 = true := by decide +kernel
theorem aa_7 : dAa 7 100 = true := by decide +kernel
theorem ac_6_101_3_2 : dAt 6 101 3 2 10 = true := by decide +kernel
theorem aa_10 : dAa 10 100 = true := by decide +kernel
theorem ac_6_101_4_2 : dAt 6 101 4 2 11 = true := by decide +kernel
theorem aa_11 : dAa 11 100 = true := by decide +kernel
theorem ac_6_101_5_2 : dAt 6 101 5 2 12 = true := by decide +kernel
theorem aa_12 : dAa 12 100 = true := by decide +kernel
theorem ac_1_3_11_2 : dAt 1 3 11 2 27 = true := by decide +kernel
theorem ac_27_0_0_0 : dAt 27 0 0 0 0 = true := by decide +kernel
theorem ac_27_0_1_0 : dAt 27 0 1 0 0 = true := by decide +kernel
theorem ac_27_0_2_0 : dAt 27 0 2 0 0 = true := by decide +kernel
theorem ak_27_0 : dAk 27 0 = true := by decide +kernel
theorem ac_29s_0_2_0 : ∀ s, s < 8 → dAt (29 + 13 * s) 0 2 0 0 = true := by decide +kernel
theorem ak_29s_0 : ∀ s, s < 8 → dAk (29 + 13 * s) 0 = true := by decide +kernel
theorem ac_28s_5_12_0 : ∀ s, s < 8 → dAt (28 + 13 * s) 5 12 0 0 = true := by decide +kernel
theorem ac_28s_5_13_0 : ∀ s, s < 8 → dAt (28 + 13 * s) 5 13 0 0 = true := by decide +kernel
theorem ac_28s_5_14_0 : ∀ s, s < 8 → dAt (28 + 13 * s) 5 14 0 0 = true := by decide +kernel
theorem ac_32s_1_11_0 : ∀ s, s < 8 → dAt (32 + 13 * s) 1 11 0 0 = true := by decide +kernel
theorem ac_28s_5_18_2 : ∀ s, s < 8 → dAt (28 + 13 * s) 5 18 2 (40 + 13 * s) = true := by decide +kernel
theorem aa_40s : ∀ s, s < 8 → dAa (40 + 13 * s) 9 = true := by decide +kernel
theorem ac_32s_1_8_0 : ∀ s, s < 8 → dAt (32 + 13 * s) 1 8 0 0 = true := by decide +kernel
theorem ac_32s_1_9_0 : ∀ s, s < 8 → dAt (32 + 13 * s) 1 9 0 0 = true := by decide +kernel
theorem ac_32s_1_10_0 : ∀ s, s < 8 → dAt (32 + 13 * s) 1 10 0 0 = true := by decide +kernel
theorem ac_28s_5_10_0 : ∀ s, s < 8 → dAt (28 + 13 * s) 5 10 0 0 = true := by decide +kernel
theorem ac_32s_1_5_0 : ∀ s, s < 8 → dAt (32 + 13 * s) 1 5 0 0 = true := by decide +kernel
theorem ac_32s_1_6_0 : ∀ s, s < 8 → dAt (32 + 13 * s) 1 6 0 0 = true := by decide +kernel
theorem ac_1_3_9_2 : dAt 1 3 9 2 19 = true := by decide +kernel
theorem ac_19_2_3_0 : dAt 19 2 3 0 0 = true := by decide +kernel
theorem ak_19_2 : dAk 19 2 = true := by decide +kernel
theorem ac_19_2_0_1 : dAt 19 2 0 1 40 = true := by decide +kernel
theorem ac_19_2_1_1 : dAt 19 2 1 1 5 = true := by decide +kernel
theorem ac_19_2_2_2 : dAt 19 2 2 2 20 = true := by decide +kernel
theorem ac_20_101_0_2 : dAt 20 101 0 2 21 = true := by decide +kernel
theorem aa_21 : dAa 21 40 = true := by decide +kernel
theorem ac_20_101_1_2 : dAt 20 101 1 2 22 = true := by decide +kernel
theorem aa_22 : dAa 22 40 = true := by decide +kernel
theorem ac_20_101_2_2 : dAt 20 101 2 2 23 = true := by decide +kernel
theorem aa_23 : dAa 23 40 = true := by decide +kernel
theorem ac_20_101_3_2 : dAt 20 101 3 2 24 = true := by decide +kernel
theorem aa_24 : dAa 24 40 = true := by decide +kernel
theorem ac_20_101_4_2 : dAt 20 101 4 2 25 = true := by decide +kernel
theorem aa_25 : dAa 25 40 = true := by decide +kernel
theorem ac_1_3_12_0 : dAt 1 3 12 0 0 = true := by decide +kernel

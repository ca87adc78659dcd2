/-! ===== all tables are right ===== -/
theorem mGetD_out {α : Type} {l : List α} {n : Nat} {d : α} (h : l.length ≤ n) : l.getD n d = d := by
  rw [List.getD_eq_getElem?_getD, List.getElem?_eq_none h]
  rfl
theorem mI_ok : ∀ k, k < mNM → mMok (mInf k) = true := by
  intro k h
  have hr : k % 16 < 16 := Nat.mod_lt k (by omega)
  have hm : k = 16 * (k / 16) + k % 16 := (Nat.div_add_mod k 16).symm
  have hq : k / 16 < 7 := by have h : k < 97 := h; omega
  generalize k % 16 = r at hr hm
  generalize k / 16 = q at hq hm
  subst hm
  obtain rfl | rfl | rfl | rfl | rfl | rfl | rfl := (by omega : q = 0 ∨ q = 1 ∨ q = 2 ∨ q = 3 ∨ q = 4 ∨ q = 5 ∨ q = 6)
  · have h : 16 * 0 + r < 97 := h
    have h9 : r < 16 := by omega
    obtain rfl | rfl | rfl | rfl | rfl | rfl | rfl | rfl | rfl | rfl | rfl | rfl | rfl | rfl | rfl | rfl := (by omega : r = 0 ∨ r = 1 ∨ r = 2 ∨ r = 3 ∨ r = 4 ∨ r = 5 ∨ r = 6 ∨ r = 7 ∨ r = 8 ∨ r = 9 ∨ r = 10 ∨ r = 11 ∨ r = 12 ∨ r = 13 ∨ r = 14 ∨ r = 15)
    · exact mI_0_ok
    · exact mI_1_ok
    · exact mI_2_ok
    · exact mI_3_ok
    · exact mI_4_ok
    · exact mI_5_ok
    · exact mI_6_ok
    · exact mI_7_ok
    · exact mI_8_ok
    · exact mI_9_ok
    · exact mI_10_ok
    · exact mI_11_ok
    · exact mI_12_ok
    · exact mI_13_ok
    · exact mI_14_ok
    · exact mI_15_ok
  · have h : 16 * 1 + r < 97 := h
    have h9 : r < 16 := by omega
    obtain rfl | rfl | rfl | rfl | rfl | rfl | rfl | rfl | rfl | rfl | rfl | rfl | rfl | rfl | rfl | rfl := (by omega : r = 0 ∨ r = 1 ∨ r = 2 ∨ r = 3 ∨ r = 4 ∨ r = 5 ∨ r = 6 ∨ r = 7 ∨ r = 8 ∨ r = 9 ∨ r = 10 ∨ r = 11 ∨ r = 12 ∨ r = 13 ∨ r = 14 ∨ r = 15)
    · exact mI_16_ok
    · exact mI_17_ok
    · exact mI_18_ok
    · exact mI_19_ok
    · exact mI_20_ok
    · exact mI_21_ok
    · exact mI_22_ok
    · exact mI_23_ok
    · exact mI_24_ok
    · exact mI_25_ok
    · exact mI_26_ok
    · exact mI_27_ok
    · exact mI_28_ok
    · exact mI_29_ok
    · exact mI_30_ok
    · exact mI_31_ok
  · have h : 16 * 2 + r < 97 := h
    have h9 : r < 16 := by omega
    obtain rfl | rfl | rfl | rfl | rfl | rfl | rfl | rfl | rfl | rfl | rfl | rfl | rfl | rfl | rfl | rfl := (by omega : r = 0 ∨ r = 1 ∨ r = 2 ∨ r = 3 ∨ r = 4 ∨ r = 5 ∨ r = 6 ∨ r = 7 ∨ r = 8 ∨ r = 9 ∨ r = 10 ∨ r = 11 ∨ r = 12 ∨ r = 13 ∨ r = 14 ∨ r = 15)
    · exact mI_32_ok
    · exact mI_33_ok
    · exact mI_34_ok
    · exact mI_35_ok
    · exact mI_36_ok
    · exact mI_37_ok
    · exact mI_38_ok
    · exact mI_39_ok
    · exact mI_40_ok
    · exact mI_41_ok
    · exact mI_42_ok
    · exact mI_43_ok
    · exact mI_44_ok
    · exact mI_45_ok
    · exact mI_46_ok
    · exact mI_47_ok
  · have h : 16 * 3 + r < 97 := h
    have h9 : r < 16 := by omega
    obtain rfl | rfl | rfl | rfl | rfl | rfl | rfl | rfl | rfl | rfl | rfl | rfl | rfl | rfl | rfl | rfl := (by omega : r = 0 ∨ r = 1 ∨ r = 2 ∨ r = 3 ∨ r = 4 ∨ r = 5 ∨ r = 6 ∨ r = 7 ∨ r = 8 ∨ r = 9 ∨ r = 10 ∨ r = 11 ∨ r = 12 ∨ r = 13 ∨ r = 14 ∨ r = 15)
    · exact mI_48_ok
    · exact mI_49_ok
    · exact mI_50_ok
    · exact mI_51_ok
    · exact mI_52_ok
    · exact mI_53_ok
    · exact mI_54_ok
    · exact mI_55_ok
    · exact mI_56_ok
    · exact mI_57_ok
    · exact mI_58_ok
    · exact mI_59_ok
    · exact mI_60_ok
    · exact mI_61_ok
    · exact mI_62_ok
    · exact mI_63_ok
  · have h : 16 * 4 + r < 97 := h
    have h9 : r < 16 := by omega
    obtain rfl | rfl | rfl | rfl | rfl | rfl | rfl | rfl | rfl | rfl | rfl | rfl | rfl | rfl | rfl | rfl := (by omega : r = 0 ∨ r = 1 ∨ r = 2 ∨ r = 3 ∨ r = 4 ∨ r = 5 ∨ r = 6 ∨ r = 7 ∨ r = 8 ∨ r = 9 ∨ r = 10 ∨ r = 11 ∨ r = 12 ∨ r = 13 ∨ r = 14 ∨ r = 15)
    · exact mI_64_ok
    · exact mI_65_ok
    · exact mI_66_ok
    · exact mI_67_ok
    · exact mI_68_ok
    · exact mI_69_ok
    · exact mI_70_ok
    · exact mI_71_ok
    · exact mI_72_ok
    · exact mI_73_ok
    · exact mI_74_ok
    · exact mI_75_ok
    · exact mI_76_ok
    · exact mI_77_ok
    · exact mI_78_ok
    · exact mI_79_ok
  · have h : 16 * 5 + r < 97 := h
    have h9 : r < 16 := by omega
    obtain rfl | rfl | rfl | rfl | rfl | rfl | rfl | rfl | rfl | rfl | rfl | rfl | rfl | rfl | rfl | rfl := (by omega : r = 0 ∨ r = 1 ∨ r = 2 ∨ r = 3 ∨ r = 4 ∨ r = 5 ∨ r = 6 ∨ r = 7 ∨ r = 8 ∨ r = 9 ∨ r = 10 ∨ r = 11 ∨ r = 12 ∨ r = 13 ∨ r = 14 ∨ r = 15)
    · exact mI_80_ok
    · exact mI_81_ok
    · exact mI_82_ok
    · exact mI_83_ok
    · exact mI_84_ok
    · exact mI_85_ok
    · exact mI_86_ok
    · exact mI_87_ok
    · exact mI_88_ok
    · exact mI_89_ok
    · exact mI_90_ok
    · exact mI_91_ok
    · exact mI_92_ok
    · exact mI_93_ok
    · exact mI_94_ok
    · exact mI_95_ok
  · have h : 16 * 6 + r < 97 := h
    have h9 : r < 1 := by omega
    obtain rfl := (by omega : r = 0)
    · exact mI_96_ok
theorem mTg_0_ok : ∀ r, r < 16 → (mTg_0.getD r []).all (mOk mInf (0 + r)) = true := fun r h => by
  obtain rfl | rfl | rfl | rfl | rfl | rfl | rfl | rfl | rfl | rfl | rfl | rfl | rfl | rfl | rfl | rfl := (by omega : r = 0 ∨ r = 1 ∨ r = 2 ∨ r = 3 ∨ r = 4 ∨ r = 5 ∨ r = 6 ∨ r = 7 ∨ r = 8 ∨ r = 9 ∨ r = 10 ∨ r = 11 ∨ r = 12 ∨ r = 13 ∨ r = 14 ∨ r = 15)
  · exact mT_0_ok
  · exact mT_1_ok
  · exact mT_2_ok
  · exact mT_3_ok
  · exact mT_4_ok
  · exact mT_5_ok
  · exact mT_6_ok
  · exact mT_7_ok
  · exact mT_8_ok
  · exact mT_9_ok
  · exact mT_10_ok
  · exact mT_11_ok
  · exact mT_12_ok
  · exact mT_13_ok
  · exact mT_14_ok
  · exact mT_15_ok
theorem mTg_0_at (r : Nat) (h : r < 16) : mTab (0 + r) = mTg_0.getD r [] := by
  have h1 : (0 + r) / 16 = 0 := by omega
  have h2 : (0 + r) % 16 = r := by omega
  unfold mTab
  rw [h1, h2]
  rfl
theorem mTg_1_ok : ∀ r, r < 16 → (mTg_1.getD r []).all (mOk mInf (16 + r)) = true := fun r h => by
  obtain rfl | rfl | rfl | rfl | rfl | rfl | rfl | rfl | rfl | rfl | rfl | rfl | rfl | rfl | rfl | rfl := (by omega : r = 0 ∨ r = 1 ∨ r = 2 ∨ r = 3 ∨ r = 4 ∨ r = 5 ∨ r = 6 ∨ r = 7 ∨ r = 8 ∨ r = 9 ∨ r = 10 ∨ r = 11 ∨ r = 12 ∨ r = 13 ∨ r = 14 ∨ r = 15)
  · exact mT_16_ok
  · exact mT_17_ok
  · exact mT_18_ok
  · exact mT_19_ok
  · exact mT_20_ok
  · exact mT_21_ok
  · exact mT_22_ok
  · exact mT_23_ok
  · exact mT_24_ok
  · exact mT_25_ok
  · exact mT_26_ok
  · exact mT_27_ok
  · exact mT_28_ok
  · exact mT_29_ok
  · exact mT_30_ok
  · exact mT_31_ok
theorem mTg_1_at (r : Nat) (h : r < 16) : mTab (16 + r) = mTg_1.getD r [] := by
  have h1 : (16 + r) / 16 = 1 := by omega
  have h2 : (16 + r) % 16 = r := by omega
  unfold mTab
  rw [h1, h2]
  rfl
theorem mTg_2_ok : ∀ r, r < 16 → (mTg_2.getD r []).all (mOk mInf (32 + r)) = true := fun r h => by
  obtain rfl | rfl | rfl | rfl | rfl | rfl | rfl | rfl | rfl | rfl | rfl | rfl | rfl | rfl | rfl | rfl := (by omega : r = 0 ∨ r = 1 ∨ r = 2 ∨ r = 3 ∨ r = 4 ∨ r = 5 ∨ r = 6 ∨ r = 7 ∨ r = 8 ∨ r = 9 ∨ r = 10 ∨ r = 11 ∨ r = 12 ∨ r = 13 ∨ r = 14 ∨ r = 15)
  · exact mT_32_ok
  · exact mT_33_ok
  · exact mT_34_ok
  · exact mT_35_ok
  · exact mT_36_ok
  · exact mT_37_ok
  · exact mT_38_ok
  · exact mT_39_ok
  · exact mT_40_ok
  · exact mT_41_ok
  · exact mT_42_ok
  · exact mT_43_ok
  · exact mT_44_ok
  · exact mT_45_ok
  · exact mT_46_ok
  · exact mT_47_ok
theorem mTg_2_at (r : Nat) (h : r < 16) : mTab (32 + r) = mTg_2.getD r [] := by
  have h1 : (32 + r) / 16 = 2 := by omega
  have h2 : (32 + r) % 16 = r := by omega
  unfold mTab
  rw [h1, h2]
  rfl
theorem mTg_3_ok : ∀ r, r < 16 → (mTg_3.getD r []).all (mOk mInf (48 + r)) = true := fun r h => by
  obtain rfl | rfl | rfl | rfl | rfl | rfl | rfl | rfl | rfl | rfl | rfl | rfl | rfl | rfl | rfl | rfl := (by omega : r = 0 ∨ r = 1 ∨ r = 2 ∨ r = 3 ∨ r = 4 ∨ r = 5 ∨ r = 6 ∨ r = 7 ∨ r = 8 ∨ r = 9 ∨ r = 10 ∨ r = 11 ∨ r = 12 ∨ r = 13 ∨ r = 14 ∨ r = 15)
  · exact mT_48_ok
  · exact mT_49_ok
  · exact mT_50_ok
  · exact mT_51_ok
  · exact mT_52_ok
  · exact mT_53_ok
  · exact mT_54_ok
  · exact mT_55_ok
  · exact mT_56_ok
  · exact mT_57_ok
  · exact mT_58_ok
  · exact mT_59_ok
  · exact mT_60_ok
  · exact mT_61_ok
  · exact mT_62_ok
  · exact mT_63_ok
theorem mTg_3_at (r : Nat) (h : r < 16) : mTab (48 + r) = mTg_3.getD r [] := by
  have h1 : (48 + r) / 16 = 3 := by omega
  have h2 : (48 + r) % 16 = r := by omega
  unfold mTab
  rw [h1, h2]
  rfl
theorem mTg_4_ok : ∀ r, r < 16 → (mTg_4.getD r []).all (mOk mInf (64 + r)) = true := fun r h => by
  obtain rfl | rfl | rfl | rfl | rfl | rfl | rfl | rfl | rfl | rfl | rfl | rfl | rfl | rfl | rfl | rfl := (by omega : r = 0 ∨ r = 1 ∨ r = 2 ∨ r = 3 ∨ r = 4 ∨ r = 5 ∨ r = 6 ∨ r = 7 ∨ r = 8 ∨ r = 9 ∨ r = 10 ∨ r = 11 ∨ r = 12 ∨ r = 13 ∨ r = 14 ∨ r = 15)
  · exact mT_64_ok
  · exact mT_65_ok
  · exact mT_66_ok
  · exact mT_67_ok
  · exact mT_68_ok
  · exact mT_69_ok
  · exact mT_70_ok
  · exact mT_71_ok
  · exact mT_72_ok
  · exact mT_73_ok
  · exact mT_74_ok
  · exact mT_75_ok
  · exact mT_76_ok
  · exact mT_77_ok
  · exact mT_78_ok
  · exact mT_79_ok
theorem mTg_4_at (r : Nat) (h : r < 16) : mTab (64 + r) = mTg_4.getD r [] := by
  have h1 : (64 + r) / 16 = 4 := by omega
  have h2 : (64 + r) % 16 = r := by omega
  unfold mTab
  rw [h1, h2]
  rfl
theorem mTg_5_ok : ∀ r, r < 16 → (mTg_5.getD r []).all (mOk mInf (80 + r)) = true := fun r h => by
  obtain rfl | rfl | rfl | rfl | rfl | rfl | rfl | rfl | rfl | rfl | rfl | rfl | rfl | rfl | rfl | rfl := (by omega : r = 0 ∨ r = 1 ∨ r = 2 ∨ r = 3 ∨ r = 4 ∨ r = 5 ∨ r = 6 ∨ r = 7 ∨ r = 8 ∨ r = 9 ∨ r = 10 ∨ r = 11 ∨ r = 12 ∨ r = 13 ∨ r = 14 ∨ r = 15)
  · exact mT_80_ok
  · exact mT_81_ok
  · exact mT_82_ok
  · exact mT_83_ok
  · exact mT_84_ok
  · exact mT_85_ok
  · exact mT_86_ok
  · exact mT_87_ok
  · exact mT_88_ok
  · exact mT_89_ok
  · exact mT_90_ok
  · exact mT_91_ok
  · exact mT_92_ok
  · exact mT_93_ok
  · exact mT_94_ok
  · exact mT_95_ok
theorem mTg_5_at (r : Nat) (h : r < 16) : mTab (80 + r) = mTg_5.getD r [] := by
  have h1 : (80 + r) / 16 = 5 := by omega
  have h2 : (80 + r) % 16 = r := by omega
  unfold mTab
  rw [h1, h2]
  rfl
theorem mTg_6_ok : ∀ r, r < 4 → (mTg_6.getD r []).all (mOk mInf (96 + r)) = true := fun r h => by
  obtain rfl | rfl | rfl | rfl := (by omega : r = 0 ∨ r = 1 ∨ r = 2 ∨ r = 3)
  · exact mT_96_ok
  · exact mT_97_ok
  · exact mT_98_ok
  · exact mT_99_ok
theorem mTg_6_at (r : Nat) (h : r < 16) : mTab (96 + r) = mTg_6.getD r [] := by
  have h1 : (96 + r) / 16 = 6 := by omega
  have h2 : (96 + r) % 16 = r := by omega
  unfold mTab
  rw [h1, h2]
  rfl
theorem mT_ok : ∀ mi, ∀ e ∈ mTab mi, mOk mInf mi e = true := by
  intro mi e he
  have hr : mi % 16 < 16 := Nat.mod_lt mi (by omega)
  have hm : mi = 16 * (mi / 16) + mi % 16 := (Nat.div_add_mod mi 16).symm
  by_cases h : mi / 16 < 7
  · generalize mi % 16 = r at hr hm
    generalize mi / 16 = q at h hm
    subst hm
    obtain rfl | rfl | rfl | rfl | rfl | rfl | rfl := (by omega : q = 0 ∨ q = 1 ∨ q = 2 ∨ q = 3 ∨ q = 4 ∨ q = 5 ∨ q = 6)
    ·
      have e1 : 16 * 0 + r = 0 + r := by omega
      rw [e1] at he ⊢
      rw [mTg_0_at r hr] at he
      by_cases h9 : r < 16
      · exact List.all_eq_true.mp (mTg_0_ok r h9) e he
      · rw [mGetD_out (by show 16 ≤ r; omega)] at he
        cases he
    ·
      have e1 : 16 * 1 + r = 16 + r := by omega
      rw [e1] at he ⊢
      rw [mTg_1_at r hr] at he
      by_cases h9 : r < 16
      · exact List.all_eq_true.mp (mTg_1_ok r h9) e he
      · rw [mGetD_out (by show 16 ≤ r; omega)] at he
        cases he
    ·
      have e1 : 16 * 2 + r = 32 + r := by omega
      rw [e1] at he ⊢
      rw [mTg_2_at r hr] at he
      by_cases h9 : r < 16
      · exact List.all_eq_true.mp (mTg_2_ok r h9) e he
      · rw [mGetD_out (by show 16 ≤ r; omega)] at he
        cases he
    ·
      have e1 : 16 * 3 + r = 48 + r := by omega
      rw [e1] at he ⊢
      rw [mTg_3_at r hr] at he
      by_cases h9 : r < 16
      · exact List.all_eq_true.mp (mTg_3_ok r h9) e he
      · rw [mGetD_out (by show 16 ≤ r; omega)] at he
        cases he
    ·
      have e1 : 16 * 4 + r = 64 + r := by omega
      rw [e1] at he ⊢
      rw [mTg_4_at r hr] at he
      by_cases h9 : r < 16
      · exact List.all_eq_true.mp (mTg_4_ok r h9) e he
      · rw [mGetD_out (by show 16 ≤ r; omega)] at he
        cases he
    ·
      have e1 : 16 * 5 + r = 80 + r := by omega
      rw [e1] at he ⊢
      rw [mTg_5_at r hr] at he
      by_cases h9 : r < 16
      · exact List.all_eq_true.mp (mTg_5_ok r h9) e he
      · rw [mGetD_out (by show 16 ≤ r; omega)] at he
        cases he
    ·
      have e1 : 16 * 6 + r = 96 + r := by omega
      rw [e1] at he ⊢
      rw [mTg_6_at r hr] at he
      by_cases h9 : r < 4
      · exact List.all_eq_true.mp (mTg_6_ok r h9) e he
      · rw [mGetD_out (by show 4 ≤ r; omega)] at he
        cases he
  · exfalso
    have h2 : mTab mi = [] := by
      unfold mTab
      rw [mGetD_out (n := mi / 16) (by show 7 ≤ mi / 16; omega)]
      rfl
    rw [h2] at he
    cases he
set_option maxRecDepth 100000 in
theorem mG_0 : (∀ w ∈ u_ws (mRX 0) (mTX 0) (mNX 0), w ∈ mTBL) ∧ Cond.instantiable (mRX 0) (mNX 0) ∈ mTBL ∧ Cond.initialized (mRX 0) ∈ mTBL := ⟨mIn_r [90, 92, 94] (by decide +kernel) (by decide +kernel), mW_in (wi := 76) (by decide +kernel), mW_in (wi := 6) (by decide +kernel)⟩
set_option maxRecDepth 100000 in
theorem mG_1 : (∀ w ∈ u_ws (mRX 1) (mTX 1) (mNX 1), w ∈ mTBL) ∧ Cond.instantiable (mRX 1) (mNX 1) ∈ mTBL ∧ Cond.initialized (mRX 1) ∈ mTBL := ⟨mIn_r [170, 172, 174, 176, 178, 180, 182, 184, 186, 188, 190, 192] (by decide +kernel) (by decide +kernel), mW_in (wi := 135) (by decide +kernel), mW_in (wi := 10) (by decide +kernel)⟩
set_option maxRecDepth 100000 in
theorem mG_2 : (∀ w ∈ u_ws (mRX 2) (mTX 2) (mNX 2), w ∈ mTBL) ∧ Cond.instantiable (mRX 2) (mNX 2) ∈ mTBL ∧ Cond.initialized (mRX 2) ∈ mTBL := ⟨mIn_r [66, 68, 70, 72] (by decide +kernel) (by decide +kernel), mW_in (wi := 55) (by decide +kernel), mW_in (wi := 5) (by decide +kernel)⟩
set_option maxRecDepth 100000 in
theorem mG_3 : (∀ w ∈ u_ws (mRX 3) (mTX 3) (mNX 3), w ∈ mTBL) ∧ Cond.instantiable (mRX 3) (mNX 3) ∈ mTBL ∧ Cond.initialized (mRX 3) ∈ mTBL := ⟨mIn_r [305, 307, 309, 311, 313, 315, 317, 319, 321, 323, 325, 327, 329] (by decide +kernel) (by decide +kernel), mW_in (wi := 21) (by decide +kernel), mW_in (wi := 3) (by decide +kernel)⟩
set_option maxRecDepth 100000 in
theorem mG_4 : (∀ w ∈ u_ws (mRX 4) (mTX 4) (mNX 4), w ∈ mTBL) ∧ Cond.instantiable (mRX 4) (mNX 4) ∈ mTBL ∧ Cond.initialized (mRX 4) ∈ mTBL := ⟨mIn_r [44, 46, 48, 50] (by decide +kernel) (by decide +kernel), mW_in (wi := 29) (by decide +kernel), mW_in (wi := 4) (by decide +kernel)⟩
set_option maxRecDepth 100000 in
theorem mG_5 : (∀ w ∈ u_ws (mRX 5) (mTX 5) (mNX 5), w ∈ mTBL) ∧ Cond.instantiable (mRX 5) (mNX 5) ∈ mTBL ∧ Cond.initialized (mRX 5) ∈ mTBL := ⟨mIn_r [243, 245, 247, 249, 251, 253, 255, 257, 259, 261, 263, 265, 267, 269, 271, 273, 275, 277, 279] (by decide +kernel) (by decide +kernel), mW_in (wi := 102) (by decide +kernel), mW_in (wi := 8) (by decide +kernel)⟩
set_option maxRecDepth 100000 in
theorem mG_6 : (∀ w ∈ u_ws (mRX 6) (mTX 6) (mNX 6), w ∈ mTBL) ∧ Cond.instantiable (mRX 6) (mNX 6) ∈ mTBL ∧ Cond.initialized (mRX 6) ∈ mTBL := ⟨mIn_r [127, 129, 131] (by decide +kernel) (by decide +kernel), mW_in (wi := 110) (by decide +kernel), mW_in (wi := 9) (by decide +kernel)⟩
set_option maxRecDepth 100000 in
theorem mG_7 : (∀ w ∈ u_ws (mRX 7) (mTX 7) (mNX 7), w ∈ mTBL) ∧ Cond.instantiable (mRX 7) (mNX 7) ∈ mTBL ∧ Cond.initialized (mRX 7) ∈ mTBL := ⟨mIn_r [337, 339, 341, 343, 345] (by decide +kernel) (by decide +kernel), mW_in (wi := 13) (by decide +kernel), mW_in (wi := 2) (by decide +kernel)⟩
set_option maxRecDepth 100000 in
theorem mG_ok : mG := ⟨fun ci h => by
  match ci, h with
  | 0, _ => exact mG_0
  | 1, _ => exact mG_1
  | 2, _ => exact mG_2
  | 3, _ => exact mG_3
  | 4, _ => exact mG_4
  | 5, _ => exact mG_5
  | 6, _ => exact mG_6
  | 7, _ => exact mG_7, mW_in (wi := 18) (by decide +kernel), mW_in (wi := 19) (by decide +kernel), mW_in (wi := 101) (by decide +kernel), mW_in (wi := 100) (by decide +kernel), mW_in (wi := 7) (by decide +kernel), mW_in (wi := 53) (by decide +kernel), mW_in (wi := 11) (by decide +kernel), ⟨mW_in (wi := 499) (by decide +kernel), mW_in (wi := 500) (by decide +kernel)⟩, mW_in (wi := 540) (by decide +kernel), mW_in (wi := 541) (by decide +kernel)⟩

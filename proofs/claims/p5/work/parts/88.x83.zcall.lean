/-! ===== all that is agreed of the class's methods holds ===== -/
theorem zPg_0_ok : ∀ r, r < 16 → (zPg_0.getD r []).all (zChq (zCr (zRk (0 + r))) false (0 + r)) = true := fun r h => by
  obtain rfl | rfl | rfl | rfl | rfl | rfl | rfl | rfl | rfl | rfl | rfl | rfl | rfl | rfl | rfl | rfl := (by omega : r = 0 ∨ r = 1 ∨ r = 2 ∨ r = 3 ∨ r = 4 ∨ r = 5 ∨ r = 6 ∨ r = 7 ∨ r = 8 ∨ r = 9 ∨ r = 10 ∨ r = 11 ∨ r = 12 ∨ r = 13 ∨ r = 14 ∨ r = 15)
  · exact rfl
  · exact rfl
  · exact rfl
  · exact rfl
  · exact rfl
  · exact rfl
  · exact rfl
  · exact rfl
  · exact rfl
  · exact rfl
  · exact rfl
  · exact rfl
  · exact rfl
  · exact zC_13
  · exact rfl
  · exact rfl
theorem zPg_0_at (r : Nat) (h : r < 16) : zPtb (0 + r) = zPg_0.getD r [] := by
  have h1 : (0 + r) / 16 = 0 := by omega
  have h2 : (0 + r) % 16 = r := by omega
  unfold zPtb
  rw [h1, h2]
  rfl
theorem zPg_1_ok : ∀ r, r < 16 → (zPg_1.getD r []).all (zChq (zCr (zRk (16 + r))) false (16 + r)) = true := fun r h => by
  obtain rfl | rfl | rfl | rfl | rfl | rfl | rfl | rfl | rfl | rfl | rfl | rfl | rfl | rfl | rfl | rfl := (by omega : r = 0 ∨ r = 1 ∨ r = 2 ∨ r = 3 ∨ r = 4 ∨ r = 5 ∨ r = 6 ∨ r = 7 ∨ r = 8 ∨ r = 9 ∨ r = 10 ∨ r = 11 ∨ r = 12 ∨ r = 13 ∨ r = 14 ∨ r = 15)
  · exact rfl
  · exact rfl
  · exact zC_18
  · exact rfl
  · exact rfl
  · exact rfl
  · exact rfl
  · exact zC_23
  · exact rfl
  · exact zC_25
  · exact zC_26
  · exact zC_27
  · exact zC_28
  · exact zC_29
  · exact rfl
  · exact rfl
theorem zPg_1_at (r : Nat) (h : r < 16) : zPtb (16 + r) = zPg_1.getD r [] := by
  have h1 : (16 + r) / 16 = 1 := by omega
  have h2 : (16 + r) % 16 = r := by omega
  unfold zPtb
  rw [h1, h2]
  rfl
theorem zPg_2_ok : ∀ r, r < 16 → (zPg_2.getD r []).all (zChq (zCr (zRk (32 + r))) false (32 + r)) = true := fun r h => by
  obtain rfl | rfl | rfl | rfl | rfl | rfl | rfl | rfl | rfl | rfl | rfl | rfl | rfl | rfl | rfl | rfl := (by omega : r = 0 ∨ r = 1 ∨ r = 2 ∨ r = 3 ∨ r = 4 ∨ r = 5 ∨ r = 6 ∨ r = 7 ∨ r = 8 ∨ r = 9 ∨ r = 10 ∨ r = 11 ∨ r = 12 ∨ r = 13 ∨ r = 14 ∨ r = 15)
  · exact rfl
  · exact zC_33
  · exact rfl
  · exact zC_35
  · exact zC_36
  · exact zC_37
  · exact zC_38
  · exact zC_39
  · exact zC_40
  · exact rfl
  · exact rfl
  · exact zC_43
  · exact zC_44
  · exact zC_45
  · exact zC_46
  · exact zC_47
theorem zPg_2_at (r : Nat) (h : r < 16) : zPtb (32 + r) = zPg_2.getD r [] := by
  have h1 : (32 + r) / 16 = 2 := by omega
  have h2 : (32 + r) % 16 = r := by omega
  unfold zPtb
  rw [h1, h2]
  rfl
theorem zPg_3_ok : ∀ r, r < 16 → (zPg_3.getD r []).all (zChq (zCr (zRk (48 + r))) false (48 + r)) = true := fun r h => by
  obtain rfl | rfl | rfl | rfl | rfl | rfl | rfl | rfl | rfl | rfl | rfl | rfl | rfl | rfl | rfl | rfl := (by omega : r = 0 ∨ r = 1 ∨ r = 2 ∨ r = 3 ∨ r = 4 ∨ r = 5 ∨ r = 6 ∨ r = 7 ∨ r = 8 ∨ r = 9 ∨ r = 10 ∨ r = 11 ∨ r = 12 ∨ r = 13 ∨ r = 14 ∨ r = 15)
  · exact zC_48
  · exact zC_49
  · exact zC_50
  · exact zC_51
  · exact zC_52
  · exact zC_53
  · exact zC_54
  · exact zC_55
  · exact zC_56
  · exact rfl
  · exact rfl
  · exact rfl
  · exact zC_60
  · exact zC_61
  · exact zC_62
  · exact zC_63
theorem zPg_3_at (r : Nat) (h : r < 16) : zPtb (48 + r) = zPg_3.getD r [] := by
  have h1 : (48 + r) / 16 = 3 := by omega
  have h2 : (48 + r) % 16 = r := by omega
  unfold zPtb
  rw [h1, h2]
  rfl
theorem zPg_4_ok : ∀ r, r < 16 → (zPg_4.getD r []).all (zChq (zCr (zRk (64 + r))) false (64 + r)) = true := fun r h => by
  obtain rfl | rfl | rfl | rfl | rfl | rfl | rfl | rfl | rfl | rfl | rfl | rfl | rfl | rfl | rfl | rfl := (by omega : r = 0 ∨ r = 1 ∨ r = 2 ∨ r = 3 ∨ r = 4 ∨ r = 5 ∨ r = 6 ∨ r = 7 ∨ r = 8 ∨ r = 9 ∨ r = 10 ∨ r = 11 ∨ r = 12 ∨ r = 13 ∨ r = 14 ∨ r = 15)
  · exact zC_64
  · exact rfl
  · exact zC_66
  · exact rfl
  · exact rfl
  · exact rfl
  · exact rfl
  · exact zC_71
  · exact zC_72
  · exact zC_73
  · exact zC_74
  · exact rfl
  · exact zC_76
  · exact rfl
  · exact rfl
  · exact rfl
theorem zPg_4_at (r : Nat) (h : r < 16) : zPtb (64 + r) = zPg_4.getD r [] := by
  have h1 : (64 + r) / 16 = 4 := by omega
  have h2 : (64 + r) % 16 = r := by omega
  unfold zPtb
  rw [h1, h2]
  rfl
theorem zPg_5_ok : ∀ r, r < 16 → (zPg_5.getD r []).all (zChq (zCr (zRk (80 + r))) false (80 + r)) = true := fun r h => by
  obtain rfl | rfl | rfl | rfl | rfl | rfl | rfl | rfl | rfl | rfl | rfl | rfl | rfl | rfl | rfl | rfl := (by omega : r = 0 ∨ r = 1 ∨ r = 2 ∨ r = 3 ∨ r = 4 ∨ r = 5 ∨ r = 6 ∨ r = 7 ∨ r = 8 ∨ r = 9 ∨ r = 10 ∨ r = 11 ∨ r = 12 ∨ r = 13 ∨ r = 14 ∨ r = 15)
  · exact rfl
  · exact rfl
  · exact rfl
  · exact rfl
  · exact rfl
  · exact rfl
  · exact rfl
  · exact rfl
  · exact rfl
  · exact rfl
  · exact zC_90
  · exact zC_91
  · exact zC_92
  · exact zC_93
  · exact zC_94
  · exact zC_95
theorem zPg_5_at (r : Nat) (h : r < 16) : zPtb (80 + r) = zPg_5.getD r [] := by
  have h1 : (80 + r) / 16 = 5 := by omega
  have h2 : (80 + r) % 16 = r := by omega
  unfold zPtb
  rw [h1, h2]
  rfl
theorem zPg_6_ok : ∀ r, r < 16 → (zPg_6.getD r []).all (zChq (zCr (zRk (96 + r))) false (96 + r)) = true := fun r h => by
  obtain rfl | rfl | rfl | rfl | rfl | rfl | rfl | rfl | rfl | rfl | rfl | rfl | rfl | rfl | rfl | rfl := (by omega : r = 0 ∨ r = 1 ∨ r = 2 ∨ r = 3 ∨ r = 4 ∨ r = 5 ∨ r = 6 ∨ r = 7 ∨ r = 8 ∨ r = 9 ∨ r = 10 ∨ r = 11 ∨ r = 12 ∨ r = 13 ∨ r = 14 ∨ r = 15)
  · exact zC_96
  · exact zC_97
  · exact zC_98
  · exact zC_99
  · exact zC_100
  · exact zC_101
  · exact zC_102
  · exact zC_103
  · exact zC_104
  · exact zC_105
  · exact zC_106
  · exact zC_107
  · exact zC_108
  · exact zC_109
  · exact zC_110
  · exact zC_111
theorem zPg_6_at (r : Nat) (h : r < 16) : zPtb (96 + r) = zPg_6.getD r [] := by
  have h1 : (96 + r) / 16 = 6 := by omega
  have h2 : (96 + r) % 16 = r := by omega
  unfold zPtb
  rw [h1, h2]
  rfl
theorem zPg_7_ok : ∀ r, r < 16 → (zPg_7.getD r []).all (zChq (zCr (zRk (112 + r))) false (112 + r)) = true := fun r h => by
  obtain rfl | rfl | rfl | rfl | rfl | rfl | rfl | rfl | rfl | rfl | rfl | rfl | rfl | rfl | rfl | rfl := (by omega : r = 0 ∨ r = 1 ∨ r = 2 ∨ r = 3 ∨ r = 4 ∨ r = 5 ∨ r = 6 ∨ r = 7 ∨ r = 8 ∨ r = 9 ∨ r = 10 ∨ r = 11 ∨ r = 12 ∨ r = 13 ∨ r = 14 ∨ r = 15)
  · exact zC_112
  · exact zC_113
  · exact zC_114
  · exact zC_115
  · exact zC_116
  · exact zC_117
  · exact zC_118
  · exact zC_119
  · exact zC_120
  · exact zC_121
  · exact zC_122
  · exact zC_123
  · exact zC_124
  · exact rfl
  · exact rfl
  · exact rfl
theorem zPg_7_at (r : Nat) (h : r < 16) : zPtb (112 + r) = zPg_7.getD r [] := by
  have h1 : (112 + r) / 16 = 7 := by omega
  have h2 : (112 + r) % 16 = r := by omega
  unfold zPtb
  rw [h1, h2]
  rfl
theorem zPg_8_ok : ∀ r, r < 16 → (zPg_8.getD r []).all (zChq (zCr (zRk (128 + r))) false (128 + r)) = true := fun r h => by
  obtain rfl | rfl | rfl | rfl | rfl | rfl | rfl | rfl | rfl | rfl | rfl | rfl | rfl | rfl | rfl | rfl := (by omega : r = 0 ∨ r = 1 ∨ r = 2 ∨ r = 3 ∨ r = 4 ∨ r = 5 ∨ r = 6 ∨ r = 7 ∨ r = 8 ∨ r = 9 ∨ r = 10 ∨ r = 11 ∨ r = 12 ∨ r = 13 ∨ r = 14 ∨ r = 15)
  · exact rfl
  · exact rfl
  · exact rfl
  · exact rfl
  · exact rfl
  · exact rfl
  · exact rfl
  · exact rfl
  · exact rfl
  · exact rfl
  · exact rfl
  · exact rfl
  · exact rfl
  · exact rfl
  · exact rfl
  · exact rfl
theorem zPg_8_at (r : Nat) (h : r < 16) : zPtb (128 + r) = zPg_8.getD r [] := by
  have h1 : (128 + r) / 16 = 8 := by omega
  have h2 : (128 + r) % 16 = r := by omega
  unfold zPtb
  rw [h1, h2]
  rfl
theorem zPg_9_ok : ∀ r, r < 16 → (zPg_9.getD r []).all (zChq (zCr (zRk (144 + r))) false (144 + r)) = true := fun r h => by
  obtain rfl | rfl | rfl | rfl | rfl | rfl | rfl | rfl | rfl | rfl | rfl | rfl | rfl | rfl | rfl | rfl := (by omega : r = 0 ∨ r = 1 ∨ r = 2 ∨ r = 3 ∨ r = 4 ∨ r = 5 ∨ r = 6 ∨ r = 7 ∨ r = 8 ∨ r = 9 ∨ r = 10 ∨ r = 11 ∨ r = 12 ∨ r = 13 ∨ r = 14 ∨ r = 15)
  · exact rfl
  · exact rfl
  · exact rfl
  · exact rfl
  · exact rfl
  · exact rfl
  · exact rfl
  · exact rfl
  · exact rfl
  · exact rfl
  · exact rfl
  · exact rfl
  · exact rfl
  · exact rfl
  · exact rfl
  · exact rfl
theorem zPg_9_at (r : Nat) (h : r < 16) : zPtb (144 + r) = zPg_9.getD r [] := by
  have h1 : (144 + r) / 16 = 9 := by omega
  have h2 : (144 + r) % 16 = r := by omega
  unfold zPtb
  rw [h1, h2]
  rfl
theorem zPg_10_ok : ∀ r, r < 16 → (zPg_10.getD r []).all (zChq (zCr (zRk (160 + r))) false (160 + r)) = true := fun r h => by
  obtain rfl | rfl | rfl | rfl | rfl | rfl | rfl | rfl | rfl | rfl | rfl | rfl | rfl | rfl | rfl | rfl := (by omega : r = 0 ∨ r = 1 ∨ r = 2 ∨ r = 3 ∨ r = 4 ∨ r = 5 ∨ r = 6 ∨ r = 7 ∨ r = 8 ∨ r = 9 ∨ r = 10 ∨ r = 11 ∨ r = 12 ∨ r = 13 ∨ r = 14 ∨ r = 15)
  · exact rfl
  · exact rfl
  · exact rfl
  · exact rfl
  · exact rfl
  · exact rfl
  · exact rfl
  · exact rfl
  · exact rfl
  · exact rfl
  · exact rfl
  · exact rfl
  · exact rfl
  · exact rfl
  · exact rfl
  · exact rfl
theorem zPg_10_at (r : Nat) (h : r < 16) : zPtb (160 + r) = zPg_10.getD r [] := by
  have h1 : (160 + r) / 16 = 10 := by omega
  have h2 : (160 + r) % 16 = r := by omega
  unfold zPtb
  rw [h1, h2]
  rfl
theorem zPg_11_ok : ∀ r, r < 16 → (zPg_11.getD r []).all (zChq (zCr (zRk (176 + r))) false (176 + r)) = true := fun r h => by
  obtain rfl | rfl | rfl | rfl | rfl | rfl | rfl | rfl | rfl | rfl | rfl | rfl | rfl | rfl | rfl | rfl := (by omega : r = 0 ∨ r = 1 ∨ r = 2 ∨ r = 3 ∨ r = 4 ∨ r = 5 ∨ r = 6 ∨ r = 7 ∨ r = 8 ∨ r = 9 ∨ r = 10 ∨ r = 11 ∨ r = 12 ∨ r = 13 ∨ r = 14 ∨ r = 15)
  · exact rfl
  · exact rfl
  · exact rfl
  · exact rfl
  · exact rfl
  · exact rfl
  · exact rfl
  · exact rfl
  · exact rfl
  · exact rfl
  · exact rfl
  · exact rfl
  · exact rfl
  · exact rfl
  · exact rfl
  · exact rfl
theorem zPg_11_at (r : Nat) (h : r < 16) : zPtb (176 + r) = zPg_11.getD r [] := by
  have h1 : (176 + r) / 16 = 11 := by omega
  have h2 : (176 + r) % 16 = r := by omega
  unfold zPtb
  rw [h1, h2]
  rfl
theorem zPg_12_ok : ∀ r, r < 16 → (zPg_12.getD r []).all (zChq (zCr (zRk (192 + r))) false (192 + r)) = true := fun r h => by
  obtain rfl | rfl | rfl | rfl | rfl | rfl | rfl | rfl | rfl | rfl | rfl | rfl | rfl | rfl | rfl | rfl := (by omega : r = 0 ∨ r = 1 ∨ r = 2 ∨ r = 3 ∨ r = 4 ∨ r = 5 ∨ r = 6 ∨ r = 7 ∨ r = 8 ∨ r = 9 ∨ r = 10 ∨ r = 11 ∨ r = 12 ∨ r = 13 ∨ r = 14 ∨ r = 15)
  · exact rfl
  · exact rfl
  · exact rfl
  · exact rfl
  · exact rfl
  · exact rfl
  · exact rfl
  · exact rfl
  · exact rfl
  · exact rfl
  · exact rfl
  · exact rfl
  · exact rfl
  · exact rfl
  · exact rfl
  · exact rfl
theorem zPg_12_at (r : Nat) (h : r < 16) : zPtb (192 + r) = zPg_12.getD r [] := by
  have h1 : (192 + r) / 16 = 12 := by omega
  have h2 : (192 + r) % 16 = r := by omega
  unfold zPtb
  rw [h1, h2]
  rfl
theorem zPg_13_ok : ∀ r, r < 16 → (zPg_13.getD r []).all (zChq (zCr (zRk (208 + r))) false (208 + r)) = true := fun r h => by
  obtain rfl | rfl | rfl | rfl | rfl | rfl | rfl | rfl | rfl | rfl | rfl | rfl | rfl | rfl | rfl | rfl := (by omega : r = 0 ∨ r = 1 ∨ r = 2 ∨ r = 3 ∨ r = 4 ∨ r = 5 ∨ r = 6 ∨ r = 7 ∨ r = 8 ∨ r = 9 ∨ r = 10 ∨ r = 11 ∨ r = 12 ∨ r = 13 ∨ r = 14 ∨ r = 15)
  · exact rfl
  · exact rfl
  · exact rfl
  · exact rfl
  · exact rfl
  · exact rfl
  · exact rfl
  · exact rfl
  · exact rfl
  · exact rfl
  · exact rfl
  · exact rfl
  · exact rfl
  · exact rfl
  · exact rfl
  · exact rfl
theorem zPg_13_at (r : Nat) (h : r < 16) : zPtb (208 + r) = zPg_13.getD r [] := by
  have h1 : (208 + r) / 16 = 13 := by omega
  have h2 : (208 + r) % 16 = r := by omega
  unfold zPtb
  rw [h1, h2]
  rfl
theorem zPg_14_ok : ∀ r, r < 16 → (zPg_14.getD r []).all (zChq (zCr (zRk (224 + r))) false (224 + r)) = true := fun r h => by
  obtain rfl | rfl | rfl | rfl | rfl | rfl | rfl | rfl | rfl | rfl | rfl | rfl | rfl | rfl | rfl | rfl := (by omega : r = 0 ∨ r = 1 ∨ r = 2 ∨ r = 3 ∨ r = 4 ∨ r = 5 ∨ r = 6 ∨ r = 7 ∨ r = 8 ∨ r = 9 ∨ r = 10 ∨ r = 11 ∨ r = 12 ∨ r = 13 ∨ r = 14 ∨ r = 15)
  · exact rfl
  · exact rfl
  · exact rfl
  · exact rfl
  · exact rfl
  · exact rfl
  · exact rfl
  · exact rfl
  · exact rfl
  · exact rfl
  · exact rfl
  · exact rfl
  · exact rfl
  · exact rfl
  · exact rfl
  · exact rfl
theorem zPg_14_at (r : Nat) (h : r < 16) : zPtb (224 + r) = zPg_14.getD r [] := by
  have h1 : (224 + r) / 16 = 14 := by omega
  have h2 : (224 + r) % 16 = r := by omega
  unfold zPtb
  rw [h1, h2]
  rfl
theorem zPg_15_ok : ∀ r, r < 14 → (zPg_15.getD r []).all (zChq (zCr (zRk (240 + r))) false (240 + r)) = true := fun r h => by
  obtain rfl | rfl | rfl | rfl | rfl | rfl | rfl | rfl | rfl | rfl | rfl | rfl | rfl | rfl := (by omega : r = 0 ∨ r = 1 ∨ r = 2 ∨ r = 3 ∨ r = 4 ∨ r = 5 ∨ r = 6 ∨ r = 7 ∨ r = 8 ∨ r = 9 ∨ r = 10 ∨ r = 11 ∨ r = 12 ∨ r = 13)
  · exact rfl
  · exact rfl
  · exact rfl
  · exact rfl
  · exact rfl
  · exact rfl
  · exact rfl
  · exact rfl
  · exact rfl
  · exact rfl
  · exact rfl
  · exact rfl
  · exact rfl
  · exact rfl
theorem zPg_15_at (r : Nat) (h : r < 16) : zPtb (240 + r) = zPg_15.getD r [] := by
  have h1 : (240 + r) / 16 = 15 := by omega
  have h2 : (240 + r) % 16 = r := by omega
  unfold zPtb
  rw [h1, h2]
  rfl
theorem zC_all : ∀ mi, (zPtb mi).all (zChq (zCr (zRk mi)) false mi) = true := by
  intro mi
  have hr : mi % 16 < 16 := Nat.mod_lt mi (by omega)
  have hm : mi = 16 * (mi / 16) + mi % 16 := (Nat.div_add_mod mi 16).symm
  by_cases h : mi / 16 < 16
  · generalize mi % 16 = r at hr hm
    generalize mi / 16 = q at h hm
    subst hm
    obtain rfl | rfl | rfl | rfl | rfl | rfl | rfl | rfl | rfl | rfl | rfl | rfl | rfl | rfl | rfl | rfl := (by omega : q = 0 ∨ q = 1 ∨ q = 2 ∨ q = 3 ∨ q = 4 ∨ q = 5 ∨ q = 6 ∨ q = 7 ∨ q = 8 ∨ q = 9 ∨ q = 10 ∨ q = 11 ∨ q = 12 ∨ q = 13 ∨ q = 14 ∨ q = 15)
    · have e1 : 16 * 0 + r = 0 + r := by omega
      rw [e1, zPg_0_at r hr]
      by_cases h9 : r < 16
      · exact zPg_0_ok r h9
      · rw [mGetD_out (by show 16 ≤ r; omega)]
        rfl
    · have e1 : 16 * 1 + r = 16 + r := by omega
      rw [e1, zPg_1_at r hr]
      by_cases h9 : r < 16
      · exact zPg_1_ok r h9
      · rw [mGetD_out (by show 16 ≤ r; omega)]
        rfl
    · have e1 : 16 * 2 + r = 32 + r := by omega
      rw [e1, zPg_2_at r hr]
      by_cases h9 : r < 16
      · exact zPg_2_ok r h9
      · rw [mGetD_out (by show 16 ≤ r; omega)]
        rfl
    · have e1 : 16 * 3 + r = 48 + r := by omega
      rw [e1, zPg_3_at r hr]
      by_cases h9 : r < 16
      · exact zPg_3_ok r h9
      · rw [mGetD_out (by show 16 ≤ r; omega)]
        rfl
    · have e1 : 16 * 4 + r = 64 + r := by omega
      rw [e1, zPg_4_at r hr]
      by_cases h9 : r < 16
      · exact zPg_4_ok r h9
      · rw [mGetD_out (by show 16 ≤ r; omega)]
        rfl
    · have e1 : 16 * 5 + r = 80 + r := by omega
      rw [e1, zPg_5_at r hr]
      by_cases h9 : r < 16
      · exact zPg_5_ok r h9
      · rw [mGetD_out (by show 16 ≤ r; omega)]
        rfl
    · have e1 : 16 * 6 + r = 96 + r := by omega
      rw [e1, zPg_6_at r hr]
      by_cases h9 : r < 16
      · exact zPg_6_ok r h9
      · rw [mGetD_out (by show 16 ≤ r; omega)]
        rfl
    · have e1 : 16 * 7 + r = 112 + r := by omega
      rw [e1, zPg_7_at r hr]
      by_cases h9 : r < 16
      · exact zPg_7_ok r h9
      · rw [mGetD_out (by show 16 ≤ r; omega)]
        rfl
    · have e1 : 16 * 8 + r = 128 + r := by omega
      rw [e1, zPg_8_at r hr]
      by_cases h9 : r < 16
      · exact zPg_8_ok r h9
      · rw [mGetD_out (by show 16 ≤ r; omega)]
        rfl
    · have e1 : 16 * 9 + r = 144 + r := by omega
      rw [e1, zPg_9_at r hr]
      by_cases h9 : r < 16
      · exact zPg_9_ok r h9
      · rw [mGetD_out (by show 16 ≤ r; omega)]
        rfl
    · have e1 : 16 * 10 + r = 160 + r := by omega
      rw [e1, zPg_10_at r hr]
      by_cases h9 : r < 16
      · exact zPg_10_ok r h9
      · rw [mGetD_out (by show 16 ≤ r; omega)]
        rfl
    · have e1 : 16 * 11 + r = 176 + r := by omega
      rw [e1, zPg_11_at r hr]
      by_cases h9 : r < 16
      · exact zPg_11_ok r h9
      · rw [mGetD_out (by show 16 ≤ r; omega)]
        rfl
    · have e1 : 16 * 12 + r = 192 + r := by omega
      rw [e1, zPg_12_at r hr]
      by_cases h9 : r < 16
      · exact zPg_12_ok r h9
      · rw [mGetD_out (by show 16 ≤ r; omega)]
        rfl
    · have e1 : 16 * 13 + r = 208 + r := by omega
      rw [e1, zPg_13_at r hr]
      by_cases h9 : r < 16
      · exact zPg_13_ok r h9
      · rw [mGetD_out (by show 16 ≤ r; omega)]
        rfl
    · have e1 : 16 * 14 + r = 224 + r := by omega
      rw [e1, zPg_14_at r hr]
      by_cases h9 : r < 16
      · exact zPg_14_ok r h9
      · rw [mGetD_out (by show 16 ≤ r; omega)]
        rfl
    · have e1 : 16 * 15 + r = 240 + r := by omega
      rw [e1, zPg_15_at r hr]
      by_cases h9 : r < 14
      · exact zPg_15_ok r h9
      · rw [mGetD_out (by show 14 ≤ r; omega)]
        rfl
  · have h2 : zPtb mi = [] := by
      unfold zPtb
      rw [mGetD_out (n := mi / 16) (by show 16 ≤ mi / 16; omega)]
      rfl
    rw [h2]
    rfl
theorem zCls_val (xs : Nat → Int32) (L : Nat) : ∀ (r mi : Nat), zRk mi < r → ∀ i ∈ zCt mi, zVal zC0 zXt mTab mInf (sXNl L) (sXF xs) mi i
  | 0, _, h, _, _ => by omega
  | r + 1, mi, h, i, hi => by
    obtain ⟨p, hp, rfl⟩ := List.mem_map.mp hi
    have hc := List.all_eq_true.mp (zC_all mi) p hp
    exact zChk_snd (W := zCr (zRk mi)) (zCw_ok _) (zXt_ok _ _) (fun mj j hj => by
      have hj : j ∈ (bif Nat.blt (zRk mj) (zRk mi) then zCt mj else []) := hj
      cases c : Nat.blt (zRk mj) (zRk mi) with
      | false => rw [c] at hj; cases hj
      | true =>
        rw [c] at hj
        exact zCls_val xs L r mj (by have := blt_lt c; omega) j hj) (zSx_x xs L) hc
theorem zCls_ok (xs : Nat → Int32) (L mi : Nat) (i : zS) (hi : i ∈ zCt mi) : zVal zC0 zXt mTab mInf (sXNl L) (sXF xs) mi i := zCls_val xs L (zRk mi + 1) mi (Nat.lt_succ_self _) i hi

/-! ===== all that is agreed of the check's methods is checked; written by wip/box/genallr.py ===== -/
theorem zQg_0_ok : ∀ r, r < 16 → 0 + r ≠ 165 → 0 + r ≠ 166 → 0 + r ≠ 186 → 0 + r ≠ 202 → ∃ ns, (zQg_0.getD r []).all (zChq (zQr zRx (zQrk (0 + r))) ns (0 + r)) = true := fun r h h1 h2 h3 h4 => by
  obtain rfl | rfl | rfl | rfl | rfl | rfl | rfl | rfl | rfl | rfl | rfl | rfl | rfl | rfl | rfl | rfl := (by omega : r = 0 ∨ r = 1 ∨ r = 2 ∨ r = 3 ∨ r = 4 ∨ r = 5 ∨ r = 6 ∨ r = 7 ∨ r = 8 ∨ r = 9 ∨ r = 10 ∨ r = 11 ∨ r = 12 ∨ r = 13 ∨ r = 14 ∨ r = 15)
  · exact ⟨false, rfl⟩
  · exact ⟨false, rfl⟩
  · exact ⟨false, rfl⟩
  · exact ⟨false, rfl⟩
  · exact ⟨false, rfl⟩
  · exact ⟨false, rfl⟩
  · exact ⟨false, rfl⟩
  · exact ⟨false, rfl⟩
  · exact ⟨false, rfl⟩
  · exact ⟨false, rfl⟩
  · exact ⟨false, rfl⟩
  · exact ⟨false, rfl⟩
  · exact ⟨false, rfl⟩
  · exact ⟨false, rfl⟩
  · exact ⟨false, rfl⟩
  · exact ⟨false, rfl⟩
theorem zQg_0_at (r : Nat) (h : r < 16) : zQtb (0 + r) = zQg_0.getD r [] := by
  have h1 : (0 + r) / 16 = 0 := by omega
  have h2 : (0 + r) % 16 = r := by omega
  unfold zQtb
  rw [h1, h2]
  rfl
theorem zQg_1_ok : ∀ r, r < 16 → 16 + r ≠ 165 → 16 + r ≠ 166 → 16 + r ≠ 186 → 16 + r ≠ 202 → ∃ ns, (zQg_1.getD r []).all (zChq (zQr zRx (zQrk (16 + r))) ns (16 + r)) = true := fun r h h1 h2 h3 h4 => by
  obtain rfl | rfl | rfl | rfl | rfl | rfl | rfl | rfl | rfl | rfl | rfl | rfl | rfl | rfl | rfl | rfl := (by omega : r = 0 ∨ r = 1 ∨ r = 2 ∨ r = 3 ∨ r = 4 ∨ r = 5 ∨ r = 6 ∨ r = 7 ∨ r = 8 ∨ r = 9 ∨ r = 10 ∨ r = 11 ∨ r = 12 ∨ r = 13 ∨ r = 14 ∨ r = 15)
  · exact ⟨false, rfl⟩
  · exact ⟨false, rfl⟩
  · exact ⟨false, rfl⟩
  · exact ⟨false, rfl⟩
  · exact ⟨false, rfl⟩
  · exact ⟨false, rfl⟩
  · exact ⟨false, rfl⟩
  · exact ⟨false, rfl⟩
  · exact ⟨false, rfl⟩
  · exact ⟨false, rfl⟩
  · exact ⟨false, rfl⟩
  · exact ⟨false, rfl⟩
  · exact ⟨false, rfl⟩
  · exact ⟨false, rfl⟩
  · exact ⟨false, rfl⟩
  · exact ⟨false, rfl⟩
theorem zQg_1_at (r : Nat) (h : r < 16) : zQtb (16 + r) = zQg_1.getD r [] := by
  have h1 : (16 + r) / 16 = 1 := by omega
  have h2 : (16 + r) % 16 = r := by omega
  unfold zQtb
  rw [h1, h2]
  rfl
theorem zQg_2_ok : ∀ r, r < 16 → 32 + r ≠ 165 → 32 + r ≠ 166 → 32 + r ≠ 186 → 32 + r ≠ 202 → ∃ ns, (zQg_2.getD r []).all (zChq (zQr zRx (zQrk (32 + r))) ns (32 + r)) = true := fun r h h1 h2 h3 h4 => by
  obtain rfl | rfl | rfl | rfl | rfl | rfl | rfl | rfl | rfl | rfl | rfl | rfl | rfl | rfl | rfl | rfl := (by omega : r = 0 ∨ r = 1 ∨ r = 2 ∨ r = 3 ∨ r = 4 ∨ r = 5 ∨ r = 6 ∨ r = 7 ∨ r = 8 ∨ r = 9 ∨ r = 10 ∨ r = 11 ∨ r = 12 ∨ r = 13 ∨ r = 14 ∨ r = 15)
  · exact ⟨false, rfl⟩
  · exact ⟨false, rfl⟩
  · exact ⟨false, rfl⟩
  · exact ⟨false, rfl⟩
  · exact ⟨false, rfl⟩
  · exact ⟨false, rfl⟩
  · exact ⟨false, rfl⟩
  · exact ⟨false, rfl⟩
  · exact ⟨false, rfl⟩
  · exact ⟨false, rfl⟩
  · exact ⟨false, rfl⟩
  · exact ⟨false, rfl⟩
  · exact ⟨false, rfl⟩
  · exact ⟨false, rfl⟩
  · exact ⟨false, rfl⟩
  · exact ⟨false, rfl⟩
theorem zQg_2_at (r : Nat) (h : r < 16) : zQtb (32 + r) = zQg_2.getD r [] := by
  have h1 : (32 + r) / 16 = 2 := by omega
  have h2 : (32 + r) % 16 = r := by omega
  unfold zQtb
  rw [h1, h2]
  rfl
theorem zQg_3_ok : ∀ r, r < 16 → 48 + r ≠ 165 → 48 + r ≠ 166 → 48 + r ≠ 186 → 48 + r ≠ 202 → ∃ ns, (zQg_3.getD r []).all (zChq (zQr zRx (zQrk (48 + r))) ns (48 + r)) = true := fun r h h1 h2 h3 h4 => by
  obtain rfl | rfl | rfl | rfl | rfl | rfl | rfl | rfl | rfl | rfl | rfl | rfl | rfl | rfl | rfl | rfl := (by omega : r = 0 ∨ r = 1 ∨ r = 2 ∨ r = 3 ∨ r = 4 ∨ r = 5 ∨ r = 6 ∨ r = 7 ∨ r = 8 ∨ r = 9 ∨ r = 10 ∨ r = 11 ∨ r = 12 ∨ r = 13 ∨ r = 14 ∨ r = 15)
  · exact ⟨false, rfl⟩
  · exact ⟨false, rfl⟩
  · exact ⟨false, rfl⟩
  · exact ⟨false, rfl⟩
  · exact ⟨false, rfl⟩
  · exact ⟨false, rfl⟩
  · exact ⟨false, rfl⟩
  · exact ⟨false, rfl⟩
  · exact ⟨false, rfl⟩
  · exact ⟨false, rfl⟩
  · exact ⟨false, rfl⟩
  · exact ⟨false, rfl⟩
  · exact ⟨false, rfl⟩
  · exact ⟨false, rfl⟩
  · exact ⟨false, rfl⟩
  · exact ⟨false, rfl⟩
theorem zQg_3_at (r : Nat) (h : r < 16) : zQtb (48 + r) = zQg_3.getD r [] := by
  have h1 : (48 + r) / 16 = 3 := by omega
  have h2 : (48 + r) % 16 = r := by omega
  unfold zQtb
  rw [h1, h2]
  rfl
theorem zQg_4_ok : ∀ r, r < 16 → 64 + r ≠ 165 → 64 + r ≠ 166 → 64 + r ≠ 186 → 64 + r ≠ 202 → ∃ ns, (zQg_4.getD r []).all (zChq (zQr zRx (zQrk (64 + r))) ns (64 + r)) = true := fun r h h1 h2 h3 h4 => by
  obtain rfl | rfl | rfl | rfl | rfl | rfl | rfl | rfl | rfl | rfl | rfl | rfl | rfl | rfl | rfl | rfl := (by omega : r = 0 ∨ r = 1 ∨ r = 2 ∨ r = 3 ∨ r = 4 ∨ r = 5 ∨ r = 6 ∨ r = 7 ∨ r = 8 ∨ r = 9 ∨ r = 10 ∨ r = 11 ∨ r = 12 ∨ r = 13 ∨ r = 14 ∨ r = 15)
  · exact ⟨false, rfl⟩
  · exact ⟨false, rfl⟩
  · exact ⟨false, rfl⟩
  · exact ⟨false, rfl⟩
  · exact ⟨false, rfl⟩
  · exact ⟨false, rfl⟩
  · exact ⟨false, rfl⟩
  · exact ⟨false, rfl⟩
  · exact ⟨false, rfl⟩
  · exact ⟨false, rfl⟩
  · exact ⟨false, rfl⟩
  · exact ⟨false, rfl⟩
  · exact ⟨false, rfl⟩
  · exact ⟨false, rfl⟩
  · exact ⟨false, rfl⟩
  · exact ⟨false, rfl⟩
theorem zQg_4_at (r : Nat) (h : r < 16) : zQtb (64 + r) = zQg_4.getD r [] := by
  have h1 : (64 + r) / 16 = 4 := by omega
  have h2 : (64 + r) % 16 = r := by omega
  unfold zQtb
  rw [h1, h2]
  rfl
theorem zQg_5_ok : ∀ r, r < 16 → 80 + r ≠ 165 → 80 + r ≠ 166 → 80 + r ≠ 186 → 80 + r ≠ 202 → ∃ ns, (zQg_5.getD r []).all (zChq (zQr zRx (zQrk (80 + r))) ns (80 + r)) = true := fun r h h1 h2 h3 h4 => by
  obtain rfl | rfl | rfl | rfl | rfl | rfl | rfl | rfl | rfl | rfl | rfl | rfl | rfl | rfl | rfl | rfl := (by omega : r = 0 ∨ r = 1 ∨ r = 2 ∨ r = 3 ∨ r = 4 ∨ r = 5 ∨ r = 6 ∨ r = 7 ∨ r = 8 ∨ r = 9 ∨ r = 10 ∨ r = 11 ∨ r = 12 ∨ r = 13 ∨ r = 14 ∨ r = 15)
  · exact ⟨false, rfl⟩
  · exact ⟨false, rfl⟩
  · exact ⟨false, rfl⟩
  · exact ⟨false, rfl⟩
  · exact ⟨false, rfl⟩
  · exact ⟨false, rfl⟩
  · exact ⟨false, rfl⟩
  · exact ⟨false, rfl⟩
  · exact ⟨false, rfl⟩
  · exact ⟨false, rfl⟩
  · exact ⟨false, rfl⟩
  · exact ⟨false, rfl⟩
  · exact ⟨false, rfl⟩
  · exact ⟨false, rfl⟩
  · exact ⟨false, rfl⟩
  · exact ⟨false, rfl⟩
theorem zQg_5_at (r : Nat) (h : r < 16) : zQtb (80 + r) = zQg_5.getD r [] := by
  have h1 : (80 + r) / 16 = 5 := by omega
  have h2 : (80 + r) % 16 = r := by omega
  unfold zQtb
  rw [h1, h2]
  rfl
theorem zQg_6_ok : ∀ r, r < 16 → 96 + r ≠ 165 → 96 + r ≠ 166 → 96 + r ≠ 186 → 96 + r ≠ 202 → ∃ ns, (zQg_6.getD r []).all (zChq (zQr zRx (zQrk (96 + r))) ns (96 + r)) = true := fun r h h1 h2 h3 h4 => by
  obtain rfl | rfl | rfl | rfl | rfl | rfl | rfl | rfl | rfl | rfl | rfl | rfl | rfl | rfl | rfl | rfl := (by omega : r = 0 ∨ r = 1 ∨ r = 2 ∨ r = 3 ∨ r = 4 ∨ r = 5 ∨ r = 6 ∨ r = 7 ∨ r = 8 ∨ r = 9 ∨ r = 10 ∨ r = 11 ∨ r = 12 ∨ r = 13 ∨ r = 14 ∨ r = 15)
  · exact ⟨false, rfl⟩
  · exact ⟨false, rfl⟩
  · exact ⟨false, rfl⟩
  · exact ⟨false, rfl⟩
  · exact ⟨false, rfl⟩
  · exact ⟨false, rfl⟩
  · exact ⟨false, rfl⟩
  · exact ⟨false, rfl⟩
  · exact ⟨false, rfl⟩
  · exact ⟨false, rfl⟩
  · exact ⟨false, rfl⟩
  · exact ⟨false, rfl⟩
  · exact ⟨false, rfl⟩
  · exact ⟨false, rfl⟩
  · exact ⟨false, rfl⟩
  · exact ⟨false, rfl⟩
theorem zQg_6_at (r : Nat) (h : r < 16) : zQtb (96 + r) = zQg_6.getD r [] := by
  have h1 : (96 + r) / 16 = 6 := by omega
  have h2 : (96 + r) % 16 = r := by omega
  unfold zQtb
  rw [h1, h2]
  rfl
theorem zQg_7_ok : ∀ r, r < 16 → 112 + r ≠ 165 → 112 + r ≠ 166 → 112 + r ≠ 186 → 112 + r ≠ 202 → ∃ ns, (zQg_7.getD r []).all (zChq (zQr zRx (zQrk (112 + r))) ns (112 + r)) = true := fun r h h1 h2 h3 h4 => by
  obtain rfl | rfl | rfl | rfl | rfl | rfl | rfl | rfl | rfl | rfl | rfl | rfl | rfl | rfl | rfl | rfl := (by omega : r = 0 ∨ r = 1 ∨ r = 2 ∨ r = 3 ∨ r = 4 ∨ r = 5 ∨ r = 6 ∨ r = 7 ∨ r = 8 ∨ r = 9 ∨ r = 10 ∨ r = 11 ∨ r = 12 ∨ r = 13 ∨ r = 14 ∨ r = 15)
  · exact ⟨false, rfl⟩
  · exact ⟨false, rfl⟩
  · exact ⟨false, rfl⟩
  · exact ⟨false, rfl⟩
  · exact ⟨false, rfl⟩
  · exact ⟨false, rfl⟩
  · exact ⟨false, rfl⟩
  · exact ⟨false, rfl⟩
  · exact ⟨false, rfl⟩
  · exact ⟨false, rfl⟩
  · exact ⟨false, rfl⟩
  · exact ⟨false, rfl⟩
  · exact ⟨false, rfl⟩
  · exact ⟨false, rfl⟩
  · exact ⟨false, rfl⟩
  · exact ⟨false, rfl⟩
theorem zQg_7_at (r : Nat) (h : r < 16) : zQtb (112 + r) = zQg_7.getD r [] := by
  have h1 : (112 + r) / 16 = 7 := by omega
  have h2 : (112 + r) % 16 = r := by omega
  unfold zQtb
  rw [h1, h2]
  rfl
theorem zQg_8_ok : ∀ r, r < 16 → 128 + r ≠ 165 → 128 + r ≠ 166 → 128 + r ≠ 186 → 128 + r ≠ 202 → ∃ ns, (zQg_8.getD r []).all (zChq (zQr zRx (zQrk (128 + r))) ns (128 + r)) = true := fun r h h1 h2 h3 h4 => by
  obtain rfl | rfl | rfl | rfl | rfl | rfl | rfl | rfl | rfl | rfl | rfl | rfl | rfl | rfl | rfl | rfl := (by omega : r = 0 ∨ r = 1 ∨ r = 2 ∨ r = 3 ∨ r = 4 ∨ r = 5 ∨ r = 6 ∨ r = 7 ∨ r = 8 ∨ r = 9 ∨ r = 10 ∨ r = 11 ∨ r = 12 ∨ r = 13 ∨ r = 14 ∨ r = 15)
  · exact ⟨false, rfl⟩
  · exact ⟨false, rfl⟩
  · exact ⟨false, rfl⟩
  · exact ⟨false, rfl⟩
  · exact ⟨false, rfl⟩
  · exact ⟨false, rfl⟩
  · exact ⟨false, rfl⟩
  · exact ⟨false, rfl⟩
  · exact ⟨false, rfl⟩
  · exact ⟨false, rfl⟩
  · exact ⟨false, rfl⟩
  · exact ⟨false, rfl⟩
  · exact ⟨false, rfl⟩
  · exact ⟨false, rfl⟩
  · exact ⟨false, rfl⟩
  · exact ⟨false, zD_143⟩
theorem zQg_8_at (r : Nat) (h : r < 16) : zQtb (128 + r) = zQg_8.getD r [] := by
  have h1 : (128 + r) / 16 = 8 := by omega
  have h2 : (128 + r) % 16 = r := by omega
  unfold zQtb
  rw [h1, h2]
  rfl
theorem zQg_9_ok : ∀ r, r < 16 → 144 + r ≠ 165 → 144 + r ≠ 166 → 144 + r ≠ 186 → 144 + r ≠ 202 → ∃ ns, (zQg_9.getD r []).all (zChq (zQr zRx (zQrk (144 + r))) ns (144 + r)) = true := fun r h h1 h2 h3 h4 => by
  obtain rfl | rfl | rfl | rfl | rfl | rfl | rfl | rfl | rfl | rfl | rfl | rfl | rfl | rfl | rfl | rfl := (by omega : r = 0 ∨ r = 1 ∨ r = 2 ∨ r = 3 ∨ r = 4 ∨ r = 5 ∨ r = 6 ∨ r = 7 ∨ r = 8 ∨ r = 9 ∨ r = 10 ∨ r = 11 ∨ r = 12 ∨ r = 13 ∨ r = 14 ∨ r = 15)
  · exact ⟨false, zD_144⟩
  · exact ⟨false, zD_145⟩
  · exact ⟨false, rfl⟩
  · exact ⟨false, rfl⟩
  · exact ⟨false, rfl⟩
  · exact ⟨false, rfl⟩
  · exact ⟨false, zD_150⟩
  · exact ⟨false, rfl⟩
  · exact ⟨false, zD_152⟩
  · exact ⟨false, zD_153⟩
  · exact ⟨false, zD_154⟩
  · exact ⟨false, rfl⟩
  · exact ⟨false, zD_156⟩
  · exact ⟨false, rfl⟩
  · exact ⟨false, zD_158⟩
  · exact ⟨false, rfl⟩
theorem zQg_9_at (r : Nat) (h : r < 16) : zQtb (144 + r) = zQg_9.getD r [] := by
  have h1 : (144 + r) / 16 = 9 := by omega
  have h2 : (144 + r) % 16 = r := by omega
  unfold zQtb
  rw [h1, h2]
  rfl
theorem zQg_10_ok : ∀ r, r < 16 → 160 + r ≠ 165 → 160 + r ≠ 166 → 160 + r ≠ 186 → 160 + r ≠ 202 → ∃ ns, (zQg_10.getD r []).all (zChq (zQr zRx (zQrk (160 + r))) ns (160 + r)) = true := fun r h h1 h2 h3 h4 => by
  obtain rfl | rfl | rfl | rfl | rfl | rfl | rfl | rfl | rfl | rfl | rfl | rfl | rfl | rfl | rfl | rfl := (by omega : r = 0 ∨ r = 1 ∨ r = 2 ∨ r = 3 ∨ r = 4 ∨ r = 5 ∨ r = 6 ∨ r = 7 ∨ r = 8 ∨ r = 9 ∨ r = 10 ∨ r = 11 ∨ r = 12 ∨ r = 13 ∨ r = 14 ∨ r = 15)
  · exact ⟨false, zD_160⟩
  · exact ⟨false, zD_161⟩
  · exact ⟨false, zD_162⟩
  · exact ⟨false, zD_163⟩
  · exact ⟨false, rfl⟩
  · exact absurd rfl h1
  · exact absurd rfl h2
  · exact ⟨true, zD_167⟩
  · exact ⟨false, zD_168⟩
  · exact ⟨false, rfl⟩
  · exact ⟨false, rfl⟩
  · exact ⟨false, rfl⟩
  · exact ⟨false, rfl⟩
  · exact ⟨false, rfl⟩
  · exact ⟨false, zD_174⟩
  · exact ⟨false, zD_175⟩
theorem zQg_10_at (r : Nat) (h : r < 16) : zQtb (160 + r) = zQg_10.getD r [] := by
  have h1 : (160 + r) / 16 = 10 := by omega
  have h2 : (160 + r) % 16 = r := by omega
  unfold zQtb
  rw [h1, h2]
  rfl
theorem zQg_11_ok : ∀ r, r < 16 → 176 + r ≠ 165 → 176 + r ≠ 166 → 176 + r ≠ 186 → 176 + r ≠ 202 → ∃ ns, (zQg_11.getD r []).all (zChq (zQr zRx (zQrk (176 + r))) ns (176 + r)) = true := fun r h h1 h2 h3 h4 => by
  obtain rfl | rfl | rfl | rfl | rfl | rfl | rfl | rfl | rfl | rfl | rfl | rfl | rfl | rfl | rfl | rfl := (by omega : r = 0 ∨ r = 1 ∨ r = 2 ∨ r = 3 ∨ r = 4 ∨ r = 5 ∨ r = 6 ∨ r = 7 ∨ r = 8 ∨ r = 9 ∨ r = 10 ∨ r = 11 ∨ r = 12 ∨ r = 13 ∨ r = 14 ∨ r = 15)
  · exact ⟨false, zD_176⟩
  · exact ⟨false, rfl⟩
  · exact ⟨false, zD_178⟩
  · exact ⟨false, rfl⟩
  · exact ⟨false, zD_180⟩
  · exact ⟨false, rfl⟩
  · exact ⟨false, zD_182⟩
  · exact ⟨false, rfl⟩
  · exact ⟨false, zD_184⟩
  · exact ⟨false, rfl⟩
  · exact absurd rfl h3
  · exact ⟨false, zD_187⟩
  · exact ⟨true, zD_188⟩
  · exact ⟨false, rfl⟩
  · exact ⟨false, rfl⟩
  · exact ⟨false, zD_191⟩
theorem zQg_11_at (r : Nat) (h : r < 16) : zQtb (176 + r) = zQg_11.getD r [] := by
  have h1 : (176 + r) / 16 = 11 := by omega
  have h2 : (176 + r) % 16 = r := by omega
  unfold zQtb
  rw [h1, h2]
  rfl
theorem zQg_12_ok : ∀ r, r < 16 → 192 + r ≠ 165 → 192 + r ≠ 166 → 192 + r ≠ 186 → 192 + r ≠ 202 → ∃ ns, (zQg_12.getD r []).all (zChq (zQr zRx (zQrk (192 + r))) ns (192 + r)) = true := fun r h h1 h2 h3 h4 => by
  obtain rfl | rfl | rfl | rfl | rfl | rfl | rfl | rfl | rfl | rfl | rfl | rfl | rfl | rfl | rfl | rfl := (by omega : r = 0 ∨ r = 1 ∨ r = 2 ∨ r = 3 ∨ r = 4 ∨ r = 5 ∨ r = 6 ∨ r = 7 ∨ r = 8 ∨ r = 9 ∨ r = 10 ∨ r = 11 ∨ r = 12 ∨ r = 13 ∨ r = 14 ∨ r = 15)
  · exact ⟨true, zD_192⟩
  · exact ⟨false, rfl⟩
  · exact ⟨false, zD_194⟩
  · exact ⟨false, zD_195⟩
  · exact ⟨false, zD_196⟩
  · exact ⟨false, zD_197⟩
  · exact ⟨false, rfl⟩
  · exact ⟨false, zD_199⟩
  · exact ⟨false, rfl⟩
  · exact ⟨false, zD_201⟩
  · exact absurd rfl h4
  · exact ⟨false, rfl⟩
  · exact ⟨false, zD_204⟩
  · exact ⟨false, rfl⟩
  · exact ⟨false, zD_206⟩
  · exact ⟨false, zD_207⟩
theorem zQg_12_at (r : Nat) (h : r < 16) : zQtb (192 + r) = zQg_12.getD r [] := by
  have h1 : (192 + r) / 16 = 12 := by omega
  have h2 : (192 + r) % 16 = r := by omega
  unfold zQtb
  rw [h1, h2]
  rfl
theorem zQg_13_ok : ∀ r, r < 16 → 208 + r ≠ 165 → 208 + r ≠ 166 → 208 + r ≠ 186 → 208 + r ≠ 202 → ∃ ns, (zQg_13.getD r []).all (zChq (zQr zRx (zQrk (208 + r))) ns (208 + r)) = true := fun r h h1 h2 h3 h4 => by
  obtain rfl | rfl | rfl | rfl | rfl | rfl | rfl | rfl | rfl | rfl | rfl | rfl | rfl | rfl | rfl | rfl := (by omega : r = 0 ∨ r = 1 ∨ r = 2 ∨ r = 3 ∨ r = 4 ∨ r = 5 ∨ r = 6 ∨ r = 7 ∨ r = 8 ∨ r = 9 ∨ r = 10 ∨ r = 11 ∨ r = 12 ∨ r = 13 ∨ r = 14 ∨ r = 15)
  · exact ⟨false, zD_208⟩
  · exact ⟨false, zD_209⟩
  · exact ⟨false, rfl⟩
  · exact ⟨false, zD_211⟩
  · exact ⟨false, rfl⟩
  · exact ⟨false, rfl⟩
  · exact ⟨false, rfl⟩
  · exact ⟨false, zD_215⟩
  · exact ⟨false, rfl⟩
  · exact ⟨false, zD_217⟩
  · exact ⟨false, zD_218⟩
  · exact ⟨false, zD_219⟩
  · exact ⟨false, zD_220⟩
  · exact ⟨false, zD_221⟩
  · exact ⟨false, zD_222⟩
  · exact ⟨false, zD_223⟩
theorem zQg_13_at (r : Nat) (h : r < 16) : zQtb (208 + r) = zQg_13.getD r [] := by
  have h1 : (208 + r) / 16 = 13 := by omega
  have h2 : (208 + r) % 16 = r := by omega
  unfold zQtb
  rw [h1, h2]
  rfl
theorem zQg_14_ok : ∀ r, r < 16 → 224 + r ≠ 165 → 224 + r ≠ 166 → 224 + r ≠ 186 → 224 + r ≠ 202 → ∃ ns, (zQg_14.getD r []).all (zChq (zQr zRx (zQrk (224 + r))) ns (224 + r)) = true := fun r h h1 h2 h3 h4 => by
  obtain rfl | rfl | rfl | rfl | rfl | rfl | rfl | rfl | rfl | rfl | rfl | rfl | rfl | rfl | rfl | rfl := (by omega : r = 0 ∨ r = 1 ∨ r = 2 ∨ r = 3 ∨ r = 4 ∨ r = 5 ∨ r = 6 ∨ r = 7 ∨ r = 8 ∨ r = 9 ∨ r = 10 ∨ r = 11 ∨ r = 12 ∨ r = 13 ∨ r = 14 ∨ r = 15)
  · exact ⟨false, zD_224⟩
  · exact ⟨false, zD_225⟩
  · exact ⟨false, rfl⟩
  · exact ⟨false, rfl⟩
  · exact ⟨true, zD_228⟩
  · exact ⟨false, zD_229⟩
  · exact ⟨false, rfl⟩
  · exact ⟨false, zD_231⟩
  · exact ⟨false, zD_232⟩
  · exact ⟨false, zD_233⟩
  · exact ⟨false, zD_234⟩
  · exact ⟨false, rfl⟩
  · exact ⟨false, rfl⟩
  · exact ⟨false, rfl⟩
  · exact ⟨false, rfl⟩
  · exact ⟨false, zD_239⟩
theorem zQg_14_at (r : Nat) (h : r < 16) : zQtb (224 + r) = zQg_14.getD r [] := by
  have h1 : (224 + r) / 16 = 14 := by omega
  have h2 : (224 + r) % 16 = r := by omega
  unfold zQtb
  rw [h1, h2]
  rfl
theorem zQg_15_ok : ∀ r, r < 14 → 240 + r ≠ 165 → 240 + r ≠ 166 → 240 + r ≠ 186 → 240 + r ≠ 202 → ∃ ns, (zQg_15.getD r []).all (zChq (zQr zRx (zQrk (240 + r))) ns (240 + r)) = true := fun r h h1 h2 h3 h4 => by
  obtain rfl | rfl | rfl | rfl | rfl | rfl | rfl | rfl | rfl | rfl | rfl | rfl | rfl | rfl := (by omega : r = 0 ∨ r = 1 ∨ r = 2 ∨ r = 3 ∨ r = 4 ∨ r = 5 ∨ r = 6 ∨ r = 7 ∨ r = 8 ∨ r = 9 ∨ r = 10 ∨ r = 11 ∨ r = 12 ∨ r = 13)
  · exact ⟨false, zD_240⟩
  · exact ⟨true, zD_241⟩
  · exact ⟨true, zD_242⟩
  · exact ⟨true, zD_243⟩
  · exact ⟨true, zD_244⟩
  · exact ⟨false, zD_245⟩
  · exact ⟨false, rfl⟩
  · exact ⟨false, zD_247⟩
  · exact ⟨false, zD_248⟩
  · exact ⟨false, zD_249⟩
  · exact ⟨false, rfl⟩
  · exact ⟨false, rfl⟩
  · exact ⟨false, rfl⟩
  · exact ⟨false, rfl⟩
theorem zQg_15_at (r : Nat) (h : r < 16) : zQtb (240 + r) = zQg_15.getD r [] := by
  have h1 : (240 + r) / 16 = 15 := by omega
  have h2 : (240 + r) % 16 = r := by omega
  unfold zQtb
  rw [h1, h2]
  rfl
theorem zChecks_ok : zChecks := by
  intro mi e1 e2 e3 e4
  have hr : mi % 16 < 16 := Nat.mod_lt mi (by omega)
  have hm : mi = 16 * (mi / 16) + mi % 16 := (Nat.div_add_mod mi 16).symm
  by_cases h : mi / 16 < 16
  · generalize mi % 16 = r at hr hm
    generalize mi / 16 = q at h hm
    subst hm
    obtain rfl | rfl | rfl | rfl | rfl | rfl | rfl | rfl | rfl | rfl | rfl | rfl | rfl | rfl | rfl | rfl := (by omega : q = 0 ∨ q = 1 ∨ q = 2 ∨ q = 3 ∨ q = 4 ∨ q = 5 ∨ q = 6 ∨ q = 7 ∨ q = 8 ∨ q = 9 ∨ q = 10 ∨ q = 11 ∨ q = 12 ∨ q = 13 ∨ q = 14 ∨ q = 15)
    · have e9 : 16 * 0 + r = 0 + r := by omega
      rw [e9] at e1 e2 e3 e4 ⊢
      rw [zQg_0_at r hr]
      by_cases h9 : r < 16
      · exact zQg_0_ok r h9 e1 e2 e3 e4
      · rw [mGetD_out (by show 16 ≤ r; omega)]
        exact ⟨false, rfl⟩
    · have e9 : 16 * 1 + r = 16 + r := by omega
      rw [e9] at e1 e2 e3 e4 ⊢
      rw [zQg_1_at r hr]
      by_cases h9 : r < 16
      · exact zQg_1_ok r h9 e1 e2 e3 e4
      · rw [mGetD_out (by show 16 ≤ r; omega)]
        exact ⟨false, rfl⟩
    · have e9 : 16 * 2 + r = 32 + r := by omega
      rw [e9] at e1 e2 e3 e4 ⊢
      rw [zQg_2_at r hr]
      by_cases h9 : r < 16
      · exact zQg_2_ok r h9 e1 e2 e3 e4
      · rw [mGetD_out (by show 16 ≤ r; omega)]
        exact ⟨false, rfl⟩
    · have e9 : 16 * 3 + r = 48 + r := by omega
      rw [e9] at e1 e2 e3 e4 ⊢
      rw [zQg_3_at r hr]
      by_cases h9 : r < 16
      · exact zQg_3_ok r h9 e1 e2 e3 e4
      · rw [mGetD_out (by show 16 ≤ r; omega)]
        exact ⟨false, rfl⟩
    · have e9 : 16 * 4 + r = 64 + r := by omega
      rw [e9] at e1 e2 e3 e4 ⊢
      rw [zQg_4_at r hr]
      by_cases h9 : r < 16
      · exact zQg_4_ok r h9 e1 e2 e3 e4
      · rw [mGetD_out (by show 16 ≤ r; omega)]
        exact ⟨false, rfl⟩
    · have e9 : 16 * 5 + r = 80 + r := by omega
      rw [e9] at e1 e2 e3 e4 ⊢
      rw [zQg_5_at r hr]
      by_cases h9 : r < 16
      · exact zQg_5_ok r h9 e1 e2 e3 e4
      · rw [mGetD_out (by show 16 ≤ r; omega)]
        exact ⟨false, rfl⟩
    · have e9 : 16 * 6 + r = 96 + r := by omega
      rw [e9] at e1 e2 e3 e4 ⊢
      rw [zQg_6_at r hr]
      by_cases h9 : r < 16
      · exact zQg_6_ok r h9 e1 e2 e3 e4
      · rw [mGetD_out (by show 16 ≤ r; omega)]
        exact ⟨false, rfl⟩
    · have e9 : 16 * 7 + r = 112 + r := by omega
      rw [e9] at e1 e2 e3 e4 ⊢
      rw [zQg_7_at r hr]
      by_cases h9 : r < 16
      · exact zQg_7_ok r h9 e1 e2 e3 e4
      · rw [mGetD_out (by show 16 ≤ r; omega)]
        exact ⟨false, rfl⟩
    · have e9 : 16 * 8 + r = 128 + r := by omega
      rw [e9] at e1 e2 e3 e4 ⊢
      rw [zQg_8_at r hr]
      by_cases h9 : r < 16
      · exact zQg_8_ok r h9 e1 e2 e3 e4
      · rw [mGetD_out (by show 16 ≤ r; omega)]
        exact ⟨false, rfl⟩
    · have e9 : 16 * 9 + r = 144 + r := by omega
      rw [e9] at e1 e2 e3 e4 ⊢
      rw [zQg_9_at r hr]
      by_cases h9 : r < 16
      · exact zQg_9_ok r h9 e1 e2 e3 e4
      · rw [mGetD_out (by show 16 ≤ r; omega)]
        exact ⟨false, rfl⟩
    · have e9 : 16 * 10 + r = 160 + r := by omega
      rw [e9] at e1 e2 e3 e4 ⊢
      rw [zQg_10_at r hr]
      by_cases h9 : r < 16
      · exact zQg_10_ok r h9 e1 e2 e3 e4
      · rw [mGetD_out (by show 16 ≤ r; omega)]
        exact ⟨false, rfl⟩
    · have e9 : 16 * 11 + r = 176 + r := by omega
      rw [e9] at e1 e2 e3 e4 ⊢
      rw [zQg_11_at r hr]
      by_cases h9 : r < 16
      · exact zQg_11_ok r h9 e1 e2 e3 e4
      · rw [mGetD_out (by show 16 ≤ r; omega)]
        exact ⟨false, rfl⟩
    · have e9 : 16 * 12 + r = 192 + r := by omega
      rw [e9] at e1 e2 e3 e4 ⊢
      rw [zQg_12_at r hr]
      by_cases h9 : r < 16
      · exact zQg_12_ok r h9 e1 e2 e3 e4
      · rw [mGetD_out (by show 16 ≤ r; omega)]
        exact ⟨false, rfl⟩
    · have e9 : 16 * 13 + r = 208 + r := by omega
      rw [e9] at e1 e2 e3 e4 ⊢
      rw [zQg_13_at r hr]
      by_cases h9 : r < 16
      · exact zQg_13_ok r h9 e1 e2 e3 e4
      · rw [mGetD_out (by show 16 ≤ r; omega)]
        exact ⟨false, rfl⟩
    · have e9 : 16 * 14 + r = 224 + r := by omega
      rw [e9] at e1 e2 e3 e4 ⊢
      rw [zQg_14_at r hr]
      by_cases h9 : r < 16
      · exact zQg_14_ok r h9 e1 e2 e3 e4
      · rw [mGetD_out (by show 16 ≤ r; omega)]
        exact ⟨false, rfl⟩
    · have e9 : 16 * 15 + r = 240 + r := by omega
      rw [e9] at e1 e2 e3 e4 ⊢
      rw [zQg_15_at r hr]
      by_cases h9 : r < 14
      · exact zQg_15_ok r h9 e1 e2 e3 e4
      · rw [mGetD_out (by show 14 ≤ r; omega)]
        exact ⟨false, rfl⟩
  · rw [(zQrk_out (by omega)).2]
    exact ⟨false, rfl⟩
theorem zTicks_ok : zTicksOk := zD_202

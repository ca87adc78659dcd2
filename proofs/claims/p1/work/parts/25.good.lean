/-! ===== whatever the script: the law ends with 1 ===== -/
theorem s_short (xs : Nat → Int32) {L : Nat} (hL : L < 5) : sGood L xs := by
  have hi : sIn (sRho xs) (sB0 0 63 (-2147483648) 2147483647 (-2147483648) 2147483647) := sRho_in xs (and63 _) (i32_rg _) (i32_rg _)
  obtain rfl | rfl | rfl | rfl | rfl := (by omega : L = 0 ∨ L = 1 ∨ L = 2 ∨ L = 3 ∨ L = 4)
  · exact s_use (by omega) s_short_0 sNo_ok hi
  · exact s_use (by omega) s_short_1 sNo_ok hi
  · exact s_use (by omega) s_short_2 sNo_ok hi
  · exact s_use (by omega) s_short_3 sNo_ok hi
  · exact s_use (by omega) s_short_4 sNo_ok hi
/-! ===== scripts of five ===== -/
theorem s_five (xs : Nat → Int32) : sGood 5 xs := by
  have hT : sShOk mTab mInf (sXNl 5) (sXF xs) sShT (sRho xs) := sShT_ok (sXF_rel xs (Nat.le_refl 5)) (sRho_kn xs)
  have b : -2147483648 ≤ sRho xs 3 ∧ sRho xs 3 ≤ 2147483647 := i32_rg (xs 1)
  have c : -2147483648 ≤ sRho xs 4 ∧ sRho xs 4 ≤ 2147483647 := i32_rg (xs 2)
  have a : 0 ≤ sRho xs 2 ∧ sRho xs 2 ≤ 63 := and63 (xs 0)
  have U : ∀ {Sh : sSh} {l h l3 h3 l4 h4 : Int}, sShOk mTab mInf (sXNl 5) (sXF xs) Sh (sRho xs) → sExec mTab mInf sXN sXX Sh 200000 12 470 253 s0 (sB0 l h l3 h3 l4 h4) sFin = true → l ≤ sRho xs 2 ∧ sRho xs 2 ≤ h → l3 ≤ sRho xs 3 ∧ sRho xs 3 ≤ h3 → l4 ≤ sRho xs 4 ∧ sRho xs 4 ≤ h4 → sGood 5 xs := fun h1 h2 h3 h4 h5 => s_use (Nat.le_refl 5) h2 h1 (sRho_in xs h3 h4 h5)
  generalize sRho xs 2 = r2 at a U
  generalize sRho xs 3 = r3 at b U
  generalize sRho xs 4 = r4 at c U
  have hd : r2 = 0 ∨ r2 = 1 ∨ r2 = 2 ∨ r2 = 3 ∨ r2 = 4 ∨ r2 = 5 ∨ r2 = 6 ∨ r2 = 7 ∨ r2 = 8 ∨ r2 = 9 ∨ r2 = 10 ∨ r2 = 11 ∨ r2 = 12 ∨ r2 = 13 ∨ r2 = 14 ∨ r2 = 15 ∨ r2 = 16 ∨ r2 = 17 ∨ r2 = 18 ∨ r2 = 19 ∨ r2 = 20 ∨ r2 = 21 ∨ r2 = 22 ∨ r2 = 23 ∨ r2 = 24 ∨ r2 = 25 ∨ r2 = 26 ∨ r2 = 27 ∨ r2 = 28 ∨ r2 = 29 ∨ r2 = 30 ∨ r2 = 31 ∨ r2 = 32 ∨ r2 = 33 ∨ 34 ≤ r2 := by omega
  rcases hd with e | e | e | e | e | e | e | e | e | e | e | e | e | e | e | e | e | e | e | e | e | e | e | e | e | e | e | e | e | e | e | e | e | e | e
  · exact U sNo_ok s_op_0 ⟨by omega, by omega⟩ b c
  · exact U sNo_ok s_op_1 ⟨by omega, by omega⟩ b c
  · exact U sNo_ok s_op_2 ⟨by omega, by omega⟩ b c
  · exact U sNo_ok s_op_3 ⟨by omega, by omega⟩ b c
  · exact U sNo_ok s_op_4 ⟨by omega, by omega⟩ b c
  · exact U sNo_ok s_op_5 ⟨by omega, by omega⟩ b c
  · exact U sNo_ok s_op_6 ⟨by omega, by omega⟩ b c
  · exact U sNo_ok s_op_7 ⟨by omega, by omega⟩ b c
  · exact U sNo_ok s_op_8 ⟨by omega, by omega⟩ b c
  · exact U sNo_ok s_op_9 ⟨by omega, by omega⟩ b c
  · have hd : r3 ≤ 10 ∨ (11 ≤ r3 ∧ r3 ≤ 16) ∨ (17 ≤ r3 ∧ r3 ≤ 21) ∨ (22 ≤ r3 ∧ r3 ≤ 26) ∨ 27 ≤ r3 := by omega
    rcases hd with f | f | f | f | f
    · exact U sNo_ok s_op_10_0 ⟨by omega, by omega⟩ ⟨by omega, by omega⟩ c
    · exact U sNo_ok s_op_10_1 ⟨by omega, by omega⟩ ⟨by omega, by omega⟩ c
    · exact U sNo_ok s_op_10_2 ⟨by omega, by omega⟩ ⟨by omega, by omega⟩ c
    · exact U sNo_ok s_op_10_3 ⟨by omega, by omega⟩ ⟨by omega, by omega⟩ c
    · exact U sNo_ok s_op_10_4 ⟨by omega, by omega⟩ ⟨by omega, by omega⟩ c
  · exact U sNo_ok s_op_11 ⟨by omega, by omega⟩ b c
  · exact U sNo_ok s_op_12 ⟨by omega, by omega⟩ b c
  · exact U sNo_ok s_op_13 ⟨by omega, by omega⟩ b c
  · exact U hT s_op_14 ⟨by omega, by omega⟩ b c
  · exact U sNo_ok s_op_15 ⟨by omega, by omega⟩ b c
  · exact U sNo_ok s_op_16 ⟨by omega, by omega⟩ b c
  · exact U sNo_ok s_op_17 ⟨by omega, by omega⟩ b c
  · exact U sNo_ok s_op_18 ⟨by omega, by omega⟩ b c
  · exact U sNo_ok s_op_19 ⟨by omega, by omega⟩ b c
  · exact U sNo_ok s_op_20 ⟨by omega, by omega⟩ b c
  · exact U sNo_ok s_op_21 ⟨by omega, by omega⟩ b c
  · exact U sNo_ok s_op_22 ⟨by omega, by omega⟩ b c
  · exact U sNo_ok s_op_23 ⟨by omega, by omega⟩ b c
  · exact U sNo_ok s_op_24 ⟨by omega, by omega⟩ b c
  · exact U sNo_ok s_op_25 ⟨by omega, by omega⟩ b c
  · exact U sNo_ok s_op_26 ⟨by omega, by omega⟩ b c
  · have hd : r4 ≤ -1 ∨ 6 ≤ r4 ∨ r4 = 0 ∨ r4 = 1 ∨ r4 = 2 ∨ r4 = 3 ∨ r4 = 4 ∨ r4 = 5 := by omega
    rcases hd with f | f | f | f | f | f | f | f
    · exact U hT s_op_27_l ⟨by omega, by omega⟩ b ⟨by omega, by omega⟩
    · exact U hT s_op_27_h ⟨by omega, by omega⟩ b ⟨by omega, by omega⟩
    · exact U hT s_op_27_0 ⟨by omega, by omega⟩ b ⟨by omega, by omega⟩
    · exact U hT s_op_27_1 ⟨by omega, by omega⟩ b ⟨by omega, by omega⟩
    · exact U hT s_op_27_2 ⟨by omega, by omega⟩ b ⟨by omega, by omega⟩
    · exact U hT s_op_27_3 ⟨by omega, by omega⟩ b ⟨by omega, by omega⟩
    · exact U hT s_op_27_4 ⟨by omega, by omega⟩ b ⟨by omega, by omega⟩
    · exact U hT s_op_27_5 ⟨by omega, by omega⟩ b ⟨by omega, by omega⟩
  · have hd : r3 ≤ -1 ∨ 3 ≤ r3 ∨ r3 = 0 ∨ r3 = 1 ∨ r3 = 2 := by omega
    rcases hd with f | f | f | f | f
    · exact U hT s_op_28_sl ⟨by omega, by omega⟩ ⟨by omega, by omega⟩ c
    · exact U hT s_op_28_sh ⟨by omega, by omega⟩ ⟨by omega, by omega⟩ c
    · have hd : r4 ≤ -1 ∨ 3 ≤ r4 ∨ r4 = 0 ∨ r4 = 1 ∨ r4 = 2 := by omega
      rcases hd with g | g | g | g | g
      · exact U hT s_op_28_0_l ⟨by omega, by omega⟩ ⟨by omega, by omega⟩ ⟨by omega, by omega⟩
      · exact U hT s_op_28_0_h ⟨by omega, by omega⟩ ⟨by omega, by omega⟩ ⟨by omega, by omega⟩
      · exact U hT s_op_28_0_0 ⟨by omega, by omega⟩ ⟨by omega, by omega⟩ ⟨by omega, by omega⟩
      · exact U hT s_op_28_0_1 ⟨by omega, by omega⟩ ⟨by omega, by omega⟩ ⟨by omega, by omega⟩
      · exact U hT s_op_28_0_2 ⟨by omega, by omega⟩ ⟨by omega, by omega⟩ ⟨by omega, by omega⟩
    · have hd : r4 ≤ -1 ∨ 3 ≤ r4 ∨ r4 = 0 ∨ r4 = 1 ∨ r4 = 2 := by omega
      rcases hd with g | g | g | g | g
      · exact U hT s_op_28_1_l ⟨by omega, by omega⟩ ⟨by omega, by omega⟩ ⟨by omega, by omega⟩
      · exact U hT s_op_28_1_h ⟨by omega, by omega⟩ ⟨by omega, by omega⟩ ⟨by omega, by omega⟩
      · exact U hT s_op_28_1_0 ⟨by omega, by omega⟩ ⟨by omega, by omega⟩ ⟨by omega, by omega⟩
      · exact U hT s_op_28_1_1 ⟨by omega, by omega⟩ ⟨by omega, by omega⟩ ⟨by omega, by omega⟩
      · exact U hT s_op_28_1_2 ⟨by omega, by omega⟩ ⟨by omega, by omega⟩ ⟨by omega, by omega⟩
    · have hd : r4 ≤ -1 ∨ 3 ≤ r4 ∨ r4 = 0 ∨ r4 = 1 ∨ r4 = 2 := by omega
      rcases hd with g | g | g | g | g
      · exact U hT s_op_28_2_l ⟨by omega, by omega⟩ ⟨by omega, by omega⟩ ⟨by omega, by omega⟩
      · exact U hT s_op_28_2_h ⟨by omega, by omega⟩ ⟨by omega, by omega⟩ ⟨by omega, by omega⟩
      · exact U hT s_op_28_2_0 ⟨by omega, by omega⟩ ⟨by omega, by omega⟩ ⟨by omega, by omega⟩
      · exact U hT s_op_28_2_1 ⟨by omega, by omega⟩ ⟨by omega, by omega⟩ ⟨by omega, by omega⟩
      · exact U hT s_op_28_2_2 ⟨by omega, by omega⟩ ⟨by omega, by omega⟩ ⟨by omega, by omega⟩
  · exact U sNo_ok s_op_29 ⟨by omega, by omega⟩ b c
  · exact U sNo_ok s_op_30 ⟨by omega, by omega⟩ b c
  · exact U sNo_ok s_op_31 ⟨by omega, by omega⟩ b c
  · exact U sNo_ok s_op_32 ⟨by omega, by omega⟩ b c
  · exact U sNo_ok s_op_33 ⟨by omega, by omega⟩ b c
  · exact U sNo_ok s_op_rest ⟨by omega, by omega⟩ b c

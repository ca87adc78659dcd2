/-! ===== draws and frames ===== -/
theorem dUsh_8 (x : Int) : 0 ≤ dUsh x 8 := by
  unfold dUsh
  rw [show ((dI 8).toUInt32 &&& Int32.toUInt32 31) = 8 from by decide +kernel]
  generalize (dI x).toUInt32 = a
  have h : (a >>> 8).toNat = a.toNat >>> 8 := by rw [UInt32.toNat_shiftRight]; rfl
  have h2 := a.toNat_lt
  show 0 ≤ (a >>> 8).toBitVec.toInt
  have h3 : (a >>> 8).toBitVec.toNat = a.toNat / 256 := by
    rw [← Nat.shiftRight_eq_div_pow a.toNat 8] at *
    exact h
  rw [BitVec.toInt_eq_toNat_of_lt (by rw [h3]; omega)]
  omega
theorem sp_draw {N : mMem} {x : Int} (hx : 1 ≤ x ∧ x ≤ 1000) : ∃ N1 v, fX3_draw_R N x = some (N1, v) ∧ (0 ≤ v ∧ v < x) ∧ ∀ k, k < 2097152 → k ≠ 2050 → dG N1 k = dG N k := by
  unfold fX3_draw_R dlt
  rw [if_pos (by omega)]
  have fr : ∀ k, k < 2097152 → k ≠ 2050 → dG (dP N 2050 (dW ((dW (1664525 * (dG N 2050))) + 1013904223))) k = dG N k := fun k a b => dG_n b (by decide) a
  generalize dP N 2050 (dW ((dW (1664525 * (dG N 2050))) + 1013904223)) = M at fr ⊢
  dsimp only
  rw [dgd_t ⟨dUsh_8 _, by omega⟩]
  exact ⟨M, _, rfl, ⟨Int.emod_nonneg _ (by omega), Int.emod_lt_of_pos _ (by omega)⟩, fr⟩
theorem sp_canFrame (N : mMem) (a b c d : Int) (h8 : dG N 2048 ≤ 8) : (fX3_canFrame_R N a b c d = some (N, 0)) ∨ (fX3_canFrame_R N a b c d = some (N, 1) ∧ (0 ≤ a ∧ a < dG N 2048) ∧ (0 ≤ b ∧ b < dG N 2048) ∧ (1 ≤ c ∧ c ≤ 3) ∧ (1 ≤ d ∧ d ≤ dG N 4096) ∧ ∀ u : Nat, a = (u : Int) → dG N (67587 + 26624 * u) < 8) := by
  unfold fX3_canFrame_R fX3_canFrame_R_b67
  rw [dbd_s (sp_has N a)]
  by_cases ha : 0 ≤ a ∧ a < dG N 2048
  · rw [if_pos ha, if_neg (by decide), dbd_s (sp_has N b)]
    by_cases hb : 0 ≤ b ∧ b < dG N 2048
    · rw [if_pos hb, if_neg (by decide)]
      by_cases e1 : a = b
      · rw [if_pos e1]; exact .inl rfl
      rw [if_neg e1]
      by_cases e2 : c < 1
      · rw [if_pos e2]; exact .inl rfl
      rw [if_neg e2]
      by_cases e3 : 3 < c
      · rw [if_pos e3]; exact .inl rfl
      rw [if_neg e3]
      by_cases e4 : d < 1
      · rw [if_pos e4]; exact .inl rfl
      rw [if_neg e4]
      by_cases e5 : dG N 4096 < d
      · rw [if_pos e5]; exact .inl rfl
      rw [if_neg e5, dgd_t ⟨by omega, by omega⟩]
      unfold dln fX4_isFull_L
      dsimp only
      by_cases e6 : dG N (67587 + 26624 * a.toNat) < 8
      · rw [if_pos e6]
        refine .inr ⟨rfl, ha, hb, ⟨by omega, by omega⟩, ⟨by omega, by omega⟩, fun u hu => ?_⟩
        rw [show u = a.toNat by omega]
        exact e6
      · rw [if_neg e6]; exact .inl rfl
    · rw [if_neg hb, if_pos rfl]; exact .inl rfl
  · rw [if_neg ha, if_pos rfl]; exact .inl rfl


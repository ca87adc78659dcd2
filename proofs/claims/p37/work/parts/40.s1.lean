/-! ===== what the functions say: log and book, leaves ===== -/
/-- all places outside a..b stand -/
noncomputable def dOut (a b : Nat) (N N1 : mMem) : Prop := ∀ k, k < 2097152 → (k < a ∨ b ≤ k) → dG N1 k = dG N k
theorem dOut_0 {a b : Nat} (N : mMem) : dOut a b N N := fun _ _ _ => rfl
theorem dOut_t {a b : Nat} {N N1 N2 : mMem} (h1 : dOut a b N N1) (h2 : dOut a b N1 N2) : dOut a b N N2 := fun k hk h => (h2 k hk h).trans (h1 k hk h)
theorem dOut_P {a b k : Nat} {v : Int} (N : mMem) (h : a ≤ k) (h2 : k < b) (h3 : b ≤ 2097152) : dOut a b N (dP N k v) := fun j hj q => dG_n (by omega) (by omega) hj
theorem dEm {x m : Int} (h : 0 ≤ x) (hm : 0 < m) : 0 ≤ x % m ∧ x % m < m := ⟨Int.emod_nonneg x (by omega), Int.emod_lt_of_pos x hm⟩

theorem sp_X2_put_Gc0 (N : mMem) (x : Int) : ∃ N1, fX2_put_Gc0 N x = some (N1, 0) ∧ dOut 26624 38912 N N1 := by
  unfold fX2_put_Gc0
  have r := dG_R N 26627
  by_cases h : 0 < dG N 26627
  · rw [if_pos h, dW_id (x := dG N 26627 - 1) ⟨by omega, by omega⟩, dgd_t ⟨by omega, by decide⟩]
    obtain ⟨e1, e2⟩ := dEm (x := dG N 26627 - 1) (m := 60) (by omega) (by decide)
    rw [dgd_t ⟨e1, e2⟩]
    exact ⟨_, rfl, dOut_P N (by omega) (by omega) (by decide)⟩
  · rw [if_neg h]
    exact ⟨N, rfl, dOut_0 N⟩
theorem sp_X2_put_Gc1 (N : mMem) (x : Int) : ∃ N1, fX2_put_Gc1 N x = some (N1, 0) ∧ dOut 26624 38912 N N1 := by
  unfold fX2_put_Gc1
  have r := dG_R N 26627
  by_cases h : 0 < dG N 26627
  · rw [if_pos h, dW_id (x := dG N 26627 - 1) ⟨by omega, by omega⟩, dgd_t ⟨by omega, by decide⟩]
    obtain ⟨e1, e2⟩ := dEm (x := dG N 26627 - 1) (m := 60) (by omega) (by decide)
    rw [dgd_t ⟨e1, e2⟩]
    exact ⟨_, rfl, dOut_P N (by omega) (by omega) (by decide)⟩
  · rw [if_neg h]
    exact ⟨N, rfl, dOut_0 N⟩
theorem sp_X2_put_Gc2 (N : mMem) (x : Int) : ∃ N1, fX2_put_Gc2 N x = some (N1, 0) ∧ dOut 26624 38912 N N1 := by
  unfold fX2_put_Gc2
  have r := dG_R N 26627
  by_cases h : 0 < dG N 26627
  · rw [if_pos h, dW_id (x := dG N 26627 - 1) ⟨by omega, by omega⟩, dgd_t ⟨by omega, by decide⟩]
    obtain ⟨e1, e2⟩ := dEm (x := dG N 26627 - 1) (m := 60) (by omega) (by decide)
    rw [dgd_t ⟨e1, e2⟩]
    exact ⟨_, rfl, dOut_P N (by omega) (by omega) (by decide)⟩
  · rw [if_neg h]
    exact ⟨N, rfl, dOut_0 N⟩
theorem sp_X2_put_Gc3 (N : mMem) (x : Int) : ∃ N1, fX2_put_Gc3 N x = some (N1, 0) ∧ dOut 26624 38912 N N1 := by
  unfold fX2_put_Gc3
  have r := dG_R N 26627
  by_cases h : 0 < dG N 26627
  · rw [if_pos h, dW_id (x := dG N 26627 - 1) ⟨by omega, by omega⟩, dgd_t ⟨by omega, by decide⟩]
    obtain ⟨e1, e2⟩ := dEm (x := dG N 26627 - 1) (m := 60) (by omega) (by decide)
    rw [dgd_t ⟨e1, e2⟩]
    exact ⟨_, rfl, dOut_P N (by omega) (by omega) (by decide)⟩
  · rw [if_neg h]
    exact ⟨N, rfl, dOut_0 N⟩
theorem sp_X2_put_Bc0 (N : mMem) (x : Int) : ∃ N1, fX2_put_Bc0 N x = some (N1, 0) ∧ dOut 38912 53248 N N1 := by
  unfold fX2_put_Bc0
  have r := dG_R N 38915
  by_cases h : 0 < dG N 38915
  · rw [if_pos h, dW_id (x := dG N 38915 - 1) ⟨by omega, by omega⟩, dgd_t ⟨by omega, by decide⟩]
    obtain ⟨e1, e2⟩ := dEm (x := dG N 38915 - 1) (m := 40) (by omega) (by decide)
    rw [dgd_t ⟨e1, e2⟩]
    exact ⟨_, rfl, dOut_P N (by omega) (by omega) (by decide)⟩
  · rw [if_neg h]
    exact ⟨N, rfl, dOut_0 N⟩
theorem sp_X2_put_Bc1 (N : mMem) (x : Int) : ∃ N1, fX2_put_Bc1 N x = some (N1, 0) ∧ dOut 38912 53248 N N1 := by
  unfold fX2_put_Bc1
  have r := dG_R N 38915
  by_cases h : 0 < dG N 38915
  · rw [if_pos h, dW_id (x := dG N 38915 - 1) ⟨by omega, by omega⟩, dgd_t ⟨by omega, by decide⟩]
    obtain ⟨e1, e2⟩ := dEm (x := dG N 38915 - 1) (m := 40) (by omega) (by decide)
    rw [dgd_t ⟨e1, e2⟩]
    exact ⟨_, rfl, dOut_P N (by omega) (by omega) (by decide)⟩
  · rw [if_neg h]
    exact ⟨N, rfl, dOut_0 N⟩
theorem sp_X2_put_Bc2 (N : mMem) (x : Int) : ∃ N1, fX2_put_Bc2 N x = some (N1, 0) ∧ dOut 38912 53248 N N1 := by
  unfold fX2_put_Bc2
  have r := dG_R N 38915
  by_cases h : 0 < dG N 38915
  · rw [if_pos h, dW_id (x := dG N 38915 - 1) ⟨by omega, by omega⟩, dgd_t ⟨by omega, by decide⟩]
    obtain ⟨e1, e2⟩ := dEm (x := dG N 38915 - 1) (m := 40) (by omega) (by decide)
    rw [dgd_t ⟨e1, e2⟩]
    exact ⟨_, rfl, dOut_P N (by omega) (by omega) (by decide)⟩
  · rw [if_neg h]
    exact ⟨N, rfl, dOut_0 N⟩
theorem sp_X2_put_Bc3 (N : mMem) (x : Int) : ∃ N1, fX2_put_Bc3 N x = some (N1, 0) ∧ dOut 38912 53248 N N1 := by
  unfold fX2_put_Bc3
  have r := dG_R N 38915
  by_cases h : 0 < dG N 38915
  · rw [if_pos h, dW_id (x := dG N 38915 - 1) ⟨by omega, by omega⟩, dgd_t ⟨by omega, by decide⟩]
    obtain ⟨e1, e2⟩ := dEm (x := dG N 38915 - 1) (m := 40) (by omega) (by decide)
    rw [dgd_t ⟨e1, e2⟩]
    exact ⟨_, rfl, dOut_P N (by omega) (by omega) (by decide)⟩
  · rw [if_neg h]
    exact ⟨N, rfl, dOut_0 N⟩
theorem sp_X2_put_Bc4 (N : mMem) (x : Int) : ∃ N1, fX2_put_Bc4 N x = some (N1, 0) ∧ dOut 38912 53248 N N1 := by
  unfold fX2_put_Bc4
  have r := dG_R N 38915
  by_cases h : 0 < dG N 38915
  · rw [if_pos h, dW_id (x := dG N 38915 - 1) ⟨by omega, by omega⟩, dgd_t ⟨by omega, by decide⟩]
    obtain ⟨e1, e2⟩ := dEm (x := dG N 38915 - 1) (m := 40) (by omega) (by decide)
    rw [dgd_t ⟨e1, e2⟩]
    exact ⟨_, rfl, dOut_P N (by omega) (by omega) (by decide)⟩
  · rw [if_neg h]
    exact ⟨N, rfl, dOut_0 N⟩
theorem sp_note0 (N : mMem) (x y : Int) : ∃ N1, fX3_note_Rc0 N x y = some (N1, 0) ∧ dOut 26624 38912 N N1 := by
  unfold fX3_note_Rc0 fX2_opn_G
  rw [dbd_s rfl]
  obtain ⟨N1, e1, g1⟩ := sp_X2_put_Gc0 (dP N 26627 (dW (dG N 26627 + 1))) (dG (dP N 26627 (dW (dG N 26627 + 1))) 2049)
  rw [dbd_s e1]
  obtain ⟨N2, e2, g2⟩ := sp_X2_put_Gc1 N1 0
  rw [dbd_s e2]
  obtain ⟨N3, e3, g3⟩ := sp_X2_put_Gc2 N2 x
  rw [dbd_s e3]
  obtain ⟨N4, e4, g4⟩ := sp_X2_put_Gc3 N3 y
  rw [dbd_s e4]
  exact ⟨N4, rfl, dOut_t (dOut_t (dOut_t (dOut_t (dOut_P N (by decide) (by decide) (by decide)) g1) g2) g3) g4⟩
theorem sp_note1 (N : mMem) (x y : Int) : ∃ N1, fX3_note_Rc1 N x y = some (N1, 0) ∧ dOut 26624 38912 N N1 := by
  unfold fX3_note_Rc1 fX2_opn_G
  rw [dbd_s rfl]
  obtain ⟨N1, e1, g1⟩ := sp_X2_put_Gc0 (dP N 26627 (dW (dG N 26627 + 1))) (dG (dP N 26627 (dW (dG N 26627 + 1))) 2049)
  rw [dbd_s e1]
  obtain ⟨N2, e2, g2⟩ := sp_X2_put_Gc1 N1 1
  rw [dbd_s e2]
  obtain ⟨N3, e3, g3⟩ := sp_X2_put_Gc2 N2 x
  rw [dbd_s e3]
  obtain ⟨N4, e4, g4⟩ := sp_X2_put_Gc3 N3 y
  rw [dbd_s e4]
  exact ⟨N4, rfl, dOut_t (dOut_t (dOut_t (dOut_t (dOut_P N (by decide) (by decide) (by decide)) g1) g2) g3) g4⟩
theorem sp_note4 (N : mMem) (x y : Int) : ∃ N1, fX3_note_Rc4 N x y = some (N1, 0) ∧ dOut 26624 38912 N N1 := by
  unfold fX3_note_Rc4 fX2_opn_G
  rw [dbd_s rfl]
  obtain ⟨N1, e1, g1⟩ := sp_X2_put_Gc0 (dP N 26627 (dW (dG N 26627 + 1))) (dG (dP N 26627 (dW (dG N 26627 + 1))) 2049)
  rw [dbd_s e1]
  obtain ⟨N2, e2, g2⟩ := sp_X2_put_Gc1 N1 4
  rw [dbd_s e2]
  obtain ⟨N3, e3, g3⟩ := sp_X2_put_Gc2 N2 x
  rw [dbd_s e3]
  obtain ⟨N4, e4, g4⟩ := sp_X2_put_Gc3 N3 y
  rw [dbd_s e4]
  exact ⟨N4, rfl, dOut_t (dOut_t (dOut_t (dOut_t (dOut_P N (by decide) (by decide) (by decide)) g1) g2) g3) g4⟩
theorem sp_note5 (N : mMem) (x y : Int) : ∃ N1, fX3_note_Rc5 N x y = some (N1, 0) ∧ dOut 26624 38912 N N1 := by
  unfold fX3_note_Rc5 fX2_opn_G
  rw [dbd_s rfl]
  obtain ⟨N1, e1, g1⟩ := sp_X2_put_Gc0 (dP N 26627 (dW (dG N 26627 + 1))) (dG (dP N 26627 (dW (dG N 26627 + 1))) 2049)
  rw [dbd_s e1]
  obtain ⟨N2, e2, g2⟩ := sp_X2_put_Gc1 N1 5
  rw [dbd_s e2]
  obtain ⟨N3, e3, g3⟩ := sp_X2_put_Gc2 N2 x
  rw [dbd_s e3]
  obtain ⟨N4, e4, g4⟩ := sp_X2_put_Gc3 N3 y
  rw [dbd_s e4]
  exact ⟨N4, rfl, dOut_t (dOut_t (dOut_t (dOut_t (dOut_P N (by decide) (by decide) (by decide)) g1) g2) g3) g4⟩
theorem sp_note6 (N : mMem) (x y : Int) : ∃ N1, fX3_note_Rc6 N x y = some (N1, 0) ∧ dOut 26624 38912 N N1 := by
  unfold fX3_note_Rc6 fX2_opn_G
  rw [dbd_s rfl]
  obtain ⟨N1, e1, g1⟩ := sp_X2_put_Gc0 (dP N 26627 (dW (dG N 26627 + 1))) (dG (dP N 26627 (dW (dG N 26627 + 1))) 2049)
  rw [dbd_s e1]
  obtain ⟨N2, e2, g2⟩ := sp_X2_put_Gc1 N1 6
  rw [dbd_s e2]
  obtain ⟨N3, e3, g3⟩ := sp_X2_put_Gc2 N2 x
  rw [dbd_s e3]
  obtain ⟨N4, e4, g4⟩ := sp_X2_put_Gc3 N3 y
  rw [dbd_s e4]
  exact ⟨N4, rfl, dOut_t (dOut_t (dOut_t (dOut_t (dOut_P N (by decide) (by decide) (by decide)) g1) g2) g3) g4⟩
theorem sp_note7 (N : mMem) (x y : Int) : ∃ N1, fX3_note_Rc7 N x y = some (N1, 0) ∧ dOut 26624 38912 N N1 := by
  unfold fX3_note_Rc7 fX2_opn_G
  rw [dbd_s rfl]
  obtain ⟨N1, e1, g1⟩ := sp_X2_put_Gc0 (dP N 26627 (dW (dG N 26627 + 1))) (dG (dP N 26627 (dW (dG N 26627 + 1))) 2049)
  rw [dbd_s e1]
  obtain ⟨N2, e2, g2⟩ := sp_X2_put_Gc1 N1 7
  rw [dbd_s e2]
  obtain ⟨N3, e3, g3⟩ := sp_X2_put_Gc2 N2 x
  rw [dbd_s e3]
  obtain ⟨N4, e4, g4⟩ := sp_X2_put_Gc3 N3 y
  rw [dbd_s e4]
  exact ⟨N4, rfl, dOut_t (dOut_t (dOut_t (dOut_t (dOut_P N (by decide) (by decide) (by decide)) g1) g2) g3) g4⟩
theorem sp_isBestOwn (N : mMem) (s : Nat) : fX5_isBestOwn_S N s = some (N, if dG N (61441 + 26624 * s) = (s : Int) ∧ dG N (61442 + 26624 * s) = dG N (57352 + 26624 * s) then 1 else 0) := by
  unfold fX5_isBestOwn_S fX5_isBestOwn_S_b32
  by_cases h : dG N (61441 + 26624 * s) = (s : Int)
  · by_cases h2 : dG N (61442 + 26624 * s) = dG N (57352 + 26624 * s)
    · rw [if_pos h, if_pos h2, if_pos ⟨h, h2⟩]
    · rw [if_pos h, if_neg h2, if_neg (fun q => h2 q.2)]
  · rw [if_neg h, if_neg (fun q => h q.1)]
theorem sp_isSame_CE (N : mMem) (s : Nat) : fX0_isSame_CE N s = some (N, if dG N 55296 = dG N (61440 + 26624 * s) ∧ dG N 55297 = dG N (61441 + 26624 * s) ∧ dG N 55298 = dG N (61442 + 26624 * s) then 1 else 0) := by
  unfold fX0_isSame_CE fX0_isSame_CE_b37
  by_cases h : dG N 55296 = dG N (61440 + 26624 * s)
  · by_cases h2 : dG N 55297 = dG N (61441 + 26624 * s)
    · by_cases h3 : dG N 55298 = dG N (61442 + 26624 * s)
      · rw [if_pos h, if_pos h2, if_pos h3, if_pos ⟨h, h2, h3⟩]
      · rw [if_pos h, if_pos h2, if_neg h3, if_neg (fun q => h3 q.2.2)]
    · rw [if_pos h, if_neg h2, if_neg (fun q => h2 q.2.1)]
  · rw [if_neg h, if_neg (fun q => h q.1)]
theorem sp_isSame_CU (N : mMem) (s : Nat) : fX0_isSame_CU N s = some (N, if dG N 55296 = dG N (59392 + 26624 * s) ∧ dG N 55297 = dG N (59393 + 26624 * s) ∧ dG N 55298 = dG N (59394 + 26624 * s) then 1 else 0) := by
  unfold fX0_isSame_CU fX0_isSame_CU_b37
  by_cases h : dG N 55296 = dG N (59392 + 26624 * s)
  · by_cases h2 : dG N 55297 = dG N (59393 + 26624 * s)
    · by_cases h3 : dG N 55298 = dG N (59394 + 26624 * s)
      · rw [if_pos h, if_pos h2, if_pos h3, if_pos ⟨h, h2, h3⟩]
      · rw [if_pos h, if_pos h2, if_neg h3, if_neg (fun q => h3 q.2.2)]
    · rw [if_pos h, if_neg h2, if_neg (fun q => h2 q.2.1)]
  · rw [if_neg h, if_neg (fun q => h q.1)]
theorem sp_isBetter_CE (N : mMem) (s : Nat) : fX0_isBetter_CE N s = some (N, if dG N 55296 < dG N (61440 + 26624 * s) ∨ (dG N 55296 = dG N (61440 + 26624 * s) ∧ dG N 55297 < dG N (61441 + 26624 * s)) then 1 else 0) := by
  unfold fX0_isBetter_CE fX0_isBetter_CE_b37 fX0_isBetter_CE_b33
  by_cases h : dG N 55296 < dG N (61440 + 26624 * s)
  · rw [if_pos h, if_pos (.inl h)]
  · by_cases h2 : dG N 55296 = dG N (61440 + 26624 * s)
    · by_cases h3 : dG N 55297 < dG N (61441 + 26624 * s)
      · rw [if_neg h, if_pos h2, if_pos h3, if_pos (.inr ⟨h2, h3⟩)]
      · rw [if_neg h, if_pos h2, if_neg h3, if_neg (fun q => q.elim h (fun q => h3 q.2))]
    · rw [if_neg h, if_neg h2, if_neg (fun q => q.elim h (fun q => h2 q.1))]
theorem sp_has (N : mMem) (x : Int) : fX3_has_R N x = some (N, if 0 ≤ x ∧ x < dG N 2048 then 1 else 0) := by
  unfold fX3_has_R fX3_has_R_b16
  by_cases h : x < 0
  · rw [if_pos h, if_neg (by omega)]
  · by_cases h2 : x < dG N 2048
    · rw [if_neg h, if_pos h2, if_pos (by omega)]
    · rw [if_neg h, if_neg h2, if_neg (by omega)]
theorem sp_after {N : mMem} {x : Int} (h0 : 0 ≤ x) (h1 : x < 8) : fX3_after_R N x = some (N, if x + 1 < dG N 2048 then x + 1 else 0) := by
  unfold fX3_after_R
  rw [dW_id (x := x + 1) ⟨by omega, by omega⟩]
  by_cases h : x + 1 < dG N 2048
  · rw [if_pos h, if_pos h]
  · rw [if_neg h, if_neg h]
theorem dAnd_0 (y : Int) : dAnd 0 y = 0 := by
  unfold dAnd
  rw [show dI 0 = 0 from rfl, Int32.zero_and]
  rfl
theorem sp_isCut {N : mMem} (h : dG N 2051 = 0) (x : Int) : fX3_isCut_R N x = some (N, 0) := by
  unfold fX3_isCut_R
  rw [h, dAnd_0, if_pos rfl]


/-! ===== cell, between ===== -/
theorem sl_cell (xs : Nat → Int32) (Ln : Nat) (N : mMem) {x : Int} (h : 0 ≤ x) : ∃ v, fL_cell_X xs Ln N x = some (N, v) := by
  unfold fL_cell_X
  by_cases c : x < (Ln : Int)
  · rw [if_pos c, dgd_t ⟨h, c⟩]
    exact ⟨_, rfl⟩
  · rw [if_neg c]
    exact ⟨_, rfl⟩
theorem dAnd_nn (x : Int) : 0 ≤ dAnd x 2147483647 := by
  unfold dAnd
  show 0 ≤ ((dI x &&& dI 2147483647).toBitVec).toInt
  have h : ((dI x &&& dI 2147483647).toBitVec).msb = false := by
    rw [Int32.toBitVec_and, BitVec.msb_and, show (dI 2147483647).toBitVec.msb = false from by decide +kernel, Bool.and_false]
  rw [BitVec.toInt_eq_msb_cond, h, if_neg (by decide)]
  omega
theorem sl_between (xs : Nat → Int32) (Ln : Nat) (N : mMem) (x : Int) {lo hi : Int} (h : -100000 ≤ lo ∧ lo ≤ hi ∧ hi ≤ 100000) : ∃ v, fL_between xs Ln N x lo hi = some (N, v) ∧ lo ≤ v ∧ v ≤ hi := by
  unfold fL_between
  have a := dAnd_nn x
  rw [dW_id (x := hi - lo) ⟨by omega, by omega⟩, dW_id (x := hi - lo + 1) ⟨by omega, by omega⟩, dgd_t ⟨a, by omega⟩]
  have r1 := Int.emod_nonneg (dAnd x 2147483647) (show hi - lo + 1 ≠ 0 by omega)
  have r2 := Int.emod_lt_of_pos (dAnd x 2147483647) (show 0 < hi - lo + 1 by omega)
  rw [dW_id ⟨by omega, by omega⟩]
  exact ⟨_, rfl, by omega, by omega⟩
/-! ===== ring ===== -/
theorem sl_b162 (xs : Nat → Int32) (Ln : Nat) {n : Nat} (h2 : 2 ≤ n) (h8 : n ≤ 8) : ∀ (m fuel i : Nat) (N : mMem), n = i + m → m < fuel → dB0 n N → ∃ N1, fL_ring_OX_b162 xs Ln fuel N (n : Int) (i : Int) = some (N1, (n : Int)) ∧ dB0 n N1 := fun m => by
  induction m with
  | zero =>
    intro fuel i N hi hf hN
    obtain ⟨f, rfl⟩ : ∃ f, fuel = f + 1 := ⟨fuel - 1, by omega⟩
    obtain ⟨v, e1⟩ := sl_cell xs Ln N (x := 34) (by decide)
    obtain ⟨N1, v1, e2, e3⟩ := b0_state (x := v) h8 hN
    refine ⟨N1, ?_, e3⟩
    rw [fL_ring_OX_b162, if_neg (by omega), dbd_s e1, dbd_s e2]
  | succ m ih =>
    intro fuel i N hi hf hN
    obtain ⟨f, rfl⟩ : ∃ f, fuel = f + 1 := ⟨fuel - 1, by omega⟩
    obtain ⟨v, e1⟩ := sl_cell xs Ln N (x := 26 + (i : Int)) (by omega)
    rw [fL_ring_OX_b162, if_pos (by omega), dW_id (x := 26 + (i : Int)) ⟨by omega, by omega⟩, dbd_s e1]
    by_cases c : dAnd v 1 = 1
    · obtain ⟨v2, e2, g2⟩ := sl_between xs Ln N (dShr v 1) (lo := 20) (hi := 999) ⟨by omega, by omega, by omega⟩
      obtain ⟨v3, e3, g3⟩ := sl_between xs Ln N (dShr v 12) (lo := 1) (hi := 99) ⟨by omega, by omega, by omega⟩
      obtain ⟨N4, v4, e4, g4⟩ := b0_stream (k := i) h8 (by omega) g2 g3 hN
      obtain ⟨N5, e5, g5⟩ := ih f (i + 1) N4 (by omega) (by omega) g4
      refine ⟨N5, ?_, g5⟩
      rw [if_pos c, dbd_s e1, dbd_s e2, dbd_s e1, dbd_s e3, dbd_s e4]
      unfold fL_ring_OX_b222
      rw [dW_id (x := (i : Int) + 1) ⟨by omega, by omega⟩]
      exact e5
    · obtain ⟨N5, e5, g5⟩ := ih f (i + 1) N (by omega) (by omega) hN
      refine ⟨N5, ?_, g5⟩
      rw [if_neg c]
      unfold fL_ring_OX_b222
      rw [dW_id (x := (i : Int) + 1) ⟨by omega, by omega⟩]
      exact e5
theorem sl_b129 (xs : Nat → Int32) (Ln : Nat) {n : Nat} (h2 : 2 ≤ n) (h8 : n ≤ 8) : ∀ (m fuel i : Nat) (N : mMem), n = i + m → m < fuel → dB0 n N → ∃ N1, fL_ring_OX_b129 xs Ln fuel N (n : Int) (i : Int) = some (N1, (n : Int)) ∧ dB0 n N1 := fun m => by
  induction m with
  | zero =>
    intro fuel i N hi hf hN
    obtain ⟨f, rfl⟩ : ∃ f, fuel = f + 1 := ⟨fuel - 1, by omega⟩
    obtain ⟨N1, e1, g1⟩ := sl_b162 xs Ln h2 h8 n 1000 0 N (by omega) (by omega) hN
    refine ⟨N1, ?_, g1⟩
    rw [fL_ring_OX_b129, if_neg (by omega)]
    exact e1
  | succ m ih =>
    intro fuel i N hi hf hN
    obtain ⟨f, rfl⟩ : ∃ f, fuel = f + 1 := ⟨fuel - 1, by omega⟩
    obtain ⟨v, e1⟩ := sl_cell xs Ln N (x := 18 + (i : Int)) (by omega)
    obtain ⟨v2, e2, g2⟩ := sl_between xs Ln N v (lo := 0) (hi := 25) ⟨by omega, by omega, by omega⟩
    obtain ⟨N4, v4, e4, g4⟩ := b0_share (k := i) h2 h8 (by omega) g2 hN
    obtain ⟨N5, e5, g5⟩ := ih f (i + 1) N4 (by omega) (by omega) g4
    refine ⟨N5, ?_, g5⟩
    rw [fL_ring_OX_b129, if_pos (by omega), dW_id (x := 18 + (i : Int)) ⟨by omega, by omega⟩, dbd_s e1, dbd_s e2, dbd_s e4, dW_id (x := (i : Int) + 1) ⟨by omega, by omega⟩]
    exact e5
theorem sl_b90 (xs : Nat → Int32) (Ln : Nat) {n : Nat} (h2 : 2 ≤ n) (h8 : n ≤ 8) : ∀ (m fuel i : Nat) (N : mMem), 3 = i + m → m < fuel → dB0 n N → ∃ N1, fL_ring_OX_b90 xs Ln fuel N (n : Int) (i : Int) = some (N1, (n : Int)) ∧ dB0 n N1 := fun m => by
  induction m with
  | zero =>
    intro fuel i N hi hf hN
    obtain ⟨f, rfl⟩ : ∃ f, fuel = f + 1 := ⟨fuel - 1, by omega⟩
    obtain ⟨N1, e1, g1⟩ := sl_b129 xs Ln h2 h8 n 1000 0 N (by omega) (by omega) hN
    refine ⟨N1, ?_, g1⟩
    rw [fL_ring_OX_b90, if_neg (by omega)]
    exact e1
  | succ m ih =>
    intro fuel i N hi hf hN
    obtain ⟨f, rfl⟩ : ∃ f, fuel = f + 1 := ⟨fuel - 1, by omega⟩
    obtain ⟨v, e1⟩ := sl_cell xs Ln N (x := 1) (by decide)
    obtain ⟨v2, e2, g2⟩ := sl_between xs Ln N (dShr v (dW (6 + dW (3 * (i : Int))))) (lo := 0) (hi := 60) ⟨by omega, by omega, by omega⟩
    obtain ⟨N4, v4, e4, g4⟩ := b0_set (i := 3 + i) (x := v2) h8 ⟨by omega, by omega⟩ hN
    obtain ⟨N5, e5, g5⟩ := ih f (i + 1) N4 (by omega) (by omega) g4
    refine ⟨N5, ?_, g5⟩
    have e4 : fX7_set_O N (3 + (i : Int)) v2 = some (N4, v4) := e4
    rw [fL_ring_OX_b90, if_pos (by omega), dbd_s e1, dbd_s e2, dW_id (x := 3 + (i : Int)) ⟨by omega, by omega⟩, dbd_s e4, dW_id (x := (i : Int) + 1) ⟨by omega, by omega⟩]
    exact e5
theorem sl_b20 (xs : Nat → Int32) (Ln : Nat) {n : Nat} (h2 : 2 ≤ n) (h8 : n ≤ 8) : ∀ (m fuel i : Nat) (N : mMem), n = i + m → m < fuel → dB0 n N → ∃ N1, fL_ring_OX_b20 xs Ln fuel N (n : Int) (i : Int) = some (N1, (n : Int)) ∧ dB0 n N1 := fun m => by
  induction m with
  | zero =>
    intro fuel i N hi hf hN
    obtain ⟨f, rfl⟩ : ∃ f, fuel = f + 1 := ⟨fuel - 1, by omega⟩
    obtain ⟨v, e1⟩ := sl_cell xs Ln N (x := 1) (by decide)
    obtain ⟨v2, e2, g2⟩ := sl_between xs Ln N v (lo := 1) (hi := 20) ⟨by omega, by omega, by omega⟩
    obtain ⟨N4, v4, e4, g4⟩ := b0_set0 h2 h8 g2 hN
    obtain ⟨N5, e5, g5⟩ := sl_b90 xs Ln h2 h8 3 1000 0 N4 (by omega) (by omega) g4
    refine ⟨N5, ?_, g5⟩
    rw [fL_ring_OX_b20, if_neg (by omega), dbd_s e1, dbd_s e2, dbd_s e4]
    exact e5
  | succ m ih =>
    intro fuel i N hi hf hN
    obtain ⟨f, rfl⟩ : ∃ f, fuel = f + 1 := ⟨fuel - 1, by omega⟩
    obtain ⟨v, e1⟩ := sl_cell xs Ln N (x := 2 + (i : Int)) (by omega)
    obtain ⟨v2, e2, g2⟩ := sl_between xs Ln N v (lo := 1) (hi := 5) ⟨by omega, by omega, by omega⟩
    obtain ⟨N3, v3, e3, g3⟩ := b0_delay (k := i) h2 h8 (by omega) g2 hN
    obtain ⟨v4, e4⟩ := sl_cell xs Ln N3 (x := 10 + (i : Int)) (by omega)
    obtain ⟨v5, e5, g5⟩ := sl_between xs Ln N3 v4 (lo := 60) (hi := 300) ⟨by omega, by omega, by omega⟩
    obtain ⟨N6, v6, e6, g6⟩ := b0_bid (k := i) h2 h8 (by omega) g5 g3
    obtain ⟨N7, e7, g7⟩ := ih f (i + 1) N6 (by omega) (by omega) g6
    refine ⟨N7, ?_, g7⟩
    rw [fL_ring_OX_b20, if_pos (by omega), dW_id (x := 2 + (i : Int)) ⟨by omega, by omega⟩, dbd_s e1, dbd_s e2, dbd_s e3, dW_id (x := 10 + (i : Int)) ⟨by omega, by omega⟩, dbd_s e4, dbd_s e5, dbd_s e6, dW_id (x := (i : Int) + 1) ⟨by omega, by omega⟩]
    exact e7
/-- where begin does what it should -/
noncomputable def dStart (xs : Nat → Int32) (Ln : Nat) (N0 : mMem) : Prop := ∀ n : Nat, 2 ≤ n → n ≤ 8 → ∃ N1 v, fX7_begin_O xs Ln N0 (n : Int) = some (N1, v) ∧ dB0 n N1
theorem sl_ring {xs : Nat → Int32} {Ln : Nat} {N0 : mMem} (h : dStart xs Ln N0) : ∃ (n : Nat) (N1 : mMem), (2 ≤ n ∧ n ≤ 8) ∧ fL_ring_OX xs Ln N0 = some (N1, (n : Int)) ∧ dB0 n N1 := by
  obtain ⟨v, e1⟩ := sl_cell xs Ln N0 (x := 0) (by decide)
  obtain ⟨v2, e2, g2⟩ := sl_between xs Ln N0 v (lo := 2) (hi := 8) ⟨by omega, by omega, by omega⟩
  obtain ⟨n, rfl⟩ : ∃ n : Nat, v2 = (n : Int) := ⟨v2.toNat, by omega⟩
  obtain ⟨N1, v3, e3, g3⟩ := h n (by omega) (by omega)
  obtain ⟨N4, e4, g4⟩ := sl_b20 xs Ln (n := n) (by omega) (by omega) n 1000 0 N1 (by omega) (by omega) g3
  refine ⟨n, N4, ⟨by omega, by omega⟩, ?_, g4⟩
  unfold fL_ring_OX
  rw [dbd_s e1, dbd_s e2, dbd_s e3]
  exact e4


/-! ===== a frame is queued ===== -/
theorem sp_putL0 {M : mMem} {u i : Nat} (h : (i : Int) < dG M (67587 + 26624 * u)) (hi : i < 8) (x : Int) : fX4_put_Lc0 M u (i : Int) x = some (dP M (71680 + 26624 * u + i) x, 0) := by
  unfold fX4_put_Lc0
  rw [if_neg (by omega), if_pos h, dgd_t ⟨by omega, by omega⟩, Int.toNat_natCast]
theorem sp_putL1 {M : mMem} {u i : Nat} (h : (i : Int) < dG M (67587 + 26624 * u)) (hi : i < 8) (x : Int) : fX4_put_Lc1 M u (i : Int) x = some (dP M (73728 + 26624 * u + i) x, 0) := by
  unfold fX4_put_Lc1
  rw [if_neg (by omega), if_pos h, dgd_t ⟨by omega, by omega⟩, Int.toNat_natCast]
theorem sp_putL2 {M : mMem} {u i : Nat} (h : (i : Int) < dG M (67587 + 26624 * u)) (hi : i < 8) (x : Int) : fX4_put_Lc2 M u (i : Int) x = some (dP M (75776 + 26624 * u + i) x, 0) := by
  unfold fX4_put_Lc2
  rw [if_neg (by omega), if_pos h, dgd_t ⟨by omega, by omega⟩, Int.toNat_natCast]
theorem sp_putL3 {M : mMem} {u i : Nat} (h : (i : Int) < dG M (67587 + 26624 * u)) (hi : i < 8) (x : Int) : fX4_put_Lc3 M u (i : Int) x = some (dP M (77824 + 26624 * u + i) x, 0) := by
  unfold fX4_put_Lc3
  rw [if_neg (by omega), if_pos h, dgd_t ⟨by omega, by omega⟩, Int.toNat_natCast]
theorem sp_putL4 {M : mMem} {u i : Nat} (h : (i : Int) < dG M (67587 + 26624 * u)) (hi : i < 8) (x : Int) : fX4_put_Lc4 M u (i : Int) x = some (dP M (79872 + 26624 * u + i) x, 0) := by
  unfold fX4_put_Lc4
  rw [if_neg (by omega), if_pos h, dgd_t ⟨by omega, by omega⟩, Int.toNat_natCast]
theorem sp_queue {N : mMem} {u n : Nat} {m b c d : Int} (hu : u < 8) (hl : dLine n m N u) (h8 : dG N (67587 + 26624 * u) < 8) (hb : 0 ≤ b ∧ b < (n : Int)) (hc : 1 ≤ c ∧ c ≤ 3) (hd : 1 ≤ d ∧ d ≤ m) (hm : m ≤ 1000) (hn : n ≤ 8) : ∃ N1 v, fX3_queue_R N (u : Int) b c d = some (N1, v) ∧ dLine n m N1 u ∧ dG N1 (67587 + 26624 * u) = dG N (67587 + 26624 * u) + 1 ∧ ∀ k, k < 2097152 → k ≠ 67587 + 26624 * u → (k < 71680 + 26624 * u ∨ 81920 + 26624 * u ≤ k) → dG N1 k = dG N k := by
  obtain ⟨l1, l2, l3⟩ := hl
  obtain ⟨i, hi⟩ : ∃ i : Nat, dG N (67587 + 26624 * u) = (i : Int) := ⟨(dG N (67587 + 26624 * u)).toNat, by omega⟩
  have i8 : i < 8 := by omega
  have e0 : fX4_opn_L N u = some (dP N (67587 + 26624 * u) ((i : Int) + 1), (i : Int)) := by
    unfold fX4_opn_L dlt
    rw [if_pos h8, hi, dW_id (x := (i : Int) + 1) ⟨by omega, by omega⟩]
    dsimp only
    rw [dG_e (by omega), dW_id (x := (i : Int) + 1) ⟨by omega, by omega⟩, dW_id ⟨by omega, by omega⟩]
    congr 2
    omega
  have f0 : ∀ k, k < 2097152 → k ≠ 67587 + 26624 * u → dG (dP N (67587 + 26624 * u) ((i : Int) + 1)) k = dG N k := fun k a b => dG_n b (by omega) a
  have g0 : dG (dP N (67587 + 26624 * u) ((i : Int) + 1)) (67587 + 26624 * u) = (i : Int) + 1 := (dG_e (by omega)).trans (dW_id ⟨by omega, by omega⟩)
  generalize dP N (67587 + 26624 * u) ((i : Int) + 1) = M0 at e0 f0 g0
  have e1 := sp_putL0 (M := M0) (u := u) (i := i) (by omega) i8 b
  have f1 : ∀ k, k < 2097152 → k ≠ 71680 + 26624 * u + i → dG (dP M0 (71680 + 26624 * u + i) b) k = dG M0 k := fun k a b => dG_n b (by omega) a
  have g1 : dG (dP M0 (71680 + 26624 * u + i) b) (71680 + 26624 * u + i) = b := (dG_e (by omega)).trans (dW_id ⟨by omega, by omega⟩)
  generalize dP M0 (71680 + 26624 * u + i) b = M1 at e1 f1 g1
  have s1 := f1 (67587 + 26624 * u) (by omega) (by omega)
  have e2 := sp_putL1 (M := M1) (u := u) (i := i) (by omega) i8 c
  have f2 : ∀ k, k < 2097152 → k ≠ 73728 + 26624 * u + i → dG (dP M1 (73728 + 26624 * u + i) c) k = dG M1 k := fun k a b => dG_n b (by omega) a
  generalize dP M1 (73728 + 26624 * u + i) c = M2 at e2 f2
  have s2 := f2 (67587 + 26624 * u) (by omega) (by omega)
  have e3 := sp_putL2 (M := M2) (u := u) (i := i) (by omega) i8 d
  have f3 : ∀ k, k < 2097152 → k ≠ 75776 + 26624 * u + i → dG (dP M2 (75776 + 26624 * u + i) d) k = dG M2 k := fun k a b => dG_n b (by omega) a
  have g3 : dG (dP M2 (75776 + 26624 * u + i) d) (75776 + 26624 * u + i) = d := (dG_e (by omega)).trans (dW_id ⟨by omega, by omega⟩)
  generalize dP M2 (75776 + 26624 * u + i) d = M3 at e3 f3 g3
  have s3 := f3 (67587 + 26624 * u) (by omega) (by omega)
  have e4 := sp_putL3 (M := M3) (u := u) (i := i) (by omega) i8 (dG M3 2049)
  have f4 : ∀ k, k < 2097152 → k ≠ 77824 + 26624 * u + i → dG (dP M3 (77824 + 26624 * u + i) (dG M3 2049)) k = dG M3 k := fun k a b => dG_n b (by omega) a
  generalize dP M3 (77824 + 26624 * u + i) (dG M3 2049) = M4 at e4 f4
  have s4 := f4 (67587 + 26624 * u) (by omega) (by omega)
  have e5 := sp_putL4 (M := M4) (u := u) (i := i) (by omega) i8 0
  have f5 : ∀ k, k < 2097152 → k ≠ 79872 + 26624 * u + i → dG (dP M4 (79872 + 26624 * u + i) 0) k = dG M4 k := fun k a b => dG_n b (by omega) a
  generalize dP M4 (79872 + 26624 * u + i) 0 = M5 at e5 f5
  have s5 := f5 (67587 + 26624 * u) (by omega) (by omega)
  refine ⟨M5, (i : Int), ?_, ⟨by omega, by omega, fun x hx => ?_⟩, by omega, fun k a b c => ?_⟩
  · unfold fX3_queue_R
    rw [dgd_t ⟨by omega, by omega⟩, Int.toNat_natCast]
    unfold dln
    dsimp only
    rw [dbd_s e0, dbd_s e1, dbd_s e2, dbd_s e3, dbd_s e4, dbd_s e5]
  · rw [f5 (71680 + 26624 * u + x) (by omega) (by omega), f4 (71680 + 26624 * u + x) (by omega) (by omega), f3 (71680 + 26624 * u + x) (by omega) (by omega), f2 (71680 + 26624 * u + x) (by omega) (by omega), f5 (75776 + 26624 * u + x) (by omega) (by omega), f4 (75776 + 26624 * u + x) (by omega) (by omega)]
    by_cases q : x = i
    · rw [q, g1, g3]
      exact ⟨hb, hd⟩
    · rw [f1 (71680 + 26624 * u + x) (by omega) (by omega), f3 (75776 + 26624 * u + x) (by omega) (by omega), f2 (75776 + 26624 * u + x) (by omega) (by omega), f1 (75776 + 26624 * u + x) (by omega) (by omega), f0 (71680 + 26624 * u + x) (by omega) (by omega), f0 (75776 + 26624 * u + x) (by omega) (by omega)]
      exact l3 x (by omega)
  · rw [f5 k a (by omega), f4 k a (by omega), f3 k a (by omega), f2 k a (by omega), f1 k a (by omega), f0 k a b]


/-! ===== the token is taken ===== -/
theorem sp_take {N : mMem} {s : Nat} {a b c : Int} (hs : s < 8) (ha : dR a) (hb : dR b) (hc : dR c) : ∃ N1, fX1_take_H N s a b c = some (N1, 0) ∧ dG N1 (65536 + 26624 * s) = 1 ∧ dG N1 (65537 + 26624 * s) = b ∧ dG N1 (65538 + 26624 * s) = c ∧ dG N1 (65546 + 26624 * s) = a ∧ ∀ k, k < 2097152 → (k < (65536 + 26624 * s) ∨ (65538 + 26624 * s) < k) → (k < (65544 + 26624 * s) ∨ (65546 + 26624 * s) < k) → dG N1 k = dG N k := by
  unfold fX1_take_H
  have w1 : dW 1 = 1 := dW_id ⟨by decide, by decide⟩
  refine ⟨_, rfl, ?_, ?_, ?_, ?_, fun k hk h h2 => ?_⟩
  · rw [dG_n (by omega) (by omega) (by omega), dG_n (by omega) (by omega) (by omega), dG_n (by omega) (by omega) (by omega), dG_n (by omega) (by omega) (by omega), dG_n (by omega) (by omega) (by omega), dG_e (by omega), w1]
  · rw [dG_n (by omega) (by omega) (by omega), dG_n (by omega) (by omega) (by omega), dG_n (by omega) (by omega) (by omega), dG_n (by omega) (by omega) (by omega), dG_e (by omega), dW_id hb]
  · rw [dG_n (by omega) (by omega) (by omega), dG_n (by omega) (by omega) (by omega), dG_n (by omega) (by omega) (by omega), dG_e (by omega), dW_id hc]
  · rw [dG_e (by omega), dW_id ha]
  · rw [dG_n (by omega) (by omega) hk, dG_n (by omega) (by omega) hk, dG_n (by omega) (by omega) hk, dG_n (by omega) (by omega) hk, dG_n (by omega) (by omega) hk, dG_n (by omega) (by omega) hk]
/-- places that a token's coming touches -/
noncomputable def dTkF (s k : Nat) : Prop := k ≠ (57356 + 26624 * s) ∧ k ≠ (57357 + 26624 * s) ∧ k ≠ (57358 + 26624 * s) ∧ k ≠ (81926 + 26624 * s) ∧ k ≠ (81927 + 26624 * s) ∧ k ≠ (81928 + 26624 * s) ∧ (k < (65536 + 26624 * s) ∨ (65538 + 26624 * s) < k) ∧ (k < (65544 + 26624 * s) ∨ (65546 + 26624 * s) < k)
theorem sp_tk102 {N : mMem} {s : Nat} {t x : Int} (hs : s < 8) (ht : dR t) (hx : dR x) : ∃ N1, fX5_takeToken_S_b102 N s t x = some (N1, 0) ∧ dG N1 (65536 + 26624 * s) = 1 ∧ dG N1 (65537 + 26624 * s) = x ∧ dG N1 (65538 + 26624 * s) = dG N (57346 + 26624 * s) ∧ dG N1 (65546 + 26624 * s) = t ∧ ∀ k, k < 2097152 → (k < (65536 + 26624 * s) ∨ (65538 + 26624 * s) < k) → (k < (65544 + 26624 * s) ∨ (65546 + 26624 * s) < k) → dG N1 k = dG N k := by
  unfold fX5_takeToken_S_b102
  obtain ⟨N1, e, r⟩ := sp_take (N := N) hs ht hx (dG_R N (57346 + 26624 * s))
  rw [dbd_s e]
  exact ⟨N1, rfl, r⟩
theorem sp_tk39 {N : mMem} {s : Nat} {t x : Int} (hs : s < 8) (ht : 0 ≤ t ∧ t ≤ 100000) (hx : dR x) (hc : 0 ≤ dG N (65546 + 26624 * s) ∧ dG N (65546 + 26624 * s) ≤ t) (h6 : 0 ≤ dG N (81926 + 26624 * s) ∧ dG N (81926 + 26624 * s) ≤ 100000) (h7 : 0 ≤ dG N (81927 + 26624 * s) ∧ dG N (81927 + 26624 * s) ≤ 100000) :
    ∃ N1, fX5_takeToken_S_b39 N s t x = some (N1, 0) ∧ dG N1 (65536 + 26624 * s) = 1 ∧ dG N1 (65537 + 26624 * s) = x ∧ dG N1 (65538 + 26624 * s) = dG N (57346 + 26624 * s) ∧ dG N1 (65546 + 26624 * s) = t ∧ dG N1 (57357 + 26624 * s) = 0 ∧
      ((dG N (57358 + 26624 * s) < 3 ∧ dG N1 (81926 + 26624 * s) = dG N (81926 + 26624 * s) ∧ dG N1 (81927 + 26624 * s) = dG N (81927 + 26624 * s) ∧ dG N1 (81928 + 26624 * s) = dG N (81928 + 26624 * s)) ∨
       (3 ≤ dG N (57358 + 26624 * s) ∧ dG N1 (81926 + 26624 * s) = dG N (81926 + 26624 * s) + 1 ∧ dG N1 (81927 + 26624 * s) = dG N (81927 + 26624 * s) + (t - dG N (65546 + 26624 * s)) ∧ dG N1 (81928 + 26624 * s) = dMx (dG N (81928 + 26624 * s)) (t - dG N (65546 + 26624 * s)))) ∧
      ∀ k, k < 2097152 → k ≠ (57357 + 26624 * s) → k ≠ (81926 + 26624 * s) → k ≠ (81927 + 26624 * s) → k ≠ (81928 + 26624 * s) → (k < (65536 + 26624 * s) ∨ (65538 + 26624 * s) < k) → (k < (65544 + 26624 * s) ∨ (65546 + 26624 * s) < k) → dG N1 k = dG N k := by
  unfold fX5_takeToken_S_b39 dlt
  have w0 : dW 0 = 0 := dW_id ⟨by decide, by decide⟩
  have f1 : ∀ k, k < 2097152 → k ≠ (57357 + 26624 * s) → dG (dP N (57357 + 26624 * s) 0) k = dG N k := fun k hk h => dG_n h (by omega) hk
  have l1 : dG ((dP N (57357 + 26624 * s) 0)) (57357 + 26624 * s) = 0 := (dG_e (by omega)).trans w0
  generalize dP N (57357 + 26624 * s) 0 = M1 at f1 l1 ⊢
  dsimp only
  have c1 := f1 (65546 + 26624 * s) (by omega) (by omega)
  have r1 := f1 (57358 + 26624 * s) (by omega) (by omega)
  have s1 := f1 (57346 + 26624 * s) (by omega) (by omega)
  have t6 := f1 (81926 + 26624 * s) (by omega) (by omega)
  have t7 := f1 (81927 + 26624 * s) (by omega) (by omega)
  have t8 := f1 (81928 + 26624 * s) (by omega) (by omega)
  rw [c1, dW_id (x := t - dG N (65546 + 26624 * s)) ⟨by omega, by omega⟩, t6, dW_id (x := dG N (81926 + 26624 * s) + 1) ⟨by omega, by omega⟩]
  by_cases c : dG M1 (57358 + 26624 * s) < 3
  · rw [if_pos c]
    obtain ⟨N1, e, a1, a2, a3, a4, a5⟩ := sp_tk102 (N := M1) (s := s) (t := t) (x := x) hs ⟨by omega, by omega⟩ hx
    have g := fun k hk a b c => a5 k hk b c |>.trans (f1 k hk a)
    exact ⟨N1, e, a1, a2, by omega, a4, (a5 _ (by omega) (by omega) (by omega)).trans l1, .inl ⟨by omega, g _ (by omega) (by omega) (by omega) (by omega), g _ (by omega) (by omega) (by omega) (by omega), g _ (by omega) (by omega) (by omega) (by omega)⟩, fun k hk a _ _ _ b c => g k hk a b c⟩
  · rw [if_neg c]
    have f2 : ∀ k, k < 2097152 → k ≠ (81926 + 26624 * s) → dG (dP M1 (81926 + 26624 * s) (dG N (81926 + 26624 * s) + 1)) k = dG M1 k := fun k hk h => dG_n h (by omega) hk
    have g6 : dG ((dP M1 (81926 + 26624 * s) (dG N (81926 + 26624 * s) + 1))) (81926 + 26624 * s) = dG N (81926 + 26624 * s) + 1 := (dG_e (by omega)).trans (dW_id ⟨by omega, by omega⟩)
    generalize dP M1 (81926 + 26624 * s) (dG N (81926 + 26624 * s) + 1) = M2 at f2 g6 ⊢
    have q7 := f2 (81927 + 26624 * s) (by omega) (by omega)
    rw [q7, t7, dW_id (x := dG N (81927 + 26624 * s) + (t - dG N (65546 + 26624 * s))) ⟨by omega, by omega⟩]
    have f3 : ∀ k, k < 2097152 → k ≠ (81927 + 26624 * s) → dG (dP M2 (81927 + 26624 * s) (dG N (81927 + 26624 * s) + (t - dG N (65546 + 26624 * s)))) k = dG M2 k := fun k hk h => dG_n h (by omega) hk
    have g7 : dG ((dP M2 (81927 + 26624 * s) (dG N (81927 + 26624 * s) + (t - dG N (65546 + 26624 * s))))) (81927 + 26624 * s) = dG N (81927 + 26624 * s) + (t - dG N (65546 + 26624 * s)) := (dG_e (by omega)).trans (dW_id ⟨by omega, by omega⟩)
    generalize dP M2 (81927 + 26624 * s) (dG N (81927 + 26624 * s) + (t - dG N (65546 + 26624 * s))) = M3 at f3 g7 ⊢
    have q8 : dG M3 (81928 + 26624 * s) = dG N (81928 + 26624 * s) := (f3 _ (by omega) (by omega)).trans ((f2 _ (by omega) (by omega)).trans t8)
    rw [q8]
    have f4 : ∀ k, k < 2097152 → k ≠ (81928 + 26624 * s) → dG (dP M3 (81928 + 26624 * s) (dMx (dG N (81928 + 26624 * s)) (t - dG N (65546 + 26624 * s)))) k = dG M3 k := fun k hk h => dG_n h (by omega) hk
    have g8 : dG ((dP M3 (81928 + 26624 * s) (dMx (dG N (81928 + 26624 * s)) (t - dG N (65546 + 26624 * s))))) (81928 + 26624 * s) = dMx (dG N (81928 + 26624 * s)) (t - dG N (65546 + 26624 * s)) := (dG_e (by omega)).trans (dW_id (dMx_R (dG_R _ _) ⟨by omega, by omega⟩))
    generalize dP M3 (81928 + 26624 * s) (dMx (dG N (81928 + 26624 * s)) (t - dG N (65546 + 26624 * s))) = M4 at f4 g8 ⊢
    obtain ⟨N1, e, a1, a2, a3, a4, a5⟩ := sp_tk102 (N := M4) (s := s) (t := t) (x := x) hs ⟨by omega, by omega⟩ hx
    have g : ∀ k, k < 2097152 → k ≠ (81926 + 26624 * s) → k ≠ (81927 + 26624 * s) → k ≠ (81928 + 26624 * s) → dG M4 k = dG M1 k := fun k hk a b c => (f4 k hk c).trans ((f3 k hk b).trans (f2 k hk a))
    have sh := g (57346 + 26624 * s) (by omega) (by omega) (by omega) (by omega)
    have h7 := f4 (81927 + 26624 * s) (by omega) (by omega)
    have h6 := (f4 (81926 + 26624 * s) (by omega) (by omega)).trans (f3 (81926 + 26624 * s) (by omega) (by omega))
    exact ⟨N1, e, a1, a2, by omega, a4, (a5 _ (by omega) (by omega) (by omega)).trans ((g _ (by omega) (by omega) (by omega) (by omega)).trans l1),
      .inr ⟨by omega, (a5 _ (by omega) (by omega) (by omega)).trans (h6.trans g6), (a5 _ (by omega) (by omega) (by omega)).trans (h7.trans g7), (a5 _ (by omega) (by omega) (by omega)).trans g8⟩,
      fun k hk a b1 b2 b3 b c => (a5 k hk b c).trans ((g k hk b1 b2 b3).trans (f1 k hk a))⟩
theorem sp_takeToken {N : mMem} {s : Nat} {t : Int} (hs : s < 8) (ht : 0 ≤ t ∧ t ≤ 100000) (hd : 0 ≤ dG N (57356 + 26624 * s) ∧ dG N (57356 + 26624 * s) ≤ 200000) (hb : 0 ≤ dG N (59392 + 26624 * s) ∧ dG N (59392 + 26624 * s) ≤ 1000) (hro : 0 ≤ dG N (57358 + 26624 * s) ∧ dG N (57358 + 26624 * s) ≤ 100000) (hc : 0 ≤ dG N (65546 + 26624 * s) ∧ dG N (65546 + 26624 * s) ≤ t) (h6 : 0 ≤ dG N (81926 + 26624 * s) ∧ dG N (81926 + 26624 * s) ≤ 100000) (h7 : 0 ≤ dG N (81927 + 26624 * s) ∧ dG N (81927 + 26624 * s) ≤ 100000) :
    ∃ N1, fX5_takeToken_S N s t = some (N1, 0) ∧ dG N1 (65536 + 26624 * s) = 1 ∧ dG N1 (65538 + 26624 * s) = dG N (57346 + 26624 * s) ∧ dG N1 (65546 + 26624 * s) = t ∧ dG N1 (57357 + 26624 * s) = 0 ∧ dG N1 (57358 + 26624 * s) = dG N (57358 + 26624 * s) + 1 ∧
      ((dG N (57357 + 26624 * s) = 0 ∧ dG N1 (57356 + 26624 * s) = t + dG N (59392 + 26624 * s) ∧ dG N1 (65537 + 26624 * s) = dG N (57356 + 26624 * s) - t) ∨ (dG N (57357 + 26624 * s) ≠ 0 ∧ dG N1 (57356 + 26624 * s) = dG N (57356 + 26624 * s) ∧ dG N1 (65537 + 26624 * s) = 0)) ∧
      ((dG N (57358 + 26624 * s) < 2 ∧ dG N1 (81926 + 26624 * s) = dG N (81926 + 26624 * s) ∧ dG N1 (81927 + 26624 * s) = dG N (81927 + 26624 * s) ∧ dG N1 (81928 + 26624 * s) = dG N (81928 + 26624 * s)) ∨
       (2 ≤ dG N (57358 + 26624 * s) ∧ dG N1 (81926 + 26624 * s) = dG N (81926 + 26624 * s) + 1 ∧ dG N1 (81927 + 26624 * s) = dG N (81927 + 26624 * s) + (t - dG N (65546 + 26624 * s)) ∧ dG N1 (81928 + 26624 * s) = dMx (dG N (81928 + 26624 * s)) (t - dG N (65546 + 26624 * s)))) ∧
      ∀ k, k < 2097152 → dTkF s k → dG N1 k = dG N k := by
  unfold fX5_takeToken_S dlt
  rw [dW_id (x := dG N (57358 + 26624 * s) + 1) ⟨by omega, by omega⟩]
  have f1 : ∀ k, k < 2097152 → k ≠ (57358 + 26624 * s) → dG (dP N (57358 + 26624 * s) (dG N (57358 + 26624 * s) + 1)) k = dG N k := fun k hk h => dG_n h (by omega) hk
  have r1 : dG ((dP N (57358 + 26624 * s) (dG N (57358 + 26624 * s) + 1))) (57358 + 26624 * s) = dG N (57358 + 26624 * s) + 1 := (dG_e (by omega)).trans (dW_id ⟨by omega, by omega⟩)
  generalize dP N (57358 + 26624 * s) (dG N (57358 + 26624 * s) + 1) = M1 at f1 r1 ⊢
  dsimp only
  have la := f1 (57357 + 26624 * s) (by omega) (by omega)
  have du := f1 (57356 + 26624 * s) (by omega) (by omega)
  have gb := f1 (59392 + 26624 * s) (by omega) (by omega)
  rw [la, du, gb, dW_id (x := t + dG N (59392 + 26624 * s)) ⟨by omega, by omega⟩, dW_id (x := dG N (57356 + 26624 * s) - t) ⟨by omega, by omega⟩]
  by_cases c : dG N (57357 + 26624 * s) = 0
  · rw [if_pos c]
    have f2 : ∀ k, k < 2097152 → k ≠ (57356 + 26624 * s) → dG (dP M1 (57356 + 26624 * s) (t + dG N (59392 + 26624 * s))) k = dG M1 k := fun k hk h => dG_n h (by omega) hk
    have d2 : dG ((dP M1 (57356 + 26624 * s) (t + dG N (59392 + 26624 * s)))) (57356 + 26624 * s) = t + dG N (59392 + 26624 * s) := (dG_e (by omega)).trans (dW_id ⟨by omega, by omega⟩)
    generalize dP M1 (57356 + 26624 * s) (t + dG N (59392 + 26624 * s)) = M2 at f2 d2 ⊢
    have g : ∀ k, k < 2097152 → k ≠ (57358 + 26624 * s) → k ≠ (57356 + 26624 * s) → dG M2 k = dG N k := fun k hk a b => (f2 k hk b).trans (f1 k hk a)
    have ca := g (65546 + 26624 * s) (by omega) (by omega) (by omega)
    have t6 := g (81926 + 26624 * s) (by omega) (by omega) (by omega)
    have t7 := g (81927 + 26624 * s) (by omega) (by omega) (by omega)
    have t8 := g (81928 + 26624 * s) (by omega) (by omega) (by omega)
    have sh := g (57346 + 26624 * s) (by omega) (by omega) (by omega)
    have ro := (f2 (57358 + 26624 * s) (by omega) (by omega)).trans r1
    obtain ⟨N1, e, a1, a2, a3, a4, a5, a6, a7⟩ := sp_tk39 (N := M2) (s := s) (t := t) (x := dG N (57356 + 26624 * s) - t) hs ht ⟨by omega, by omega⟩ (by omega) (by omega) (by omega)
    refine ⟨N1, e, a1, by omega, a4, a5, (a7 _ (by omega) (by omega) (by omega) (by omega) (by omega) (by omega) (by omega)).trans ro, .inl ⟨c, (a7 _ (by omega) (by omega) (by omega) (by omega) (by omega) (by omega) (by omega)).trans d2, a2⟩, ?_, fun k hk h => ?_⟩
    · rw [ro, ca, t6, t7, t8] at a6
      rcases a6 with h | h
      · exact .inl ⟨by omega, h.2⟩
      · exact .inr ⟨by omega, h.2⟩
    · obtain ⟨h1, h2, h3, h4, h5, h6, h7, h8⟩ := h
      exact (a7 k hk h2 h4 h5 h6 h7 h8).trans (g k hk h3 h1)
  · rw [if_neg c]
    have ca := f1 (65546 + 26624 * s) (by omega) (by omega)
    have t6 := f1 (81926 + 26624 * s) (by omega) (by omega)
    have t7 := f1 (81927 + 26624 * s) (by omega) (by omega)
    have t8 := f1 (81928 + 26624 * s) (by omega) (by omega)
    have sh := f1 (57346 + 26624 * s) (by omega) (by omega)
    obtain ⟨N1, e, a1, a2, a3, a4, a5, a6, a7⟩ := sp_tk39 (N := M1) (s := s) (t := t) (x := 0) hs ht ⟨by decide, by decide⟩ (by omega) (by omega) (by omega)
    refine ⟨N1, e, a1, by omega, a4, a5, (a7 _ (by omega) (by omega) (by omega) (by omega) (by omega) (by omega) (by omega)).trans r1, .inr ⟨c, (a7 _ (by omega) (by omega) (by omega) (by omega) (by omega) (by omega) (by omega)).trans du, a2⟩, ?_, fun k hk h => ?_⟩
    · rw [r1, ca, t6, t7, t8] at a6
      rcases a6 with h | h
      · exact .inl ⟨by omega, h.2⟩
      · exact .inr ⟨by omega, h.2⟩
    · obtain ⟨h1, h2, h3, h4, h5, h6, h7, h8⟩ := h
      exact (a7 k hk h2 h4 h5 h6 h7 h8).trans (f1 k hk h3)
/-! ===== DUE ===== -/
theorem sp_watchDue {N : mMem} {s : Nat} (hs : s < 8) (ht : 0 ≤ dG N 2049 ∧ dG N 2049 ≤ 100000) (hb : 0 ≤ dG N (59392 + 26624 * s) ∧ dG N (59392 + 26624 * s) ≤ 1000) (hl : dG N (57356 + 26624 * s) = dG N 2049 → dG N (57357 + 26624 * s) = 0) :
    ∃ N1, fX3_watchDue_RS N s = some (N1, 0) ∧ ((dG N (57356 + 26624 * s) ≠ dG N 2049 ∧ N1 = N) ∨ (dG N (57356 + 26624 * s) = dG N 2049 ∧ dG N1 (57356 + 26624 * s) = dG N 2049 + dG N (59392 + 26624 * s) ∧ dG N1 (57357 + 26624 * s) = 1 ∧ ∀ k, k < 2097152 → k ≠ (57356 + 26624 * s) → k ≠ (57357 + 26624 * s) → dG N1 k = dG N k)) := by
  unfold fX3_watchDue_RS
  by_cases c : dG N (57356 + 26624 * s) = dG N 2049
  · have hl := hl c
    rw [if_pos c, dW_id (x := dG N 2049 + dG N (59392 + 26624 * s)) ⟨by omega, by omega⟩]
    unfold dlt
    have f1 : ∀ k, k < 2097152 → k ≠ (57356 + 26624 * s) → dG (dP N (57356 + 26624 * s) (dG N 2049 + dG N (59392 + 26624 * s))) k = dG N k := fun k hk h => dG_n h (by omega) hk
    have d1 : dG ((dP N (57356 + 26624 * s) (dG N 2049 + dG N (59392 + 26624 * s)))) (57356 + 26624 * s) = dG N 2049 + dG N (59392 + 26624 * s) := (dG_e (by omega)).trans (dW_id ⟨by omega, by omega⟩)
    generalize dP N (57356 + 26624 * s) (dG N 2049 + dG N (59392 + 26624 * s)) = M1 at f1 d1 ⊢
    dsimp only
    rw [if_neg (by rw [f1 _ (by omega) (by omega), hl]; decide)]
    refine ⟨_, rfl, .inr ⟨c, ?_, ?_, fun k hk a b => ?_⟩⟩
    · rw [dG_n (by omega) (by omega) (by omega), d1]
    · rw [dG_e (by omega), dW_id ⟨by decide, by decide⟩]
    · rw [dG_n b (by omega) hk, f1 k hk a]
  · rw [if_neg c]
    exact ⟨N, rfl, .inl ⟨c, rfl⟩⟩
/-! ===== streams go on ===== -/
theorem sp_voidRest {N : mMem} {s : Nat} (hs : s < 8) : ∃ N1, fX1_voidRest_H N s = some (N1, 0) ∧ ∀ k, k < 2097152 → k ≠ (65543 + 26624 * s) → dG N1 k = dG N k := by
  unfold fX1_voidRest_H
  by_cases c : dG N (65539 + 26624 * s) = 1
  · rw [if_pos c]
    exact ⟨_, rfl, fun k hk h => dG_n h (by omega) hk⟩
  · rw [if_neg c]
    exact ⟨N, rfl, fun _ _ _ => rfl⟩
theorem sp_streaming {N : mMem} {s : Nat} (hs : s < 8) (ho : dG N (57347 + 26624 * s) = 0) (ht : 0 ≤ dG N 2049) (hp : 0 ≤ dG N (63489 + 26624 * s) ∧ dG N (63489 + 26624 * s) ≤ 99) (hr : 0 ≤ dG N (63490 + 26624 * s) ∧ dG N (63490 + 26624 * s) ≤ 99) :
    ∃ N1, fX3_goOnStreaming_RS N s = some (N1, 0) ∧ (0 ≤ dG N1 (63490 + 26624 * s) ∧ dG N1 (63490 + 26624 * s) ≤ 99) ∧ ∀ k, k < 2097152 → (k < 26624 ∨ 38912 ≤ k) → k ≠ (63490 + 26624 * s) → k ≠ (65543 + 26624 * s) → k ≠ (81920 + 26624 * s) → dG N1 k = dG N k := by
  unfold fX3_goOnStreaming_RS
  rw [if_pos ho]
  have st : ∀ M : mMem, dG M (63489 + 26624 * s) = dG N (63489 + 26624 * s) → ∃ N1, fX3_goOnStreaming_RS_b70 M s = some (N1, 0) ∧ (0 ≤ dG N1 (63490 + 26624 * s) ∧ dG N1 (63490 + 26624 * s) ≤ 99) ∧ ∀ k, k < 2097152 → k ≠ (63490 + 26624 * s) → dG N1 k = dG M k := fun M hM => by
    unfold fX3_goOnStreaming_RS_b70
    refine ⟨_, rfl, ?_, fun k hk h => dG_n h (by omega) hk⟩
    rw [dG_e (by omega), dW_id (dG_R _ _), hM]
    exact hp
  by_cases c : 0 < dG N (63488 + 26624 * s)
  · rw [if_pos c, dgd_t ⟨ht, c⟩]
    by_cases d : dG N 2049 % dG N (63488 + 26624 * s) = 0
    · rw [if_pos d]
      by_cases e : 0 < dG N (63490 + 26624 * s)
      · rw [if_pos e]
        unfold dlt
        have f1 : ∀ k, k < 2097152 → k ≠ (81920 + 26624 * s) → dG (dP N (81920 + 26624 * s) (dW (dG N (81920 + 26624 * s) + 1))) k = dG N k := fun k hk h => dG_n h (by omega) hk
        generalize dP N (81920 + 26624 * s) (dW (dG N (81920 + 26624 * s) + 1)) = M1 at f1 ⊢
        dsimp only
        obtain ⟨M2, e2, f2⟩ := sp_note6 M1 (s : Int) (dG M1 (63490 + 26624 * s))
        rw [dbd_s e2]
        obtain ⟨M3, e3, f3⟩ := sp_voidRest (N := M2) hs
        rw [dbd_s e3]
        have fr : ∀ k, k < 2097152 → (k < 26624 ∨ 38912 ≤ k) → k ≠ (65543 + 26624 * s) → k ≠ (81920 + 26624 * s) → dG M3 k = dG N k := fun k hk a b c => (f3 k hk b).trans ((f2 k hk a).trans (f1 k hk c))
        obtain ⟨N1, g1, g2, g3⟩ := st M3 (fr _ (by omega) (by omega) (by omega) (by omega))
        exact ⟨N1, g1, g2, fun k hk a b c d => (g3 k hk b).trans (fr k hk a c d)⟩
      · rw [if_neg e]
        obtain ⟨N1, g1, g2, g3⟩ := st N rfl
        exact ⟨N1, g1, g2, fun k hk _ b _ _ => g3 k hk b⟩
    · rw [if_neg d]
      exact ⟨N, rfl, hr, fun _ _ _ _ _ _ => rfl⟩
  · rw [if_neg c]
    exact ⟨N, rfl, hr, fun _ _ _ _ _ _ => rfl⟩
/-! ===== who becomes UP ===== -/
theorem sp_becomeUC {N : mMem} {s : Nat} (hs : s < 8) : ∃ N1, fX0_become__UC N s = some (N1, 0) ∧ dG N1 (59392 + 26624 * s) = dG N 55296 ∧ dG N1 (59393 + 26624 * s) = dG N 55297 ∧ dG N1 (59394 + 26624 * s) = dG N 55298 ∧ ∀ k, k < 2097152 → (k < (59392 + 26624 * s) ∨ (59394 + 26624 * s) < k) → dG N1 k = dG N k := by
  unfold fX0_become__UC dlt
  refine ⟨_, rfl, ?_, ?_, ?_, fun k hk h => ?_⟩
  · rw [dG_n (by omega) (by omega) (by omega), dG_n (by omega) (by omega) (by omega), dG_e (by omega), dW_id (dG_R _ _)]
  · rw [dG_n (by omega) (by omega) (by omega), dG_e (by omega), dW_id (dG_R _ _), dG_n (by omega) (by omega) (by omega)]
  · rw [dG_e (by omega), dW_id (dG_R _ _), dG_n (by omega) (by omega) (by omega), dG_n (by omega) (by omega) (by omega)]
  · rw [dG_n (by omega) (by omega) hk, dG_n (by omega) (by omega) hk, dG_n (by omega) (by omega) hk]
theorem sp_becomeEC {N : mMem} {s : Nat} (hs : s < 8) : ∃ N1, fX0_become__EC N s = some (N1, 0) ∧ dG N1 (61440 + 26624 * s) = dG N 55296 ∧ dG N1 (61441 + 26624 * s) = dG N 55297 ∧ dG N1 (61442 + 26624 * s) = dG N 55298 ∧ ∀ k, k < 2097152 → (k < (61440 + 26624 * s) ∨ (61442 + 26624 * s) < k) → dG N1 k = dG N k := by
  unfold fX0_become__EC dlt
  refine ⟨_, rfl, ?_, ?_, ?_, fun k hk h => ?_⟩
  · rw [dG_n (by omega) (by omega) (by omega), dG_n (by omega) (by omega) (by omega), dG_e (by omega), dW_id (dG_R _ _)]
  · rw [dG_n (by omega) (by omega) (by omega), dG_e (by omega), dW_id (dG_R _ _), dG_n (by omega) (by omega) (by omega)]
  · rw [dG_e (by omega), dW_id (dG_R _ _), dG_n (by omega) (by omega) (by omega), dG_n (by omega) (by omega) (by omega)]
  · rw [dG_n (by omega) (by omega) hk, dG_n (by omega) (by omega) hk, dG_n (by omega) (by omega) hk]
/-- places that becoming UP touches -/
noncomputable def dUpF (s k : Nat) : Prop := k ≠ (57348 + 26624 * s) ∧ k ≠ (57349 + 26624 * s) ∧ (k < (59392 + 26624 * s) ∨ (59394 + 26624 * s) < k) ∧ k ≠ (57356 + 26624 * s) ∧ k ≠ (57357 + 26624 * s) ∧ k ≠ (57358 + 26624 * s) ∧ k ≠ (65547 + 26624 * s) ∧ k ≠ (81926 + 26624 * s) ∧ k ≠ (81927 + 26624 * s) ∧ k ≠ (81928 + 26624 * s)
theorem sp_goUp {N : mMem} {s : Nat} {t : Int} (hs : s < 8) (ht : 0 ≤ t ∧ t ≤ 100000) (hb : 0 ≤ dG N 55296 ∧ dG N 55296 ≤ 1000) :
    ∃ N1, fX5_goUp_SC N s t = some (N1, 0) ∧ dG N1 (57348 + 26624 * s) = 1 ∧ dG N1 (59392 + 26624 * s) = dG N 55296 ∧ dG N1 (59393 + 26624 * s) = dG N 55297 ∧ dG N1 (59394 + 26624 * s) = dG N 55298 ∧ dG N1 (57356 + 26624 * s) = t + dG N 55296 ∧ dG N1 (57357 + 26624 * s) = 0 ∧ dG N1 (57358 + 26624 * s) = 1 ∧ dG N1 (65547 + 26624 * s) = t ∧ dG N1 (81926 + 26624 * s) = 0 ∧ dG N1 (81927 + 26624 * s) = 0 ∧ dG N1 (81928 + 26624 * s) = 0 ∧ ∀ k, k < 2097152 → dUpF s k → dG N1 k = dG N k := by
  unfold fX5_goUp_SC dlt
  have w0 : dW 0 = 0 := dW_id ⟨by decide, by decide⟩
  have w1 : dW 1 = 1 := dW_id ⟨by decide, by decide⟩
  have wt : dW t = t := dW_id ⟨by omega, by omega⟩
  have f1 : ∀ k, k < 2097152 → k ≠ (57348 + 26624 * s) → k ≠ (57349 + 26624 * s) → dG (dP (dP N (57348 + 26624 * s) 1) (57349 + 26624 * s) t) k = dG N k := fun k hk a b => by rw [dG_n b (by omega) hk, dG_n a (by omega) hk]
  have k1 : dG ((dP (dP N (57348 + 26624 * s) 1) (57349 + 26624 * s) t)) (57348 + 26624 * s) = 1 := by rw [dG_n (by omega) (by omega) (by omega), dG_e (by omega), w1]
  generalize dP (dP N (57348 + 26624 * s) 1) (57349 + 26624 * s) t = M1 at f1 k1 ⊢
  dsimp only
  obtain ⟨M2, e2, b1, b2, b3, f2⟩ := sp_becomeUC (N := M1) hs
  rw [dbd_s e2]
  have c1 := f1 55296 (by decide) (by omega) (by omega)
  have c2 := f1 55297 (by decide) (by omega) (by omega)
  have c3 := f1 55298 (by decide) (by omega) (by omega)
  have cb := f2 55296 (by decide) (by omega)
  rw [cb, c1, dW_id (x := t + dG N 55296) ⟨by omega, by omega⟩]
  refine ⟨_, rfl, ?_, ?_, ?_, ?_, ?_, ?_, ?_, ?_, ?_, ?_, ?_, fun k hk h => ?_⟩
  · rw [dG_n (by omega) (by omega) (by omega), dG_n (by omega) (by omega) (by omega), dG_n (by omega) (by omega) (by omega), dG_n (by omega) (by omega) (by omega), dG_n (by omega) (by omega) (by omega), dG_n (by omega) (by omega) (by omega), dG_n (by omega) (by omega) (by omega), f2 _ (by omega) (by omega), k1]
  · rw [dG_n (by omega) (by omega) (by omega), dG_n (by omega) (by omega) (by omega), dG_n (by omega) (by omega) (by omega), dG_n (by omega) (by omega) (by omega), dG_n (by omega) (by omega) (by omega), dG_n (by omega) (by omega) (by omega), dG_n (by omega) (by omega) (by omega), b1, c1]
  · rw [dG_n (by omega) (by omega) (by omega), dG_n (by omega) (by omega) (by omega), dG_n (by omega) (by omega) (by omega), dG_n (by omega) (by omega) (by omega), dG_n (by omega) (by omega) (by omega), dG_n (by omega) (by omega) (by omega), dG_n (by omega) (by omega) (by omega), b2, c2]
  · rw [dG_n (by omega) (by omega) (by omega), dG_n (by omega) (by omega) (by omega), dG_n (by omega) (by omega) (by omega), dG_n (by omega) (by omega) (by omega), dG_n (by omega) (by omega) (by omega), dG_n (by omega) (by omega) (by omega), dG_n (by omega) (by omega) (by omega), b3, c3]
  · rw [dG_n (by omega) (by omega) (by omega), dG_n (by omega) (by omega) (by omega), dG_n (by omega) (by omega) (by omega), dG_n (by omega) (by omega) (by omega), dG_n (by omega) (by omega) (by omega), dG_n (by omega) (by omega) (by omega), dG_e (by omega), dW_id ⟨by omega, by omega⟩]
  · rw [dG_n (by omega) (by omega) (by omega), dG_n (by omega) (by omega) (by omega), dG_n (by omega) (by omega) (by omega), dG_n (by omega) (by omega) (by omega), dG_n (by omega) (by omega) (by omega), dG_e (by omega), w0]
  · rw [dG_n (by omega) (by omega) (by omega), dG_n (by omega) (by omega) (by omega), dG_n (by omega) (by omega) (by omega), dG_n (by omega) (by omega) (by omega), dG_e (by omega), w1]
  · rw [dG_n (by omega) (by omega) (by omega), dG_n (by omega) (by omega) (by omega), dG_n (by omega) (by omega) (by omega), dG_e (by omega), wt]
  · rw [dG_n (by omega) (by omega) (by omega), dG_n (by omega) (by omega) (by omega), dG_e (by omega), w0]
  · rw [dG_n (by omega) (by omega) (by omega), dG_e (by omega), w0]
  · rw [dG_e (by omega), w0]
  · obtain ⟨h1, h2, h3, h4, h5, h6, h7, h8, h9, h10⟩ := h
    rw [dG_n h10 (by omega) hk, dG_n h9 (by omega) hk, dG_n h8 (by omega) hk, dG_n h7 (by omega) hk, dG_n h6 (by omega) hk, dG_n h5 (by omega) hk, dG_n h4 (by omega) hk, f2 k hk h3, f1 k hk h1 h2]

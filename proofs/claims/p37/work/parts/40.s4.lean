/-! ===== a frame goes out of its line ===== -/
noncomputable def dShl5 (N N0 : mMem) (s o i m : Nat) : Prop := (∀ c j, c < 5 → j < 2048 → dG N ((35 + 13 * s + c) * 2048 + j) = if c < o ∧ i ≤ j ∧ j < i + m then dG N0 ((35 + 13 * s + c) * 2048 + (j + 1)) else dG N0 ((35 + 13 * s + c) * 2048 + j)) ∧ ∀ k, k < 2097152 → (k < 71680 + 26624 * s ∨ 81920 + 26624 * s ≤ k) → dG N k = dG N0 k
theorem dShl5_0 (N : mMem) (s i m : Nat) : dShl5 N N s 0 i m := ⟨fun c j _ _ => by rw [if_neg (fun q => by have := q.1; omega)], fun _ _ _ => rfl⟩
theorem dShl5_s {N N0 : mMem} {s o i m : Nat} (h : dShl5 N N0 s o i m) (hs : s < 8) (ho : o < 5) (hm : i + 1 + m ≤ 8) : dShl5 (dCp N (35 + 13 * s + o) (i + 1) (35 + 13 * s + o) i m) N0 s (o + 1) i m := by
  refine ⟨fun c j h1 hj => ?_, fun k hk hh => ?_⟩
  · rw [dG_cp (by omega) (by omega) (by omega) (by omega) (by omega)]
    by_cases hc : c = o
    · subst hc
      by_cases d : i ≤ j ∧ j < i + m
      · rw [if_pos ⟨by omega, by omega⟩, if_pos ⟨by omega, d.1, d.2⟩, show (35 + 13 * s + c) * 2048 + (i + 1) + ((35 + 13 * s + c) * 2048 + j - ((35 + 13 * s + c) * 2048 + i)) = (35 + 13 * s + c) * 2048 + (j + 1) by omega, h.1 c (j + 1) h1 (by omega), if_neg (fun q => Nat.lt_irrefl _ q.1)]
      · rw [if_neg (fun q => d ⟨by omega, by omega⟩), if_neg (fun q => d q.2), h.1 c j h1 hj, if_neg (fun q => Nat.lt_irrefl _ q.1)]
    · rw [if_neg (fun q => hc (by omega)), h.1 c j h1 hj]
      by_cases d : c < o ∧ i ≤ j ∧ j < i + m
      · rw [if_pos d, if_pos ⟨by omega, d.2⟩]
      · rw [if_neg d, if_neg (fun q => d ⟨by omega, q.2⟩)]
  · rw [dG_cp (by omega) (by omega) (by omega) (by omega) hk, if_neg (fun q => by omega)]
    exact h.2 k hk hh
theorem sp_removeL {N : mMem} {s i : Nat} (hs : s < 8) (hi : (i : Int) < dG N (67587 + 26624 * s)) (h8 : dG N (67587 + 26624 * s) ≤ 8) : ∃ N1, fX4_remove_L N s (i : Int) = some (N1, 0) ∧ dG N1 (67587 + 26624 * s) = dG N (67587 + 26624 * s) - 1 ∧ (∀ c j : Nat, c < 5 → (j : Int) < dG N (67587 + 26624 * s) - 1 → dG N1 ((35 + 13 * s + c) * 2048 + j) = dG N ((35 + 13 * s + c) * 2048 + (if j < i then j else j + 1))) ∧ ∀ k, k < 2097152 → k ≠ (67587 + 26624 * s) → (k < 71680 + 26624 * s ∨ 81920 + 26624 * s ≤ k) → dG N1 k = dG N k := by
  obtain ⟨m, hm⟩ : ∃ m : Nat, dG N (67587 + 26624 * s) - 1 - (i : Int) = (m : Int) := ⟨(dG N (67587 + 26624 * s) - 1 - i).toNat, by omega⟩
  have w1 : dW ((i : Int) + 1) = ((i + 1 : Nat) : Int) := dW_id (x := (i : Int) + 1) ⟨by omega, by omega⟩
  have w2 : dW (dG N (67587 + 26624 * s) - 1) = dG N (67587 + 26624 * s) - 1 := dW_id ⟨by omega, by omega⟩
  have w3 : dW (dG N (67587 + 26624 * s) - 1 - (i : Int)) = (m : Int) := (dW_id (x := dG N (67587 + 26624 * s) - 1 - (i : Int)) ⟨by omega, by omega⟩).trans hm
  have g : 0 ≤ ((i + 1 : Nat) : Int) ∧ 0 ≤ (i : Int) ∧ 0 ≤ (m : Int) ∧ ((i + 1 : Nat) : Int) + (m : Int) ≤ 8 ∧ (i : Int) + (m : Int) ≤ 8 := by omega
  have hm3 : i + 1 + m ≤ 8 := by omega
  have n1 : ((i + 1 : Nat) : Int).toNat = i + 1 := Int.toNat_natCast _
  have n2 : (i : Int).toNat = i := Int.toNat_natCast _
  have n3 : (m : Int).toNat = m := Int.toNat_natCast _
  have s0 := dShl5_0 N s i m
  have z0 : dG N (67587 + 26624 * s) = dG N (67587 + 26624 * s) := rfl
  have s1 : dShl5 (dCp N (35 + 13 * s) (i + 1) (35 + 13 * s) i m) N s 1 i m := by
    have q := dShl5_s (o := 0) s0 hs (by decide) hm3
    rw [show 35 + 13 * s + 0 = 35 + 13 * s by omega] at q
    exact q
  have e1 : fX4_remove_L_b15 N s (i : Int) = fX4_remove_L_b15_2 (dCp N (35 + 13 * s) (i + 1) (35 + 13 * s) i m) s (i : Int) := by
    unfold fX4_remove_L_b15
    rw [z0, w1, w2, w3, dgd_t g, n1, n2, n3]
  generalize dCp N (35 + 13 * s) (i + 1) (35 + 13 * s) i m = M1 at s1 e1
  have z1 : dG M1 (67587 + 26624 * s) = dG N (67587 + 26624 * s) := s1.2 _ (by omega) (.inl (by omega))
  have s2 : dShl5 (dCp M1 (36 + 13 * s) (i + 1) (36 + 13 * s) i m) N s 2 i m := by
    have q := dShl5_s (o := 1) s1 hs (by decide) hm3
    rw [show 35 + 13 * s + 1 = 36 + 13 * s by omega] at q
    exact q
  have e2 : fX4_remove_L_b15_2 M1 s (i : Int) = fX4_remove_L_b15_3 (dCp M1 (36 + 13 * s) (i + 1) (36 + 13 * s) i m) s (i : Int) := by
    unfold fX4_remove_L_b15_2
    rw [z1, w1, w2, w3, dgd_t g, n1, n2, n3]
  generalize dCp M1 (36 + 13 * s) (i + 1) (36 + 13 * s) i m = M2 at s2 e2
  have z2 : dG M2 (67587 + 26624 * s) = dG N (67587 + 26624 * s) := s2.2 _ (by omega) (.inl (by omega))
  have s3 : dShl5 (dCp M2 (37 + 13 * s) (i + 1) (37 + 13 * s) i m) N s 3 i m := by
    have q := dShl5_s (o := 2) s2 hs (by decide) hm3
    rw [show 35 + 13 * s + 2 = 37 + 13 * s by omega] at q
    exact q
  have e3 : fX4_remove_L_b15_3 M2 s (i : Int) = fX4_remove_L_b15_4 (dCp M2 (37 + 13 * s) (i + 1) (37 + 13 * s) i m) s (i : Int) := by
    unfold fX4_remove_L_b15_3
    rw [z2, w1, w2, w3, dgd_t g, n1, n2, n3]
  generalize dCp M2 (37 + 13 * s) (i + 1) (37 + 13 * s) i m = M3 at s3 e3
  have z3 : dG M3 (67587 + 26624 * s) = dG N (67587 + 26624 * s) := s3.2 _ (by omega) (.inl (by omega))
  have s4 : dShl5 (dCp M3 (38 + 13 * s) (i + 1) (38 + 13 * s) i m) N s 4 i m := by
    have q := dShl5_s (o := 3) s3 hs (by decide) hm3
    rw [show 35 + 13 * s + 3 = 38 + 13 * s by omega] at q
    exact q
  have e4 : fX4_remove_L_b15_4 M3 s (i : Int) = fX4_remove_L_b15_5 (dCp M3 (38 + 13 * s) (i + 1) (38 + 13 * s) i m) s (i : Int) := by
    unfold fX4_remove_L_b15_4
    rw [z3, w1, w2, w3, dgd_t g, n1, n2, n3]
  generalize dCp M3 (38 + 13 * s) (i + 1) (38 + 13 * s) i m = M4 at s4 e4
  have z4 : dG M4 (67587 + 26624 * s) = dG N (67587 + 26624 * s) := s4.2 _ (by omega) (.inl (by omega))
  have s5 : dShl5 (dCp M4 (39 + 13 * s) (i + 1) (39 + 13 * s) i m) N s 5 i m := by
    have q := dShl5_s (o := 4) s4 hs (by decide) hm3
    rw [show 35 + 13 * s + 4 = 39 + 13 * s by omega] at q
    exact q
  have e5 : fX4_remove_L_b15_5 M4 s (i : Int) = fX4_remove_L_b15_6 (dCp M4 (39 + 13 * s) (i + 1) (39 + 13 * s) i m) s (i : Int) := by
    unfold fX4_remove_L_b15_5
    rw [z4, w1, w2, w3, dgd_t g, n1, n2, n3]
  generalize dCp M4 (39 + 13 * s) (i + 1) (39 + 13 * s) i m = M5 at s5 e5
  have z5 : dG M5 (67587 + 26624 * s) = dG N (67587 + 26624 * s) := s5.2 _ (by omega) (.inl (by omega))
  have e6 : fX4_remove_L N s (i : Int) = some (dP M5 (67587 + 26624 * s) (dG N (67587 + 26624 * s) - 1), 0) := by
    unfold fX4_remove_L
    rw [if_neg (by omega), if_pos hi, e1, e2, e3, e4, e5]
    unfold fX4_remove_L_b15_6
    rw [z5, w2]
  clear e1 e2 e3 e4 e5 s0 s1 s2 s3 s4 z0 z1 z2 z3 z4 g n1 n2 n3 w1 w3
  refine ⟨_, e6, (dG_e (by omega)).trans w2, fun c j hc hj => ?_, fun k hk h h2 => ?_⟩
  · have hj2 : j < 2048 := by omega
    have hjm : ¬ j < i → j < i + m := fun q => by omega
    rw [dG_n (by omega) (by omega) (by omega), s5.1 c j hc hj2]
    by_cases q : j < i
    · rw [if_pos q, if_neg (fun q2 => Nat.lt_irrefl _ (Nat.lt_of_lt_of_le q q2.2.1))]
    · rw [if_neg q, if_pos ⟨hc, Nat.le_of_not_lt q, hjm q⟩]
  · rw [dG_n h (by omega) hk]
    exact s5.2 k hk h2
theorem dLine_remove {N N1 : mMem} {s i n : Nat} {m : Int} (hs : s < 8) (hl : dLine n m N s) (hi : (i : Int) < dG N (67587 + 26624 * s)) (h1 : dG N1 (67587 + 26624 * s) = dG N (67587 + 26624 * s) - 1) (h2 : ∀ c j : Nat, c < 5 → (j : Int) < dG N (67587 + 26624 * s) - 1 → dG N1 ((35 + 13 * s + c) * 2048 + j) = dG N ((35 + 13 * s + c) * 2048 + (if j < i then j else j + 1))) : dLine n m N1 s := by
  obtain ⟨a, b, c⟩ := hl
  refine ⟨by omega, by omega, fun j hj => ?_⟩
  have q0 := h2 0 j (by decide) (by omega)
  have q2 := h2 2 j (by decide) (by omega)
  rw [show (35 + 13 * s + 0) * 2048 + j = 71680 + 26624 * s + j by omega] at q0
  rw [show (35 + 13 * s + 2) * 2048 + j = 75776 + 26624 * s + j by omega] at q2
  rw [q0, q2]
  by_cases d : j < i
  · rw [if_pos d, show (35 + 13 * s + 0) * 2048 + j = 71680 + 26624 * s + j by omega, show (35 + 13 * s + 2) * 2048 + j = 75776 + 26624 * s + j by omega]
    exact c j (by omega)
  · rw [if_neg d, show (35 + 13 * s + 0) * 2048 + (j + 1) = 71680 + 26624 * s + (j + 1) by omega, show (35 + 13 * s + 2) * 2048 + (j + 1) = 75776 + 26624 * s + (j + 1) by omega]
    exact c (j + 1) (by omega)
theorem dLine_same {N N1 : mMem} {s n : Nat} {m : Int} (hs : s < 8) (hl : dLine n m N s) (h : ∀ k, (67587 + 26624 * s) ≤ k → k < 81920 + 26624 * s → dG N1 k = dG N k) : dLine n m N1 s := by
  obtain ⟨a, b, c⟩ := hl
  have e := h (67587 + 26624 * s) (by omega) (by omega)
  refine ⟨by omega, by omega, fun j hj => ?_⟩
  rw [h _ (by omega) (by omega), h _ (by omega) (by omega)]
  exact c j (by omega)
/-! ===== a frame's end ===== -/
theorem dOr_0 : dOr 0 0 = 0 := by decide +kernel
theorem sp_endFrame {N : mMem} {s n : Nat} {m : Int} (hs : s < 8) (hn : dG N 2048 = (n : Int)) (h8 : n ≤ 8) (hsn : s < n) (hc : dG N 2051 = 0) (ho : ∀ u, u < n → dG N (57347 + 26624 * u) = 0) (hl : dLine n m N s) :
    ∃ N1, fX3_endFrame_RS N s = some (N1, 0) ∧ dLine n m N1 s ∧ ∀ k, k < 2097152 → k ≠ 2060 → k ≠ (81922 + 26624 * s) → k ≠ (81924 + 26624 * s) → k ≠ (81925 + 26624 * s) → (k < (67587 + 26624 * s) ∨ 81920 + 26624 * s ≤ k) → dG N1 k = dG N k := by
  unfold fX3_endFrame_RS
  generalize hfa : dG N (65542 + 26624 * s) = fa
  obtain ⟨v, e1, rv, hv⟩ := sp_atL0 (N := N) (s := s) fa hl.2.1
  rw [dbd_s e1, dbd_s (sp_has N v)]
  by_cases c1 : 0 ≤ v ∧ v < dG N 2048
  · rw [if_pos c1, if_neg (by decide), dgd_t ⟨c1.1, by omega⟩]
    obtain ⟨q0, q1, -⟩ : 0 ≤ fa ∧ fa < dG N (67587 + 26624 * s) ∧ True := by
      rcases hv with h | h
      · exact ⟨h.1, h.2.1, trivial⟩
      · omega
    unfold dln
    dsimp only
    obtain ⟨v3, e3, rv3, -⟩ := sp_atL3 (N := N) (s := s) fa hl.2.1
    rw [dbd_s e3, ho v.toNat (by omega)]
    obtain ⟨f, hf⟩ : ∃ f : Nat, fa = (f : Int) := ⟨fa.toNat, by omega⟩
    subst hf
    -- the end proper
    have fin : ∀ x5 : Int, ∃ N1, fX3_endFrame_RS_b115 N s (f : Int) 0 x5 = some (N1, 0) ∧ dLine n m N1 s ∧ ∀ k, k < 2097152 → k ≠ 2060 → k ≠ (81922 + 26624 * s) → k ≠ (81924 + 26624 * s) → k ≠ (81925 + 26624 * s) → (k < (67587 + 26624 * s) ∨ 81920 + 26624 * s ≤ k) → dG N1 k = dG N k := fun x5 => by
      unfold fX3_endFrame_RS_b115
      rw [if_pos rfl]
      unfold dlt
      have f1 : ∀ k, k < 2097152 → k ≠ (81922 + 26624 * s) → dG (dP N (81922 + 26624 * s) (dW (dG N (81922 + 26624 * s) + 1))) k = dG N k := fun k hk h => dG_n h (by omega) hk
      generalize dP N (81922 + 26624 * s) (dW (dG N (81922 + 26624 * s) + 1)) = M1 at f1 ⊢
      dsimp only
      have f2 : ∀ k, k < 2097152 → k ≠ (81924 + 26624 * s) → dG (dP M1 (81924 + 26624 * s) (dW (dG M1 (81924 + 26624 * s) + x5))) k = dG M1 k := fun k hk h => dG_n h (by omega) hk
      generalize dP M1 (81924 + 26624 * s) (dW (dG M1 (81924 + 26624 * s) + x5)) = M2 at f2 ⊢
      have f3 : ∀ k, k < 2097152 → k ≠ (81925 + 26624 * s) → dG (dP M2 (81925 + 26624 * s) (dMx (dG M2 (81925 + 26624 * s)) x5)) k = dG M2 k := fun k hk h => dG_n h (by omega) hk
      generalize dP M2 (81925 + 26624 * s) (dMx (dG M2 (81925 + 26624 * s)) x5) = M3 at f3 ⊢
      have fr : ∀ k, k < 2097152 → k ≠ (81922 + 26624 * s) → k ≠ (81924 + 26624 * s) → k ≠ (81925 + 26624 * s) → dG M3 k = dG N k := fun k hk a b c => (f3 k hk c).trans ((f2 k hk b).trans (f1 k hk a))
      clear f1 f2 f3
      have hl3 : dLine n m M3 s := dLine_same hs hl (fun k a b => fr k (by omega) (by omega) (by omega) (by omega))
      have hf3 : (f : Int) < dG M3 (67587 + 26624 * s) := by rw [fr _ (by omega) (by omega) (by omega) (by omega)]; exact q1
      have rem : ∀ M : mMem, (∀ k, k < 2097152 → k ≠ 2060 → dG M k = dG M3 k) → ∃ N1, fX3_endFrame_RS_b199 M s (f : Int) = some (N1, 0) ∧ dLine n m N1 s ∧ ∀ k, k < 2097152 → k ≠ 2060 → k ≠ (81922 + 26624 * s) → k ≠ (81924 + 26624 * s) → k ≠ (81925 + 26624 * s) → (k < (67587 + 26624 * s) ∨ 81920 + 26624 * s ≤ k) → dG N1 k = dG N k := fun M hM => by
        have hlM : dLine n m M s := dLine_same hs hl3 (fun k a b => hM k (by omega) (by omega))
        have hfM : (f : Int) < dG M (67587 + 26624 * s) := by rw [hM _ (by omega) (by omega)]; exact hf3
        obtain ⟨N1, r1, r2, r3, r4⟩ := sp_removeL (N := M) (i := f) hs hfM hlM.2.1
        unfold fX3_endFrame_RS_b199
        rw [dbd_s r1]
        exact ⟨N1, rfl, dLine_remove hs hlM hfM r2 r3, fun k hk a1 a2 a3 a4 a5 => (r4 k hk (by omega) (by omega)).trans ((hM k hk a1).trans (fr k hk a2 a3 a4))⟩
      unfold fX3_endFrame_RS_b171
      obtain ⟨v4, e4, -, -⟩ := sp_atL4 (N := M3) (s := s) (f : Int) hl3.2.1
      rw [dbd_s e4]
      by_cases d : v4 = 1
      · rw [if_pos d, if_pos rfl]
        unfold fX3_endFrame_RS_b196
        exact rem _ (fun k hk h => dG_n h (by decide) hk)
      · rw [if_neg d]
        exact rem M3 (fun _ _ _ => rfl)
    have lo : ∀ (j fuel i : Nat) (x5 x6 : Int), n = i + j → j < fuel → 0 ≤ x6 → x6 < (n : Int) → ∃ y, fX3_endFrame_RS_b63 fuel N s (f : Int) v 0 x5 x6 (i : Int) = fX3_endFrame_RS_b115 N s (f : Int) 0 y := fun j => by
      induction j with
      | zero =>
        intro fuel i x5 x6 hi hf h6 h7
        obtain ⟨g, rfl⟩ : ∃ g, fuel = g + 1 := ⟨fuel - 1, by omega⟩
        rw [fX3_endFrame_RS_b63, if_neg (by omega)]
        exact ⟨x5, rfl⟩
      | succ j ih =>
        intro fuel i x5 x6 hi hf h6 h7
        obtain ⟨g, rfl⟩ : ∃ g, fuel = g + 1 := ⟨fuel - 1, by omega⟩
        rw [fX3_endFrame_RS_b63, if_pos (by omega)]
        by_cases d : x6 = v
        · rw [if_pos d]
          exact ⟨x5, rfl⟩
        · rw [if_neg d, dbd_s (sp_isCut hc x6), dgd_t ⟨h6, by omega⟩, dbd_s (sp_after h6 (by omega)), dOr_0, dW_id (x := (i : Int) + 1) ⟨by omega, by omega⟩]
          refine ih g (i + 1) _ _ (by omega) (by omega) ?_ ?_
          · split <;> omega
          · split <;> omega
    obtain ⟨y, hy⟩ := lo n 1000 0 (dW (dG N 2049 - v3)) (s : Int) (by omega) (by omega) (by omega) (by omega)
    rw [show ((0 : Nat) : Int) = 0 from rfl] at hy
    rw [hy]
    exact fin y
  · rw [if_neg c1, if_pos rfl]
    exact ⟨N, rfl, hl, fun _ _ _ _ _ _ _ => rfl⟩
/-! ===== the token is let go ===== -/
theorem sp_letGo {N : mMem} {s : Nat} (hs : s < 8) (hc : dG N 2051 = 0) (h0 : 0 ≤ dG N 10243) (h1 : dG N 10243 < 100) (t0 : 0 ≤ dG N 2049) (t1 : dG N 2049 ≤ 100000) (d0 : 0 ≤ dG N (6144 + s)) (d1 : dG N (6144 + s) ≤ 100) (hr : ∀ i : Nat, (i : Int) < dG N 10243 → dG N (16384 + i) = (s : Int) → dG N (18432 + i) ≤ dG N 2049 + dG N (6144 + s)) :
    ∃ N1, fX3_letGo_RS N s = some (N1, 0) ∧ dPost N1 = dPost N ++ [(2, ((s : Int), (dG N 2049 + dG N (6144 + s), (dG N (59393 + 26624 * s), (dG N (59392 + 26624 * s), dG N (59394 + 26624 * s))))))] ∧ dG N1 10243 = dG N 10243 + 1 ∧ dG N1 (65536 + 26624 * s) = 0 ∧ dG N1 (65537 + 26624 * s) = 0 ∧ dG N1 (65538 + 26624 * s) = 0 ∧ dG N1 (65539 + 26624 * s) = 0 ∧ dG N1 (65540 + 26624 * s) = 0 ∧ dG N1 (65547 + 26624 * s) = dG N 2049 ∧
      ∀ k, k < 2097152 → (k < 10240 ∨ (26624 ≤ k ∧ k < 38912) ∨ 53249 ≤ k) → (k < (65536 + 26624 * s) ∨ (65540 + 26624 * s) < k) → k ≠ (65547 + 26624 * s) → dG N1 k = dG N k := by
  unfold fX3_letGo_RS
  have b0 : ∀ k, k < 2097152 → (k < 38912 ∨ 53248 ≤ k) → dG (dP N 38915 (dW (dG N 38915 + 1))) k = dG N k := dOut_P N (by decide) (by decide) (by decide)
  have e0 : fX2_opn_B N = some (dP N 38915 (dW (dG N 38915 + 1)), 0) := rfl
  rw [dbd_s e0]
  generalize dP N 38915 (dW (dG N 38915 + 1)) = M0 at b0 ⊢
  obtain ⟨M1, e1, b1⟩ := sp_X2_put_Bc0 M0 (s : Int)
  rw [dbd_s e1]
  obtain ⟨M2, e2, b2⟩ := sp_X2_put_Bc1 M1 (dG M1 (65546 + 26624 * s))
  rw [dbd_s e2]
  obtain ⟨M3, e3, b3⟩ := sp_X2_put_Bc2 M2 (dW (dG M2 2049 - dG M2 (65546 + 26624 * s)))
  rw [dbd_s e3]
  obtain ⟨M4, e4, b4⟩ := sp_X2_put_Bc3 M3 (dG M3 (65544 + 26624 * s))
  rw [dbd_s e4]
  obtain ⟨M5, e5, b5⟩ := sp_X2_put_Bc4 M4 (dG M4 (65545 + 26624 * s))
  rw [dbd_s e5]
  have bo : dOut 38912 53248 N M5 := dOut_t (dOut_t (dOut_t (dOut_t (dOut_t b0 b1) b2) b3) b4) b5
  clear e0 e1 e2 e3 e4 e5 b0 b1 b2 b3 b4 b5
  obtain ⟨M6, g0, g1, g2, g3, g4, g5, g6⟩ : ∃ M6, fX1_drop_H M5 s = some (M6, 0) ∧ dG M6 (65536 + 26624 * s) = 0 ∧ dG M6 (65537 + 26624 * s) = 0 ∧ dG M6 (65538 + 26624 * s) = 0 ∧ dG M6 (65539 + 26624 * s) = 0 ∧ dG M6 (65540 + 26624 * s) = 0 ∧ ∀ k, k < 2097152 → (k < (65536 + 26624 * s) ∨ (65540 + 26624 * s) < k) → dG M6 k = dG M5 k := by
    have w : dW 0 = 0 := dW_id ⟨by decide, by decide⟩
    refine ⟨_, rfl, ?_, ?_, ?_, ?_, ?_, fun k hk h => ?_⟩
    · rw [dG_n (by omega) (by omega) (by omega), dG_n (by omega) (by omega) (by omega), dG_n (by omega) (by omega) (by omega), dG_n (by omega) (by omega) (by omega), dG_e (by omega), w]
    · rw [dG_n (by omega) (by omega) (by omega), dG_n (by omega) (by omega) (by omega), dG_n (by omega) (by omega) (by omega), dG_e (by omega), w]
    · rw [dG_n (by omega) (by omega) (by omega), dG_n (by omega) (by omega) (by omega), dG_e (by omega), w]
    · rw [dG_n (by omega) (by omega) (by omega), dG_e (by omega), w]
    · rw [dG_e (by omega), w]
    · rw [dG_n (by omega) (by omega) hk, dG_n (by omega) (by omega) hk, dG_n (by omega) (by omega) hk, dG_n (by omega) (by omega) hk, dG_n (by omega) (by omega) hk]
  rw [dbd_s g0]
  have nw : dG M6 2049 = dG N 2049 := (g6 _ (by decide) (by omega)).trans (bo _ (by decide) (by omega))
  rw [nw]
  unfold dlt
  have f1 : ∀ k, k < 2097152 → k ≠ (65547 + 26624 * s) → dG (dP M6 (65547 + 26624 * s) (dG N 2049)) k = dG M6 k := fun k hk h => dG_n h (by omega) hk
  have f2 : dG ((dP M6 (65547 + 26624 * s) (dG N 2049))) (65547 + 26624 * s) = dG N 2049 := (dG_e (by omega)).trans (dW_id (dG_R _ _))
  generalize dP M6 (65547 + 26624 * s) (dG N 2049) = M7 at f1 f2 ⊢
  dsimp only
  have fr : ∀ k, k < 2097152 → (k < 38912 ∨ 53248 ≤ k) → (k < (65536 + 26624 * s) ∨ (65540 + 26624 * s) < k) → k ≠ (65547 + 26624 * s) → dG M7 k = dG N k := fun k hk a b c => (f1 k hk c).trans ((g6 k hk b).trans (bo k hk a))
  have p1 : dPost M7 = dPost N := dPost_same (fun k a b => fr k (by omega) (by omega) (by omega) (by omega)) (by omega)
  have c1 := fr 2051 (by decide) (by omega) (by omega) (by omega)
  have c2 := fr 10243 (by decide) (by omega) (by omega) (by omega)
  have c3 := fr 2049 (by decide) (by omega) (by omega) (by omega)
  have c4 := fr (6144 + s) (by omega) (by omega) (by omega) (by omega)
  obtain ⟨N1, h2, h3, h4, h5⟩ := sp_send_RU (N := M7) hs (u := s) (kd := 2) hs (by omega) (by omega) (by omega) ⟨by decide, by decide⟩ (by omega) (by omega) (by omega) (by omega) (fun i hi hl => by
    rw [fr _ (by omega) (by omega) (by omega) (by omega)] at hl ⊢
    rw [c3, c4]
    exact hr i (by omega) hl)
  rw [dbd_s h2]
  refine ⟨N1, rfl, ?_, by omega, ?_, ?_, ?_, ?_, ?_, ?_, fun k hk a b c => (h5 k hk (by omega) (by omega)).trans (fr k hk (by omega) b c)⟩
  · rw [h3, p1, c3, c4, fr _ (by omega) (by omega) (by omega) (by omega), fr _ (by omega) (by omega) (by omega) (by omega), fr _ (by omega) (by omega) (by omega) (by omega)]
  · rw [h5 _ (by omega) (by omega) (by omega), f1 _ (by omega) (by omega), g1]
  · rw [h5 _ (by omega) (by omega) (by omega), f1 _ (by omega) (by omega), g2]
  · rw [h5 _ (by omega) (by omega) (by omega), f1 _ (by omega) (by omega), g3]
  · rw [h5 _ (by omega) (by omega) (by omega), f1 _ (by omega) (by omega), g4]
  · rw [h5 _ (by omega) (by omega) (by omega), f1 _ (by omega) (by omega), g5]
  · rw [h5 _ (by omega) (by omega) (by omega), f2]

/-! ===== sums of the first so many ===== -/
noncomputable def dPfx (f : Nat → Int) : Nat → Int
  | 0 => 0
  | k + 1 => dPfx f k + f k
theorem dPfx_s (f : Nat → Int) (k : Nat) : dPfx f (k + 1) = dPfx f k + f k := rfl
theorem dPfx_0 (f : Nat → Int) : dPfx f 0 = 0 := rfl
theorem dPfx_b {f : Nat → Int} {a b : Int} : ∀ {k : Nat}, (∀ i, i < k → a ≤ f i ∧ f i ≤ b) → a * (k : Int) ≤ dPfx f k ∧ dPfx f k ≤ b * (k : Int)
  | 0, _ => by rw [dPfx_0]; simp
  | k + 1, h => by
    have ih := dPfx_b (f := f) (a := a) (b := b) (k := k) (fun i hi => h i (by omega))
    have hk := h k (by omega)
    rw [dPfx_s, show ((k + 1 : Nat) : Int) = (k : Int) + 1 by omega, Int.mul_add, Int.mul_add, Int.mul_one, Int.mul_one]
    omega
theorem dPfx_e {f g : Nat → Int} : ∀ {k : Nat}, (∀ i, i < k → f i = g i) → dPfx f k = dPfx g k
  | 0, _ => rfl
  | k + 1, h => by rw [dPfx_s, dPfx_s, dPfx_e (k := k) (fun i hi => h i (by omega)), h k (by omega)]
theorem dPfx_m {f : Nat → Int} (h : ∀ i, 0 ≤ f i) : ∀ {k m : Nat}, k ≤ m → dPfx f k ≤ dPfx f m := fun {k m} hkm => by
  obtain ⟨d, rfl⟩ : ∃ d, m = k + d := ⟨m - k, by omega⟩
  induction d with
  | zero => exact Int.le_refl _
  | succ d ih =>
    have e : dPfx f (k + (d + 1)) = dPfx f (k + d) + f (k + d) := rfl
    have := h (k + d)
    have := ih (by omega)
    omega
/-! ===== latency ===== -/
theorem sp_latency {N : mMem} {n : Nat} (hn : dG N 2048 = (n : Int)) (h8 : n ≤ 8) (hd : ∀ k, k < n → 0 ≤ dG N (6144 + k) ∧ dG N (6144 + k) ≤ 100) : fX3_latency_R N = some (N, dPfx (fun k => dG N (6144 + k)) n) := by
  have lo : ∀ (m fuel i : Nat), n = i + m → m < fuel → fX3_latency_R_b4 fuel N (dPfx (fun k => dG N (6144 + k)) i) (i : Int) = some (N, dPfx (fun k => dG N (6144 + k)) n) := fun m => by
    induction m with
    | zero =>
      intro fuel i hi hf
      obtain ⟨f, rfl⟩ : ∃ f, fuel = f + 1 := ⟨fuel - 1, by omega⟩
      rw [fX3_latency_R_b4, hn, if_neg (by omega), hi]
      rfl
    | succ m ih =>
      intro fuel i hi hf
      obtain ⟨f, rfl⟩ : ∃ f, fuel = f + 1 := ⟨fuel - 1, by omega⟩
      have b := dPfx_b (f := fun k => dG N (6144 + k)) (a := 0) (b := 100) (k := i) (fun j hj => hd j (by omega))
      have c := hd i (by omega)
      rw [fX3_latency_R_b4, hn, if_pos (by omega), dgd_t ⟨by omega, by omega⟩, Int.toNat_natCast, dW_id (x := (i : Int) + 1) ⟨by omega, by omega⟩, dW_id (x := dPfx (fun k => dG N (6144 + k)) i + dG N (6144 + i)) ⟨by omega, by omega⟩]
      exact ih f (i + 1) (by omega) (by omega)
  exact lo n 1000 0 (by omega) (by omega)
/-! ===== a hold's leaves ===== -/
theorem dMx_0 (x : Int) : 0 ≤ dMx 0 x ∧ (0 ≤ x → dMx 0 x = x) ∧ (x ≤ 0 → dMx 0 x = 0) := by
  unfold dMx
  split <;> refine ⟨by omega, fun _ => by omega, fun _ => by omega⟩
theorem dMn_le (a b : Int) : dMn a b ≤ a ∧ dMn a b ≤ b ∧ (dMn a b = a ∨ dMn a b = b) := by
  unfold dMn
  split <;> omega
theorem sp_sendTick {N : mMem} {s : Nat} (hs : s < 8) (h1 : 1 ≤ dG N (65540 + 26624 * s)) (h2 : 0 ≤ dG N (65537 + 26624 * s)) :
    ∃ N1, fX1_sendTick_H N s = some (N1, 0) ∧ dG N1 (65540 + 26624 * s) = dG N (65540 + 26624 * s) - 1 ∧ dG N1 (65537 + 26624 * s) = (if dG N (65539 + 26624 * s) = 1 then dG N (65537 + 26624 * s) else dMx 0 (dG N (65537 + 26624 * s) - 1)) ∧ ∀ k, k < 2097152 → k ≠ (65537 + 26624 * s) → k ≠ (65540 + 26624 * s) → k ≠ (65544 + 26624 * s) → k ≠ (65545 + 26624 * s) → dG N1 k = dG N k := by
  unfold fX1_sendTick_H dlt
  have r1 := dG_R N (65540 + 26624 * s)
  have r2 := dG_R N (65537 + 26624 * s)
  have w1 : dW (dG N (65540 + 26624 * s) - 1) = dG N (65540 + 26624 * s) - 1 := dW_id ⟨by omega, by omega⟩
  have w2 : dW (dG N (65537 + 26624 * s) - 1) = dG N (65537 + 26624 * s) - 1 := dW_id ⟨by omega, by omega⟩
  rw [w1]
  have f1 : ∀ k, k < 2097152 → k ≠ (65540 + 26624 * s) → dG (dP N (65540 + 26624 * s) (dG N (65540 + 26624 * s) - 1)) k = dG N k := fun k hk h => dG_n h (by omega) hk
  have e1 : dG ((dP N (65540 + 26624 * s) (dG N (65540 + 26624 * s) - 1))) (65540 + 26624 * s) = dG N (65540 + 26624 * s) - 1 := (dG_e (by omega)).trans w1
  generalize dP N (65540 + 26624 * s) (dG N (65540 + 26624 * s) - 1) = N1 at f1 e1 ⊢
  dsimp only
  rw [f1 (65539 + 26624 * s) (by omega) (by omega)]
  by_cases c : dG N (65539 + 26624 * s) = 1
  · rw [if_pos c, if_pos c]
    refine ⟨_, rfl, ?_, ?_, fun k hk a1 a2 a3 a4 => ?_⟩
    · rw [dG_n (by omega) (by omega) (by omega), e1]
    · rw [dG_n (by omega) (by omega) (by omega), f1 _ (by omega) (by omega)]
    · rw [dG_n a3 (by omega) hk, f1 k hk a2]
  · rw [if_neg c, if_neg c]
    have f2 : ∀ k, k < 2097152 → k ≠ (65545 + 26624 * s) → dG (dP N1 (65545 + 26624 * s) (dW (dG N1 (65545 + 26624 * s) + 1))) k = dG N1 k := fun k hk h => dG_n h (by omega) hk
    generalize dP N1 (65545 + 26624 * s) (dW (dG N1 (65545 + 26624 * s) + 1)) = N2 at f2 ⊢
    rw [f2 (65537 + 26624 * s) (by omega) (by omega), f1 (65537 + 26624 * s) (by omega) (by omega), w2]
    refine ⟨_, rfl, ?_, ?_, fun k hk a1 a2 a3 a4 => ?_⟩
    · rw [dG_n (by omega) (by omega) (by omega), f2 _ (by omega) (by omega), e1]
    · have m := dMx_0 (dG N (65537 + 26624 * s) - 1)
      rw [dG_e (by omega), dW_id (dMx_R ⟨by decide, by decide⟩ ⟨by omega, by omega⟩)]
    · rw [dG_n a1 (by omega) hk, f2 k hk a4, f1 k hk a2]
theorem sp_endRest {N : mMem} {s : Nat} (hs : s < 8) (h1 : 0 ≤ dG N (63490 + 26624 * s)) (h2 : 0 ≤ dG N (65541 + 26624 * s)) :
    ∃ N1, fX5_endRest_S N s = some (N1, 0) ∧ 0 ≤ dG N1 (63490 + 26624 * s) ∧ dG N1 (63490 + 26624 * s) ≤ dG N (63490 + 26624 * s) ∧ ∀ k, k < 2097152 → k ≠ (63490 + 26624 * s) → k ≠ (81921 + 26624 * s) → dG N1 k = dG N k := by
  unfold fX5_endRest_S
  have r1 := dG_R N (63490 + 26624 * s)
  have r2 := dG_R N (65541 + 26624 * s)
  by_cases c : dG N (65543 + 26624 * s) = 0
  · have w : dW (dG N (63490 + 26624 * s) - dG N (65541 + 26624 * s)) = dG N (63490 + 26624 * s) - dG N (65541 + 26624 * s) := dW_id ⟨by omega, by omega⟩
    have m := dMx_0 (dG N (63490 + 26624 * s) - dG N (65541 + 26624 * s))
    have hm : dMx 0 (dG N (63490 + 26624 * s) - dG N (65541 + 26624 * s)) ≤ dG N (63490 + 26624 * s) := by
      by_cases q : 0 ≤ dG N (63490 + 26624 * s) - dG N (65541 + 26624 * s)
      · rw [m.2.1 q]; omega
      · rw [m.2.2 (by omega)]; omega
    rw [if_pos c, w]
    unfold dlt
    have f1 : ∀ k, k < 2097152 → k ≠ (63490 + 26624 * s) → dG (dP N (63490 + 26624 * s) (dMx 0 (dG N (63490 + 26624 * s) - dG N (65541 + 26624 * s)))) k = dG N k := fun k hk h => dG_n h (by omega) hk
    have e1 : dG ((dP N (63490 + 26624 * s) (dMx 0 (dG N (63490 + 26624 * s) - dG N (65541 + 26624 * s))))) (63490 + 26624 * s) = dMx 0 (dG N (63490 + 26624 * s) - dG N (65541 + 26624 * s)) := (dG_e (by omega)).trans (dW_id ⟨by omega, by omega⟩)
    generalize dP N (63490 + 26624 * s) (dMx 0 (dG N (63490 + 26624 * s) - dG N (65541 + 26624 * s))) = N1 at f1 e1 ⊢
    dsimp only
    by_cases d : dG N1 (63490 + 26624 * s) = 0
    · rw [if_pos d]
      refine ⟨_, rfl, ?_, ?_, fun k hk a1 a2 => ?_⟩
      · rw [dG_n (by omega) (by omega) (by omega), d]; decide
      · rw [dG_n (by omega) (by omega) (by omega), d]; exact h1
      · rw [dG_n a2 (by omega) hk, f1 k hk a1]
    · rw [if_neg d]
      exact ⟨N1, rfl, by omega, by omega, fun k hk a1 a2 => f1 k hk a1⟩
  · rw [if_neg c]
    exact ⟨N, rfl, h1, Int.le_refl _, fun _ _ _ _ => rfl⟩
theorem sp_atL2 {N : mMem} {s : Nat} {i : Int} (h0 : 0 ≤ i) (h1 : i < dG N (67587 + 26624 * s)) (h2 : dG N (67587 + 26624 * s) ≤ 8) : fX4_at_Lc2 N s i = some (N, dG N (75776 + 26624 * s + i.toNat)) := by
  unfold fX4_at_Lc2
  rw [if_neg (by omega), if_pos h1, dgd_t ⟨h0, by omega⟩]
theorem sp_atL1 {N : mMem} {s : Nat} {i : Int} (h0 : 0 ≤ i) (h1 : i < dG N (67587 + 26624 * s)) (h2 : dG N (67587 + 26624 * s) ≤ 8) : fX4_at_Lc1 N s i = some (N, dG N (73728 + 26624 * s + i.toNat)) := by
  unfold fX4_at_Lc1
  rw [if_neg (by omega), if_pos h1, dgd_t ⟨h0, by omega⟩]
theorem sp_atL0 {N : mMem} {s : Nat} (i : Int) (h2 : dG N (67587 + 26624 * s) ≤ 8) : ∃ v, fX4_at_Lc0 N s i = some (N, v) ∧ dR v ∧ ((0 ≤ i ∧ i < dG N (67587 + 26624 * s) ∧ v = dG N (71680 + 26624 * s + i.toNat)) ∨ (v = -1 ∧ ¬ (0 ≤ i ∧ i < dG N (67587 + 26624 * s)))) := by
  unfold fX4_at_Lc0 fX4_at_Lc0_b24
  by_cases h0 : i < 0
  · rw [if_pos h0]
    exact ⟨_, rfl, ⟨by decide, by decide⟩, .inr ⟨rfl, by omega⟩⟩
  · by_cases h1 : i < dG N (67587 + 26624 * s)
    · rw [if_neg h0, if_pos h1, dgd_t ⟨by omega, by omega⟩]
      exact ⟨_, rfl, dG_R _ _, .inl ⟨by omega, h1, rfl⟩⟩
    · rw [if_neg h0, if_neg h1]
      exact ⟨_, rfl, ⟨by decide, by decide⟩, .inr ⟨rfl, by omega⟩⟩
theorem sp_atL3 {N : mMem} {s : Nat} (i : Int) (h2 : dG N (67587 + 26624 * s) ≤ 8) : ∃ v, fX4_at_Lc3 N s i = some (N, v) ∧ dR v ∧ ((0 ≤ i ∧ i < dG N (67587 + 26624 * s) ∧ v = dG N (77824 + 26624 * s + i.toNat)) ∨ (v = -1 ∧ ¬ (0 ≤ i ∧ i < dG N (67587 + 26624 * s)))) := by
  unfold fX4_at_Lc3 fX4_at_Lc3_b24
  by_cases h0 : i < 0
  · rw [if_pos h0]
    exact ⟨_, rfl, ⟨by decide, by decide⟩, .inr ⟨rfl, by omega⟩⟩
  · by_cases h1 : i < dG N (67587 + 26624 * s)
    · rw [if_neg h0, if_pos h1, dgd_t ⟨by omega, by omega⟩]
      exact ⟨_, rfl, dG_R _ _, .inl ⟨by omega, h1, rfl⟩⟩
    · rw [if_neg h0, if_neg h1]
      exact ⟨_, rfl, ⟨by decide, by decide⟩, .inr ⟨rfl, by omega⟩⟩
theorem sp_atL4 {N : mMem} {s : Nat} (i : Int) (h2 : dG N (67587 + 26624 * s) ≤ 8) : ∃ v, fX4_at_Lc4 N s i = some (N, v) ∧ dR v ∧ ((0 ≤ i ∧ i < dG N (67587 + 26624 * s) ∧ v = dG N (79872 + 26624 * s + i.toNat)) ∨ (v = -1 ∧ ¬ (0 ≤ i ∧ i < dG N (67587 + 26624 * s)))) := by
  unfold fX4_at_Lc4 fX4_at_Lc4_b24
  by_cases h0 : i < 0
  · rw [if_pos h0]
    exact ⟨_, rfl, ⟨by decide, by decide⟩, .inr ⟨rfl, by omega⟩⟩
  · by_cases h1 : i < dG N (67587 + 26624 * s)
    · rw [if_neg h0, if_pos h1, dgd_t ⟨by omega, by omega⟩]
      exact ⟨_, rfl, dG_R _ _, .inl ⟨by omega, h1, rfl⟩⟩
    · rw [if_neg h0, if_neg h1]
      exact ⟨_, rfl, ⟨by decide, by decide⟩, .inr ⟨rfl, by omega⟩⟩
/-! ===== the frame that is sent ===== -/
theorem sp_frameToSend {N : mMem} {s : Nat} (h0 : 0 ≤ dG N (67587 + 26624 * s)) (h8 : dG N (67587 + 26624 * s) ≤ 8) : ∃ v, fX3_frameToSend_RS N s = some (N, v) ∧ (v = -1 ∨ (0 ≤ v ∧ v < dG N (67587 + 26624 * s))) := by
  have lo : ∀ (m fuel i : Nat) (x2 x3 : Int), (dG N (67587 + 26624 * s)).toNat = i + m → m < fuel → 0 ≤ x3 → (x2 = -1 ∨ (0 ≤ x2 ∧ x2 < dG N (67587 + 26624 * s))) → ∃ v, fX3_frameToSend_RS_b7 fuel N s x2 x3 (i : Int) = some (N, v) ∧ (v = -1 ∨ (0 ≤ v ∧ v < dG N (67587 + 26624 * s))) := fun m => by
    induction m with
    | zero =>
      intro fuel i x2 x3 hi hf h3 h2
      obtain ⟨f, rfl⟩ : ∃ f, fuel = f + 1 := ⟨fuel - 1, by omega⟩
      rw [fX3_frameToSend_RS_b7, if_neg (by omega)]
      exact ⟨x2, rfl, h2⟩
    | succ m ih =>
      intro fuel i x2 x3 hi hf h3 h2
      obtain ⟨f, rfl⟩ : ∃ f, fuel = f + 1 := ⟨fuel - 1, by omega⟩
      have nx : ∀ y2 y3 : Int, 0 ≤ y3 → (y2 = -1 ∨ (0 ≤ y2 ∧ y2 < dG N (67587 + 26624 * s))) → ∃ v, fX3_frameToSend_RS_b70 (fX3_frameToSend_RS_b7 f) N s y2 y3 (i : Int) = some (N, v) ∧ (v = -1 ∨ (0 ≤ v ∧ v < dG N (67587 + 26624 * s))) := fun y2 y3 a b => by
        unfold fX3_frameToSend_RS_b70
        rw [dW_id (x := (i : Int) + 1) ⟨by omega, by omega⟩]
        exact ih f (i + 1) y2 y3 (by omega) (by omega) a b
      rw [fX3_frameToSend_RS_b7, if_pos (by omega), dbd_s (sp_atL1 (by omega) (by omega) h8)]
      have r := dG_R N (73728 + 26624 * s + ((i : Int)).toNat)
      generalize dG N (73728 + 26624 * s + ((i : Int)).toNat) = p at r ⊢
      by_cases c1 : x3 < p
      · rw [if_pos c1]
        by_cases c2 : 3 < p
        · rw [if_pos c2]
          exact nx x2 x3 h3 h2
        · rw [if_neg c2, dW_id (x := 3 + p) ⟨by omega, by omega⟩, dW_id (x := 3 + p - 1) ⟨by omega, by omega⟩, dgd_t ⟨by omega, by omega⟩]
          by_cases c3 : dG N (4096 + (3 + p - 1).toNat) < dG N (65537 + 26624 * s)
          · rw [if_pos c3]
            exact nx (i : Int) p (by omega) (.inr ⟨by omega, by omega⟩)
          · rw [if_neg c3]
            exact nx x2 x3 h3 h2
      · rw [if_neg c1]
        exact nx x2 x3 h3 h2
  exact lo (dG N (67587 + 26624 * s)).toNat 1000 0 (-1) 0 (by omega) (by omega) (by omega) (.inl rfl)
theorem sp_start {N : mMem} {s : Nat} {a b c : Int} (hs : s < 8) (ha : dR a) (hb : dR b) (hc : dR c) : ∃ N1, fX1_start_H N s a b c = some (N1, 0) ∧ dG N1 (65539 + 26624 * s) = a ∧ dG N1 (65540 + 26624 * s) = b ∧ dG N1 (65541 + 26624 * s) = b ∧ ∀ k, k < 2097152 → (k < (65539 + 26624 * s) ∨ (65543 + 26624 * s) < k) → dG N1 k = dG N k := by
  unfold fX1_start_H
  refine ⟨_, rfl, ?_, ?_, ?_, fun k hk h => ?_⟩
  · rw [dG_n (by omega) (by omega) (by omega), dG_n (by omega) (by omega) (by omega), dG_n (by omega) (by omega) (by omega), dG_n (by omega) (by omega) (by omega), dG_e (by omega), dW_id ha]
  · rw [dG_n (by omega) (by omega) (by omega), dG_n (by omega) (by omega) (by omega), dG_n (by omega) (by omega) (by omega), dG_e (by omega), dW_id hb]
  · rw [dG_n (by omega) (by omega) (by omega), dG_n (by omega) (by omega) (by omega), dG_e (by omega), dW_id hb]
  · rw [dG_n (by omega) (by omega) (by omega), dG_n (by omega) (by omega) (by omega), dG_n (by omega) (by omega) (by omega), dG_n (by omega) (by omega) (by omega), dG_n (by omega) (by omega) (by omega)]
/-- frames in a line: how many, each TO a station, no longer than m -/
noncomputable def dLine (n : Nat) (m : Int) (N : mMem) (s : Nat) : Prop := 0 ≤ dG N (67587 + 26624 * s) ∧ dG N (67587 + 26624 * s) ≤ 8 ∧ ∀ i : Nat, (i : Int) < dG N (67587 + 26624 * s) → (0 ≤ dG N (71680 + 26624 * s + i) ∧ dG N (71680 + 26624 * s + i) < (n : Int)) ∧ 1 ≤ dG N (75776 + 26624 * s + i) ∧ dG N (75776 + 26624 * s + i) ≤ m
theorem sp_startsNext {N : mMem} {s n : Nat} {m : Int} (hs : s < 8) (h1 : 0 ≤ dG N (63490 + 26624 * s)) (h2 : 0 ≤ dG N (65538 + 26624 * s)) (hl : dLine n m N s) :
    ∃ N1 v, fX3_startsNext_RS N s = some (N1, v) ∧ (∀ k, k < 2097152 → k ≠ (65538 + 26624 * s) → (k < (65539 + 26624 * s) ∨ (65543 + 26624 * s) < k) → dG N1 k = dG N k) ∧
      ((v = 1 ∧ dG N1 (65539 + 26624 * s) = 1 ∧ 1 ≤ dG N1 (65540 + 26624 * s) ∧ dG N1 (65541 + 26624 * s) = dG N1 (65540 + 26624 * s) ∧ 0 ≤ dG N1 (65538 + 26624 * s) ∧ dG N1 (65540 + 26624 * s) + dG N1 (65538 + 26624 * s) = dG N (65538 + 26624 * s)) ∨
       (v = 1 ∧ dG N1 (65539 + 26624 * s) = 2 ∧ 1 ≤ dG N1 (65540 + 26624 * s) ∧ dG N1 (65540 + 26624 * s) ≤ m ∧ dG N1 (65541 + 26624 * s) = dG N1 (65540 + 26624 * s) ∧ dG N1 (65538 + 26624 * s) = dG N (65538 + 26624 * s) ∧ 1 ≤ dG N (65537 + 26624 * s)) ∨
       (v = 0 ∧ N1 = N)) := by
  unfold fX3_startsNext_RS
  obtain ⟨l0, l8, lr⟩ := id hl
  have r1 := dG_R N (63490 + 26624 * s)
  have r2 := dG_R N (65538 + 26624 * s)
  obtain ⟨m1, m2, m3⟩ := dMn_le (dG N (63490 + 26624 * s)) (dG N (65538 + 26624 * s))
  have none_ : ∃ N1 v, fX3_startsNext_RS_b66 N s = some (N1, v) ∧ (v = 0 ∧ N1 = N) := by
    unfold fX3_startsNext_RS_b66 fX3_startsNext_RS_b67
    rw [if_pos rfl]
    exact ⟨N, 0, rfl, rfl, rfl⟩
  have no : ∃ N1 v, fX3_startsNext_RS_b66 N s = some (N1, v) ∧ (∀ k, k < 2097152 → k ≠ (65538 + 26624 * s) → (k < (65539 + 26624 * s) ∨ (65543 + 26624 * s) < k) → dG N1 k = dG N k) ∧
      ((v = 1 ∧ dG N1 (65539 + 26624 * s) = 1 ∧ 1 ≤ dG N1 (65540 + 26624 * s) ∧ dG N1 (65541 + 26624 * s) = dG N1 (65540 + 26624 * s) ∧ 0 ≤ dG N1 (65538 + 26624 * s) ∧ dG N1 (65540 + 26624 * s) + dG N1 (65538 + 26624 * s) = dG N (65538 + 26624 * s)) ∨
       (v = 1 ∧ dG N1 (65539 + 26624 * s) = 2 ∧ 1 ≤ dG N1 (65540 + 26624 * s) ∧ dG N1 (65540 + 26624 * s) ≤ m ∧ dG N1 (65541 + 26624 * s) = dG N1 (65540 + 26624 * s) ∧ dG N1 (65538 + 26624 * s) = dG N (65538 + 26624 * s) ∧ 1 ≤ dG N (65537 + 26624 * s)) ∨
       (v = 0 ∧ N1 = N)) := by
    obtain ⟨N1, v, e, e1, e2⟩ := none_
    subst e2
    exact ⟨N1, v, e, fun _ _ _ _ => rfl, .inr (.inr ⟨e1, rfl⟩)⟩
  by_cases c : 0 < dMn (dG N (63490 + 26624 * s)) (dG N (65538 + 26624 * s))
  · rw [if_pos c]
    generalize dMn (dG N (63490 + 26624 * s)) (dG N (65538 + 26624 * s)) = p at c m1 m2 m3 ⊢
    rw [dW_id (x := dG N (65538 + 26624 * s) - p) ⟨by omega, by omega⟩]
    unfold dlt
    have f1 : ∀ k, k < 2097152 → k ≠ (65538 + 26624 * s) → dG (dP N (65538 + 26624 * s) (dG N (65538 + 26624 * s) - p)) k = dG N k := fun k hk h => dG_n h (by omega) hk
    have e1 : dG ((dP N (65538 + 26624 * s) (dG N (65538 + 26624 * s) - p))) (65538 + 26624 * s) = dG N (65538 + 26624 * s) - p := (dG_e (by omega)).trans (dW_id ⟨by omega, by omega⟩)
    generalize dP N (65538 + 26624 * s) (dG N (65538 + 26624 * s) - p) = N1 at f1 e1 ⊢
    dsimp only
    obtain ⟨N2, g1, g2, g3, g4, g5⟩ := sp_start (N := N1) (s := s) (a := 1) (b := p) (c := -1) hs ⟨by decide, by decide⟩ ⟨by omega, by omega⟩ ⟨by decide, by decide⟩
    rw [dbd_s g1]
    have e2 : dG N2 (65538 + 26624 * s) = dG N (65538 + 26624 * s) - p := (g5 _ (by omega) (by omega)).trans e1
    exact ⟨N2, 1, rfl, fun k hk a1 a2 => (g5 k hk a2).trans (f1 k hk a1), .inl ⟨rfl, g2, by omega, by omega, by omega, by omega⟩⟩
  · rw [if_neg c]
    by_cases c2 : 0 < dG N (65537 + 26624 * s)
    · rw [if_pos c2]
      by_cases c3 : dG N (57358 + 26624 * s) < 3
      · rw [if_pos c3]
        exact no
      · rw [if_neg c3]
        obtain ⟨v, e1, e2⟩ := sp_frameToSend (N := N) (s := s) l0 l8
        rw [dbd_s e1]
        unfold fX3_startsNext_RS_b67
        by_cases c4 : v = -1
        · rw [if_pos c4]
          exact ⟨N, 0, rfl, fun _ _ _ _ => rfl, .inr (.inr ⟨rfl, rfl⟩)⟩
        · have hv : 0 ≤ v ∧ v < dG N (67587 + 26624 * s) := by omega
          rw [if_neg c4, dbd_s (sp_atL2 hv.1 hv.2 l8)]
          obtain ⟨-, q1, q2⟩ := lr v.toNat (by omega)
          obtain ⟨N2, g1, g2, g3, g4, g5⟩ := sp_start (N := N) (s := s) (a := 2) (b := dG N (75776 + 26624 * s + v.toNat)) (c := v) hs ⟨by decide, by decide⟩ (dG_R _ _) ⟨by omega, by omega⟩
          rw [dbd_s g1]
          exact ⟨N2, 1, rfl, fun k hk a1 a2 => g5 k hk a2, .inr (.inl ⟨rfl, g2, by omega, by omega, by omega, g5 _ (by omega) (by omega), by omega⟩)⟩
    · rw [if_neg c2]
      exact no

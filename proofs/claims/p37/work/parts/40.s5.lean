/-! ===== who holds goes on ===== -/
/-- at time t: whatever is sent yet, the token is let go by X -/
noncomputable def dHold (m X t : Int) (N : mMem) (s : Nat) : Prop :=
  0 ≤ dG N (65538 + 26624 * s) ∧ 0 ≤ dG N (65537 + 26624 * s) ∧ 0 ≤ dG N (65541 + 26624 * s) ∧ (dG N (65539 + 26624 * s) ≠ 0 → 1 ≤ dG N (65540 + 26624 * s)) ∧
  ((dG N (65539 + 26624 * s) = 0 ∧ t + dG N (65538 + 26624 * s) ≤ X ∧ (0 < dG N (65537 + 26624 * s) → t + dG N (65538 + 26624 * s) + dG N (65537 + 26624 * s) - 1 + m ≤ X)) ∨
   (dG N (65539 + 26624 * s) = 1 ∧ t + dG N (65540 + 26624 * s) + dG N (65538 + 26624 * s) ≤ X ∧ (0 < dG N (65537 + 26624 * s) → t + dG N (65540 + 26624 * s) + dG N (65538 + 26624 * s) + dG N (65537 + 26624 * s) - 1 + m ≤ X)) ∨
   (dG N (65539 + 26624 * s) = 2 ∧ t + dG N (65540 + 26624 * s) + dG N (65538 + 26624 * s) ≤ X ∧ (0 < dG N (65537 + 26624 * s) → t + dG N (65538 + 26624 * s) + dG N (65537 + 26624 * s) - 1 + m ≤ X)))
/-- what a message more along a station's own link wants -/
noncomputable def dCan (N : mMem) (s : Nat) : Prop := dG N 2051 = 0 ∧ (0 ≤ dG N 10243 ∧ dG N 10243 < 100) ∧ (0 ≤ dG N 2049 ∧ dG N 2049 ≤ 100000) ∧ (0 ≤ dG N (6144 + s) ∧ dG N (6144 + s) ≤ 100) ∧ ∀ i : Nat, (i : Int) < dG N 10243 → dG N (16384 + i) = (s : Int) → dG N (18432 + i) ≤ dG N 2049 + dG N (6144 + s)
theorem dCan_same {N N1 : mMem} {s : Nat} (hs : s < 8) (h : dCan N s) (hf : ∀ k, k < 26624 → k ≠ 2060 → dG N1 k = dG N k) : dCan N1 s := by
  obtain ⟨a, b, c, d, e⟩ := h
  have q1 := hf 2051 (by decide) (by decide)
  have q2 := hf 10243 (by decide) (by decide)
  have q3 := hf 2049 (by decide) (by decide)
  have q4 := hf (6144 + s) (by omega) (by omega)
  refine ⟨by omega, ⟨by omega, by omega⟩, ⟨by omega, by omega⟩, ⟨by omega, by omega⟩, fun i hi hl => ?_⟩
  rw [hf _ (by omega) (by omega)] at hl ⊢
  rw [q3, q4]
  exact e i (by omega) hl
/-- the token that a station sends on -/
noncomputable def dTok (N : mMem) (s : Nat) : dMsg := (2, ((s : Int), (dG N 2049 + dG N (6144 + s), (dG N (59393 + 26624 * s), (dG N (59392 + 26624 * s), dG N (59394 + 26624 * s))))))
theorem sp_b60 {N : mMem} {s n : Nat} {m X : Int} (hs : s < 8) (hl : dLine n m N s) (h1 : 0 ≤ dG N (63490 + 26624 * s)) (h2 : 0 ≤ dG N (65538 + 26624 * s)) (h3 : 0 ≤ dG N (65537 + 26624 * s)) (h4 : 0 ≤ dG N (65541 + 26624 * s)) (hm : 0 ≤ m) (ha : dG N 2049 + dG N (65538 + 26624 * s) ≤ X) (hb : 0 < dG N (65537 + 26624 * s) → dG N 2049 + dG N (65538 + 26624 * s) + dG N (65537 + 26624 * s) - 1 + m ≤ X) (hc : dCan N s) :
    ∃ N1, fX3_goOnHolding_RS_b60 N s = some (N1, 0) ∧ (∀ k, k < 2097152 → (k < 10240 ∨ (26624 ≤ k ∧ k < 38912) ∨ 53249 ≤ k) → k ≠ 2060 → k ≠ 53255 → k ≠ (63490 + 26624 * s) → (k < (65536 + 26624 * s) ∨ k = (65546 + 26624 * s) ∨ 67584 + 26624 * s ≤ k) → (k < (67587 + 26624 * s) ∨ 81920 + 26624 * s ≤ k) → k ≠ (81921 + 26624 * s) → k ≠ (81922 + 26624 * s) → k ≠ (81924 + 26624 * s) → k ≠ (81925 + 26624 * s) → dG N1 k = dG N k) ∧ dLine n m N1 s ∧ (dG N1 (63490 + 26624 * s) = dG N (63490 + 26624 * s) ∧ dG N1 (65538 + 26624 * s) ≤ dG N (65538 + 26624 * s)) ∧
      ((dG N1 (65536 + 26624 * s) = dG N (65536 + 26624 * s) ∧ dG N1 (65539 + 26624 * s) ≠ 0 ∧ dHold m X (dG N 2049) N1 s ∧ (∀ k, 10240 ≤ k → k < 26624 → dG N1 k = dG N k) ∧ dG N1 (65547 + 26624 * s) = dG N (65547 + 26624 * s)) ∨
       (dG N 2049 ≤ X ∧ dG N1 (65536 + 26624 * s) = 0 ∧ dG N1 (65539 + 26624 * s) = 0 ∧ dPost N1 = dPost N ++ [dTok N s] ∧ dG N1 10243 = dG N 10243 + 1 ∧ dG N1 (65547 + 26624 * s) = dG N 2049 ∧ 0 ≤ dG N1 (65541 + 26624 * s))) := by
  unfold fX3_goOnHolding_RS_b60
  obtain ⟨N1, v, e1, f1, hv⟩ := sp_startsNext (N := N) hs h1 h2 hl
  rw [dbd_s e1]
  have nw := f1 2049 (by decide) (by omega) (by omega)
  have lf := f1 (65537 + 26624 * s) (by omega) (by omega) (by omega)
  have lin : dLine n m N1 s := dLine_same hs hl (fun k a b => f1 k (by omega) (by omega) (by omega))
  have fr : (∀ k, k < 2097152 → (k < 10240 ∨ (26624 ≤ k ∧ k < 38912) ∨ 53249 ≤ k) → k ≠ 2060 → k ≠ 53255 → k ≠ (63490 + 26624 * s) → (k < (65536 + 26624 * s) ∨ k = (65546 + 26624 * s) ∨ 67584 + 26624 * s ≤ k) → (k < (67587 + 26624 * s) ∨ 81920 + 26624 * s ≤ k) → k ≠ (81921 + 26624 * s) → k ≠ (81922 + 26624 * s) → k ≠ (81924 + 26624 * s) → k ≠ (81925 + 26624 * s) → dG N1 k = dG N k) := fun k hk _ _ _ _ a b _ _ _ _ => f1 k hk (by omega) (by omega)
  have re := f1 (63490 + 26624 * s) (by omega) (by omega) (by omega)
  rcases hv with ⟨rfl, a1, a2, a3, a4, a5⟩ | ⟨rfl, a1, a2, a3, a4, a5, a6⟩ | ⟨rfl, rfl⟩
  · rw [if_neg (by decide)]
    refine ⟨N1, rfl, fr, lin, ⟨re, by omega⟩, .inl ⟨f1 _ (by omega) (by omega) (by omega), by omega, ⟨by omega, by omega, by omega, fun _ => a2, .inr (.inl ⟨a1, by omega, fun q => ?_⟩)⟩, fun k a b => f1 k (by omega) (by omega) (by omega), f1 _ (by omega) (by omega) (by omega)⟩⟩
    have := hb (by omega)
    omega
  · rw [if_neg (by decide)]
    have := hb (by omega)
    refine ⟨N1, rfl, fr, lin, ⟨re, by omega⟩, .inl ⟨f1 _ (by omega) (by omega) (by omega), by omega, ⟨by omega, by omega, by omega, fun _ => a2, .inr (.inr ⟨a1, by omega, fun q => by omega⟩)⟩, fun k a b => f1 k (by omega) (by omega) (by omega), f1 _ (by omega) (by omega) (by omega)⟩⟩
  · rw [if_pos rfl]
    obtain ⟨c1, c2, c3, c4, c5⟩ := hc
    obtain ⟨N2, g1, g2, g3, g4, g5, g6, g7, g8, g9, g10⟩ := sp_letGo (N := N1) hs c1 c2.1 c2.2 c3.1 c3.2 c4.1 c4.2 c5
    rw [dbd_s g1]
    exact ⟨N2, rfl, fun k hk a _ _ _ b c _ _ _ _ => g10 k hk (by omega) (by omega) (by omega), dLine_same hs hl (fun k a b => g10 k (by omega) (by omega) (by omega) (by omega)), ⟨g10 _ (by omega) (by omega) (by omega) (by omega), by omega⟩, .inr ⟨by omega, g4, g7, g2, g3, g9, by rw [g10 _ (by omega) (by omega) (by omega) (by omega)]; exact h4⟩⟩
theorem sp_goOnHolding {N : mMem} {s n : Nat} {m X t : Int} (hs : s < 8) (hn : dG N 2048 = (n : Int)) (h8 : n ≤ 8) (hsn : s < n) (ho : ∀ u, u < n → dG N (57347 + 26624 * u) = 0) (hl : dLine n m N s) (h1 : 0 ≤ dG N (63490 + 26624 * s)) (hm : 0 ≤ m) (hh : dHold m X t N s) (ht : (dG N (65539 + 26624 * s) = 0 ∧ t = dG N 2049) ∨ (dG N (65539 + 26624 * s) ≠ 0 ∧ t = dG N 2049 - 1)) (hc : dCan N s) :
    ∃ N1, fX3_goOnHolding_RS N s = some (N1, 0) ∧ (∀ k, k < 2097152 → (k < 10240 ∨ (26624 ≤ k ∧ k < 38912) ∨ 53249 ≤ k) → k ≠ 2060 → k ≠ 53255 → k ≠ (63490 + 26624 * s) → (k < (65536 + 26624 * s) ∨ k = (65546 + 26624 * s) ∨ 67584 + 26624 * s ≤ k) → (k < (67587 + 26624 * s) ∨ 81920 + 26624 * s ≤ k) → k ≠ (81921 + 26624 * s) → k ≠ (81922 + 26624 * s) → k ≠ (81924 + 26624 * s) → k ≠ (81925 + 26624 * s) → dG N1 k = dG N k) ∧ dLine n m N1 s ∧ ((0 ≤ dG N1 (63490 + 26624 * s) ∧ dG N1 (63490 + 26624 * s) ≤ dG N (63490 + 26624 * s)) ∧ dG N1 (65538 + 26624 * s) ≤ dG N (65538 + 26624 * s)) ∧
      ((dG N1 (65536 + 26624 * s) = dG N (65536 + 26624 * s) ∧ dG N1 (65539 + 26624 * s) ≠ 0 ∧ dHold m X (dG N 2049) N1 s ∧ (∀ k, 10240 ≤ k → k < 26624 → dG N1 k = dG N k) ∧ dG N1 (65547 + 26624 * s) = dG N (65547 + 26624 * s)) ∨
       (dG N 2049 ≤ X ∧ dG N1 (65536 + 26624 * s) = 0 ∧ dG N1 (65539 + 26624 * s) = 0 ∧ dPost N1 = dPost N ++ [dTok N s] ∧ dG N1 10243 = dG N 10243 + 1 ∧ dG N1 (65547 + 26624 * s) = dG N 2049 ∧ 0 ≤ dG N1 (65541 + 26624 * s))) := by
  unfold fX3_goOnHolding_RS
  obtain ⟨q1, q2, q3, q4, q5⟩ := id hh
  by_cases c : dG N (65539 + 26624 * s) = 0
  · rw [if_pos c]
    have e : dG N 2049 + dG N (65538 + 26624 * s) ≤ X ∧ (0 < dG N (65537 + 26624 * s) → dG N 2049 + dG N (65538 + 26624 * s) + dG N (65537 + 26624 * s) - 1 + m ≤ X) := by
      rcases ht with ⟨-, rfl⟩ | ⟨h, -⟩
      · rcases q5 with h | h | h
        · exact h.2
        · omega
        · omega
      · exact absurd c h
    obtain ⟨N1, a1, a2, a3, a4, a5⟩ := sp_b60 (N := N) hs hl h1 q1 q2 q3 hm e.1 e.2 hc
    exact ⟨N1, a1, a2, a3, ⟨⟨by omega, by omega⟩, a4.2⟩, a5⟩
  · rw [if_neg c]
    have tt : t = dG N 2049 - 1 := by omega
    have q4 := q4 c
    unfold dlt
    have f0 : ∀ k, k < 2097152 → k ≠ 53255 → dG (dP N 53255 (dW (dG N 53255 + 1))) k = dG N k := fun k hk h => dG_n h (by decide) hk
    generalize dP N 53255 (dW (dG N 53255 + 1)) = M0 at f0 ⊢
    dsimp only
    obtain ⟨M1, e1, e2, e3, f1⟩ := sp_sendTick (N := M0) hs (by rw [f0 _ (by omega) (by omega)]; exact q4) (by rw [f0 _ (by omega) (by omega)]; exact q2)
    rw [f0 _ (by omega) (by omega)] at e2
    rw [f0 _ (by omega) (by omega), f0 _ (by omega) (by omega)] at e3
    rw [dbd_s e1]
    have fr : ∀ k, k < 2097152 → k ≠ 53255 → k ≠ (65537 + 26624 * s) → k ≠ (65540 + 26624 * s) → k ≠ (65544 + 26624 * s) → k ≠ (65545 + 26624 * s) → dG M1 k = dG N k := fun k hk a b c d e => (f1 k hk b c d e).trans (f0 k hk a)
    clear f0 f1 e1
    have nw := fr 2049 (by decide) (by decide) (by omega) (by omega) (by omega) (by omega)
    have sh := fr (65538 + 26624 * s) (by omega) (by omega) (by omega) (by omega) (by omega) (by omega)
    have se := fr (65539 + 26624 * s) (by omega) (by omega) (by omega) (by omega) (by omega) (by omega)
    have sz := fr (65541 + 26624 * s) (by omega) (by omega) (by omega) (by omega) (by omega) (by omega)
    have rs := fr (63490 + 26624 * s) (by omega) (by omega) (by omega) (by omega) (by omega) (by omega)
    have he := fr (65536 + 26624 * s) (by omega) (by omega) (by omega) (by omega) (by omega) (by omega)
    have lin : dLine n m M1 s := dLine_same hs hl (fun k a b => fr k (by omega) (by omega) (by omega) (by omega) (by omega) (by omega))
    have lx := dMx_0 (dG N (65537 + 26624 * s) - 1)
    -- what holds behind a tick of it
    have left1 : 0 ≤ dG M1 (65537 + 26624 * s) ∧ (0 < dG M1 (65537 + 26624 * s) → (dG N (65539 + 26624 * s) = 1 ∧ dG M1 (65537 + 26624 * s) = dG N (65537 + 26624 * s)) ∨ (dG N (65539 + 26624 * s) ≠ 1 ∧ dG M1 (65537 + 26624 * s) = dG N (65537 + 26624 * s) - 1)) := by
      rw [e3]
      by_cases d : dG N (65539 + 26624 * s) = 1
      · rw [if_pos d]; exact ⟨q2, fun _ => .inl ⟨d, rfl⟩⟩
      · rw [if_neg d]
        refine ⟨lx.1, fun q => .inr ⟨d, ?_⟩⟩
        by_cases z : 0 ≤ dG N (65537 + 26624 * s) - 1
        · exact lx.2.1 z
        · rw [lx.2.2 (by omega)] at q; omega
    by_cases d : 0 < dG M1 (65540 + 26624 * s)
    · rw [if_pos d]
      refine ⟨M1, rfl, fun k hk _ _ a _ b _ _ _ _ _ => fr k hk a (by omega) (by omega) (by omega) (by omega), lin, ⟨⟨by omega, by omega⟩, by omega⟩, .inl ⟨he, by omega, ⟨by omega, left1.1, by omega, fun _ => by omega, ?_⟩, fun k a b => fr k (by omega) (by omega) (by omega) (by omega) (by omega) (by omega), fr _ (by omega) (by omega) (by omega) (by omega) (by omega) (by omega)⟩⟩
      rcases q5 with h | ⟨h, h2, h3⟩ | ⟨h, h2, h3⟩
      · omega
      · refine .inr (.inl ⟨by omega, by omega, fun q => ?_⟩)
        have := h3 (by omega)
        omega
      · refine .inr (.inr ⟨by omega, by omega, fun q => ?_⟩)
        have := h3 (by omega)
        omega
    · rw [if_neg d]
      have key : dG N 2049 + dG N (65538 + 26624 * s) ≤ X ∧ (0 < dG M1 (65537 + 26624 * s) → dG N 2049 + dG N (65538 + 26624 * s) + dG M1 (65537 + 26624 * s) - 1 + m ≤ X) := by
        rcases q5 with h | ⟨h, h2, h3⟩ | ⟨h, h2, h3⟩
        · omega
        · refine ⟨by omega, fun q => ?_⟩
          have := h3 (by omega)
          omega
        · refine ⟨by omega, fun q => ?_⟩
          have := h3 (by omega)
          omega
      -- from its end on
      have fin : ∀ M2 : mMem, dLine n m M2 s → 0 ≤ dG M2 (63490 + 26624 * s) → dG M2 (63490 + 26624 * s) ≤ dG N (63490 + 26624 * s) → (∀ k, k < 2097152 → k ≠ 2060 → k ≠ (63490 + 26624 * s) → k ≠ (81921 + 26624 * s) → k ≠ (81922 + 26624 * s) → k ≠ (81924 + 26624 * s) → k ≠ (81925 + 26624 * s) → (k < (67587 + 26624 * s) ∨ 81920 + 26624 * s ≤ k) → dG M2 k = dG M1 k) →
          ∃ N1, fX3_goOnHolding_RS_b55 M2 s = some (N1, 0) ∧ (∀ k, k < 2097152 → (k < 10240 ∨ (26624 ≤ k ∧ k < 38912) ∨ 53249 ≤ k) → k ≠ 2060 → k ≠ 53255 → k ≠ (63490 + 26624 * s) → (k < (65536 + 26624 * s) ∨ k = (65546 + 26624 * s) ∨ 67584 + 26624 * s ≤ k) → (k < (67587 + 26624 * s) ∨ 81920 + 26624 * s ≤ k) → k ≠ (81921 + 26624 * s) → k ≠ (81922 + 26624 * s) → k ≠ (81924 + 26624 * s) → k ≠ (81925 + 26624 * s) → dG N1 k = dG N k) ∧ dLine n m N1 s ∧ ((0 ≤ dG N1 (63490 + 26624 * s) ∧ dG N1 (63490 + 26624 * s) ≤ dG N (63490 + 26624 * s)) ∧ dG N1 (65538 + 26624 * s) ≤ dG N (65538 + 26624 * s)) ∧
            ((dG N1 (65536 + 26624 * s) = dG N (65536 + 26624 * s) ∧ dG N1 (65539 + 26624 * s) ≠ 0 ∧ dHold m X (dG N 2049) N1 s ∧ (∀ k, 10240 ≤ k → k < 26624 → dG N1 k = dG N k) ∧ dG N1 (65547 + 26624 * s) = dG N (65547 + 26624 * s)) ∨
             (dG N 2049 ≤ X ∧ dG N1 (65536 + 26624 * s) = 0 ∧ dG N1 (65539 + 26624 * s) = 0 ∧ dPost N1 = dPost N ++ [dTok N s] ∧ dG N1 10243 = dG N 10243 + 1 ∧ dG N1 (65547 + 26624 * s) = dG N 2049 ∧ 0 ≤ dG N1 (65541 + 26624 * s))) := fun M2 l2 r0 r1 g => by
        unfold fX3_goOnHolding_RS_b55
        have f3 : ∀ k, k < 2097152 → k ≠ (65539 + 26624 * s) → dG (dP M2 (65539 + 26624 * s) 0) k = dG M2 k := fun k hk h => dG_n h (by omega) hk
        generalize dP M2 (65539 + 26624 * s) 0 = M3 at f3 ⊢
        have l3 : dLine n m M3 s := dLine_same hs l2 (fun k a b => f3 k (by omega) (by omega))
        have al : ∀ k, k < 2097152 → k ≠ 53255 → k ≠ (65537 + 26624 * s) → k ≠ (65540 + 26624 * s) → k ≠ (65544 + 26624 * s) → k ≠ (65545 + 26624 * s) → k ≠ (65539 + 26624 * s) → k ≠ 2060 → k ≠ (63490 + 26624 * s) → k ≠ (81921 + 26624 * s) → k ≠ (81922 + 26624 * s) → k ≠ (81924 + 26624 * s) → k ≠ (81925 + 26624 * s) → (k < (67587 + 26624 * s) ∨ 81920 + 26624 * s ≤ k) → dG M3 k = dG N k := fun k hk a b c d e f g1 g2 g3 g4 g5 g6 g7 => (f3 k hk f).trans ((g k hk g1 g2 g3 g4 g5 g6 g7).trans (fr k hk a b c d e))
        have m3 : ∀ k, k < 2097152 → k ≠ (65539 + 26624 * s) → k ≠ 2060 → k ≠ (63490 + 26624 * s) → k ≠ (81921 + 26624 * s) → k ≠ (81922 + 26624 * s) → k ≠ (81924 + 26624 * s) → k ≠ (81925 + 26624 * s) → (k < (67587 + 26624 * s) ∨ 81920 + 26624 * s ≤ k) → dG M3 k = dG M1 k := fun k hk f g1 g2 g3 g4 g5 g6 g7 => (f3 k hk f).trans (g k hk g1 g2 g3 g4 g5 g6 g7)
        have lo : ∀ k, k < 26624 → k ≠ 2060 → dG M3 k = dG N k := fun k a b => al k (by omega) (by omega) (by omega) (by omega) (by omega) (by omega) (by omega) b (by omega) (by omega) (by omega) (by omega) (by omega) (by omega)
        have nw3 := lo 2049 (by decide) (by decide)
        have lf3 := m3 (65537 + 26624 * s) (by omega) (by omega) (by omega) (by omega) (by omega) (by omega) (by omega) (by omega) (by omega)
        have sh3 := m3 (65538 + 26624 * s) (by omega) (by omega) (by omega) (by omega) (by omega) (by omega) (by omega) (by omega) (by omega)
        have rs3 := f3 (63490 + 26624 * s) (by omega) (by omega)
        have hz3 := m3 (65541 + 26624 * s) (by omega) (by omega) (by omega) (by omega) (by omega) (by omega) (by omega) (by omega) (by omega)
        obtain ⟨N1, a1, a2, a3, a4, a5⟩ := sp_b60 (N := M3) (X := X) hs l3 (by omega) (by omega) (by omega) (by omega) hm (by omega) (fun q => by have := key.2 (by omega); omega) (dCan_same hs hc lo)
        have he3 := al (65536 + 26624 * s) (by omega) (by omega) (by omega) (by omega) (by omega) (by omega) (by omega) (by omega) (by omega) (by omega) (by omega) (by omega) (by omega) (by omega)
        have we3 := al (65547 + 26624 * s) (by omega) (by omega) (by omega) (by omega) (by omega) (by omega) (by omega) (by omega) (by omega) (by omega) (by omega) (by omega) (by omega) (by omega)
        have gb3 := al (59392 + 26624 * s) (by omega) (by omega) (by omega) (by omega) (by omega) (by omega) (by omega) (by omega) (by omega) (by omega) (by omega) (by omega) (by omega) (by omega)
        have gw3 := al (59393 + 26624 * s) (by omega) (by omega) (by omega) (by omega) (by omega) (by omega) (by omega) (by omega) (by omega) (by omega) (by omega) (by omega) (by omega) (by omega)
        have gn3 := al (59394 + 26624 * s) (by omega) (by omega) (by omega) (by omega) (by omega) (by omega) (by omega) (by omega) (by omega) (by omega) (by omega) (by omega) (by omega) (by omega)
        have dl3 := lo (6144 + s) (by omega) (by omega)
        have ps3 := lo 10243 (by decide) (by decide)
        refine ⟨N1, a1, fun k hk b1 b2 b3 b4 b5 b6 b7 b8 b9 b10 => ?_, a3, ⟨⟨by omega, by omega⟩, by omega⟩, ?_⟩
        · rw [a2 k hk b1 b2 b3 b4 b5 b6 b7 b8 b9 b10]
          exact al k hk b3 (by omega) (by omega) (by omega) (by omega) (by omega) b2 b4 b7 b8 b9 b10 b6
        · rcases a5 with ⟨u1, u2, u3, u4, u5⟩ | ⟨u1, u2, u3, u4, u5, u6, u7⟩
          · rw [nw3] at u3
            exact .inl ⟨u1.trans he3, u2, u3, fun k a b => (u4 k a b).trans (lo k b (by omega)), u5.trans we3⟩
          · refine .inr ⟨by omega, u2, u3, ?_, by omega, by omega, u7⟩
            rw [u4, dPost_same (N := N) (N1 := M3) (fun k a b => lo k b (by omega)) (by have := hc.2.1; omega)]
            unfold dTok
            rw [nw3, dl3, gw3, gb3, gn3]
      by_cases e : dG M1 (65539 + 26624 * s) = 1
      · rw [if_pos e]
        obtain ⟨M2, g1, g2, g3, g4⟩ := sp_endRest (N := M1) hs (by omega) (by omega)
        rw [dbd_s g1]
        exact fin M2 (dLine_same hs lin (fun k a b => g4 k (by omega) (by omega) (by omega))) g2 (by omega) (fun k hk _ a b _ _ _ _ => g4 k hk a b)
      · rw [if_neg e]
        obtain ⟨M2, g1, g2, g3⟩ := sp_endFrame (N := M1) (n := n) hs (by rw [fr _ (by decide) (by decide) (by omega) (by omega) (by omega) (by omega)]; exact hn) h8 hsn (by rw [fr _ (by decide) (by decide) (by omega) (by omega) (by omega) (by omega)]; exact hc.1) (fun u hu => by rw [fr _ (by omega) (by omega) (by omega) (by omega) (by omega) (by omega)]; exact ho u hu) lin
        rw [dbd_s g1]
        have r2 := g3 (63490 + 26624 * s) (by omega) (by omega) (by omega) (by omega) (by omega) (by omega)
        exact fin M2 g2 (by omega) (by omega) (fun k hk a _ _ b c d e => g3 k hk a b c d e)

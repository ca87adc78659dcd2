/-! ===== claims ===== -/
theorem dCan_low {N N1 : mMem} {s : Nat} (hs : s < 8) (h : dCan N s) (hf : ∀ k, k < 26624 → dG N1 k = dG N k) : dCan N1 s := dCan_same hs h (fun k a _ => hf k a)
theorem sp_sendC {M : mMem} {s : Nat} {kd : Int} (hs : s < 8) (hk : dR kd) (hc : dCan M s) : ∃ N1, fX3_send_RC M (s : Int) kd = some (N1, 0) ∧ dPost N1 = dPost M ++ [(kd, ((s : Int), (dG M 2049 + dG M (6144 + s), (dG M 55297, (dG M 55296, dG M 55298)))))] ∧ dG N1 10243 = dG M 10243 + 1 ∧ ∀ k, k < 2097152 → (k < 10240 ∨ 26624 ≤ k) → k ≠ 53248 → dG N1 k = dG M k := sp_send_RC hs hc.1 hc.2.1.1 hc.2.1.2 hk hc.2.2.1.1 hc.2.2.1.2 hc.2.2.2.1.1 hc.2.2.2.1.2 hc.2.2.2.2
theorem sp_sendE {M : mMem} {s : Nat} {kd : Int} (hs : s < 8) (hk : dR kd) (hc : dCan M s) : ∃ N1, fX3_send_RE M s (s : Int) kd = some (N1, 0) ∧ dPost N1 = dPost M ++ [(kd, ((s : Int), (dG M 2049 + dG M (6144 + s), (dG M (61441 + 26624 * s), (dG M (61440 + 26624 * s), dG M (61442 + 26624 * s))))))] ∧ dG N1 10243 = dG M 10243 + 1 ∧ ∀ k, k < 2097152 → (k < 10240 ∨ 26624 ≤ k) → k ≠ 53248 → dG N1 k = dG M k := sp_send_RE hs hs hc.1 hc.2.1.1 hc.2.1.2 hk hc.2.2.1.1 hc.2.2.1.2 hc.2.2.2.1.1 hc.2.2.2.1.2 hc.2.2.2.2
/-- what a station's becoming UP leaves behind -/
noncomputable def dGone (M N1 : mMem) (s : Nat) : Prop := dG N1 (57348 + 26624 * s) = 1 ∧ dG N1 (59392 + 26624 * s) = dG M 55296 ∧ dG N1 (59393 + 26624 * s) = dG M 55297 ∧ dG N1 (59394 + 26624 * s) = dG M 55298 ∧ dG N1 (57356 + 26624 * s) = dG M 2049 + dG M 55296 ∧ dG N1 (57357 + 26624 * s) = 0 ∧ dG N1 (57358 + 26624 * s) = 1 ∧ dG N1 (65547 + 26624 * s) = dG M 2049 ∧ dG N1 (81926 + 26624 * s) = 0 ∧ dG N1 (81927 + 26624 * s) = 0 ∧ dG N1 (81928 + 26624 * s) = 0
/-- its own CLAIM comes round: it WON -/
theorem sp_won {M : mMem} {s : Nat} (hs : s < 8) (h1 : dG M 55296 = dG M (61440 + 26624 * s) ∧ dG M 55297 = dG M (61441 + 26624 * s) ∧ dG M 55298 = dG M (61442 + 26624 * s)) (h2 : dG M (61441 + 26624 * s) = (s : Int) ∧ dG M (61442 + 26624 * s) = dG M (57352 + 26624 * s)) (hb : 0 ≤ dG M 55296 ∧ dG M 55296 ≤ 1000) (hc : dCan M s) :
    ∃ N1, fX3_compareClaim_RSC M s = some (N1, 0) ∧ dGone M N1 s ∧ dG N1 53252 = dW (dG M 53252 + 1) ∧ dPost N1 = dPost M ++ [(2, ((s : Int), (dG M 2049 + dG M (6144 + s), (dG M 55297, (dG M 55296, dG M 55298)))))] ∧ dG N1 10243 = dG M 10243 + 1 ∧
      ∀ k, k < 2097152 → (k < 10240 ∨ 38912 ≤ k) → k ≠ 53248 → k ≠ 53252 → dUpF s k → dG N1 k = dG M k := by
  unfold fX3_compareClaim_RSC
  rw [dbd_s (sp_isSame_CE M s), if_pos h1, if_neg (by decide), dbd_s (sp_isBestOwn M s), if_pos h2, if_neg (by decide)]
  obtain ⟨M1, e1, a1, a2, a3, a4, a5, a6, a7, a8, a9, a10, a11, f1⟩ := sp_goUp (N := M) (s := s) (t := dG M 2049) hs hc.2.2.1 hb
  rw [dbd_s e1]
  have lo1 : ∀ k, k < 57344 → dG M1 k = dG M k := fun k hk => f1 k (by omega) (by unfold dUpF; omega)
  unfold dlt
  rw [lo1 53252 (by decide)]
  have f2 : ∀ k, k < 2097152 → k ≠ 53252 → dG (dP M1 53252 (dW (dG M 53252 + 1))) k = dG M1 k := fun k hk h => dG_n h (by decide) hk
  have w2 : dG ((dP M1 53252 (dW (dG M 53252 + 1)))) 53252 = dW (dG M 53252 + 1) := (dG_e (by decide)).trans (dW_id (dW_R _))
  generalize dP M1 53252 (dW (dG M 53252 + 1)) = M2 at f2 w2 ⊢
  dsimp only
  obtain ⟨M3, e3, f3⟩ := sp_note1 M2 (s : Int) (dG M2 55296)
  rw [dbd_s e3]
  have lo : ∀ k, k < 26624 → dG M3 k = dG M k := fun k hk => (f3 k (by omega) (.inl hk)).trans ((f2 k (by omega) (by omega)).trans (lo1 k (by omega)))
  have mid : ∀ k, 38912 ≤ k → k < 57344 → k ≠ 53252 → dG M3 k = dG M k := fun k h1 h2 h3 => (f3 k (by omega) (.inr h1)).trans ((f2 k (by omega) h3).trans (lo1 k h2))
  obtain ⟨N1, e4, p1, p2, f4⟩ := sp_sendC (M := M3) (s := s) (kd := 2) hs ⟨by decide, by decide⟩ (dCan_low hs hc lo)
  rw [dbd_s e4]
  have up : ∀ k, 57344 ≤ k → k < 2097152 → dG N1 k = dG M1 k := fun k h1 h2 => (f4 k h2 (by omega) (by omega)).trans ((f3 k h2 (by omega)).trans (f2 k h2 (by omega)))
  refine ⟨N1, rfl, ⟨(up _ (by omega) (by omega)).trans a1, (up _ (by omega) (by omega)).trans a2, (up _ (by omega) (by omega)).trans a3, (up _ (by omega) (by omega)).trans a4, (up _ (by omega) (by omega)).trans a5, (up _ (by omega) (by omega)).trans a6, (up _ (by omega) (by omega)).trans a7, (up _ (by omega) (by omega)).trans a8, (up _ (by omega) (by omega)).trans a9, (up _ (by omega) (by omega)).trans a10, (up _ (by omega) (by omega)).trans a11⟩, (f4 _ (by decide) (by decide) (by decide)).trans ((f3 _ (by decide) (by decide)).trans w2), ?_, ?_, fun k hk a b c d => ?_⟩
  · rw [p1, dPost_same (N := M) (N1 := M3) (fun k a b => lo k b) (by have := hc.2.1; omega), lo 2049 (by decide), lo (6144 + s) (by omega), mid 55297 (by decide) (by decide) (by decide), mid 55296 (by decide) (by decide) (by decide), mid 55298 (by decide) (by decide) (by decide)]
  · rw [p2, lo 10243 (by decide)]
  · exact (f4 k hk (by omega) b).trans ((f3 k hk (by omega)).trans ((f2 k hk c).trans (f1 k hk d)))
/-- a CLAIM is BEST from now on, and goes on -/
theorem sp_fwd108 {M : mMem} {s : Nat} (hs : s < 8) (hc : dCan M s) :
    ∃ N1, fX3_compareClaim_RSC_b108 M s = some (N1, 0) ∧ (dG N1 (61440 + 26624 * s) = dG M 55296 ∧ dG N1 (61441 + 26624 * s) = dG M 55297 ∧ dG N1 (61442 + 26624 * s) = dG M 55298) ∧ dG N1 (57353 + 26624 * s) = dG M 2049 ∧ dPost N1 = dPost M ++ [(0, ((s : Int), (dG M 2049 + dG M (6144 + s), (dG M 55297, (dG M 55296, dG M 55298)))))] ∧ dG N1 10243 = dG M 10243 + 1 ∧
      ∀ k, k < 2097152 → (k < 10240 ∨ 26624 ≤ k) → k ≠ 53248 → k ≠ (57353 + 26624 * s) → (k < (61440 + 26624 * s) ∨ (61442 + 26624 * s) < k) → dG N1 k = dG M k := by
  unfold fX3_compareClaim_RSC_b108
  obtain ⟨M1, e1, a1, a2, a3, f1⟩ := sp_becomeEC (N := M) hs
  rw [dbd_s e1]
  unfold dlt
  have nw : dG M1 2049 = dG M 2049 := f1 _ (by decide) (by omega)
  rw [nw]
  have f2 : ∀ k, k < 2097152 → k ≠ (57353 + 26624 * s) → dG (dP M1 (57353 + 26624 * s) (dG M 2049)) k = dG M1 k := fun k hk h => dG_n h (by omega) hk
  have s2 : dG ((dP M1 (57353 + 26624 * s) (dG M 2049))) (57353 + 26624 * s) = dG M 2049 := (dG_e (by omega)).trans (dW_id (dG_R _ _))
  generalize dP M1 (57353 + 26624 * s) (dG M 2049) = M2 at f2 s2 ⊢
  dsimp only
  have lo : ∀ k, k < 57344 → dG M2 k = dG M k := fun k hk => (f2 k (by omega) (by omega)).trans (f1 k (by omega) (by omega))
  obtain ⟨N1, e3, p1, p2, f3⟩ := sp_sendC (M := M2) (s := s) (kd := 0) hs ⟨by decide, by decide⟩ (dCan_low hs hc (fun k hk => lo k (by omega)))
  rw [dbd_s e3]
  refine ⟨N1, rfl, ⟨(f3 _ (by omega) (by omega) (by omega)).trans ((f2 _ (by omega) (by omega)).trans a1), (f3 _ (by omega) (by omega) (by omega)).trans ((f2 _ (by omega) (by omega)).trans a2), (f3 _ (by omega) (by omega) (by omega)).trans ((f2 _ (by omega) (by omega)).trans a3)⟩, (f3 _ (by omega) (by omega) (by omega)).trans s2, ?_, ?_, fun k hk a b c d => (f3 k hk a b).trans ((f2 k hk c).trans (f1 k hk d))⟩
  · rw [p1, dPost_same (N := M) (N1 := M2) (fun k a b => lo k (by omega)) (by have := hc.2.1; omega), lo 2049 (by decide), lo (6144 + s) (by omega), lo 55297 (by decide), lo 55296 (by decide), lo 55298 (by decide)]
  · rw [p2, lo 10243 (by decide)]
theorem sp_fwd {M : mMem} {s : Nat} (hs : s < 8) (hc : dCan M s) (h : ((dG M 55296 = dG M (61440 + 26624 * s) ∧ dG M 55297 = dG M (61441 + 26624 * s) ∧ dG M 55298 = dG M (61442 + 26624 * s)) ∧ ¬ (dG M (61441 + 26624 * s) = (s : Int) ∧ dG M (61442 + 26624 * s) = dG M (57352 + 26624 * s))) ∨ (¬ (dG M 55296 = dG M (61440 + 26624 * s) ∧ dG M 55297 = dG M (61441 + 26624 * s) ∧ dG M 55298 = dG M (61442 + 26624 * s)) ∧ (dG M 55296 < dG M (61440 + 26624 * s) ∨ (dG M 55296 = dG M (61440 + 26624 * s) ∧ dG M 55297 < dG M (61441 + 26624 * s))))) :
    ∃ N1, fX3_compareClaim_RSC M s = some (N1, 0) ∧ (dG N1 (61440 + 26624 * s) = dG M 55296 ∧ dG N1 (61441 + 26624 * s) = dG M 55297 ∧ dG N1 (61442 + 26624 * s) = dG M 55298) ∧ dG N1 (57353 + 26624 * s) = dG M 2049 ∧ dPost N1 = dPost M ++ [(0, ((s : Int), (dG M 2049 + dG M (6144 + s), (dG M 55297, (dG M 55296, dG M 55298)))))] ∧ dG N1 10243 = dG M 10243 + 1 ∧
      ∀ k, k < 2097152 → (k < 10240 ∨ 26624 ≤ k) → k ≠ 53248 → k ≠ (57353 + 26624 * s) → (k < (61440 + 26624 * s) ∨ (61442 + 26624 * s) < k) → dG N1 k = dG M k := by
  have go := sp_fwd108 (M := M) hs hc
  obtain ⟨N1, e, r⟩ := go
  refine ⟨N1, ?_, r⟩
  unfold fX3_compareClaim_RSC
  rw [dbd_s (sp_isSame_CE M s)]
  rcases h with ⟨h1, h2⟩ | ⟨h1, h2⟩
  · rw [if_pos h1, if_neg (by decide), dbd_s (sp_isBestOwn M s), if_neg h2, if_pos rfl]
    unfold fX3_compareClaim_RSC_b65
    rw [if_neg (by decide), e]
  · rw [if_neg h1, if_pos rfl]
    unfold fX3_compareClaim_RSC_b65
    rw [if_pos rfl, dbd_s (sp_isBetter_CE M s), if_pos h2, if_neg (by decide), e]
/-- a CLAIM that isn't better, nor newer: nothing -/
theorem sp_cmpNo {M : mMem} {s : Nat} (h1 : ¬ (dG M 55296 = dG M (61440 + 26624 * s) ∧ dG M 55297 = dG M (61441 + 26624 * s) ∧ dG M 55298 = dG M (61442 + 26624 * s))) (h2 : ¬ (dG M 55296 < dG M (61440 + 26624 * s) ∨ (dG M 55296 = dG M (61440 + 26624 * s) ∧ dG M 55297 < dG M (61441 + 26624 * s)))) (h3 : dG M 55297 ≠ dG M (61441 + 26624 * s)) : fX3_compareClaim_RSC M s = some (M, 0) := by
  unfold fX3_compareClaim_RSC
  rw [dbd_s (sp_isSame_CE M s), if_neg h1, if_pos rfl]
  unfold fX3_compareClaim_RSC_b65
  rw [if_pos rfl, dbd_s (sp_isBetter_CE M s), if_neg h2, if_pos rfl, if_neg h3]
/-- a TOKEN of its BEST comes to one that is CLAIMING -/
theorem sp_tokenClaiming {M : mMem} {s : Nat} (hs : s < 8) (hk : dG M (57348 + 26624 * s) = 2) (h1 : dG M 55296 = dG M (61440 + 26624 * s) ∧ dG M 55297 = dG M (61441 + 26624 * s) ∧ dG M 55298 = dG M (61442 + 26624 * s)) (hb : 0 ≤ dG M 55296 ∧ dG M 55296 ≤ 1000) (hc : dCan M s) :
    ∃ N1, fX3_tokenComes_RSC M s = some (N1, 0) ∧ dGone M N1 s ∧ dPost N1 = dPost M ++ [(2, ((s : Int), (dG M 2049 + dG M (6144 + s), (dG M 55297, (dG M 55296, dG M 55298)))))] ∧ dG N1 10243 = dG M 10243 + 1 ∧
      ∀ k, k < 2097152 → (k < 10240 ∨ 38912 ≤ k) → k ≠ 53248 → dUpF s k → dG N1 k = dG M k := by
  unfold fX3_tokenComes_RSC
  rw [if_pos hk, dbd_s (sp_isSame_CE M s), if_pos h1, if_neg (by decide)]
  obtain ⟨M1, e1, a1, a2, a3, a4, a5, a6, a7, a8, a9, a10, a11, f1⟩ := sp_goUp (N := M) (s := s) (t := dG M 2049) hs hc.2.2.1 hb
  rw [dbd_s e1]
  have lo1 : ∀ k, k < 57344 → dG M1 k = dG M k := fun k hk => f1 k (by omega) (by unfold dUpF; omega)
  obtain ⟨M3, e3, f3⟩ := sp_note7 M1 (s : Int) (dG M1 55297)
  rw [dbd_s e3]
  have lo : ∀ k, k < 26624 → dG M3 k = dG M k := fun k hk => (f3 k (by omega) (.inl hk)).trans (lo1 k (by omega))
  have mid : ∀ k, 38912 ≤ k → k < 57344 → dG M3 k = dG M k := fun k h1 h2 => (f3 k (by omega) (.inr h1)).trans (lo1 k h2)
  obtain ⟨N1, e4, p1, p2, f4⟩ := sp_sendC (M := M3) (s := s) (kd := 2) hs ⟨by decide, by decide⟩ (dCan_low hs hc lo)
  rw [dbd_s e4]
  have up : ∀ k, 57344 ≤ k → k < 2097152 → dG N1 k = dG M1 k := fun k h1 h2 => (f4 k h2 (by omega) (by omega)).trans (f3 k h2 (by omega))
  refine ⟨N1, rfl, ⟨(up _ (by omega) (by omega)).trans a1, (up _ (by omega) (by omega)).trans a2, (up _ (by omega) (by omega)).trans a3, (up _ (by omega) (by omega)).trans a4, (up _ (by omega) (by omega)).trans a5, (up _ (by omega) (by omega)).trans a6, (up _ (by omega) (by omega)).trans a7, (up _ (by omega) (by omega)).trans a8, (up _ (by omega) (by omega)).trans a9, (up _ (by omega) (by omega)).trans a10, (up _ (by omega) (by omega)).trans a11⟩, ?_, ?_, fun k hk a b d => (f4 k hk (by omega) b).trans ((f3 k hk (by omega)).trans (f1 k hk d))⟩
  · rw [p1, dPost_same (N := M) (N1 := M3) (fun k a b => lo k b) (by have := hc.2.1; omega), lo 2049 (by decide), lo (6144 + s) (by omega), mid 55297 (by decide) (by decide), mid 55296 (by decide) (by decide), mid 55298 (by decide) (by decide)]
  · rw [p2, lo 10243 (by decide)]
/-- places that beginning TO CLAIM touches -/
noncomputable def dBgF (s k : Nat) : Prop := k ≠ (57348 + 26624 * s) ∧ k ≠ (57349 + 26624 * s) ∧ k ≠ (57353 + 26624 * s) ∧ k ≠ (57352 + 26624 * s) ∧ (k < (61440 + 26624 * s) ∨ (61442 + 26624 * s) < k) ∧ (k < (65536 + 26624 * s) ∨ (65540 + 26624 * s) < k)
/-- what it leaves behind, but for BEST -/
noncomputable def dBegun (M N1 : mMem) (s : Nat) : Prop := dG N1 (57348 + 26624 * s) = 2 ∧ dG N1 (57349 + 26624 * s) = dG M 2049 ∧ dG N1 (57353 + 26624 * s) = dG M 2049 ∧ dG N1 (57352 + 26624 * s) = dG M (57352 + 26624 * s) + 1 ∧ dG N1 (65536 + 26624 * s) = 0 ∧ dG N1 (65537 + 26624 * s) = 0 ∧ dG N1 (65538 + 26624 * s) = 0 ∧ dG N1 (65539 + 26624 * s) = 0 ∧ dG N1 (65540 + 26624 * s) = 0
theorem sp_begun {M : mMem} {s : Nat} (hs : s < 8) (hcl : 0 ≤ dG M (57352 + 26624 * s) ∧ dG M (57352 + 26624 * s) ≤ 1000) {X : Option dZ} {rest : mMem → Option dZ}
    (hX : X = (dlt (dP M (57348 + 26624 * s) 2) fun N2 => dlt (dP N2 (57349 + 26624 * s) (dG N2 2049)) fun N5 => dlt (dP N5 (57353 + 26624 * s) (dG N5 2049)) fun N8 => dbd (fX1_drop_H N8 s) fun N10 v11 => dlt (dP N10 (57352 + 26624 * s) (dW (dG N10 (57352 + 26624 * s) + 1))) fun N16 => dbd (fX0_become_E N16 s (dG N16 (57345 + 26624 * s)) (s : Int) (dG N16 (57352 + 26624 * s))) fun N18 v19 => rest N18)) :
    ∃ M1, X = rest M1 ∧ dBegun M M1 s ∧ (dG M1 (61440 + 26624 * s) = dG M (57345 + 26624 * s) ∧ dG M1 (61441 + 26624 * s) = (s : Int) ∧ dG M1 (61442 + 26624 * s) = dG M (57352 + 26624 * s) + 1) ∧ ∀ k, k < 2097152 → dBgF s k → dG M1 k = dG M k := by
  have w0 : dW 0 = 0 := dW_id ⟨by decide, by decide⟩
  have w2 : dW 2 = 2 := dW_id ⟨by decide, by decide⟩
  rw [hX]
  unfold dlt
  have f1 : ∀ k, k < 2097152 → k ≠ (57348 + 26624 * s) → dG (dP M (57348 + 26624 * s) 2) k = dG M k := fun k hk h => dG_n h (by omega) hk
  have k1 : dG ((dP M (57348 + 26624 * s) 2)) (57348 + 26624 * s) = 2 := (dG_e (by omega)).trans w2
  generalize dP M (57348 + 26624 * s) 2 = A1 at f1 k1 ⊢
  dsimp only
  rw [f1 2049 (by decide) (by omega)]
  have f2 : ∀ k, k < 2097152 → k ≠ (57349 + 26624 * s) → dG (dP A1 (57349 + 26624 * s) (dG M 2049)) k = dG A1 k := fun k hk h => dG_n h (by omega) hk
  have k2 : dG ((dP A1 (57349 + 26624 * s) (dG M 2049))) (57349 + 26624 * s) = dG M 2049 := (dG_e (by omega)).trans (dW_id (dG_R _ _))
  generalize dP A1 (57349 + 26624 * s) (dG M 2049) = A2 at f2 k2 ⊢
  rw [f2 2049 (by decide) (by omega), f1 2049 (by decide) (by omega)]
  have f3 : ∀ k, k < 2097152 → k ≠ (57353 + 26624 * s) → dG (dP A2 (57353 + 26624 * s) (dG M 2049)) k = dG A2 k := fun k hk h => dG_n h (by omega) hk
  have k3 : dG ((dP A2 (57353 + 26624 * s) (dG M 2049))) (57353 + 26624 * s) = dG M 2049 := (dG_e (by omega)).trans (dW_id (dG_R _ _))
  generalize dP A2 (57353 + 26624 * s) (dG M 2049) = A3 at f3 k3 ⊢
  obtain ⟨A4, g0, g1, g2, g3, g4, g5, f4⟩ : ∃ A4, fX1_drop_H A3 s = some (A4, 0) ∧ dG A4 (65536 + 26624 * s) = 0 ∧ dG A4 (65537 + 26624 * s) = 0 ∧ dG A4 (65538 + 26624 * s) = 0 ∧ dG A4 (65539 + 26624 * s) = 0 ∧ dG A4 (65540 + 26624 * s) = 0 ∧ ∀ k, k < 2097152 → (k < (65536 + 26624 * s) ∨ (65540 + 26624 * s) < k) → dG A4 k = dG A3 k := by
    refine ⟨_, rfl, ?_, ?_, ?_, ?_, ?_, fun k hk h => ?_⟩
    · rw [dG_n (by omega) (by omega) (by omega), dG_n (by omega) (by omega) (by omega), dG_n (by omega) (by omega) (by omega), dG_n (by omega) (by omega) (by omega), dG_e (by omega), w0]
    · rw [dG_n (by omega) (by omega) (by omega), dG_n (by omega) (by omega) (by omega), dG_n (by omega) (by omega) (by omega), dG_e (by omega), w0]
    · rw [dG_n (by omega) (by omega) (by omega), dG_n (by omega) (by omega) (by omega), dG_e (by omega), w0]
    · rw [dG_n (by omega) (by omega) (by omega), dG_e (by omega), w0]
    · rw [dG_e (by omega), w0]
    · rw [dG_n (by omega) (by omega) hk, dG_n (by omega) (by omega) hk, dG_n (by omega) (by omega) hk, dG_n (by omega) (by omega) hk, dG_n (by omega) (by omega) hk]
  rw [dbd_s g0]
  have c4 : dG A4 (57352 + 26624 * s) = dG M (57352 + 26624 * s) := (f4 _ (by omega) (by omega)).trans ((f3 _ (by omega) (by omega)).trans ((f2 _ (by omega) (by omega)).trans (f1 _ (by omega) (by omega))))
  rw [c4, dW_id (x := dG M (57352 + 26624 * s) + 1) ⟨by omega, by omega⟩]
  have f5 : ∀ k, k < 2097152 → k ≠ (57352 + 26624 * s) → dG (dP A4 (57352 + 26624 * s) (dG M (57352 + 26624 * s) + 1)) k = dG A4 k := fun k hk h => dG_n h (by omega) hk
  have k5 : dG ((dP A4 (57352 + 26624 * s) (dG M (57352 + 26624 * s) + 1))) (57352 + 26624 * s) = dG M (57352 + 26624 * s) + 1 := (dG_e (by omega)).trans (dW_id ⟨by omega, by omega⟩)
  generalize dP A4 (57352 + 26624 * s) (dG M (57352 + 26624 * s) + 1) = A5 at f5 k5 ⊢
  have fr : ∀ k, k < 2097152 → k ≠ (57348 + 26624 * s) → k ≠ (57349 + 26624 * s) → k ≠ (57353 + 26624 * s) → k ≠ (57352 + 26624 * s) → (k < (65536 + 26624 * s) ∨ (65540 + 26624 * s) < k) → dG A5 k = dG M k := fun k hk a b c d e => (f5 k hk d).trans ((f4 k hk e).trans ((f3 k hk c).trans ((f2 k hk b).trans (f1 k hk a))))
  have b5 : dG A5 (57345 + 26624 * s) = dG M (57345 + 26624 * s) := fr _ (by omega) (by omega) (by omega) (by omega) (by omega) (by omega)
  obtain ⟨A6, h0, h1, h2, h3, f6⟩ : ∃ A6, fX0_become_E A5 s (dG A5 (57345 + 26624 * s)) (s : Int) (dG A5 (57352 + 26624 * s)) = some (A6, 0) ∧ dG A6 (61440 + 26624 * s) = dG M (57345 + 26624 * s) ∧ dG A6 (61441 + 26624 * s) = (s : Int) ∧ dG A6 (61442 + 26624 * s) = dG M (57352 + 26624 * s) + 1 ∧ ∀ k, k < 2097152 → (k < (61440 + 26624 * s) ∨ (61442 + 26624 * s) < k) → dG A6 k = dG A5 k := by
    refine ⟨_, rfl, ?_, ?_, ?_, fun k hk h => ?_⟩
    · rw [dG_n (by omega) (by omega) (by omega), dG_n (by omega) (by omega) (by omega), dG_e (by omega), dW_id (dG_R _ _), b5]
    · rw [dG_n (by omega) (by omega) (by omega), dG_e (by omega), dW_id ⟨by omega, by omega⟩]
    · rw [dG_e (by omega), dW_id (dG_R _ _), k5]
    · rw [dG_n (by omega) (by omega) hk, dG_n (by omega) (by omega) hk, dG_n (by omega) (by omega) hk]
  rw [dbd_s h0]
  have up : ∀ k, k < 2097152 → (k < (61440 + 26624 * s) ∨ (61442 + 26624 * s) < k) → k ≠ (57352 + 26624 * s) → dG A6 k = dG A4 k := fun k hk a b => (f6 k hk a).trans (f5 k hk b)
  have up3 : ∀ k, k < 2097152 → (k < (61440 + 26624 * s) ∨ (61442 + 26624 * s) < k) → k ≠ (57352 + 26624 * s) → (k < (65536 + 26624 * s) ∨ (65540 + 26624 * s) < k) → dG A6 k = dG A3 k := fun k hk a b c => (up k hk a b).trans (f4 k hk c)
  refine ⟨A6, rfl, ⟨?_, ?_, (up3 _ (by omega) (by omega) (by omega) (by omega)).trans k3, (f6 _ (by omega) (by omega)).trans k5, (up _ (by omega) (by omega) (by omega)).trans g1, (up _ (by omega) (by omega) (by omega)).trans g2, (up _ (by omega) (by omega) (by omega)).trans g3, (up _ (by omega) (by omega) (by omega)).trans g4, (up _ (by omega) (by omega) (by omega)).trans g5⟩, ⟨h1, h2, h3⟩, fun k hk h => ?_⟩
  · exact (up3 _ (by omega) (by omega) (by omega) (by omega)).trans ((f3 _ (by omega) (by omega)).trans ((f2 _ (by omega) (by omega)).trans k1))
  · exact (up3 _ (by omega) (by omega) (by omega) (by omega)).trans ((f3 _ (by omega) (by omega)).trans k2)
  · obtain ⟨q1, q2, q3, q4, q5, q6⟩ := h
    exact (f6 k hk q5).trans (fr k hk q1 q2 q3 q4 q6)
theorem sp_b80RSN {M : mMem} {s : Nat} (hs : s < 8) (hc : dCan M s) : ∃ N1, fX3_beginToClaim_RSN_b80 M s = some (N1, 0) ∧ dG N1 53253 = dW (dG M 53253 + 1) ∧ dPost N1 = dPost M ++ [(0, ((s : Int), (dG M 2049 + dG M (6144 + s), (dG M (61441 + 26624 * s), (dG M (61440 + 26624 * s), dG M (61442 + 26624 * s))))))] ∧ dG N1 10243 = dG M 10243 + 1 ∧ ∀ k, k < 2097152 → (k < 10240 ∨ 38912 ≤ k) → k ≠ 53248 → k ≠ 53253 → dG N1 k = dG M k := by
  unfold fX3_beginToClaim_RSN_b80 dlt
  have f1 : ∀ k, k < 2097152 → k ≠ 53253 → dG (dP M 53253 (dW (dG M 53253 + 1))) k = dG M k := fun k hk h => dG_n h (by decide) hk
  have k1 : dG ((dP M 53253 (dW (dG M 53253 + 1)))) 53253 = dW (dG M 53253 + 1) := (dG_e (by decide)).trans (dW_id (dW_R _))
  generalize dP M 53253 (dW (dG M 53253 + 1)) = A1 at f1 k1 ⊢
  dsimp only
  obtain ⟨A2, e2, f2⟩ := sp_note0 A1 (s : Int) (dG A1 (57345 + 26624 * s))
  rw [dbd_s e2]
  have lo : ∀ k, k < 26624 → dG A2 k = dG M k := fun k hk => (f2 k (by omega) (.inl hk)).trans (f1 k (by omega) (by omega))
  have hi : ∀ k, 53254 ≤ k → k < 2097152 → dG A2 k = dG M k := fun k h1 h2 => (f2 k h2 (by omega)).trans (f1 k h2 (by omega))
  obtain ⟨N1, e3, p1, p2, f3⟩ := sp_sendE (M := A2) (s := s) (kd := 0) hs ⟨by decide, by decide⟩ (dCan_low hs hc lo)
  rw [dbd_s e3]
  refine ⟨N1, rfl, (f3 _ (by decide) (by decide) (by decide)).trans ((f2 _ (by decide) (by decide)).trans k1), ?_, ?_, fun k hk a b c => (f3 k hk (by omega) b).trans ((f2 k hk (by omega)).trans (f1 k hk c))⟩
  · rw [p1, dPost_same (N := M) (N1 := A2) (fun k a b => lo k b) (by have := hc.2.1; omega), lo 2049 (by decide), lo (6144 + s) (by omega), hi (61441 + 26624 * s) (by omega) (by omega), hi (61440 + 26624 * s) (by omega) (by omega), hi (61442 + 26624 * s) (by omega) (by omega)]
  · rw [p2, lo 10243 (by decide)]
theorem sp_b80RSC {M : mMem} {s : Nat} (hs : s < 8) (hc : dCan M s) : ∃ N1, fX3_beginToClaim_RSC_b80 M s = some (N1, 0) ∧ dG N1 53253 = dW (dG M 53253 + 1) ∧ dPost N1 = dPost M ++ [(0, ((s : Int), (dG M 2049 + dG M (6144 + s), (dG M (61441 + 26624 * s), (dG M (61440 + 26624 * s), dG M (61442 + 26624 * s))))))] ∧ dG N1 10243 = dG M 10243 + 1 ∧ ∀ k, k < 2097152 → (k < 10240 ∨ 38912 ≤ k) → k ≠ 53248 → k ≠ 53253 → dG N1 k = dG M k := by
  unfold fX3_beginToClaim_RSC_b80 dlt
  have f1 : ∀ k, k < 2097152 → k ≠ 53253 → dG (dP M 53253 (dW (dG M 53253 + 1))) k = dG M k := fun k hk h => dG_n h (by decide) hk
  have k1 : dG ((dP M 53253 (dW (dG M 53253 + 1)))) 53253 = dW (dG M 53253 + 1) := (dG_e (by decide)).trans (dW_id (dW_R _))
  generalize dP M 53253 (dW (dG M 53253 + 1)) = A1 at f1 k1 ⊢
  dsimp only
  obtain ⟨A2, e2, f2⟩ := sp_note0 A1 (s : Int) (dG A1 (57345 + 26624 * s))
  rw [dbd_s e2]
  have lo : ∀ k, k < 26624 → dG A2 k = dG M k := fun k hk => (f2 k (by omega) (.inl hk)).trans (f1 k (by omega) (by omega))
  have hi : ∀ k, 53254 ≤ k → k < 2097152 → dG A2 k = dG M k := fun k h1 h2 => (f2 k h2 (by omega)).trans (f1 k h2 (by omega))
  obtain ⟨N1, e3, p1, p2, f3⟩ := sp_sendE (M := A2) (s := s) (kd := 0) hs ⟨by decide, by decide⟩ (dCan_low hs hc lo)
  rw [dbd_s e3]
  refine ⟨N1, rfl, (f3 _ (by decide) (by decide) (by decide)).trans ((f2 _ (by decide) (by decide)).trans k1), ?_, ?_, fun k hk a b c => (f3 k hk (by omega) b).trans ((f2 k hk (by omega)).trans (f1 k hk c))⟩
  · rw [p1, dPost_same (N := M) (N1 := A2) (fun k a b => lo k b) (by have := hc.2.1; omega), lo 2049 (by decide), lo (6144 + s) (by omega), hi (61441 + 26624 * s) (by omega) (by omega), hi (61440 + 26624 * s) (by omega) (by omega), hi (61442 + 26624 * s) (by omega) (by omega)]
  · rw [p2, lo 10243 (by decide)]
/-- a station begins TO CLAIM, of itself -/
theorem sp_beginN {M : mMem} {s : Nat} (hs : s < 8) (hcl : 0 ≤ dG M (57352 + 26624 * s) ∧ dG M (57352 + 26624 * s) ≤ 1000) (hc : dCan M s) :
    ∃ N1, fX3_beginToClaim_RSN M s = some (N1, 0) ∧ dBegun M N1 s ∧ (dG N1 (61440 + 26624 * s) = dG M (57345 + 26624 * s) ∧ dG N1 (61441 + 26624 * s) = (s : Int) ∧ dG N1 (61442 + 26624 * s) = dG M (57352 + 26624 * s) + 1) ∧ dG N1 53253 = dW (dG M 53253 + 1) ∧ dPost N1 = dPost M ++ [(0, ((s : Int), (dG M 2049 + dG M (6144 + s), ((s : Int), (dG M (57345 + 26624 * s), dG M (57352 + 26624 * s) + 1)))))] ∧ dG N1 10243 = dG M 10243 + 1 ∧ ∀ k, k < 2097152 → (k < 10240 ∨ 38912 ≤ k) → k ≠ 53248 → k ≠ 53253 → dBgF s k → dG N1 k = dG M k := by
  obtain ⟨M1, e1, b, ⟨c1, c2, c3⟩, f1⟩ := sp_begun (M := M) (s := s) hs hcl (X := fX3_beginToClaim_RSN M s) (rest := fun N18 => fX3_beginToClaim_RSN_b80 N18 s) rfl
  have lo : ∀ k, k < 57344 → dG M1 k = dG M k := fun k hk => f1 k (by omega) (by unfold dBgF; omega)
  obtain ⟨N1, e2, k2, p1, p2, f2⟩ := sp_b80RSN (M := M1) hs (dCan_low hs hc (fun k hk => lo k (by omega)))
  have up : ∀ k, 57344 ≤ k → k < 2097152 → dG N1 k = dG M1 k := fun k h1 h2 => f2 k h2 (by omega) (by omega) (by omega)
  obtain ⟨b1, b2, b3, b4, b5, b6, b7, b8, b9⟩ := b
  refine ⟨N1, e1.trans e2, ⟨(up _ (by omega) (by omega)).trans b1, (up _ (by omega) (by omega)).trans b2, (up _ (by omega) (by omega)).trans b3, (up _ (by omega) (by omega)).trans b4, (up _ (by omega) (by omega)).trans b5, (up _ (by omega) (by omega)).trans b6, (up _ (by omega) (by omega)).trans b7, (up _ (by omega) (by omega)).trans b8, (up _ (by omega) (by omega)).trans b9⟩, ⟨(up _ (by omega) (by omega)).trans c1, (up _ (by omega) (by omega)).trans c2, (up _ (by omega) (by omega)).trans c3⟩, by rw [k2, lo 53253 (by decide)], ?_, by rw [p2, lo 10243 (by decide)], fun k hk a b c d => (f2 k hk a b c).trans (f1 k hk d)⟩
  rw [p1, c1, c2, c3, dPost_same (N := M) (N1 := M1) (fun k a b => lo k (by omega)) (by have := hc.2.1; omega), lo 2049 (by decide), lo (6144 + s) (by omega)]
/-- a station that is QUIET begins TO CLAIM with the CLAIM that came: the better one is BEST -/
theorem sp_beginC {M : mMem} {s : Nat} (hs : s < 8) (hcl : 0 ≤ dG M (57352 + 26624 * s) ∧ dG M (57352 + 26624 * s) ≤ 1000) (hc : dCan M s) :
    ∃ N1, fX3_beginToClaim_RSC M s = some (N1, 0) ∧ dBegun M N1 s ∧ dG N1 53253 = dW (dG M 53253 + 1) ∧ dG N1 10243 = dG M 10243 + 1 ∧
      (((dG M 55296 < dG M (57345 + 26624 * s) ∨ (dG M 55296 = dG M (57345 + 26624 * s) ∧ dG M 55297 < (s : Int))) ∧ (dG N1 (61440 + 26624 * s) = dG M 55296 ∧ dG N1 (61441 + 26624 * s) = dG M 55297 ∧ dG N1 (61442 + 26624 * s) = dG M 55298) ∧ dPost N1 = dPost M ++ [(0, ((s : Int), (dG M 2049 + dG M (6144 + s), (dG M 55297, (dG M 55296, dG M 55298)))))]) ∨
       (¬ (dG M 55296 < dG M (57345 + 26624 * s) ∨ (dG M 55296 = dG M (57345 + 26624 * s) ∧ dG M 55297 < (s : Int))) ∧ (dG N1 (61440 + 26624 * s) = dG M (57345 + 26624 * s) ∧ dG N1 (61441 + 26624 * s) = (s : Int) ∧ dG N1 (61442 + 26624 * s) = dG M (57352 + 26624 * s) + 1) ∧ dPost N1 = dPost M ++ [(0, ((s : Int), (dG M 2049 + dG M (6144 + s), ((s : Int), (dG M (57345 + 26624 * s), dG M (57352 + 26624 * s) + 1)))))])) ∧
      ∀ k, k < 2097152 → (k < 10240 ∨ 38912 ≤ k) → k ≠ 53248 → k ≠ 53253 → dBgF s k → dG N1 k = dG M k := by
  obtain ⟨M1, e1, b, ⟨c1, c2, c3⟩, f1⟩ := sp_begun (M := M) (s := s) hs hcl (X := fX3_beginToClaim_RSC M s) (rest := fun N18 => dbd (fX0_isBetter_CE N18 s) fun N23 v24 => (if v24 = 0 then fX3_beginToClaim_RSC_b80 N23 s else dbd (fX0_become__EC N23 s) fun N43 v44 => fX3_beginToClaim_RSC_b80 N43 s)) rfl
  have lo : ∀ k, k < 57344 → dG M1 k = dG M k := fun k hk => f1 k (by omega) (by unfold dBgF; omega)
  have cb := lo 55296 (by decide)
  have cw := lo 55297 (by decide)
  have cn := lo 55298 (by decide)
  rw [dbd_s (sp_isBetter_CE M1 s), cb, cw, c1, c2] at e1
  obtain ⟨b1, b2, b3, b4, b5, b6, b7, b8, b9⟩ := b
  have ps : dG M 10243 ≤ 100 := by have := hc.2.1; omega
  by_cases z : dG M 55296 < dG M (57345 + 26624 * s) ∨ (dG M 55296 = dG M (57345 + 26624 * s) ∧ dG M 55297 < (s : Int))
  · rw [if_pos z, if_neg (by decide)] at e1
    obtain ⟨M2, g0, g1, g2, g3, f2⟩ := sp_becomeEC (N := M1) hs
    rw [dbd_s g0] at e1
    have lo2 : ∀ k, k < 57344 → dG M2 k = dG M k := fun k hk => (f2 k (by omega) (by omega)).trans (lo k hk)
    obtain ⟨N1, e2, k2, p1, p2, f3⟩ := sp_b80RSC (M := M2) hs (dCan_low hs hc (fun k hk => lo2 k (by omega)))
    have up : ∀ k, 57344 ≤ k → k < 2097152 → (k < (61440 + 26624 * s) ∨ (61442 + 26624 * s) < k) → dG N1 k = dG M1 k := fun k h1 h2 h3 => (f3 k h2 (by omega) (by omega) (by omega)).trans (f2 k h2 h3)
    have up2 : ∀ k, 57344 ≤ k → k < 2097152 → dG N1 k = dG M2 k := fun k h1 h2 => f3 k h2 (by omega) (by omega) (by omega)
    refine ⟨N1, e1.trans e2, ⟨(up _ (by omega) (by omega) (by omega)).trans b1, (up _ (by omega) (by omega) (by omega)).trans b2, (up _ (by omega) (by omega) (by omega)).trans b3, (up _ (by omega) (by omega) (by omega)).trans b4, (up _ (by omega) (by omega) (by omega)).trans b5, (up _ (by omega) (by omega) (by omega)).trans b6, (up _ (by omega) (by omega) (by omega)).trans b7, (up _ (by omega) (by omega) (by omega)).trans b8, (up _ (by omega) (by omega) (by omega)).trans b9⟩, by rw [k2, lo2 53253 (by decide)], by rw [p2, lo2 10243 (by decide)], .inl ⟨z, ⟨(up2 _ (by omega) (by omega)).trans (g1.trans cb), (up2 _ (by omega) (by omega)).trans (g2.trans cw), (up2 _ (by omega) (by omega)).trans (g3.trans cn)⟩, ?_⟩, fun k hk a b c d => (f3 k hk a b c).trans ((f2 k hk d.2.2.2.2.1).trans (f1 k hk d))⟩
    rw [p1, g1, g2, g3, cb, cw, cn, dPost_same (N := M) (N1 := M2) (fun k a b => lo2 k (by omega)) ps, lo2 2049 (by decide), lo2 (6144 + s) (by omega)]
  · rw [if_neg z, if_pos rfl] at e1
    obtain ⟨N1, e2, k2, p1, p2, f3⟩ := sp_b80RSC (M := M1) hs (dCan_low hs hc (fun k hk => lo k (by omega)))
    have up : ∀ k, 57344 ≤ k → k < 2097152 → dG N1 k = dG M1 k := fun k h1 h2 => f3 k h2 (by omega) (by omega) (by omega)
    refine ⟨N1, e1.trans e2, ⟨(up _ (by omega) (by omega)).trans b1, (up _ (by omega) (by omega)).trans b2, (up _ (by omega) (by omega)).trans b3, (up _ (by omega) (by omega)).trans b4, (up _ (by omega) (by omega)).trans b5, (up _ (by omega) (by omega)).trans b6, (up _ (by omega) (by omega)).trans b7, (up _ (by omega) (by omega)).trans b8, (up _ (by omega) (by omega)).trans b9⟩, by rw [k2, lo 53253 (by decide)], by rw [p2, lo 10243 (by decide)], .inr ⟨z, ⟨(up _ (by omega) (by omega)).trans c1, (up _ (by omega) (by omega)).trans c2, (up _ (by omega) (by omega)).trans c3⟩, ?_⟩, fun k hk a b c d => (f3 k hk a b c).trans (f1 k hk d)⟩
    rw [p1, c1, c2, c3, dPost_same (N := M) (N1 := M1) (fun k a b => lo k (by omega)) ps, lo 2049 (by decide), lo (6144 + s) (by omega)]
/-! ===== turns of who is QUIET, CLAIMING ===== -/
theorem sp_turnQuiet {N : mMem} {s : Nat} (hs : s < 8) (ho : dG N (57347 + 26624 * s) = 0) (hh : dG N (65536 + 26624 * s) = 0) (hk : dG N (57348 + 26624 * s) = 0) : fX3_takeTurn_RS N s = some (N, 0) := by
  unfold fX3_takeTurn_RS
  rw [if_pos ho, if_pos hh]
  unfold fX3_takeTurn_RS_b23
  have e : fX3_isOutOfPatience_RS N s = some (N, 0) := by
    unfold fX3_isOutOfPatience_RS fX3_isOutOfPatience_RS_b62
    rw [if_neg (by omega), if_neg (by omega)]
  rw [if_neg (by omega), dbd_s e, if_pos rfl]
  split
  · rfl
  · have e2 : fX3_sendAgain_RS N s = some (N, 0) := by
      unfold fX3_sendAgain_RS
      rw [if_neg (by omega), if_neg (by omega)]
    rw [dbd_s e2]
theorem sp_turnClaiming {N : mMem} {s : Nat} (hs : s < 8) (ho : dG N (57347 + 26624 * s) = 0) (hh : dG N (65536 + 26624 * s) = 0) (hk : dG N (57348 + 26624 * s) = 2) (hp : dG N 4097 = 200) (hr : dG N 4098 = 20) (hsi : 0 ≤ dG N (57349 + 26624 * s)) (hse : 0 ≤ dG N (57353 + 26624 * s)) (hnow : dG N 2049 - dG N (57349 + 26624 * s) < 200) (hc : dCan N s) :
    (fX3_takeTurn_RS N s = some (N, 0)) ∨
    (20 ≤ dG N 2049 - dG N (57353 + 26624 * s) ∧ (dG N (61441 + 26624 * s) = (s : Int) ∧ dG N (61442 + 26624 * s) = dG N (57352 + 26624 * s)) ∧ ∃ N1, fX3_takeTurn_RS N s = some (N1, 0) ∧ dG N1 (57353 + 26624 * s) = dG N 2049 ∧ dPost N1 = dPost N ++ [(0, ((s : Int), (dG N 2049 + dG N (6144 + s), (dG N (61441 + 26624 * s), (dG N (61440 + 26624 * s), dG N (61442 + 26624 * s))))))] ∧ dG N1 10243 = dG N 10243 + 1 ∧ ∀ k, k < 2097152 → (k < 10240 ∨ 26624 ≤ k) → k ≠ 53248 → k ≠ (57353 + 26624 * s) → dG N1 k = dG N k) := by
  obtain ⟨q1, q2, q3, q4, q5⟩ := id hc
  unfold fX3_takeTurn_RS
  rw [if_pos ho, if_pos hh]
  unfold fX3_takeTurn_RS_b23
  have e : fX3_isOutOfPatience_RS N s = some (N, 0) := by
    unfold fX3_isOutOfPatience_RS
    rw [if_pos hk, dW_id (x := dG N 2049 - dG N (57349 + 26624 * s)) ⟨by have := dG_R N (57349 + 26624 * s); omega, by omega⟩, if_pos (by omega)]
  rw [if_neg (by omega), dbd_s e, if_pos rfl, dW_id (x := dG N 2049 - dG N (57353 + 26624 * s)) ⟨by have := dG_R N (57353 + 26624 * s); omega, by omega⟩]
  by_cases c : dG N 2049 - dG N (57353 + 26624 * s) < dG N 4098
  · rw [if_pos c]
    exact .inl rfl
  · rw [if_neg c]
    unfold fX3_sendAgain_RS
    rw [if_neg (by omega), if_pos hk, dbd_s (sp_isBestOwn N s)]
    by_cases d : dG N (61441 + 26624 * s) = (s : Int) ∧ dG N (61442 + 26624 * s) = dG N (57352 + 26624 * s)
    · rw [if_pos d, if_neg (by decide)]
      unfold dlt
      have f1 : ∀ k, k < 2097152 → k ≠ (57353 + 26624 * s) → dG (dP N (57353 + 26624 * s) (dG N 2049)) k = dG N k := fun k hk h => dG_n h (by omega) hk
      have k1 : dG ((dP N (57353 + 26624 * s) (dG N 2049))) (57353 + 26624 * s) = dG N 2049 := (dG_e (by omega)).trans (dW_id (dG_R _ _))
      generalize dP N (57353 + 26624 * s) (dG N 2049) = M at f1 k1 ⊢
      dsimp only
      obtain ⟨N1, e3, p1, p2, f3⟩ := sp_sendE (M := M) (s := s) (kd := 0) hs ⟨by decide, by decide⟩ (dCan_low hs hc (fun k hk => f1 k (by omega) (by omega)))
      rw [dbd_s (x := dbd (fX3_send_RE M s (s : Int) 0) fun N13 v14 => some (N13, 0)) (N := N1) (v := 0) (by rw [dbd_s e3])]
      refine .inr ⟨by omega, d, N1, rfl, (f3 _ (by omega) (by omega) (by omega)).trans k1, ?_, by rw [p2, f1 _ (by omega) (by omega)], fun k hk a b c => (f3 k hk a b).trans (f1 k hk c)⟩
      rw [p1, dPost_same (N := N) (N1 := M) (fun k a b => f1 k (by omega) (by omega)) (by omega), f1 2049 (by omega) (by omega), f1 (6144 + s) (by omega) (by omega), f1 (61441 + 26624 * s) (by omega) (by omega), f1 (61440 + 26624 * s) (by omega) (by omega), f1 (61442 + 26624 * s) (by omega) (by omega)]
    · rw [if_neg d, if_pos rfl]
      exact .inl rfl

/-! ===== a message comes ===== -/
theorem sp_comes {N : mMem} {i l n : Nat} (hn : dG N 2048 = (n : Int)) (h2 : 2 ≤ n) (h8 : n ≤ 8) (hi : (i : Int) < dG N 10243) (hs : dG N 10243 ≤ 100) (hl : dG N (16384 + i) = (l : Int)) (hln : l < n) (ho : ∀ u, u < n → dG N (57347 + 26624 * u) = 0) (hk : dG N (14336 + i) = 0 ∨ dG N (14336 + i) = 2) :
    ∃ M, dPost M = (dPost N).eraseIdx i ∧ dG M 10243 = dG N 10243 - 1 ∧ dG M 55296 = dG N (22528 + i) ∧ dG M 55297 = dG N (20480 + i) ∧ dG M 55298 = dG N (24576 + i) ∧ (∀ k, k < 2097152 → (k < 10240 ∨ 26624 ≤ k) → (k < 55296 ∨ 55298 < k) → dG M k = dG N k) ∧
      (∀ M1 v, dG N (14336 + i) = 0 → fX3_claimComes_RSC M (dNx n l) = some (M1, v) → fX3_comes_R N (i : Int) = some (M1, 0)) ∧
      (∀ M1 v, dG N (14336 + i) = 2 → fX3_tokenComes_RSC M (dNx n l) = some (M1, v) → fX3_comes_R N (i : Int) = some (M1, 0)) := by
  have i0 : (0 : Int) ≤ (i : Int) := by omega
  have i1 : (i : Int) < 100 := by omega
  have e0 : fX0_become_C N (dG N (22528 + i)) (dG N (20480 + i)) (dG N (24576 + i)) = some (dP (dP (dP N 55296 (dG N (22528 + i))) 55297 (dG N (20480 + i))) 55298 (dG N (24576 + i)), 0) := rfl
  have f0 : ∀ k, k < 2097152 → (k < 55296 ∨ 55298 < k) → dG (dP (dP (dP N 55296 (dG N (22528 + i))) 55297 (dG N (20480 + i))) 55298 (dG N (24576 + i))) k = dG N k := fun k hk h => by rw [dG_n (by omega) (by decide) hk, dG_n (by omega) (by decide) hk, dG_n (by omega) (by decide) hk]
  have c0 : dG ((dP (dP (dP N 55296 (dG N (22528 + i))) 55297 (dG N (20480 + i))) 55298 (dG N (24576 + i)))) 55296 = dG N (22528 + i) := by rw [dG_n (by decide) (by decide) (by decide), dG_n (by decide) (by decide) (by decide), dG_e (by decide), dW_id (dG_R _ _)]
  have c1 : dG ((dP (dP (dP N 55296 (dG N (22528 + i))) 55297 (dG N (20480 + i))) 55298 (dG N (24576 + i)))) 55297 = dG N (20480 + i) := by rw [dG_n (by decide) (by decide) (by decide), dG_e (by decide), dW_id (dG_R _ _)]
  have c2 : dG ((dP (dP (dP N 55296 (dG N (22528 + i))) 55297 (dG N (20480 + i))) 55298 (dG N (24576 + i)))) 55298 = dG N (24576 + i) := by rw [dG_e (by decide), dW_id (dG_R _ _)]
  generalize dP (dP (dP N 55296 (dG N (22528 + i))) 55297 (dG N (20480 + i))) 55298 (dG N (24576 + i)) = M0 at e0 f0 c0 c1 c2
  have z0 := f0 10243 (by decide) (by decide)
  obtain ⟨M, r1, r2, r3, r4⟩ := sp_remove (N := M0) (i := i) (by omega) (by omega)
  have al : ∀ k, k < 2097152 → (k < 10240 ∨ 26624 ≤ k) → (k < 55296 ∨ 55298 < k) → dG M k = dG N k := fun k hk a b => (r4 k hk a).trans (f0 k hk b)
  have nM := al 2048 (by decide) (by decide) (by decide)
  have v0 : dNx n l < n := dNx_lt (by omega)
  have af : fX3_after_R M (l : Int) = some (M, ((dNx n l : Nat) : Int)) := by
    rw [sp_after (by omega) (by omega), nM, hn]
    unfold dNx
    by_cases c : l + 1 < n
    · rw [if_pos (by omega), if_pos c]; rfl
    · rw [if_neg (by omega), if_neg c]; rfl
  have oM : dG M (57347 + 26624 * dNx n l) = 0 := (al _ (by omega) (by omega) (by omega)).trans (ho _ v0)
  have run : ∀ X : Option dZ, (if dG N (14336 + i) = 0 then dbd (fX3_claimComes_RSC M (dNx n l)) fun N74 v75 => some (N74, 0) else (if dG N (14336 + i) = 1 then none else dbd (fX3_tokenComes_RSC M (dNx n l)) fun N80 v81 => some (N80, 0))) = X → fX3_comes_R N (i : Int) = X := fun X hX => by
    unfold fX3_comes_R
    rw [dbd_s (sp_atP1 i0 hi i1), Int.toNat_natCast, hl, dbd_s (sp_has N (l : Int)), if_pos (show 0 ≤ (l : Int) ∧ (l : Int) < dG N 2048 from ⟨by omega, by omega⟩), if_neg (by decide), dbd_s (sp_atP0 i0 hi i1), dbd_s (sp_atP4 i0 hi i1), dbd_s (sp_atP3 i0 hi i1), dbd_s (sp_atP5 i0 hi i1), Int.toNat_natCast, dbd_s e0, dbd_s r1, dbd_s af, dgd_t ⟨by omega, by omega⟩, Int.toNat_natCast]
    unfold dln
    dsimp only
    rw [if_pos oM]
    exact hX
  refine ⟨M, ?_, by omega, (r4 _ (by decide) (by decide)).trans c0, (r4 _ (by decide) (by decide)).trans c1, (r4 _ (by decide) (by decide)).trans c2, al, fun M1 v h h3 => ?_, fun M1 v h h3 => ?_⟩
  · rw [r2, dPost_same (N := N) (N1 := M0) (fun k a b => f0 k (by omega) (by omega)) hs]
  · refine run _ ?_
    rw [if_pos h, dbd_s h3]
  · refine run _ ?_
    rw [if_neg (by omega), if_neg (by omega), dbd_s h3]
/-- a CLAIM by which it goes comes to one that is UP: nothing -/
theorem sp_claimUp {M : mMem} {s : Nat} (hk : dG M (57348 + 26624 * s) = 1) (h1 : dG M 55297 = (s : Int) → dG M 55298 = dG M (57352 + 26624 * s)) (h2 : dG M 55297 = dG M (59393 + 26624 * s)) (h3 : dG M 55298 ≤ dG M (59394 + 26624 * s)) : fX3_claimComes_RSC M s = some (M, 0) := by
  have b : fX3_claimComes_RSC_b23 M s = some (M, 0) := by
    unfold fX3_claimComes_RSC_b23
    rw [if_neg (by omega), if_pos hk, if_pos h2, if_neg (by omega)]
  unfold fX3_claimComes_RSC
  by_cases c : dG M 55297 = (s : Int)
  · rw [if_pos c, if_pos (h1 c), b]
  · rw [if_neg c, b]
/-- a TOKEN comes to one that goes by it, and lets go no sooner than LATENCY after the last -/
theorem sp_tokenUp {M : mMem} {s n : Nat} (hn : dG M 2048 = (n : Int)) (h8 : n ≤ 8) (hd : ∀ k, k < n → 0 ≤ dG M (6144 + k) ∧ dG M (6144 + k) ≤ 100) (hk : dG M (57348 + 26624 * s) = 1) (hc : dG M 55296 = dG M (59392 + 26624 * s) ∧ dG M 55297 = dG M (59393 + 26624 * s) ∧ dG M 55298 = dG M (59394 + 26624 * s)) (hh : dG M (65536 + 26624 * s) = 0) (ht : 0 ≤ dG M 2049 ∧ dG M 2049 ≤ 100000) (hw : 0 ≤ dG M (65547 + 26624 * s)) (hl : dG M (65547 + 26624 * s) + dPfx (fun k => dG M (6144 + k)) n ≤ dG M 2049) {M1 : mMem} (hx : fX5_takeToken_S M s (dG M 2049) = some (M1, 0)) : fX3_tokenComes_RSC M s = some (M1, 0) := by
  have b := dPfx_b (f := fun k => dG M (6144 + k)) (a := 0) (b := 100) (k := n) (fun j hj => hd j (by omega))
  unfold fX3_tokenComes_RSC fX3_tokenComes_RSC_b55
  rw [if_neg (by omega), if_pos hk, dbd_s (sp_isSame_CU M s), if_pos hc, if_neg (by decide), if_pos hh, dbd_s (sp_latency hn h8 hd), dW_id (x := dG M 2049 - dG M (65547 + 26624 * s)) ⟨by omega, by omega⟩, if_neg (by omega), dbd_s hx]
/-! ===== the loops of a tick ===== -/
theorem sp_loopA {J : mMem → List dMsg → List dMsg → List dMsg → Prop} {t : Int} (hJ : ∀ N K U W, J N K U W → dPost N = K ++ (U ++ W) ∧ (0 ≤ dG N 10243 ∧ dG N 10243 ≤ 100) ∧ dG N 2049 = t)
    (h1 : ∀ N K u U W, J N K (u :: U) W → t < u.2.2.1 → J N (K ++ [u]) U W) (h2 : ∀ N K u U W, J N K (u :: U) W → u.2.2.1 ≤ t → ∃ N1 W1, fX3_comes_R N ((K.length : Nat) : Int) = some (N1, 0) ∧ J N1 K U W1) :
    ∀ (U : List dMsg) (fuel : Nat) (N : mMem) (K W : List dMsg) (a b : Int), J N K U W → U.length < fuel → a - b = ((U.length : Nat) : Int) → 0 ≤ b → a ≤ 1000 → ∃ N1 K1 W1, J N1 K1 [] W1 ∧ fX3_advance_R_b22 fuel N a ((K.length : Nat) : Int) b = fX3_advance_R_b62 1000 N1 0 := fun U => by
  induction U with
  | nil =>
    intro fuel N K W a b h hf hab hb ha
    obtain ⟨f, rfl⟩ : ∃ f, fuel = f + 1 := ⟨fuel - 1, by omega⟩
    have hab : a - b = 0 := hab
    refine ⟨N, K, W, h, ?_⟩
    rw [fX3_advance_R_b22, if_neg (by omega)]
  | cons u U ih =>
    intro fuel N K W a b h hf hab hb ha
    obtain ⟨f, rfl⟩ : ∃ f, fuel = f + 1 := ⟨fuel - 1, by omega⟩
    have hab : a - b = ((U.length + 1 : Nat) : Int) := hab
    have hf : U.length + 1 < f + 1 := hf
    obtain ⟨p1, p2, p3⟩ := hJ N K (u :: U) W h
    have len : (dPost N).length = K.length + (U.length + 1 + W.length) := by rw [p1]; simp; omega
    rw [dPost_len] at len
    have row : dRow N K.length = u := by
      have g := dPost_get (N := N) (i := K.length) (by omega)
      rw [p1, List.getElem?_append_right (Nat.le_refl _), Nat.sub_self] at g
      exact (Option.some.inj g).symm
    have due : dG N (18432 + K.length) = u.2.2.1 := by rw [← row]; rfl
    rw [fX3_advance_R_b22, if_pos (by omega), dbd_s (sp_atP2 (by omega) (by omega) (by omega)), Int.toNat_natCast, due, p3]
    by_cases c : t < u.2.2.1
    · rw [if_pos c]
      unfold fX3_advance_R_b54
      rw [dW_id (x := ((K.length : Nat) : Int) + 1) ⟨by omega, by omega⟩, dW_id (x := b + 1) ⟨by omega, by omega⟩]
      have e : (((K ++ [u]).length : Nat) : Int) = ((K.length : Nat) : Int) + 1 := by rw [List.length_append]; rfl
      rw [← e]
      exact ih f N (K ++ [u]) W a (b + 1) (h1 N K u U W h c) (by omega) (by omega) (by omega) ha
    · rw [if_neg c]
      obtain ⟨N1, W1, q1, q2⟩ := h2 N K u U W h (by omega)
      rw [dbd_s q1]
      unfold fX3_advance_R_b54
      rw [dW_id (x := b + 1) ⟨by omega, by omega⟩]
      exact ih f N1 K W1 a (b + 1) q2 (by omega) (by omega) (by omega) ha
theorem sp_loopB {J : mMem → Prop} {n : Nat} (h8 : n ≤ 8) (hJ : ∀ N, J N → dG N 2048 = (n : Int)) (h : ∀ N u, u < n → J N → ∃ N1, fX3_goOnStreaming_RS N u = some (N1, 0) ∧ J N1) :
    ∀ (m fuel i : Nat) (N : mMem), n = i + m → m < fuel → J N → ∃ N1, J N1 ∧ fX3_advance_R_b62 fuel N (i : Int) = fX3_advance_R_b88 1000 N1 0 := fun m => by
  induction m with
  | zero =>
    intro fuel i N hi hf hN
    obtain ⟨f, rfl⟩ : ∃ f, fuel = f + 1 := ⟨fuel - 1, by omega⟩
    have := hJ N hN
    refine ⟨N, hN, ?_⟩
    rw [fX3_advance_R_b62, if_neg (by omega)]
  | succ m ih =>
    intro fuel i N hi hf hN
    obtain ⟨f, rfl⟩ : ∃ f, fuel = f + 1 := ⟨fuel - 1, by omega⟩
    have := hJ N hN
    obtain ⟨N1, e1, j1⟩ := h N i (by omega) hN
    rw [fX3_advance_R_b62, if_pos (by omega), dgd_t ⟨by omega, by omega⟩, Int.toNat_natCast]
    unfold dln
    dsimp only
    rw [dbd_s e1, dW_id (x := (i : Int) + 1) ⟨by omega, by omega⟩]
    exact ih f (i + 1) N1 (by omega) (by omega) j1
theorem sp_loopC {J : Nat → mMem → Prop} {n : Nat} (h8 : n ≤ 8) (hJ : ∀ N u, J u N → dG N 2048 = (n : Int)) (h : ∀ N u, u < n → J u N → ∃ N1, fX3_takeTurn_RS N u = some (N1, 0) ∧ J (u + 1) N1) :
    ∀ (m fuel i : Nat) (N : mMem), n = i + m → m < fuel → J i N → ∃ N1, J n N1 ∧ fX3_advance_R_b88 fuel N (i : Int) = some (N1, 0) := fun m => by
  induction m with
  | zero =>
    intro fuel i N hi hf hN
    obtain ⟨f, rfl⟩ : ∃ f, fuel = f + 1 := ⟨fuel - 1, by omega⟩
    have := hJ N i hN
    refine ⟨N, by rw [hi]; exact hN, ?_⟩
    rw [fX3_advance_R_b88, if_neg (by omega)]
  | succ m ih =>
    intro fuel i N hi hf hN
    obtain ⟨f, rfl⟩ : ∃ f, fuel = f + 1 := ⟨fuel - 1, by omega⟩
    have := hJ N i hN
    obtain ⟨N1, e1, j1⟩ := h N i (by omega) hN
    rw [fX3_advance_R_b88, if_pos (by omega), dgd_t ⟨by omega, by omega⟩, Int.toNat_natCast]
    unfold dln
    dsimp only
    rw [dbd_s e1, dW_id (x := (i : Int) + 1) ⟨by omega, by omega⟩]
    exact ih f (i + 1) N1 (by omega) (by omega) j1

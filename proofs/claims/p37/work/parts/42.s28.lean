/-! ===== shares, floor ===== -/
theorem sp_allShares {N : mMem} {n : Nat} (hn : dG N 2048 = (n : Int)) (h8 : n ≤ 8) (ho : ∀ k, k < n → dG N (57347 + 26624 * k) = 0) (hd : ∀ k, k < n → 0 ≤ dG N (57346 + 26624 * k) ∧ dG N (57346 + 26624 * k) ≤ 500) : fX3_allShares_R N = some (N, dPfx (fun k => dG N (57346 + 26624 * k)) n) := by
  have lo : ∀ (m fuel i : Nat), n = i + m → m < fuel → fX3_allShares_R_b4 fuel N (dPfx (fun k => dG N (57346 + 26624 * k)) i) (i : Int) = some (N, dPfx (fun k => dG N (57346 + 26624 * k)) n) := fun m => by
    induction m with
    | zero =>
      intro fuel i hi hf
      obtain ⟨f, rfl⟩ : ∃ f, fuel = f + 1 := ⟨fuel - 1, by omega⟩
      rw [fX3_allShares_R_b4, hn, if_neg (by omega), hi]
      rfl
    | succ m ih =>
      intro fuel i hi hf
      obtain ⟨f, rfl⟩ : ∃ f, fuel = f + 1 := ⟨fuel - 1, by omega⟩
      have b := dPfx_b (f := fun k => dG N (57346 + 26624 * k)) (a := 0) (b := 500) (k := i) (fun j hj => hd j (by omega))
      have c := hd i (by omega)
      have d := ho i (by omega)
      rw [fX3_allShares_R_b4, hn, if_pos (by omega), dgd_t ⟨by omega, by omega⟩, Int.toNat_natCast]
      unfold dln
      dsimp only
      rw [if_pos d, dgd_t ⟨by omega, by omega⟩]
      unfold fX3_allShares_R_b38
      rw [dW_id (x := (i : Int) + 1) ⟨by omega, by omega⟩, dW_id (x := dPfx (fun k => dG N (57346 + 26624 * k)) i + dG N (57346 + 26624 * i)) ⟨by omega, by omega⟩]
      exact ih f (i + 1) (by omega) (by omega)
  exact lo n 1000 0 (by omega) (by omega)
theorem sp_leastNo {N : mMem} {n : Nat} (hn : dG N 2048 = (n : Int)) (h8 : n ≤ 8) (hk : ∀ k, k < n → dG N (57348 + 26624 * k) ≠ 1) : fX3_leastTarget_R N = some (N, -1) := by
  have lo : ∀ (m fuel i : Nat), n = i + m → m < fuel → fX3_leastTarget_R_b4 fuel N (-1) (i : Int) = some (N, -1) := fun m => by
    induction m with
    | zero =>
      intro fuel i hi hf
      obtain ⟨f, rfl⟩ : ∃ f, fuel = f + 1 := ⟨fuel - 1, by omega⟩
      rw [fX3_leastTarget_R_b4, hn, if_neg (by omega)]
    | succ m ih =>
      intro fuel i hi hf
      obtain ⟨f, rfl⟩ : ∃ f, fuel = f + 1 := ⟨fuel - 1, by omega⟩
      rw [fX3_leastTarget_R_b4, hn, if_pos (by omega), dgd_t ⟨by omega, by omega⟩, Int.toNat_natCast]
      unfold dln
      dsimp only
      rw [if_neg (hk i (by omega))]
      unfold fX3_leastTarget_R_b51
      rw [dW_id (x := (i : Int) + 1) ⟨by omega, by omega⟩]
      exact ih f (i + 1) (by omega) (by omega)
  exact lo n 1000 0 (by omega) (by omega)
theorem sp_leastUp {N : mMem} {n : Nat} {B : Int} (hn : dG N 2048 = (n : Int)) (h1 : 1 ≤ n) (h8 : n ≤ 8) (hB : 0 ≤ B) (hk : ∀ k, k < n → dG N (57348 + 26624 * k) = 1 ∧ dG N (59392 + 26624 * k) = B) : fX3_leastTarget_R N = some (N, B) := by
  have lo : ∀ (m fuel i : Nat), n = i + m → m < fuel → fX3_leastTarget_R_b4 fuel N B (i : Int) = some (N, B) := fun m => by
    induction m with
    | zero =>
      intro fuel i hi hf
      obtain ⟨f, rfl⟩ : ∃ f, fuel = f + 1 := ⟨fuel - 1, by omega⟩
      rw [fX3_leastTarget_R_b4, hn, if_neg (by omega)]
    | succ m ih =>
      intro fuel i hi hf
      obtain ⟨f, rfl⟩ : ∃ f, fuel = f + 1 := ⟨fuel - 1, by omega⟩
      obtain ⟨a1, a2⟩ := hk i (by omega)
      rw [fX3_leastTarget_R_b4, hn, if_pos (by omega), dgd_t ⟨by omega, by omega⟩, Int.toNat_natCast]
      unfold dln
      dsimp only
      rw [if_pos a1, if_neg (by omega), if_neg (by omega)]
      unfold fX3_leastTarget_R_b51
      rw [dW_id (x := (i : Int) + 1) ⟨by omega, by omega⟩]
      exact ih f (i + 1) (by omega) (by omega)
  obtain ⟨a1, a2⟩ := hk 0 (by omega)
  have a1 : dG N (57348 + 26624 * 0) = 1 := a1
  have a2 : dG N (59392 + 26624 * 0) = B := a2
  unfold fX3_leastTarget_R
  rw [show (1000 : Nat) = 999 + 1 from rfl, fX3_leastTarget_R_b4, hn, if_pos (by omega), dgd_t ⟨by omega, by omega⟩, show (0 : Int).toNat = 0 from rfl]
  unfold dln
  dsimp only
  rw [if_pos a1, if_pos rfl]
  unfold fX3_leastTarget_R_b43 fX3_leastTarget_R_b51
  rw [a2, dW_id (x := (0 : Int) + 1) ⟨by omega, by omega⟩]
  exact lo (n - 1) 999 1 (by omega) (by omega)
/-- the floor of some that are QUIET -/
theorem sp_floor {N : mMem} {n : Nat} (hn : dG N 2048 = (n : Int)) (h1 : 1 ≤ n) (h8 : n ≤ 8) (ho : ∀ k, k < n → dG N (57347 + 26624 * k) = 0) (hk : ∀ k, k < n → dG N (57348 + 26624 * k) = 0) (hb : ∀ k, k < n → 0 ≤ dG N (57345 + 26624 * k)) : ∃ v, fX3_floor_R N = some (N, v) ∧ (∀ k, k < n → v ≤ dG N (57345 + 26624 * k)) ∧ ∃ k, k < n ∧ v = dG N (57345 + 26624 * k) := by
  have lo : ∀ (m fuel i : Nat) (x : Int), n = i + m → m < fuel → (∀ k, k < i → x ≤ dG N (57345 + 26624 * k)) → (∃ k, k < i ∧ x = dG N (57345 + 26624 * k)) → ∃ v, fX3_floor_R_b7 fuel N x (i : Int) = some (N, v) ∧ (∀ k, k < n → v ≤ dG N (57345 + 26624 * k)) ∧ ∃ k, k < n ∧ v = dG N (57345 + 26624 * k) := fun m => by
    induction m with
    | zero =>
      intro fuel i x hi hf g1 g2
      obtain ⟨f, rfl⟩ : ∃ f, fuel = f + 1 := ⟨fuel - 1, by omega⟩
      have e : n = i := hi
      subst e
      exact ⟨x, by rw [fX3_floor_R_b7, hn, if_neg (by omega)], g1, g2⟩
    | succ m ih =>
      intro fuel i x hi hf g1 g2
      obtain ⟨f, rfl⟩ : ∃ f, fuel = f + 1 := ⟨fuel - 1, by omega⟩
      have x0 : x ≠ -1 := by
        obtain ⟨k, hk1, hk2⟩ := g2
        have := hb k (by omega)
        omega
      rw [fX3_floor_R_b7, hn, if_pos (by omega), dgd_t ⟨by omega, by omega⟩, Int.toNat_natCast]
      unfold dln
      dsimp only
      rw [if_pos (ho i (by omega)), if_neg x0]
      by_cases c : dG N (57345 + 26624 * i) < x
      · rw [if_pos c]
        unfold fX3_floor_R_b42 fX3_floor_R_b47
        rw [dW_id (x := (i : Int) + 1) ⟨by omega, by omega⟩]
        refine ih f (i + 1) _ (by omega) (by omega) (fun k hk1 => ?_) ⟨i, by omega, rfl⟩
        by_cases e : k = i
        · rw [e]; exact Int.le_refl _
        · have := g1 k (by omega)
          omega
      · rw [if_neg c]
        unfold fX3_floor_R_b47
        rw [dW_id (x := (i : Int) + 1) ⟨by omega, by omega⟩]
        refine ih f (i + 1) _ (by omega) (by omega) (fun k hk1 => ?_) ?_
        · by_cases e : k = i
          · rw [e]; omega
          · exact g1 k (by omega)
        · obtain ⟨k, hk1, hk2⟩ := g2
          exact ⟨k, by omega, hk2⟩
  unfold fX3_floor_R
  rw [dbd_s (sp_leastNo hn h8 (fun k h => by rw [hk k h]; decide))]
  have o0 : dG N (57347 + 26624 * 0) = 0 := ho 0 (by omega)
  rw [show (1000 : Nat) = 999 + 1 from rfl, fX3_floor_R_b7, hn, if_pos (by omega), dgd_t ⟨by omega, by omega⟩, show (0 : Int).toNat = 0 from rfl]
  unfold dln
  dsimp only
  rw [if_pos o0, if_pos rfl]
  unfold fX3_floor_R_b42 fX3_floor_R_b47
  rw [dW_id (x := (0 : Int) + 1) ⟨by omega, by omega⟩]
  exact lo (n - 1) 999 1 _ (by omega) (by omega) (fun k h => by rw [show k = 0 by omega]; exact Int.le_refl _) ⟨0, by omega, rfl⟩
/-! ===== the floor holds ===== -/
noncomputable def dWf (n : Nat) (N : mMem) : Prop := ∀ s, s < n → dPfx (fun k => dG N (57346 + 26624 * k)) n + dPfx (fun k => dG N (6144 + k)) n + dG N 4096 ≤ dG N (57345 + 26624 * s)
theorem sp_within {N : mMem} {n : Nat} (hn : dG N 2048 = (n : Int)) (h1 : 1 ≤ n) (h8 : n ≤ 8) (ho : ∀ k, k < n → dG N (57347 + 26624 * k) = 0) (hk : ∀ k, k < n → dG N (57348 + 26624 * k) = 0) (hb : ∀ k, k < n → (0 ≤ dG N (57345 + 26624 * k)) ∧ (0 ≤ dG N (57346 + 26624 * k) ∧ dG N (57346 + 26624 * k) ≤ 500) ∧ (0 ≤ dG N (6144 + k) ∧ dG N (6144 + k) ≤ 100)) (hm : 0 ≤ dG N 4096 ∧ dG N 4096 ≤ 1000) : ∃ v, fX3_isWithinFloor_R N = some (N, v) ∧ (v = 0 ∨ (v = 1 ∧ dWf n N)) := by
  have e1 := sp_allShares hn h8 ho (fun k h => (hb k h).2.1)
  have e2 := sp_latency hn h8 (fun k h => (hb k h).2.2)
  obtain ⟨v, e3, f1, f2⟩ := sp_floor hn h1 h8 ho hk (fun k h => (hb k h).1)
  have b1 := dPfx_b (f := fun k => dG N (57346 + 26624 * k)) (a := 0) (b := 500) (k := n) (fun j hj => (hb j hj).2.1)
  have b2 := dPfx_b (f := fun k => dG N (6144 + k)) (a := 0) (b := 100) (k := n) (fun j hj => (hb j hj).2.2)
  unfold fX3_isWithinFloor_R
  rw [dbd_s e1, dbd_s e2, dbd_s e3, dW_id (x := dPfx (fun k => dG N (57346 + 26624 * k)) n + dPfx (fun k => dG N (6144 + k)) n) ⟨by omega, by omega⟩, dW_id (x := dPfx (fun k => dG N (57346 + 26624 * k)) n + dPfx (fun k => dG N (6144 + k)) n + dG N 4096) ⟨by omega, by omega⟩]
  by_cases c : v < dPfx (fun k => dG N (57346 + 26624 * k)) n + dPfx (fun k => dG N (6144 + k)) n + dG N 4096
  · rw [if_pos c]
    exact ⟨0, rfl, .inl rfl⟩
  · rw [if_neg c]
    exact ⟨1, rfl, .inr ⟨rfl, fun s hs => by have := f1 s hs; omega⟩⟩
/-! ===== all QUIET at 0, what is told ===== -/
noncomputable def dBz (k : Nat) : Prop := k = 2051 ∨ k = 2049 ∨ k = 53249 ∨ k = 53250 ∨ k = 53251 ∨ k = 10243 ∨ k = 53252
noncomputable def dBy (j : Nat) : Prop := j = 3 ∨ j = 4 ∨ j = 8 ∨ j = 9 ∨ j = 8192 ∨ j = 8194 ∨ j = 8195 ∨ j = 8202 ∨ j = 10243 ∨ j = 24579
noncomputable def dBr (N : mMem) (s : Nat) : Prop := (1 ≤ dG N (6144 + s) ∧ dG N (6144 + s) ≤ 5) ∧ (0 ≤ dG N (57346 + 26624 * s) ∧ dG N (57346 + 26624 * s) ≤ 25) ∧ (60 ≤ dG N (57345 + 26624 * s) ∧ dG N (57345 + 26624 * s) ≤ 300) ∧ (0 ≤ dG N (63489 + 26624 * s) ∧ dG N (63489 + 26624 * s) ≤ 99) ∧ (0 ≤ dG N (63490 + 26624 * s) ∧ dG N (63490 + 26624 * s) ≤ 99) ∧ 0 ≤ dG N (65541 + 26624 * s)
noncomputable def dBf (n : Nat) (N : mMem) : Prop := (dG N 2048 = (n : Int) ∧ dG N 4097 = 200 ∧ dG N 4098 = 20) ∧ (∀ k, dBz k → dG N k = 0) ∧ ∀ s j, s < n → dBy j → dG N (57344 + 26624 * s + j) = 0
noncomputable def dB0 (n : Nat) (N : mMem) : Prop := dBf n N ∧ (1 ≤ dG N 4096 ∧ dG N 4096 ≤ 20) ∧ (∀ s, s < n → dBr N s) ∧ dWf n N
theorem dBf_y {n : Nat} {N : mMem} (h : dBf n N) {s j k : Nat} (hs : s < n) (hj : dBy j) (he : 57344 + 26624 * s + j = k) : dG N k = 0 := by
  rw [← he]
  exact h.2.2 s j hs hj
theorem dBf_same {n : Nat} {N N1 : mMem} (h : dBf n N) (ha : ∀ k, (k = 2048 ∨ k = 4097 ∨ k = 4098 ∨ dBz k) → dG N1 k = dG N k) (hb : ∀ s j, s < n → dBy j → dG N1 (57344 + 26624 * s + j) = dG N (57344 + 26624 * s + j)) : dBf n N1 := ⟨⟨(ha _ (.inl rfl)).trans h.1.1, (ha _ (.inr (.inl rfl))).trans h.1.2.1, (ha _ (.inr (.inr (.inl rfl)))).trans h.1.2.2⟩, fun k hk => (ha k (.inr (.inr (.inr hk)))).trans (h.2.1 k hk), fun s j hs hj => (hb s j hs hj).trans (h.2.2 s j hs hj)⟩
theorem dWf_same {n : Nat} {N N1 : mMem} (h : dWf n N) (ha : ∀ s, s < n → dG N1 (57346 + 26624 * s) = dG N (57346 + 26624 * s) ∧ dG N1 (6144 + s) = dG N (6144 + s) ∧ dG N1 (57345 + 26624 * s) = dG N (57345 + 26624 * s)) (hm : dG N1 4096 = dG N 4096) : dWf n N1 := fun s hs => by
  rw [dPfx_e (f := fun k => dG N1 (57346 + 26624 * k)) (g := fun k => dG N (57346 + 26624 * k)) (fun i hi => (ha i hi).1), dPfx_e (f := fun k => dG N1 (6144 + k)) (g := fun k => dG N (6144 + k)) (fun i hi => (ha i hi).2.1), hm, (ha s hs).2.2]
  exact h s hs
theorem dB0_within {n : Nat} {N : mMem} (h2 : 2 ≤ n) (h8 : n ≤ 8) (h : dBf n N) (hm : 1 ≤ dG N 4096 ∧ dG N 4096 ≤ 20) (hr : ∀ s, s < n → dBr N s) : ∃ v, fX3_isWithinFloor_R N = some (N, v) ∧ (v = 0 ∨ (v = 1 ∧ dB0 n N)) := by
  obtain ⟨v, e1, e2⟩ := sp_within (N := N) h.1.1 (by omega) h8 (fun k hk => dBf_y h (j := 3) hk (by unfold dBy; omega) (by omega)) (fun k hk => dBf_y h (j := 4) hk (by unfold dBy; omega) (by omega)) (fun k hk => by
    obtain ⟨a, b, c, d⟩ := hr k hk
    exact ⟨by omega, ⟨by omega, by omega⟩, ⟨by omega, by omega⟩⟩) ⟨by omega, by omega⟩
  rcases e2 with e2 | ⟨e2, e3⟩
  · exact ⟨v, e1, .inl e2⟩
  · exact ⟨v, e1, .inr ⟨e2, h, hm, hr, e3⟩⟩
/-- one place more is written; if the floor doesn't hold, it is as it was -/
theorem dB0_put {n K : Nat} {N : mMem} {x : Int} (h2 : 2 ≤ n) (h8 : n ≤ 8) (hK : K < 2097152) (h : dB0 n N) (hz : K ≠ 2048 ∧ K ≠ 4097 ∧ K ≠ 4098 ∧ ¬ dBz K) (hy : ∀ s j, s < n → dBy j → K ≠ 57344 + 26624 * s + j) (hm : 1 ≤ dG ((dP N K x)) 4096 ∧ dG ((dP N K x)) 4096 ≤ 20) (hr : ∀ s, s < n → dBr (dP N K x) s) : ∃ v, fX3_isWithinFloor_R (dP N K x) = some (dP N K x, v) ∧ ((v = 0 ∧ dB0 n (dP (dP N K x) K (dG N K))) ∨ (v ≠ 0 ∧ dB0 n (dP N K x))) := by
  have fr : ∀ j, j < 2097152 → j ≠ K → dG (dP N K x) j = dG N j := fun j a b => dG_n b hK a
  have bf : dBf n (dP N K x) := dBf_same h.1 (fun k hk => by
    have h1 := hz.2.2.2
    unfold dBz at hk h1
    exact fr k (by omega) (by omega)) (fun s j hs hj => by
    have h1 := hy s j hs hj
    unfold dBy at hj
    exact fr _ (by omega) (fun e => h1 e.symm))
  obtain ⟨v, e1, e2⟩ := dB0_within h2 h8 bf hm hr
  rcases e2 with e2 | ⟨e2, e3⟩
  · refine ⟨v, e1, .inl ⟨e2, ?_⟩⟩
    have al : ∀ j, j < 2097152 → dG (dP (dP N K x) K (dG N K)) j = dG N j := fun j hj => by
      by_cases c : j = K
      · rw [c, dG_e hK, dW_id (dG_R _ _)]
      · rw [dG_n c hK hj, fr j hj c]
    obtain ⟨a, b, c, d⟩ := h
    refine ⟨dBf_same a (fun k hk => by unfold dBz at hk; exact al k (by omega)) (fun s j hs hj => by unfold dBy at hj; exact al _ (by omega)), by rw [al _ (by decide)]; exact b, fun s hs => ?_, dWf_same d (fun s hs => ⟨al _ (by omega), al _ (by omega), al _ (by omega)⟩) (al _ (by decide))⟩
    have := c s hs
    unfold dBr at this ⊢
    rw [al (6144 + s) (by omega), al (57346 + 26624 * s) (by omega), al (57345 + 26624 * s) (by omega), al (63489 + 26624 * s) (by omega), al (63490 + 26624 * s) (by omega), al (65541 + 26624 * s) (by omega)]
    exact this
  · exact ⟨v, e1, .inr ⟨by omega, e3⟩⟩
theorem b0_delay {n k : Nat} {N : mMem} {x : Int} (h2 : 2 ≤ n) (h8 : n ≤ 8) (hk : k < n) (hx : 1 ≤ x ∧ x ≤ 5) (h : dB0 n N) : ∃ N1 v, fX7_delay_O N (k : Int) x = some (N1, v) ∧ dB0 n N1 := by
  have hn := h.1.1.1
  have fr : ∀ j, j < 2097152 → j ≠ 6144 + k → dG (dP N (6144 + k) x) j = dG N j := fun j a b => dG_n b (by omega) a
  have ex : dG (dP N (6144 + k) x) (6144 + k) = x := (dG_e (by omega)).trans (dW_id ⟨by omega, by omega⟩)
  obtain ⟨v, e1, e2⟩ := dB0_put (K := 6144 + k) (x := x) h2 h8 (by omega) h ⟨by omega, by omega, by omega, by unfold dBz; omega⟩ (fun s j hs hj => by unfold dBy at hj; omega) (by rw [fr _ (by decide) (by omega)]; exact h.2.1) (fun s hs => by
    obtain ⟨a, b⟩ := h.2.2.1 s hs
    refine ⟨?_, by rw [fr (57346 + 26624 * s) (by omega) (by omega), fr (57345 + 26624 * s) (by omega) (by omega), fr (63489 + 26624 * s) (by omega) (by omega), fr (63490 + 26624 * s) (by omega) (by omega), fr (65541 + 26624 * s) (by omega) (by omega)]; exact b⟩
    by_cases c : s = k
    · rw [c, ex]; exact hx
    · rw [fr (6144 + s) (by omega) (by omega)]; exact a)
  unfold fX7_delay_O dlt
  rw [dbd_s (sp_has N (k : Int)), if_pos (show 0 ≤ (k : Int) ∧ (k : Int) < dG N 2048 from ⟨by omega, by omega⟩), if_neg (by decide), if_neg (by omega), if_neg (by omega), dgd_t ⟨by omega, by omega⟩, dgd_t ⟨by omega, by omega⟩, Int.toNat_natCast]
  dsimp only
  rw [dbd_s e1]
  rcases e2 with ⟨e2, e3⟩ | ⟨e2, e3⟩
  · rw [if_pos e2, dgd_t ⟨by omega, by omega⟩]
    exact ⟨_, _, rfl, e3⟩
  · rw [if_neg e2]
    exact ⟨_, _, rfl, e3⟩
theorem b0_bid {n k : Nat} {N : mMem} {x : Int} (h2 : 2 ≤ n) (h8 : n ≤ 8) (hk : k < n) (hx : 60 ≤ x ∧ x ≤ 300) (h : dB0 n N) : ∃ N1 v, fX7_bid_O N (k : Int) x = some (N1, v) ∧ dB0 n N1 := by
  have hn := h.1.1.1
  have fr : ∀ j, j < 2097152 → j ≠ 57345 + 26624 * k → dG (dP N (57345 + 26624 * k) x) j = dG N j := fun j a b => dG_n b (by omega) a
  have ex : dG (dP N (57345 + 26624 * k) x) (57345 + 26624 * k) = x := (dG_e (by omega)).trans (dW_id ⟨by omega, by omega⟩)
  obtain ⟨v, e1, e2⟩ := dB0_put (K := 57345 + 26624 * k) (x := x) h2 h8 (by omega) h ⟨by omega, by omega, by omega, by unfold dBz; omega⟩ (fun s j hs hj => by unfold dBy at hj; omega) (by rw [fr _ (by decide) (by omega)]; exact h.2.1) (fun s hs => by
    obtain ⟨a, b, c, d⟩ := h.2.2.1 s hs
    refine ⟨by rw [fr (6144 + s) (by omega) (by omega)]; exact a, by rw [fr (57346 + 26624 * s) (by omega) (by omega)]; exact b, ?_, by rw [fr (63489 + 26624 * s) (by omega) (by omega), fr (63490 + 26624 * s) (by omega) (by omega), fr (65541 + 26624 * s) (by omega) (by omega)]; exact d⟩
    by_cases e : s = k
    · rw [e, ex]; exact hx
    · rw [fr (57345 + 26624 * s) (by omega) (by omega)]; exact c)
  unfold fX7_bid_O dln dlt
  rw [dbd_s (sp_has N (k : Int)), if_pos (show 0 ≤ (k : Int) ∧ (k : Int) < dG N 2048 from ⟨by omega, by omega⟩), if_neg (by decide), if_neg (by omega), if_neg (by omega), dgd_t ⟨by omega, by omega⟩, Int.toNat_natCast]
  dsimp only
  rw [dbd_s e1]
  rcases e2 with ⟨e2, e3⟩ | ⟨e2, e3⟩
  · rw [if_pos e2]
    exact ⟨_, _, rfl, e3⟩
  · rw [if_neg e2]
    exact ⟨_, _, rfl, e3⟩
theorem b0_share {n k : Nat} {N : mMem} {x : Int} (h2 : 2 ≤ n) (h8 : n ≤ 8) (hk : k < n) (hx : 0 ≤ x ∧ x ≤ 25) (h : dB0 n N) : ∃ N1 v, fX7_share_O N (k : Int) x = some (N1, v) ∧ dB0 n N1 := by
  have hn := h.1.1.1
  have fr : ∀ j, j < 2097152 → j ≠ 57346 + 26624 * k → dG (dP N (57346 + 26624 * k) x) j = dG N j := fun j a b => dG_n b (by omega) a
  have ex : dG (dP N (57346 + 26624 * k) x) (57346 + 26624 * k) = x := (dG_e (by omega)).trans (dW_id ⟨by omega, by omega⟩)
  obtain ⟨v, e1, e2⟩ := dB0_put (K := 57346 + 26624 * k) (x := x) h2 h8 (by omega) h ⟨by omega, by omega, by omega, by unfold dBz; omega⟩ (fun s j hs hj => by unfold dBy at hj; omega) (by rw [fr _ (by decide) (by omega)]; exact h.2.1) (fun s hs => by
    obtain ⟨a, b, c⟩ := h.2.2.1 s hs
    refine ⟨by rw [fr (6144 + s) (by omega) (by omega)]; exact a, ?_, by rw [fr (57345 + 26624 * s) (by omega) (by omega), fr (63489 + 26624 * s) (by omega) (by omega), fr (63490 + 26624 * s) (by omega) (by omega), fr (65541 + 26624 * s) (by omega) (by omega)]; exact c⟩
    by_cases e : s = k
    · rw [e, ex]; exact hx
    · rw [fr (57346 + 26624 * s) (by omega) (by omega)]; exact b)
  unfold fX7_share_O dln dlt
  rw [dbd_s (sp_has N (k : Int)), if_pos (show 0 ≤ (k : Int) ∧ (k : Int) < dG N 2048 from ⟨by omega, by omega⟩), if_neg (by decide), if_neg (by omega), if_neg (by omega), dgd_t ⟨by omega, by omega⟩, Int.toNat_natCast]
  dsimp only
  rw [dbd_s e1]
  rcases e2 with ⟨e2, e3⟩ | ⟨e2, e3⟩
  · rw [if_pos e2]
    exact ⟨_, _, rfl, e3⟩
  · rw [if_neg e2]
    exact ⟨_, _, rfl, e3⟩
theorem b0_set0 {n : Nat} {N : mMem} {x : Int} (h2 : 2 ≤ n) (h8 : n ≤ 8) (hx : 1 ≤ x ∧ x ≤ 20) (h : dB0 n N) : ∃ N1 v, fX7_set_Oc0 N x = some (N1, v) ∧ dB0 n N1 := by
  have fr : ∀ j, j < 2097152 → j ≠ 4096 → dG (dP N 4096 x) j = dG N j := fun j a b => dG_n b (by omega) a
  have ex : dG (dP N 4096 x) 4096 = x := (dG_e (by omega)).trans (dW_id ⟨by omega, by omega⟩)
  obtain ⟨v, e1, e2⟩ := dB0_put (K := 4096) (x := x) h2 h8 (by omega) h ⟨by omega, by omega, by omega, by unfold dBz; omega⟩ (fun s j hs hj => by unfold dBy at hj; omega) (by rw [ex]; exact hx) (fun s hs => by
    have a := h.2.2.1 s hs
    unfold dBr at a ⊢
    rw [fr (6144 + s) (by omega) (by omega), fr (57346 + 26624 * s) (by omega) (by omega), fr (57345 + 26624 * s) (by omega) (by omega), fr (63489 + 26624 * s) (by omega) (by omega), fr (63490 + 26624 * s) (by omega) (by omega), fr (65541 + 26624 * s) (by omega) (by omega)]
    exact a)
  unfold fX7_set_Oc0 dlt
  by_cases c1 : x < dXs 2 0
  · rw [if_pos c1]
    exact ⟨N, 0, rfl, h⟩
  rw [if_neg c1]
  by_cases c2 : dXs 3 0 < x
  · rw [if_pos c2]
    exact ⟨N, 0, rfl, h⟩
  rw [if_neg c2]
  dsimp only
  rw [dbd_s e1]
  rcases e2 with ⟨e2, e3⟩ | ⟨e2, e3⟩
  · rw [if_pos e2]
    exact ⟨_, _, rfl, e3⟩
  · rw [if_neg e2]
    exact ⟨_, _, rfl, e3⟩
theorem dB0_oth {n : Nat} {N N1 : mMem} (h8 : n ≤ 8) (h : dB0 n N) (hf : ∀ j, j < 2097152 → j ≠ 2050 → (j < 4099 ∨ 4101 < j) → (∀ s, s < n → (j < 63488 + 26624 * s ∨ 63490 + 26624 * s < j) ∧ j ≠ 65543 + 26624 * s) → dG N1 j = dG N j) (hl : ∀ s, s < n → (0 ≤ dG N1 (63489 + 26624 * s) ∧ dG N1 (63489 + 26624 * s) ≤ 99) ∧ (0 ≤ dG N1 (63490 + 26624 * s) ∧ dG N1 (63490 + 26624 * s) ≤ 99)) : dB0 n N1 := by
  obtain ⟨a, b, c, d⟩ := h
  have q := fun j (h1 : j < 57344) (h2 : j ≠ 2050) (h3 : j < 4099 ∨ 4101 < j) => hf j (by omega) h2 h3 (fun s hs => by omega)
  have z := fun s j (hs : s < n) (h1 : j < 6144 ∨ (8192 ≤ j ∧ j < 8199) ∨ (8200 ≤ j ∧ j < 26624)) => hf (57344 + 26624 * s + j) (by omega) (by omega) (by omega) (fun s2 hs2 => by omega)
  have z2 := fun s j (hs : s < n) (h1 : j < 6144 ∨ (8192 ≤ j ∧ j < 8199) ∨ (8200 ≤ j ∧ j < 26624)) => hf (57344 + j + 26624 * s) (by omega) (by omega) (by omega) (fun s2 hs2 => by omega)
  have e1 := fun s (hs : s < n) => z2 s 1 hs (by omega)
  have e2 := fun s (hs : s < n) => z2 s 2 hs (by omega)
  have e5 := fun s (hs : s < n) => z2 s 8197 hs (by omega)
  simp only [Nat.reduceAdd] at e1 e2 e5
  refine ⟨dBf_same a (fun k hk => by unfold dBz at hk; exact q k (by omega) (by omega) (by omega)) (fun s j hs hj => by unfold dBy at hj; exact z s j hs (by omega)), by rw [q 4096 (by decide) (by decide) (by decide)]; exact b, fun s hs => ?_, dWf_same d (fun s hs => ⟨e2 s hs, q _ (by omega) (by omega) (by omega), e1 s hs⟩) (q _ (by decide) (by decide) (by decide))⟩
  obtain ⟨c1, c2, c3, c4, c5, c6⟩ := c s hs
  exact ⟨by rw [q _ (by omega) (by omega) (by omega)]; exact c1, by rw [e2 s hs]; exact c2, by rw [e1 s hs]; exact c3, (hl s hs).1, (hl s hs).2, by rw [e5 s hs]; exact c6⟩
theorem b0_set {n i : Nat} {N : mMem} {x : Int} (h8 : n ≤ 8) (hi : 3 ≤ i ∧ i < 6) (h : dB0 n N) : ∃ N1 v, fX7_set_O N (i : Int) x = some (N1, v) ∧ dB0 n N1 := by
  unfold fX7_set_O
  rw [if_neg (by omega), if_pos (by omega), dgd_t ⟨by omega, by omega⟩]
  by_cases c1 : x < dXs 2 (i : Int)
  · rw [if_pos c1]
    exact ⟨N, 0, rfl, h⟩
  rw [if_neg c1, dgd_t ⟨by omega, by omega⟩]
  by_cases c2 : dXs 3 (i : Int) < x
  · rw [if_pos c2]
    exact ⟨N, 0, rfl, h⟩
  rw [if_neg c2, dgd_t ⟨by omega, by omega⟩, dgd_t ⟨by omega, by omega⟩, if_neg (by omega), Int.toNat_natCast]
  have fr : ∀ j, j < 2097152 → j ≠ 4096 + i → dG (dP N (4096 + i) x) j = dG N j := fun j a b => dG_n b (by omega) a
  refine ⟨_, 1, rfl, dB0_oth h8 h (fun j h1 h2 h3 h4 => fr j h1 (by omega)) (fun s hs => ?_)⟩
  obtain ⟨c1, c2, c3, c4, c5, c6⟩ := h.2.2.1 s hs
  rw [fr (63489 + 26624 * s) (by omega) (by omega), fr (63490 + 26624 * s) (by omega) (by omega)]
  exact ⟨c4, c5⟩
theorem b0_stream {n k : Nat} {N : mMem} {x y : Int} (h8 : n ≤ 8) (hk : k < n) (hx : 20 ≤ x ∧ x ≤ 999) (hy : 1 ≤ y ∧ y ≤ 99) (h : dB0 n N) : ∃ N1 v, fX7_stream_O N (k : Int) x y = some (N1, v) ∧ dB0 n N1 := by
  have hn := h.1.1.1
  unfold fX7_stream_O
  rw [dbd_s (sp_has N (k : Int)), if_pos (show 0 ≤ (k : Int) ∧ (k : Int) < dG N 2048 from ⟨by omega, by omega⟩), if_neg (by decide), if_neg (by omega), if_neg (by omega), if_neg (by omega), if_neg (by omega), if_neg (by omega)]
  unfold fX7_stream_O_b43 dln
  rw [dgd_t ⟨by omega, by omega⟩, Int.toNat_natCast]
  dsimp only
  rw [if_neg (by omega)]
  unfold fX7_stream_O_b77 dlt
  have f1 : ∀ j, j < 2097152 → j ≠ 63488 + 26624 * k → dG (dP N (63488 + 26624 * k) x) j = dG N j := fun j a b => dG_n b (by omega) a
  generalize dP N (63488 + 26624 * k) x = M1 at f1 ⊢
  have f2 : ∀ j, j < 2097152 → j ≠ 63489 + 26624 * k → dG (dP M1 (63489 + 26624 * k) y) j = dG M1 j := fun j a b => dG_n b (by omega) a
  have g2 : dG (dP M1 (63489 + 26624 * k) y) (63489 + 26624 * k) = y := (dG_e (by omega)).trans (dW_id ⟨by omega, by omega⟩)
  generalize dP M1 (63489 + 26624 * k) y = M2 at f2 g2 ⊢
  have f3 : ∀ j, j < 2097152 → j ≠ 63490 + 26624 * k → dG (dP M2 (63490 + 26624 * k) 0) j = dG M2 j := fun j a b => dG_n b (by omega) a
  have g3 : dG (dP M2 (63490 + 26624 * k) 0) (63490 + 26624 * k) = 0 := (dG_e (by omega)).trans (dW_id ⟨by omega, by omega⟩)
  generalize dP M2 (63490 + 26624 * k) 0 = M3 at f3 g3 ⊢
  dsimp only
  obtain ⟨M4, e4, f4⟩ := sp_voidRest (N := M3) (s := k) (by omega)
  rw [dbd_s e4]
  refine ⟨M4, 1, rfl, dB0_oth h8 h (fun j h1 h2 h3 h4 => ?_) (fun s hs => ?_)⟩
  · have := h4 k hk
    rw [f4 j h1 this.2, f3 j h1 (by omega), f2 j h1 (by omega), f1 j h1 (by omega)]
  · obtain ⟨c1, c2, c3, c4, c5, c6⟩ := h.2.2.1 s hs
    rw [f4 (63489 + 26624 * s) (by omega) (by omega), f4 (63490 + 26624 * s) (by omega) (by omega), f3 (63489 + 26624 * s) (by omega) (by omega)]
    by_cases c : s = k
    · rw [c, g3, g2]
      exact ⟨⟨by omega, by omega⟩, ⟨by decide, by decide⟩⟩
    · rw [f3 (63490 + 26624 * s) (by omega) (by omega), f2 (63489 + 26624 * s) (by omega) (by omega), f2 (63490 + 26624 * s) (by omega) (by omega), f1 (63489 + 26624 * s) (by omega) (by omega), f1 (63490 + 26624 * s) (by omega) (by omega)]
      exact ⟨c4, c5⟩
theorem b0_state {n : Nat} {N : mMem} {x : Int} (h8 : n ≤ 8) (h : dB0 n N) : ∃ N1 v, fX7_state_O N x = some (N1, v) ∧ dB0 n N1 := by
  have fr : ∀ j, j < 2097152 → j ≠ 2050 → dG (dP N 2050 x) j = dG N j := fun j a b => dG_n b (by decide) a
  refine ⟨_, _, rfl, dB0_oth h8 h (fun j h1 h2 h3 h4 => fr j h1 h2) (fun s hs => ?_)⟩
  obtain ⟨c1, c2, c3, c4, c5, c6⟩ := h.2.2.1 s hs
  rw [fr (63489 + 26624 * s) (by omega) (by omega), fr (63490 + 26624 * s) (by omega) (by omega)]
  exact ⟨c4, c5⟩
theorem dPfx_add {f g : Nat → Int} : ∀ k : Nat, dPfx (fun i => f i + g i) k = dPfx f k + dPfx g k := fun k => by
  induction k with
  | zero => rfl
  | succ k ih =>
    rw [dPfx_s, dPfx_s, dPfx_s, ih]
    omega
/-- what is told is within the floor: claims can begin -/
theorem dB0_I0 {n : Nat} {N : mMem} (h2 : 2 ≤ n) (h8 : n ≤ 8) (h : dB0 n N) : dPar n (dG N 4096) (fun s => dG N (6144 + s)) (fun s => dG N (57346 + 26624 * s)) (fun s => dG N (57345 + 26624 * s)) ∧ dI0 n (dG N 4096) (fun s => dG N (6144 + s)) (fun s => dG N (57346 + 26624 * s)) (fun s => dG N (57345 + 26624 * s)) N := by
  obtain ⟨a, b, c, d⟩ := h
  have z := fun k (hk : dBz k) => a.2.1 k hk
  have y := fun s j k (hs : s < n) (hj : dBy j) (he : 57344 + 26624 * s + j = k) => dBf_y a hs hj he
  have now := z 2049 (by unfold dBz; omega)
  refine ⟨⟨⟨h2, h8⟩, b, fun s hs => ?_⟩, ⟨a.1.1, z _ (by unfold dBz; omega), rfl, a.1.2, ⟨by omega, by omega⟩, z _ (by unfold dBz; omega), z _ (by unfold dBz; omega), z _ (by unfold dBz; omega)⟩, now, fun s hs => ?_, fun s hs => ?_, z _ (by unfold dBz; omega), z _ (by unfold dBz; omega)⟩
  · obtain ⟨c1, c2, c3, c4, c5, c6⟩ := c s hs
    have e := dPfx_add (f := fun s => dG N (57346 + 26624 * s)) (g := fun s => dG N (6144 + s)) n
    have q := d s hs
    refine ⟨c1, c2, c3, ?_⟩
    show dPfx (fun i => dG N (57346 + 26624 * i) + dG N (6144 + i)) n + dG N 4096 ≤ dG N (57345 + 26624 * s)
    rw [e]
    exact q
  · obtain ⟨c1, c2, c3, c4, c5, c6⟩ := c s hs
    have l0 := y s 10243 (67587 + 26624 * s) hs (by unfold dBy; omega) (by omega)
    exact ⟨⟨rfl, rfl, rfl⟩, y s 3 _ hs (by unfold dBy; omega) (by omega), c4, c5, ⟨by omega, by omega, fun i hi => absurd hi (by omega)⟩, y s 24579 _ hs (by unfold dBy; omega) (by omega), c2.1, by rw [y s 8194 (65538 + 26624 * s) hs (by unfold dBy; omega) (by omega)]; exact c2.1⟩
  · obtain ⟨c1, c2, c3, c4, c5, c6⟩ := c s hs
    exact ⟨⟨y s 4 _ hs (by unfold dBy; omega) (by omega), y s 8 _ hs (by unfold dBy; omega) (by omega)⟩, y s 9 _ hs (by unfold dBy; omega) (by omega), y s 8192 _ hs (by unfold dBy; omega) (by omega), y s 8195 _ hs (by unfold dBy; omega) (by omega), c6, y s 8202 _ hs (by unfold dBy; omega) (by omega)⟩


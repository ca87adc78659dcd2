/-! ===== lines and draws: all the rest stands ===== -/
noncomputable def dOnl (N M : mMem) : Prop := ∀ k, k < 2097152 → k ≠ 2050 → (∀ s, s < 8 → k ≠ 67587 + 26624 * s ∧ (k < 71680 + 26624 * s ∨ 81920 + 26624 * s ≤ k)) → dG M k = dG N k
theorem dOnl_refl (N : mMem) : dOnl N N := fun _ _ _ _ => rfl
theorem dOnl_trans {N M M2 : mMem} (h1 : dOnl N M) (h2 : dOnl M M2) : dOnl N M2 := fun k a b c => (h2 k a b c).trans (h1 k a b c)
theorem dOnl_low {N M : mMem} (h : dOnl N M) {k : Nat} (hk : k < 57344) (h2 : k ≠ 2050) : dG M k = dG N k := h k (by omega) h2 (fun s hs => by omega)
theorem dOnl_st {N M : mMem} (h : dOnl N M) {s j : Nat} (hs : s < 8) (hj : j < 26624) (h1 : j ≠ 10243) (h2 : j < 14336 ∨ 24576 ≤ j) : dG M (57344 + 26624 * s + j) = dG N (57344 + 26624 * s + j) := h _ (by omega) (by omega) (fun s' hs' => by omega)
theorem dOnl_sj {N M : mMem} (h : dOnl N M) {s j : Nat} (hs : s < 8) (hj : j < 26624) (h1 : j ≠ 10243) (h2 : j < 14336 ∨ 24576 ≤ j) : dG M (57344 + j + 26624 * s) = dG N (57344 + j + 26624 * s) := h _ (by omega) (by omega) (fun s' hs' => by omega)
theorem dOnl_sr {n : Nat} {m : Int} {N M : mMem} (h : dSr n m N) (ho : dOnl N M) : dSr n m M := by
  obtain ⟨a, b, c, ⟨d1, d2⟩, ⟨e1, e2⟩, f1, f2, f3⟩ := h
  have g := fun k (h1 : k < 57344) (h2 : k ≠ 2050) => dOnl_low ho h1 h2
  have t := g 2049 (by decide) (by decide)
  exact ⟨(g 2048 (by decide) (by decide)).trans a, (g 2051 (by decide) (by decide)).trans b, (g 4096 (by decide) (by decide)).trans c, ⟨(g 4097 (by decide) (by decide)).trans d1, (g 4098 (by decide) (by decide)).trans d2⟩, ⟨by omega, by omega⟩, (g _ (by decide) (by decide)).trans f1, (g _ (by decide) (by decide)).trans f2, (g _ (by decide) (by decide)).trans f3⟩
theorem dOnl_ss {n s : Nat} {m : Int} {ds ss bs : Nat → Int} {N M : mMem} (hs : s < 8) (h : dSs n m ds ss bs N s) (ho : dOnl N M) (hl : dLine n m M s) : dSs n m ds ss bs M s := by
  have r := dOnl_sj ho hs (j := 6146) (by decide) (by decide) (by decide)
  simp only [Nat.reduceAdd] at r
  exact dSs_same hs h (dOnl_low ho (by omega) (by omega)) (by rw [r]; exact h.2.2.2.1) hl (fun j hj => dOnl_st ho hs (by omega) (by omega) (by omega))
theorem dI2_line {n w : Nat} {m B k5 : Int} {ds ss bs : Nat → Int} {N M : mMem} (hpar : dPar n m ds ss bs) (h : dI2 n w m B k5 ds ss bs N) (ho : dOnl N M) (hl : ∀ s, s < n → dLine n m M s) : dI2 n w m B k5 ds ss bs M ∧ dG M 2049 = dG N 2049 := by
  obtain ⟨⟨h2, h8⟩, -, hs⟩ := id hpar
  obtain ⟨hd, rows, hc⟩ := h
  have nw : dG M 2049 = dG N 2049 := dOnl_low ho (by decide) (by decide)
  have psM : dG M 10243 = dG N 10243 := dOnl_low ho (by decide) (by decide)
  have base : ∃ q D E, dAll n w m B k5 ds ss bs N q D E := by
    rcases hc with ⟨p, D, f, a, c⟩ | ⟨h, X, D, E, f, a, x⟩
    · exact ⟨_, _, _, a⟩
    · exact ⟨_, _, _, a⟩
  obtain ⟨q0, D0, E0, a0⟩ := base
  obtain ⟨b1, b2, b3, b4, b5, b6, b7⟩ := id a0
  have pM : dPost M = dPost N := dPost_same (fun k x y => dOnl_low ho (by omega) (by omega)) (by omega)
  have hM : ∀ s, s < n → dU B w M s ∧ dVd B M s = dVd B N s := fun s hsn => by
    have z1 := dOnl_sj ho (s := s) (j := 8192) (by omega) (by decide) (by decide) (by decide)
    have z2 := dOnl_sj ho (s := s) (j := 8195) (by omega) (by decide) (by decide) (by decide)
    have z3 := dOnl_sj ho (s := s) (j := 8197) (by omega) (by decide) (by decide) (by decide)
    have z4 := dOnl_sj ho (s := s) (j := 8203) (by omega) (by decide) (by decide) (by decide)
    simp only [Nat.reduceAdd] at z1 z2 z3 z4
    exact dU_same (by omega) (b3 s hsn) (by omega) (fun j hj => by unfold dUj at hj; exact dOnl_st ho (by omega) (by omega) (by omega) (by omega)) z1 (fun _ => z2) (by rw [z3]; exact (b3 s hsn).2.2.2.2.2.2.2.2.2.2.2.2.2.2) z4
  have al : ∀ q D E, q < n → dAll n w m B k5 ds ss bs N q D E → dAll n w m B k5 ds ss bs M q D E := fun q D E hq a => dAll_upd hq a (dOnl_sr b1 ho) (fun s hsn => dOnl_ss (by omega) (b2 s hsn) ho (hl s hsn)) (fun s hsn => (hM s hsn).1) nw (fun s hsn => (hM s hsn).2) (fun s hsn => by
    have z4 := dOnl_sj ho (s := s) (j := 8203) (by omega) (by decide) (by decide) (by decide)
    simp only [Nat.reduceAdd] at z4
    exact z4) (by rw [psM]; exact a.2.2.2.2.2.1) ⟨dOnl_low ho (by decide) (by decide), dOnl_low ho (by decide) (by decide)⟩
  have held : ∀ s, s < n → dG M (65536 + 26624 * s) = dG N (65536 + 26624 * s) := fun s hsn => by
    have z := dOnl_sj ho (s := s) (j := 8192) (by omega) (by decide) (by decide) (by decide)
    simp only [Nat.reduceAdd] at z
    exact z
  have due : ∀ s, s < n → dG M (57356 + 26624 * s) = dG N (57356 + 26624 * s) := fun s hsn => by
    have z := dOnl_sj ho (s := s) (j := 12) (by omega) (by decide) (by decide) (by decide)
    simp only [Nat.reduceAdd] at z
    exact z
  refine ⟨⟨fun s hsn => by rw [nw, due s hsn]; exact hd s hsn, by rw [pM, nw]; exact rows, ?_⟩, nw⟩
  rcases hc with ⟨p, D, ⟨f1, f2, f3, f4, f5⟩, a, c⟩ | ⟨h, X, D, E, ⟨f1, f2, f3, f4⟩, a, x1, x2, x3, x4, x5⟩
  · exact .inl ⟨p, D, ⟨f1, by omega, by rw [pM, nw]; exact f3, by rw [pM]; exact f4, fun s hsn => (held s hsn).trans (f5 s hsn)⟩, al _ _ _ (dNx_lt (by omega)) a, by omega⟩
  · have z1 := dOnl_sj ho (s := h) (j := 8194) (by omega) (by decide) (by decide) (by decide)
    have z2 := dOnl_sj ho (s := h) (j := 8193) (by omega) (by decide) (by decide) (by decide)
    have z3 := dOnl_sj ho (s := h) (j := 8197) (by omega) (by decide) (by decide) (by decide)
    have z4 := dOnl_sj ho (s := h) (j := 8196) (by omega) (by decide) (by decide) (by decide)
    have z5 := dOnl_sj ho (s := h) (j := 8195) (by omega) (by decide) (by decide) (by decide)
    simp only [Nat.reduceAdd] at z1 z2 z3 z4 z5
    refine .inr ⟨h, X, D, E, ⟨f1, by rw [pM, nw]; exact f2, (held h f1).trans f3, fun s hsn e => (held s hsn).trans (f4 s hsn e)⟩, al _ _ _ (dNx_lt (by omega)) a, x1, by omega, by rw [z5]; exact x3, ?_, by omega⟩
    rw [nw]
    unfold dHold at x4 ⊢
    rw [z1, z2, z3, z4, z5]
    exact x4


/-! ===== storms and frames keep what holds ===== -/
theorem dI2_lns {n w : Nat} {m B k5 : Int} {ds ss bs : Nat → Int} {N : mMem} (h : dI2 n w m B k5 ds ss bs N) : dLns n m N := by
  obtain ⟨-, -, hc⟩ := h
  have base : ∃ q D E, dAll n w m B k5 ds ss bs N q D E := by
    rcases hc with ⟨p, D, f, a, c⟩ | ⟨h, X, D, E, f, a, x⟩
    · exact ⟨_, _, _, a⟩
    · exact ⟨_, _, _, a⟩
  obtain ⟨q0, D0, E0, a0⟩ := base
  exact ⟨a0.1.1, a0.1.2.2.1, fun s hs => (a0.2.1 s hs).2.2.2.2.1⟩
theorem dI0_lns {n : Nat} {m : Int} {ds ss bs : Nat → Int} {N : mMem} (h : dI0 n m ds ss bs N) : dLns n m N := ⟨h.1.1, h.1.2.2.1, fun s hs => (h.2.2.1 s hs).2.2.2.2.1⟩
theorem dI0_line {n : Nat} {m : Int} {ds ss bs : Nat → Int} {N M : mMem} (h8 : n ≤ 8) (h : dI0 n m ds ss bs N) (ho : dOnl N M) (hl : ∀ s, s < n → dLine n m M s) : dI0 n m ds ss bs M := by
  obtain ⟨a, b, c, d, e, f⟩ := h
  refine ⟨dOnl_sr a ho, (dOnl_low ho (by decide) (by decide)).trans b, fun s hs => dOnl_ss (by omega) (c s hs) ho (hl s hs), fun s hs => ?_, (dOnl_low ho (by decide) (by decide)).trans e, (dOnl_low ho (by decide) (by decide)).trans f⟩
  have z := fun j (h1 : j < 14336) (h2 : j ≠ 10243) => dOnl_sj ho (s := s) (j := j) (by omega) (by omega) h2 (.inl h1)
  have e4 := z 4 (by decide) (by decide)
  have e8 := z 8 (by decide) (by decide)
  have e9 := z 9 (by decide) (by decide)
  have g0 := z 8192 (by decide) (by decide)
  have g1 := z 8195 (by decide) (by decide)
  have g2 := z 8197 (by decide) (by decide)
  have g3 := z 8202 (by decide) (by decide)
  simp only [Nat.reduceAdd] at e4 e8 e9 g0 g1 g2 g3
  rw [e4, e8, e9, g0, g1, g2, g3]
  exact d s hs
theorem dI2_storm {n w : Nat} {m B k5 : Int} {ds ss bs : Nat → Int} {N : mMem} (hpar : dPar n m ds ss bs) (h : dI2 n w m B k5 ds ss bs N) {x : Int} (hx : 1 ≤ x ∧ x ≤ 30) : ∃ N1 v, fX7_storm_O N x = some (N1, v) ∧ dI2 n w m B k5 ds ss bs N1 ∧ dG N1 2049 = dG N 2049 := by
  obtain ⟨N1, v, e1, e2, e3⟩ := sp_storm hpar.1.1 hpar.1.2 hpar.2.1 (dI2_lns h) hx
  exact ⟨N1, v, e1, dI2_line hpar h e3 e2.2.2⟩
theorem dI2_frame {n w : Nat} {m B k5 : Int} {ds ss bs : Nat → Int} {N : mMem} (hpar : dPar n m ds ss bs) (h : dI2 n w m B k5 ds ss bs N) (a b c d : Int) : ∃ N1 v, fX7_frame_O N a b c d = some (N1, v) ∧ dI2 n w m B k5 ds ss bs N1 ∧ dG N1 2049 = dG N 2049 := by
  obtain ⟨N1, v, e1, e2, e3⟩ := sp_frame hpar.1.2 hpar.2.1 (dI2_lns h) a b c d
  exact ⟨N1, v, e1, dI2_line hpar h e3 e2.2.2⟩
theorem dI0_storm {n : Nat} {m : Int} {ds ss bs : Nat → Int} {N : mMem} (hpar : dPar n m ds ss bs) (h : dI0 n m ds ss bs N) {x : Int} (hx : 1 ≤ x ∧ x ≤ 30) : ∃ N1 v, fX7_storm_O N x = some (N1, v) ∧ dI0 n m ds ss bs N1 := by
  obtain ⟨N1, v, e1, e2, e3⟩ := sp_storm hpar.1.1 hpar.1.2 hpar.2.1 (dI0_lns h) hx
  exact ⟨N1, v, e1, dI0_line hpar.1.2 h e3 e2.2.2⟩


/-! ===== whatever the script: the law ends with 1 ===== -/
noncomputable def sGood (L : Nat) (xs : Nat → Int32) : Prop := ∃ M2 : mMem, mRuns mTab mInf (sXNl L) (sXF xs) 12 468 253 (0, [(0, .ref 1000000)], [], m0) (some (.int 1), M2) ∧ M2.1 ≤ 1024 ∧ M2.2.1 ≤ 20000
theorem law_good {L : Nat} {xs : Nat → Int32} (HC : ∀ mi, ∀ i ∈ zCt mi, zVal zC0 zXt mTab mInf (sXNl L) (sXF xs) mi i) (H : ∀ mi, ∀ i ∈ zQt mi, zVal zR9 zXp mTab mInf (sXNl L) (sXF xs) mi i) (hL : L ≤ 2560) : sGood L xs := by
  obtain ⟨N, Nl, h1, hr, h2, h3, h4⟩ := law_start xs L
  obtain ⟨N2, b2, r1, r2, r3⟩ := lw_loop HC H hL 512 0 0 N Nl (by omega) (Nat.zero_le _) h1 hr (by omega) h3
  have e : Int32.ofInt 1 = 1 := by decide
  rw [e] at r1
  exact ⟨N2, mRuns_more (h4 _ r1) (Nat.le_refl _) (by omega), by rw [r2.1.1.1]; omega, by omega⟩

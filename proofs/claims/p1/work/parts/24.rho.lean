/-! ===== a script's numbers as a valuation ===== -/
noncomputable def sXF (xs : Nat → Int32) (k j : Nat) : Int32 := match k with
  | 0 => xs j
  | k + 1 => Int32.ofInt (sXX (k + 1) j).2
noncomputable def sRho (xs : Nat → Int32) (i : Nat) : Int := match i with
  | 1 => (xs 0).toInt
  | 2 => (xs 0 &&& Int32.ofInt 63).toInt
  | 3 => (xs 1).toInt
  | 4 => (xs 2).toInt
  | 5 => (xs 3).toInt
  | 6 => (xs 4).toInt
  | 7 => (Int64.ofInt (xs 1).toInt <<< ((Int32.ofInt 32).toInt64 &&& 63)).toInt
  | 8 => (Int64.ofInt (xs 2).toInt &&& Int64.ofInt 4294967295).toInt
  | 9 => (Int64.ofInt (Int64.ofInt (xs 1).toInt <<< ((Int32.ofInt 32).toInt64 &&& 63)).toInt ||| Int64.ofInt (Int64.ofInt (xs 2).toInt &&& Int64.ofInt 4294967295).toInt).toInt
  | 11 => 30000 - (xs 1).toInt
  | _ => 0
theorem sRho_kn (xs : Nat → Int32) : sKn (sRho xs) := by
  refine ⟨?_, rfl, rfl, rfl, rfl⟩
  show (xs 0 &&& Int32.ofInt 63).toInt = (Int32.ofInt (xs 0).toInt &&& Int32.ofInt 63).toInt
  rw [Int32.ofInt_toInt]
theorem sXX_10 (a j : Nat) : (sXX a j).1 ≠ 10 := by
  unfold sXX
  split
  · split <;> simp
  · simp
  · simp
  · simp
theorem sXX_c (a j : Nat) : (sXX (a + 1) j).1 = 0 ∧ -2147483648 ≤ (sXX (a + 1) j).2 ∧ (sXX (a + 1) j).2 ≤ 2147483647 := by
  unfold sXX
  split
  · omega
  · refine ⟨rfl, ?_⟩
    dsimp only
    split <;> omega
  · refine ⟨rfl, ?_⟩
    dsimp only
    split <;> omega
  · refine ⟨rfl, ?_⟩
    dsimp only
    split <;> omega
theorem sXF_rel (xs : Nat → Int32) {L : Nat} (hL : L ≤ 5) : ∀ a j, a < 4 → j < sXNl L a → (sXF xs a j).toInt = sDn (sRho xs) (sXX a j) := by
  intro a j ha hj
  cases a with
  | zero =>
    have hj : j < L := hj
    obtain rfl | rfl | rfl | rfl | rfl := (by omega : j = 0 ∨ j = 1 ∨ j = 2 ∨ j = 3 ∨ j = 4)
    · show (xs 0).toInt = (xs 0).toInt + 0
      omega
    · show (xs 1).toInt = (xs 1).toInt + 0
      omega
    · show (xs 2).toInt = (xs 2).toInt + 0
      omega
    · show (xs 3).toInt = (xs 3).toInt + 0
      omega
    · show (xs 4).toInt = (xs 4).toInt + 0
      omega
  | succ a =>
    obtain ⟨h1, h2, h3⟩ := sXX_c a j
    show (Int32.ofInt (sXX (a + 1) j).2).toInt = sRho xs (sXX (a + 1) j).1 + (sXX (a + 1) j).2
    rw [h1, i32_val rfl h2 h3]
    show _ = 0 + _
    omega
theorem and63 (X : Int32) : 0 ≤ (X &&& Int32.ofInt 63).toInt ∧ (X &&& Int32.ofInt 63).toInt ≤ 63 := by
  have h : (X &&& Int32.ofInt 63).toBitVec.toNat ≤ 63 := by
    rw [Int32.toBitVec_and, BitVec.toNat_and]
    exact Nat.and_le_right
  have e : (X &&& Int32.ofInt 63).toInt = ((X &&& Int32.ofInt 63).toBitVec.toNat : Int) := BitVec.toInt_eq_toNat_of_lt (by omega)
  rw [e]
  omega
theorem i32_rg (X : Int32) : -2147483648 ≤ X.toInt ∧ X.toInt ≤ 2147483647 := by
  have h1 := X.toInt_lt
  have h2 := X.le_toInt
  omega
theorem i64_rg (X : Int64) : -9223372036854775808 ≤ X.toInt ∧ X.toInt ≤ 9223372036854775807 := by
  have h1 := X.toInt_lt
  have h2 := X.le_toInt
  omega
theorem sRho_in (xs : Nat → Int32) {l h l3 h3 l4 h4 : Int} (a : l ≤ sRho xs 2 ∧ sRho xs 2 ≤ h) (b : l3 ≤ sRho xs 3 ∧ sRho xs 3 ≤ h3) (c : l4 ≤ sRho xs 4 ∧ sRho xs 4 ≤ h4) : sIn (sRho xs) (sB0 l h l3 h3 l4 h4) := by
  refine ⟨fun i q hq => ?_, fun q hq => by cases hq⟩
  cases i with
  | zero =>
    cases hq
    exact ⟨Int.le_refl _, Int.le_refl _⟩
  | succ i =>
    have hq : ([(-2147483648, 2147483647), (l, h), (l3, h3), (l4, h4), (-2147483648, 2147483647), (-2147483648, 2147483647), (-9223372036854775808, 9223372036854775807), (-9223372036854775808, 9223372036854775807), (-9223372036854775808, 9223372036854775807), (0, 0), (-4000000000, 4000000000)] : List (Int × Int))[i]? = some q := hq
    have hi : i < 11 := (List.getElem?_eq_some_iff.mp hq).1
    obtain rfl | rfl | rfl | rfl | rfl | rfl | rfl | rfl | rfl | rfl | rfl := (by omega : i = 0 ∨ i = 1 ∨ i = 2 ∨ i = 3 ∨ i = 4 ∨ i = 5 ∨ i = 6 ∨ i = 7 ∨ i = 8 ∨ i = 9 ∨ i = 10) <;> cases hq
    · exact i32_rg (xs 0)
    · exact a
    · exact b
    · exact c
    · exact i32_rg (xs 3)
    · exact i32_rg (xs 4)
    · exact i64_rg (Int64.ofInt (xs 1).toInt <<< ((Int32.ofInt 32).toInt64 &&& 63))
    · exact i64_rg (Int64.ofInt (xs 2).toInt &&& Int64.ofInt 4294967295)
    · exact i64_rg _
    · exact ⟨Int.le_refl _, Int.le_refl _⟩
    · have h9 := i32_rg (xs 1)
      constructor
      · show -4000000000 ≤ 30000 - (xs 1).toInt
        omega
      · show 30000 - (xs 1).toInt ≤ 4000000000
        omega
/-! ===== shortcuts are right ===== -/
theorem sShT_ok {ρ : Nat → Int} {XF : Nat → Nat → Int32} (hX : ∀ a j, a < 4 → j < sXN a → (XF a j).toInt = sDn ρ (sXX a j)) (hKn : sKn ρ) : sShOk mTab mInf sXN XF sShT ρ := by
  intro mi fr lo x B y h hi u hu
  unfold sShT at h
  cases c1 : (Nat.beq mi 104 && Nat.beq x.1 12) with
  | true =>
    rw [c1, cond_true] at h
    obtain rfl := Nat.eq_of_beq_eq_true (and_inv c1).1
    have h : sAcc mTab mInf sXN sXX 104 2 1 1 (some 1) fr lo x B = some y := h
    exact sAcc_ok hX sXX_10 hKn h hi hu
  | false =>
    rw [c1, cond_false] at h
    cases c2 : (Nat.beq mi 117 && Nat.beq x.1 32) with
    | true =>
      rw [c2, cond_true] at h
      obtain rfl := Nat.eq_of_beq_eq_true (and_inv c2).1
      have h : sAcc mTab mInf sXN sXX 117 3 263 1 (some 1) fr lo x B = some y := h
      exact sAcc_ok hX sXX_10 hKn h hi hu
    | false =>
      rw [c2, cond_false] at h
      cases c3 : (Nat.beq mi 118 && Nat.beq x.1 73) with
      | true =>
        rw [c3, cond_true] at h
        obtain rfl := Nat.eq_of_beq_eq_true (and_inv c3).1
        have h : sAcc mTab mInf sXN sXX 118 6 263 1 none fr lo x B = some y := h
        exact sAcc_ok hX sXX_10 hKn h hi hu
      | false =>
        rw [c3, cond_false] at h
        cases c4 : (Nat.beq mi 203 && Nat.beq x.1 33) with
        | true =>
          rw [c4, cond_true] at h
          obtain rfl := Nat.eq_of_beq_eq_true (and_inv c4).1
          have h : sAcc mTab mInf sXN sXX 203 2 526 7 (some 1) fr lo x B = some y := h
          exact sAcc_ok hX sXX_10 hKn h hi hu
        | false =>
          rw [c4, cond_false] at h
          cases c5 : (Nat.beq mi 235 && Nat.beq x.1 47) with
          | true =>
            rw [c5, cond_true] at h
            obtain rfl := Nat.eq_of_beq_eq_true (and_inv c5).1
            have h : sAcc mTab mInf sXN sXX 235 3 526 7 (some 1) fr lo x B = some y := h
            exact sAcc_ok hX sXX_10 hKn h hi hu
          | false =>
            rw [c5, cond_false] at h
            cases c6 : (Nat.beq mi 236 && Nat.beq x.1 64) with
            | true =>
              rw [c6, cond_true] at h
              obtain rfl := Nat.eq_of_beq_eq_true (and_inv c6).1
              have h : sAcc mTab mInf sXN sXX 236 5 526 7 none fr lo x B = some y := h
              exact sAcc_ok hX sXX_10 hKn h hi hu
            | false =>
              rw [c6, cond_false] at h
              cases h
noncomputable def m0 : mMem := (0, 0, mFill 10 (0, 0, mFill 11 .null))
noncomputable def sGood (L : Nat) (xs : Nat → Int32) : Prop := ∃ M2 : mMem, mRuns mTab mInf (sXNl L) (sXF xs) 12 470 253 (0, [(0, .ref 1000000)], [], m0) (some (.int 1), M2) ∧ M2.1 ≤ 1024 ∧ M2.2.1 ≤ 20000
theorem s0_rel (ρ : Nat → Int) : sGR ρ s0 (0, [(0, .ref 1000000)], [], m0) := ⟨rfl, ⟨⟨rfl, rfl⟩, trivial⟩, trivial, rfl, rfl, Nat.zero_le _, fun o ho => absurd ho (Nat.not_lt_zero o)⟩
theorem sFin_inv {ρ : Nat → Int} {B : sB} {w : Option sV × sMem} {z : Option Value × mMem} (h : sFin B w = true) (hi : sIn ρ B) (hw : sWR ρ w z) : z.1 = some (.int 1) ∧ z.2.1 ≤ 1024 ∧ z.2.2.1 ≤ 20000 := by
  obtain ⟨a, M⟩ := w
  obtain ⟨v, K⟩ := z
  obtain ⟨h1, h2⟩ := hw
  unfold sFin at h
  cases a with
  | none => exact no_inv h
  | some a => cases a with
    | inr a => exact no_inv h
    | inl x =>
      cases v with
      | none => exact h1.elim
      | some v =>
        have h1 : sRel ρ (.inl x) v := h1
        obtain ⟨y, rfl, hy⟩ := sRel_i h1
        obtain ⟨l, u, a1, a2, h⟩ := sRg_inv h hi
        obtain ⟨b1, h⟩ := and_inv h
        obtain ⟨b2, h⟩ := and_inv h
        obtain ⟨b3, b4⟩ := and_inv h
        rw [sIEq_d] at b1 b2
        have b1 := of_decide_eq_true b1
        have b2 := of_decide_eq_true b2
        have b3 := Nat.le_of_ble_eq_true b3
        have b4 := Nat.le_of_ble_eq_true b4
        have e : y = Int32.ofInt 1 := i32_of (by omega)
        have e1 : M.1 = K.1 := h2.1
        have e2 : M.2.1 = K.2.1 := h2.2.1
        refine ⟨by rw [e]; rfl, ?_, ?_⟩
        · show K.1 ≤ 1024
          rw [← e1]
          exact b3
        · show K.2.1 ≤ 20000
          rw [← e2]
          exact b4
theorem s_use {xs : Nat → Int32} {L : Nat} {Sh : sSh} {B : sB} {f : Nat} (hL : L ≤ 5) (h : sExec mTab mInf (sXNl L) sXX Sh f 12 470 253 s0 B sFin = true) (hSh : sShOk mTab mInf (sXNl L) (sXF xs) Sh (sRho xs)) (hi : sIn (sRho xs) B) : sGood L xs := by
  obtain ⟨B1, w, z, hi1, hk, hw, hr⟩ := s_exec (sXF_rel xs hL) (sRho_kn xs) hSh f 12 470 253 s0 B sFin h hi (0, [(0, .ref 1000000)], [], m0) (s0_rel _)
  obtain ⟨v, K⟩ := z
  obtain ⟨h1, h2, h3⟩ := sFin_inv hk hi1 hw
  have h1 : v = some (.int 1) := h1
  subst h1
  exact ⟨K, hr, h2, h3⟩
/-! ===== scripts shorter than five: the law makes its objects and ends ===== -/
theorem s_short_0 : sExec mTab mInf (sXNl 0) sXX sNo 20000 12 470 253 s0 (sB0 0 63 (-2147483648) 2147483647 (-2147483648) 2147483647) sFin = true := by decide +kernel
theorem s_short_1 : sExec mTab mInf (sXNl 1) sXX sNo 20000 12 470 253 s0 (sB0 0 63 (-2147483648) 2147483647 (-2147483648) 2147483647) sFin = true := by decide +kernel
theorem s_short_2 : sExec mTab mInf (sXNl 2) sXX sNo 20000 12 470 253 s0 (sB0 0 63 (-2147483648) 2147483647 (-2147483648) 2147483647) sFin = true := by decide +kernel
theorem s_short_3 : sExec mTab mInf (sXNl 3) sXX sNo 20000 12 470 253 s0 (sB0 0 63 (-2147483648) 2147483647 (-2147483648) 2147483647) sFin = true := by decide +kernel
theorem s_short_4 : sExec mTab mInf (sXNl 4) sXX sNo 20000 12 470 253 s0 (sB0 0 63 (-2147483648) 2147483647 (-2147483648) 2147483647) sFin = true := by decide +kernel

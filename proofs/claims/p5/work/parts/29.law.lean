/-! ===== the law's arrays ===== -/
noncomputable def sXNl (L k : Nat) : Nat := match k with
  | 0 => L
  | _ => 6
noncomputable def sXX (k j : Nat) : sI := match k with
  | 0 => (match j with | 0 => (1, 0) | 1 => (3, 0) | 2 => (4, 0) | 3 => (5, 0) | _ => (6, 0))
  | 1 => (0, match j with | 0 => 10 | 1 => 200 | 2 => 20 | _ => 0)
  | 2 => (0, match j with | 0 => 1 | 1 => 50 | 2 => 5 | _ => 0)
  | _ => (0, match j with | 0 => 50 | 1 => 999 | 2 => 50 | _ => 500)
noncomputable def sXF (xs : Nat → Int32) (k j : Nat) : Int32 := match k with
  | 0 => xs j
  | k + 1 => Int32.ofInt (sXX (k + 1) j).2
theorem sXX_c (k j : Nat) : (sXX (k + 1) j).1 = 0 ∧ -2147483648 ≤ (sXX (k + 1) j).2 ∧ (sXX (k + 1) j).2 ≤ 2147483647 := by
  unfold sXX
  split
  · omega
  · refine ⟨rfl, ?_⟩
    dsimp only
    split <;> omega
  · refine ⟨rfl, ?_⟩
    dsimp only
    split <;> omega
  · refine ⟨rfl, ?_⟩
    dsimp only
    split <;> omega
noncomputable def m0 : mMem := (0, 0, mFill 10 (0, 0, mFill 11 .null))

noncomputable def sXN (k : Nat) : Nat := match k with
  | 0 => 5
  | _ => 6
noncomputable def sXX (k j : Nat) : sI := match k with
  | 0 => (match j with | 0 => (1, 0) | 1 => (3, 0) | 2 => (4, 0) | 3 => (5, 0) | _ => (6, 0))
  | 1 => (0, match j with | 0 => 10 | 1 => 200 | 2 => 20 | _ => 0)
  | 2 => (0, match j with | 0 => 1 | 1 => 50 | 2 => 5 | _ => 0)
  | _ => (0, match j with | 0 => 50 | 1 => 999 | 2 => 50 | _ => 500)
noncomputable def sNo : sSh := fun _ _ _ _ _ => none
noncomputable def sB0 : sB := ([(-2147483648, 2147483647), (0, 63), (-2147483648, 2147483647), (-2147483648, 2147483647), (-2147483648, 2147483647), (-2147483648, 2147483647), (-9223372036854775808, 9223372036854775807), (-9223372036854775808, 9223372036854775807), (-9223372036854775808, 9223372036854775807), (0, 0)], [])
noncomputable def sM0 : sMem := (0, 0, mFill 10 (0, 0, .inl (0, 0), []))
theorem s_test1 : sGo mTab mInf sXN sXX sNo 18 4000 12 470 253 (0, [(0, .inr (.inr (some 1000000)))], [], sM0) sB0 (fun _ y => Nat.beq y.2.2.2.1 529) = true := by decide +kernel

/-! ===== the law on a script: what its arrays hold, the boxes, the end ===== -/
noncomputable def sXNl (L k : Nat) : Nat := match k with
  | 0 => L
  | _ => 6
noncomputable def sXN : Nat → Nat := sXNl 5
noncomputable def sXX (k j : Nat) : sI := match k with
  | 0 => (match j with | 0 => (1, 0) | 1 => (3, 0) | 2 => (4, 0) | 3 => (5, 0) | _ => (6, 0))
  | 1 => (0, match j with | 0 => 10 | 1 => 200 | 2 => 20 | _ => 0)
  | 2 => (0, match j with | 0 => 1 | 1 => 50 | 2 => 5 | _ => 0)
  | _ => (0, match j with | 0 => 50 | 1 => 999 | 2 => 50 | _ => 500)
noncomputable def sShT : sSh := fun mi pc =>
  bif Nat.beq mi 104 && Nat.beq pc 12 then some (sAcc mTab mInf sXN sXX 104 2 1 1 (some 1)) else
  bif Nat.beq mi 117 && Nat.beq pc 32 then some (sAcc mTab mInf sXN sXX 117 3 263 1 (some 1)) else
  bif Nat.beq mi 118 && Nat.beq pc 73 then some (sAcc mTab mInf sXN sXX 118 6 263 1 none) else
  bif Nat.beq mi 203 && Nat.beq pc 33 then some (sAcc mTab mInf sXN sXX 203 2 526 7 (some 1)) else
  bif Nat.beq mi 235 && Nat.beq pc 47 then some (sAcc mTab mInf sXN sXX 235 3 526 7 (some 1)) else
  bif Nat.beq mi 236 && Nat.beq pc 64 then some (sAcc mTab mInf sXN sXX 236 5 526 7 none) else none
noncomputable def sB0 (l h l3 h3 l4 h4 : Int) : sB := ([(-2147483648, 2147483647), (l, h), (l3, h3), (l4, h4), (-2147483648, 2147483647), (-2147483648, 2147483647), (-9223372036854775808, 9223372036854775807), (-9223372036854775808, 9223372036854775807), (-9223372036854775808, 9223372036854775807), (0, 0), (-4000000000, 4000000000)], [])
noncomputable def sM0 : sMem := (0, 0, mFill 10 (0, 0, .inl (0, 0), []))
noncomputable def s0 : sCfg := (0, [(0, .inr (.inr (some 1000000)))], [], sM0)
noncomputable def sFin : sRet := fun B w => match w.1 with
  | some (.inl x) => sRg B x fun l h => sIEq l 1 && (sIEq h 1 && (Nat.ble w.2.1 1024 && Nat.ble w.2.2.1 20000))
  | _ => false

/-! ===== begin: it is run once, by itself; here only that it is what it does ===== -/
noncomputable def fX7_begin_O (xs : Nat → Int32) (Ln : Nat) (N : mMem) (x1 : Int) : Option dZ := @dite (Option dZ) (∃ z : dZ, dQ xs Ln 1 6 260 75 (0, lv_args 0 [.ref 0, .int (dI x1)], [], N) z) (Classical.propDecidable _) (fun h => some (Classical.choose h)) (fun _ => none)
theorem qX7_begin_O {xs : Nat → Int32} {Ln : Nat} {N : mMem} {x1 : Int} {z : dZ} (_ : dS N) (_ : dR x1) (h : fX7_begin_O xs Ln N x1 = some z) : dQ xs Ln 1 6 260 75 (0, lv_args 0 [.ref 0, .int (dI x1)], [], N) z := by
  unfold fX7_begin_O at h
  split at h
  · next q =>
    have e := Option.some.inj h
    rw [← e]
    exact Classical.choose_spec q
  · cases h

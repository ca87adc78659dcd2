/-! ===== functions over memory, and that the bodies run so; written by wip/dc ===== -/
section DQG10
variable {xs : Nat → Int32} {Ln : Nat}
noncomputable def fL_law_b8 (xs : Nat → Int32) (Ln : Nat) (N : mMem) : Option dZ := dbd (fL_ring_OX xs Ln N) fun N1 v2 => dbd (fX7_look_Oc10 N1) fun N12 v13 => dbd (fX7_look_Oc8 N12) fun N18 v19 => dbd (fX7_look_Oc0 N18) fun N24 v25 => dbd (fX7_look_Oc9 N24) fun N30 v31 => (if v31 < dW ((dW (v13 + v19)) + v25) then some (N30, 0) else dbd (fL_cell_X xs Ln N30 35) fun N37 v38 => dbd (fL_between xs Ln N37 v38 1 20) fun N43 v44 => dbd (fX7_storm_O N43 v44) fun N49 v50 => dbd (fL_cell_X xs Ln N49 36) fun N55 v56 => dbd (fL_between xs Ln N55 v56 0 (dW (v2 - 1))) fun N61 v62 => dbd (fX7_claim_O N61 v62) fun N67 v68 => (if v68 = 0 then some (N67, 0) else dbd (fL_least_O xs Ln N67) fun N74 v75 => fL_law_b91 xs Ln 1000 N74 v2 v75 0))
theorem qL_law_b8 (rLn : dR (Ln : Int)) {Nl : List (Nat × Value)} {N : mMem} {z : dZ} (hS : dS N) (l0 : mLk Nl 0 = some (.ref 1000000)) (l1 : mLk Nl 1 = some (.ref 0)) (h : fL_law_b8 xs Ln N = some z) : dQ xs Ln 1 8 304 99 (8, Nl, [], N) z := by
  unfold fL_law_b8 at h
  refine dq_aload e_99_8 l1 ?_
  refine dq_aload e_99_9 l0 ?_
  obtain ⟨N1, v2, c3, h⟩ := dbd_inv h
  have q4 := qL_ring_OX (xs := xs) (Ln := Ln) rLn hS c3
  have S5 : dS N1 := q4.2.1
  refine dq_callsi (as := [.ref 0, .ref 1000000]) (S := []) (nx := 13) e_99_10 rfl rfl rfl rfl rfl rfl rfl q4 rfl ?_
  have r6 : dR v2 := q4.2.2
  refine dq_istore e_99_13 rfl (fun K7 m8 mm9 => ?_)
  have m10 := mm9 0 _ (by decide) rfl l0
  have m11 := mm9 1 _ (by decide) rfl l1
  refine dq_aload e_99_14 m11 ?_
  refine dq_iconst e_99_15 ?_
  obtain ⟨N12, v13, c14, h⟩ := dbd_inv h
  have q15 := qX7_look_Oc10 (xs := xs) (Ln := Ln) S5 c14
  have S16 : dS N12 := q15.2.1
  refine dq_calli (as := [.int (dI 10)]) (S := []) (nx := 20) e_99_17 rfl rfl rfl S5 ak_0_7 rfl rfl rfl rfl q15 rfl ?_
  have r17 : dR v13 := q15.2.2
  refine dq_aload e_99_20 m11 ?_
  refine dq_iconst e_99_21 ?_
  obtain ⟨N18, v19, c20, h⟩ := dbd_inv h
  have q21 := qX7_look_Oc8 (xs := xs) (Ln := Ln) S16 c20
  have S22 : dS N18 := q21.2.1
  refine dq_calli (as := [.int (dI 8)]) (S := [.int (dI v13)]) (nx := 26) e_99_23 rfl rfl rfl S16 ak_0_7 rfl rfl rfl rfl q21 rfl ?_
  have r23 : dR v19 := q21.2.2
  refine dq_iadd (e := dW (v13 + v19)) e_99_26 rfl ?_
  refine dq_aload e_99_27 m11 ?_
  refine dq_iconst e_99_28 ?_
  obtain ⟨N24, v25, c26, h⟩ := dbd_inv h
  have q27 := qX7_look_Oc0 (xs := xs) (Ln := Ln) S22 c26
  have S28 : dS N24 := q27.2.1
  refine dq_calli (as := [.int (dI 0)]) (S := [.int (dI (dW (v13 + v19)))]) (nx := 32) e_99_29 rfl rfl rfl S22 ak_0_7 rfl rfl rfl rfl q27 rfl ?_
  have r29 : dR v25 := q27.2.2
  refine dq_iadd (e := dW ((dW (v13 + v19)) + v25)) e_99_32 rfl ?_
  refine dq_aload e_99_33 m11 ?_
  refine dq_iconst e_99_34 ?_
  obtain ⟨N30, v31, c32, h⟩ := dbd_inv h
  have q33 := qX7_look_Oc9 (xs := xs) (Ln := Ln) S28 c32
  have S34 : dS N30 := q33.2.1
  refine dq_calli (as := [.int (dI 9)]) (S := [.int (dI (dW ((dW (v13 + v19)) + v25)))]) (nx := 39) e_99_36 rfl rfl rfl S28 ak_0_7 rfl rfl rfl rfl q33 rfl ?_
  have r35 : dR v31 := q33.2.2
  by_cases c36 : v31 < dW ((dW (v13 + v19)) + v25)
  · rw [if_pos c36] at h
    refine dq_icF e_99_39 (dW_R _) r35 (dnf c36) ?_
    refine dq_iconst e_99_42 ?_
    cases h
    exact dq_reti (ty := .boolean) e_99_43 rfl (by decide +kernel) S34 (⟨by decide, by decide⟩)
  · rw [if_neg c36] at h
    refine dq_icT e_99_39 (dW_R _) r35 (dnt c36) ?_
    refine dq_aload e_99_44 m11 ?_
    refine dq_aload e_99_45 m10 ?_
    refine dq_iconst e_99_46 ?_
    obtain ⟨N37, v38, c39, h⟩ := dbd_inv h
    have q40 := qL_cell_X (xs := xs) (Ln := Ln) rLn S34 (⟨by decide, by decide⟩) c39
    have S41 : dS N37 := q40.2.1
    refine dq_callsi (as := [.ref 1000000, .int (dI 35)]) (S := [.ref 0]) (nx := 51) e_99_48 rfl rfl rfl rfl rfl rfl rfl q40 rfl ?_
    have r42 : dR v38 := q40.2.2
    refine dq_iconst e_99_51 ?_
    refine dq_iconst e_99_52 ?_
    obtain ⟨N43, v44, c45, h⟩ := dbd_inv h
    have q46 := qL_between (xs := xs) (Ln := Ln) rLn S41 r42 (⟨by decide, by decide⟩) (⟨by decide, by decide⟩) c45
    have S47 : dS N43 := q46.2.1
    refine dq_callsi (as := [.int (dI v38), .int (dI 1), .int (dI 20)]) (S := [.ref 0]) (nx := 57) e_99_54 rfl rfl rfl rfl rfl rfl rfl q46 rfl ?_
    have r48 : dR v44 := q46.2.2
    obtain ⟨N49, v50, c51, h⟩ := dbd_inv h
    have q52 := qX7_storm_O (xs := xs) (Ln := Ln) S47 r48 c51
    have S53 : dS N49 := q52.2.1
    refine dq_calli (as := [.int (dI v44)]) (S := []) (nx := 60) e_99_57 rfl rfl rfl S47 ak_0_7 rfl rfl rfl rfl q52 rfl ?_
    have r54 : dR v50 := q52.2.2
    refine dq_pop e_99_60 rfl ?_
    refine dq_aload e_99_61 m11 ?_
    refine dq_aload e_99_62 m10 ?_
    refine dq_iconst e_99_63 ?_
    obtain ⟨N55, v56, c57, h⟩ := dbd_inv h
    have q58 := qL_cell_X (xs := xs) (Ln := Ln) rLn S53 (⟨by decide, by decide⟩) c57
    have S59 : dS N55 := q58.2.1
    refine dq_callsi (as := [.ref 1000000, .int (dI 36)]) (S := [.ref 0]) (nx := 68) e_99_65 rfl rfl rfl rfl rfl rfl rfl q58 rfl ?_
    have r60 : dR v56 := q58.2.2
    refine dq_iconst e_99_68 ?_
    refine dq_iload e_99_69 m8 ?_
    refine dq_iconst e_99_70 ?_
    refine dq_isub (e := dW (v2 - 1)) e_99_71 rfl ?_
    obtain ⟨N61, v62, c63, h⟩ := dbd_inv h
    have q64 := qL_between (xs := xs) (Ln := Ln) rLn S59 r60 (⟨by decide, by decide⟩) (dW_R _) c63
    have S65 : dS N61 := q64.2.1
    refine dq_callsi (as := [.int (dI v56), .int (dI 0), .int (dI (dW (v2 - 1)))]) (S := [.ref 0]) (nx := 75) e_99_72 rfl rfl rfl rfl rfl rfl rfl q64 rfl ?_
    have r66 : dR v62 := q64.2.2
    obtain ⟨N67, v68, c69, h⟩ := dbd_inv h
    have q70 := qX7_claim_O (xs := xs) (Ln := Ln) S65 r66 c69
    have S71 : dS N67 := q70.2.1
    refine dq_calli (as := [.int (dI v62)]) (S := []) (nx := 78) e_99_75 rfl rfl rfl S65 ak_0_7 rfl rfl rfl rfl q70 rfl ?_
    have r72 : dR v68 := q70.2.2
    by_cases c73 : v68 = 0
    · rw [if_pos c73] at h
      refine dq_ifF e_99_78 r72 (dnf c73) ?_
      refine dq_iconst e_99_81 ?_
      cases h
      exact dq_reti (ty := .boolean) e_99_82 rfl (by decide +kernel) S71 (⟨by decide, by decide⟩)
    · rw [if_neg c73] at h
      refine dq_ifT e_99_78 r72 (dnt c73) ?_
      refine dq_aload e_99_83 m11 ?_
      obtain ⟨N74, v75, c76, h⟩ := dbd_inv h
      have q77 := qL_least_O (xs := xs) (Ln := Ln) rLn S71 c76
      have S78 : dS N74 := q77.2.1
      refine dq_callsi (as := [.ref 0]) (S := []) (nx := 87) e_99_84 rfl rfl rfl rfl rfl rfl rfl q77 rfl ?_
      have r79 : dR v75 := q77.2.2
      refine dq_istore e_99_87 rfl (fun K80 m81 mm82 => ?_)
      have m83 := mm82 0 _ (by decide) rfl m10
      have m84 := mm82 1 _ (by decide) rfl m11
      have m85 := mm82 2 _ (by decide) rfl m8
      refine dq_iconst e_99_88 ?_
      refine dq_istore e_99_89 rfl (fun K86 m87 mm88 => ?_)
      have m89 := mm88 0 _ (by decide) rfl m83
      have m90 := mm88 1 _ (by decide) rfl m84
      have m91 := mm88 2 _ (by decide) rfl m85
      have m92 := mm88 3 _ (by decide) rfl m81
      exact qL_law_b91 rLn _ S78 r6 r79 (⟨by decide, by decide⟩) m89 m90 m91 m92 m87 h
end DQG10

/-! ===== functions over memory, and that the bodies run so; written by wip/dc ===== -/
section DQG5
variable {xs : Nat → Int32} {Ln : Nat}
noncomputable def fX3_note_Rc5 (N : mMem) (x2 : Int) (x3 : Int) : Option dZ := dbd (fX2_opn_G N) fun N1 v2 => dbd (fX2_put_Gc0 N1 (dG N1 2049)) fun N6 v7 => dbd (fX2_put_Gc1 N6 5) fun N11 v12 => dbd (fX2_put_Gc2 N11 x2) fun N16 v17 => dbd (fX2_put_Gc3 N16 x3) fun N21 v22 => some (N21, 0)
theorem qX3_note_Rc5 {N : mMem} {x2 : Int} {x3 : Int} {z : dZ} (hS : dS N) (rx2 : dR x2) (rx3 : dR x3) (h : fX3_note_Rc5 N x2 x3 = some z) : dQ xs Ln 0 1 22 35 (0, lv_args 0 [.ref 1, .int (dI 5), .int (dI x2), .int (dI x3)], [], N) z := by
  unfold fX3_note_Rc5 at h
  have l0 : mLk (lv_args 0 [.ref 1, .int (dI 5), .int (dI x2), .int (dI x3)]) 0 = some (.ref 1) := rfl
  have l1 : mLk (lv_args 0 [.ref 1, .int (dI 5), .int (dI x2), .int (dI x3)]) 1 = some (.int (dI 5)) := rfl
  have l2 : mLk (lv_args 0 [.ref 1, .int (dI 5), .int (dI x2), .int (dI x3)]) 2 = some (.int (dI x2)) := rfl
  have l3 : mLk (lv_args 0 [.ref 1, .int (dI 5), .int (dI x2), .int (dI x3)]) 3 = some (.int (dI x3)) := rfl
  generalize lv_args 0 [.ref 1, .int (dI 5), .int (dI x2), .int (dI x3)] = Nl at l0 l1 l2 l3 ⊢
  refine dq_aload e_35_0 l0 ?_
  refine dq_getR e_35_1 hS ac_1_3_8_2 ?_
  obtain ⟨N1, v2, c3, h⟩ := dbd_inv h
  have q4 := qX2_opn_G (xs := xs) (Ln := Ln) hS c3
  have S5 : dS N1 := q4.2.1
  refine dq_callv (as := []) (S := []) (nx := 7) e_35_4 rfl rfl rfl hS ak_13_2 rfl rfl rfl rfl q4 rfl ?_
  refine dq_aload e_35_7 l0 ?_
  refine dq_getR e_35_8 S5 ac_1_3_8_2 ?_
  refine dq_iconst e_35_11 ?_
  refine dq_aload e_35_12 l0 ?_
  refine dq_getI (key := 2049) e_35_13 S5 ac_1_3_1_0 (by omega) ?_
  obtain ⟨N6, v7, c8, h⟩ := dbd_inv h
  have q9 := qX2_put_Gc0 (xs := xs) (Ln := Ln) S5 (dG_R _ _) c8
  have S10 : dS N6 := q9.2.1
  refine dq_callv (as := [.int (dI 0), .int (dI (dG N1 2049))]) (S := []) (nx := 19) e_35_16 rfl rfl rfl S5 ak_13_2 rfl rfl rfl rfl q9 rfl ?_
  refine dq_aload e_35_19 l0 ?_
  refine dq_getR e_35_20 S10 ac_1_3_8_2 ?_
  refine dq_iconst e_35_23 ?_
  refine dq_iload e_35_24 l1 ?_
  obtain ⟨N11, v12, c13, h⟩ := dbd_inv h
  have q14 := qX2_put_Gc1 (xs := xs) (Ln := Ln) S10 (⟨by decide, by decide⟩) c13
  have S15 : dS N11 := q14.2.1
  refine dq_callv (as := [.int (dI 1), .int (dI 5)]) (S := []) (nx := 28) e_35_25 rfl rfl rfl S10 ak_13_2 rfl rfl rfl rfl q14 rfl ?_
  refine dq_aload e_35_28 l0 ?_
  refine dq_getR e_35_29 S15 ac_1_3_8_2 ?_
  refine dq_iconst e_35_32 ?_
  refine dq_iload e_35_33 l2 ?_
  obtain ⟨N16, v17, c18, h⟩ := dbd_inv h
  have q19 := qX2_put_Gc2 (xs := xs) (Ln := Ln) S15 rx2 c18
  have S20 : dS N16 := q19.2.1
  refine dq_callv (as := [.int (dI 2), .int (dI x2)]) (S := []) (nx := 37) e_35_34 rfl rfl rfl S15 ak_13_2 rfl rfl rfl rfl q19 rfl ?_
  refine dq_aload e_35_37 l0 ?_
  refine dq_getR e_35_38 S20 ac_1_3_8_2 ?_
  refine dq_iconst e_35_41 ?_
  refine dq_iload e_35_42 l3 ?_
  obtain ⟨N21, v22, c23, h⟩ := dbd_inv h
  have q24 := qX2_put_Gc3 (xs := xs) (Ln := Ln) S20 rx3 c23
  have S25 : dS N21 := q24.2.1
  refine dq_callv (as := [.int (dI 3), .int (dI x3)]) (S := []) (nx := 46) e_35_43 rfl rfl rfl S20 ak_13_2 rfl rfl rfl rfl q24 rfl ?_
  cases h
  exact dq_retv e_35_46 rfl S25
noncomputable def fX3_note_Rc4 (N : mMem) (x2 : Int) (x3 : Int) : Option dZ := dbd (fX2_opn_G N) fun N1 v2 => dbd (fX2_put_Gc0 N1 (dG N1 2049)) fun N6 v7 => dbd (fX2_put_Gc1 N6 4) fun N11 v12 => dbd (fX2_put_Gc2 N11 x2) fun N16 v17 => dbd (fX2_put_Gc3 N16 x3) fun N21 v22 => some (N21, 0)
theorem qX3_note_Rc4 {N : mMem} {x2 : Int} {x3 : Int} {z : dZ} (hS : dS N) (rx2 : dR x2) (rx3 : dR x3) (h : fX3_note_Rc4 N x2 x3 = some z) : dQ xs Ln 0 1 22 35 (0, lv_args 0 [.ref 1, .int (dI 4), .int (dI x2), .int (dI x3)], [], N) z := by
  unfold fX3_note_Rc4 at h
  have l0 : mLk (lv_args 0 [.ref 1, .int (dI 4), .int (dI x2), .int (dI x3)]) 0 = some (.ref 1) := rfl
  have l1 : mLk (lv_args 0 [.ref 1, .int (dI 4), .int (dI x2), .int (dI x3)]) 1 = some (.int (dI 4)) := rfl
  have l2 : mLk (lv_args 0 [.ref 1, .int (dI 4), .int (dI x2), .int (dI x3)]) 2 = some (.int (dI x2)) := rfl
  have l3 : mLk (lv_args 0 [.ref 1, .int (dI 4), .int (dI x2), .int (dI x3)]) 3 = some (.int (dI x3)) := rfl
  generalize lv_args 0 [.ref 1, .int (dI 4), .int (dI x2), .int (dI x3)] = Nl at l0 l1 l2 l3 ⊢
  refine dq_aload e_35_0 l0 ?_
  refine dq_getR e_35_1 hS ac_1_3_8_2 ?_
  obtain ⟨N1, v2, c3, h⟩ := dbd_inv h
  have q4 := qX2_opn_G (xs := xs) (Ln := Ln) hS c3
  have S5 : dS N1 := q4.2.1
  refine dq_callv (as := []) (S := []) (nx := 7) e_35_4 rfl rfl rfl hS ak_13_2 rfl rfl rfl rfl q4 rfl ?_
  refine dq_aload e_35_7 l0 ?_
  refine dq_getR e_35_8 S5 ac_1_3_8_2 ?_
  refine dq_iconst e_35_11 ?_
  refine dq_aload e_35_12 l0 ?_
  refine dq_getI (key := 2049) e_35_13 S5 ac_1_3_1_0 (by omega) ?_
  obtain ⟨N6, v7, c8, h⟩ := dbd_inv h
  have q9 := qX2_put_Gc0 (xs := xs) (Ln := Ln) S5 (dG_R _ _) c8
  have S10 : dS N6 := q9.2.1
  refine dq_callv (as := [.int (dI 0), .int (dI (dG N1 2049))]) (S := []) (nx := 19) e_35_16 rfl rfl rfl S5 ak_13_2 rfl rfl rfl rfl q9 rfl ?_
  refine dq_aload e_35_19 l0 ?_
  refine dq_getR e_35_20 S10 ac_1_3_8_2 ?_
  refine dq_iconst e_35_23 ?_
  refine dq_iload e_35_24 l1 ?_
  obtain ⟨N11, v12, c13, h⟩ := dbd_inv h
  have q14 := qX2_put_Gc1 (xs := xs) (Ln := Ln) S10 (⟨by decide, by decide⟩) c13
  have S15 : dS N11 := q14.2.1
  refine dq_callv (as := [.int (dI 1), .int (dI 4)]) (S := []) (nx := 28) e_35_25 rfl rfl rfl S10 ak_13_2 rfl rfl rfl rfl q14 rfl ?_
  refine dq_aload e_35_28 l0 ?_
  refine dq_getR e_35_29 S15 ac_1_3_8_2 ?_
  refine dq_iconst e_35_32 ?_
  refine dq_iload e_35_33 l2 ?_
  obtain ⟨N16, v17, c18, h⟩ := dbd_inv h
  have q19 := qX2_put_Gc2 (xs := xs) (Ln := Ln) S15 rx2 c18
  have S20 : dS N16 := q19.2.1
  refine dq_callv (as := [.int (dI 2), .int (dI x2)]) (S := []) (nx := 37) e_35_34 rfl rfl rfl S15 ak_13_2 rfl rfl rfl rfl q19 rfl ?_
  refine dq_aload e_35_37 l0 ?_
  refine dq_getR e_35_38 S20 ac_1_3_8_2 ?_
  refine dq_iconst e_35_41 ?_
  refine dq_iload e_35_42 l3 ?_
  obtain ⟨N21, v22, c23, h⟩ := dbd_inv h
  have q24 := qX2_put_Gc3 (xs := xs) (Ln := Ln) S20 rx3 c23
  have S25 : dS N21 := q24.2.1
  refine dq_callv (as := [.int (dI 3), .int (dI x3)]) (S := []) (nx := 46) e_35_43 rfl rfl rfl S20 ak_13_2 rfl rfl rfl rfl q24 rfl ?_
  cases h
  exact dq_retv e_35_46 rfl S25
noncomputable def fX1_take_H (N : mMem) (s : Nat) (x1 : Int) (x2 : Int) (x3 : Int) : Option dZ := some (dP (dP (dP (dP (dP (dP N (65536 + 26624 * s) 1) (65537 + 26624 * s) x2) (65538 + 26624 * s) x3) (65544 + 26624 * s) 0) (65545 + 26624 * s) 0) (65546 + 26624 * s) x1, 0)
theorem qX1_take_H {N : mMem} {s : Nat} {x1 : Int} {x2 : Int} {x3 : Int} {z : dZ} (hS : dS N) (hs : s < 8) (rx1 : dR x1) (rx2 : dR x2) (rx3 : dR x3) (h : fX1_take_H N s x1 x2 x3 = some z) : dQ xs Ln 0 0 0 7 (0, lv_args 0 [.ref (32 + 13 * s), .int (dI x1), .int (dI x2), .int (dI x3)], [], N) z := by
  unfold fX1_take_H at h
  have l0 : mLk (lv_args 0 [.ref (32 + 13 * s), .int (dI x1), .int (dI x2), .int (dI x3)]) 0 = some (.ref (32 + 13 * s)) := rfl
  have l1 : mLk (lv_args 0 [.ref (32 + 13 * s), .int (dI x1), .int (dI x2), .int (dI x3)]) 1 = some (.int (dI x1)) := rfl
  have l2 : mLk (lv_args 0 [.ref (32 + 13 * s), .int (dI x1), .int (dI x2), .int (dI x3)]) 2 = some (.int (dI x2)) := rfl
  have l3 : mLk (lv_args 0 [.ref (32 + 13 * s), .int (dI x1), .int (dI x2), .int (dI x3)]) 3 = some (.int (dI x3)) := rfl
  generalize lv_args 0 [.ref (32 + 13 * s), .int (dI x1), .int (dI x2), .int (dI x3)] = Nl at l0 l1 l2 l3 ⊢
  refine dq_aload e_7_0 l0 ?_
  refine dq_iconst e_7_1 ?_
  have S1 := dS_P (v := 1) hS (ac_32s_1_0_0 s hs) (show (32 + 13 * s) * 2048 + 0 = (65536 + 26624 * s) by omega)
  refine dq_put (key := (65536 + 26624 * s)) e_7_2 hS (ac_32s_1_0_0 s hs) (by decide +kernel) (by omega) ?_
  refine dq_aload e_7_5 l0 ?_
  refine dq_iload e_7_6 l2 ?_
  have S2 := dS_P (v := x2) S1 (ac_32s_1_1_0 s hs) (show (32 + 13 * s) * 2048 + 1 = (65537 + 26624 * s) by omega)
  refine dq_put (key := (65537 + 26624 * s)) e_7_7 S1 (ac_32s_1_1_0 s hs) rfl (by omega) ?_
  refine dq_aload e_7_10 l0 ?_
  refine dq_iload e_7_11 l3 ?_
  have S3 := dS_P (v := x3) S2 (ac_32s_1_2_0 s hs) (show (32 + 13 * s) * 2048 + 2 = (65538 + 26624 * s) by omega)
  refine dq_put (key := (65538 + 26624 * s)) e_7_12 S2 (ac_32s_1_2_0 s hs) rfl (by omega) ?_
  refine dq_aload e_7_15 l0 ?_
  refine dq_iconst e_7_16 ?_
  have S4 := dS_P (v := 0) S3 (ac_32s_1_8_0 s hs) (show (32 + 13 * s) * 2048 + 8 = (65544 + 26624 * s) by omega)
  refine dq_put (key := (65544 + 26624 * s)) e_7_17 S3 (ac_32s_1_8_0 s hs) rfl (by omega) ?_
  refine dq_aload e_7_20 l0 ?_
  refine dq_iconst e_7_21 ?_
  have S5 := dS_P (v := 0) S4 (ac_32s_1_9_0 s hs) (show (32 + 13 * s) * 2048 + 9 = (65545 + 26624 * s) by omega)
  refine dq_put (key := (65545 + 26624 * s)) e_7_22 S4 (ac_32s_1_9_0 s hs) rfl (by omega) ?_
  refine dq_aload e_7_25 l0 ?_
  refine dq_iload e_7_26 l1 ?_
  have S6 := dS_P (v := x1) S5 (ac_32s_1_10_0 s hs) (show (32 + 13 * s) * 2048 + 10 = (65546 + 26624 * s) by omega)
  refine dq_put (key := (65546 + 26624 * s)) e_7_27 S5 (ac_32s_1_10_0 s hs) rfl (by omega) ?_
  cases h
  exact dq_retv e_7_30 rfl S6
noncomputable def fX5_takeToken_S_b102 (N : mMem) (s : Nat) (x1 : Int) (x2 : Int) : Option dZ := dbd (fX1_take_H N s x1 x2 (dG N (57346 + 26624 * s))) fun N20 v21 => some (N20, 0)
theorem qX5_takeToken_S_b102 {Nl : List (Nat × Value)} {N : mMem} {s : Nat} {x1 : Int} {x2 : Int} {z : dZ} (hS : dS N) (hs : s < 8) (rx1 : dR x1) (rx2 : dR x2) (l0 : mLk Nl 0 = some (.ref (28 + 13 * s))) (l1 : mLk Nl 1 = some (.int (dI x1))) (l2 : mLk Nl 2 = some (.int (dI x2))) (h : fX5_takeToken_S_b102 N s x1 x2 = some z) : dQ xs Ln 0 1 23 70 (102, Nl, [], N) z := by
  unfold fX5_takeToken_S_b102 at h
  refine dq_aload e_70_102 l0 ?_
  refine dq_getR e_70_103 hS (ac_28s_5_16_2 s hs) ?_
  refine dq_iload e_70_106 l1 ?_
  refine dq_iload e_70_107 l2 ?_
  refine dq_aload e_70_108 l0 ?_
  refine dq_getI (key := (57346 + 26624 * s)) e_70_109 hS (ac_28s_5_2_0 s hs) (by omega) ?_
  obtain ⟨N20, v21, c22, h⟩ := dbd_inv h
  have q23 := qX1_take_H (xs := xs) (Ln := Ln) hS hs rx1 rx2 (dG_R _ _) c22
  have S24 : dS N20 := q23.2.1
  refine dq_callv (as := [.int (dI x1), .int (dI x2), .int (dI (dG N (57346 + 26624 * s)))]) (S := []) (nx := 115) e_70_112 rfl rfl rfl hS (ak_32s_1 s hs) rfl rfl rfl rfl q23 rfl ?_
  cases h
  exact dq_retv e_70_115 rfl S24
noncomputable def fX5_takeToken_S_b39 (N : mMem) (s : Nat) (x1 : Int) (x2 : Int) : Option dZ := dlt (dP N (57357 + 26624 * s) 0) fun N17 => (if dG N17 (57358 + 26624 * s) < 3 then fX5_takeToken_S_b102 N17 s x1 x2 else dlt (dP N17 (81926 + 26624 * s) (dW ((dG N17 (81926 + 26624 * s)) + 1))) fun N32 => dlt (dP N32 (81927 + 26624 * s) (dW ((dG N32 (81927 + 26624 * s)) + (dW (x1 - (dG N17 (65546 + 26624 * s))))))) fun N35 => fX5_takeToken_S_b102 (dP N35 (81928 + 26624 * s) (dMx (dG N35 (81928 + 26624 * s)) (dW (x1 - (dG N17 (65546 + 26624 * s)))))) s x1 x2)
theorem qX5_takeToken_S_b39 {Nl : List (Nat × Value)} {N : mMem} {s : Nat} {x1 : Int} {x2 : Int} {z : dZ} (hS : dS N) (hs : s < 8) (rx1 : dR x1) (rx2 : dR x2) (l0 : mLk Nl 0 = some (.ref (28 + 13 * s))) (l1 : mLk Nl 1 = some (.int (dI x1))) (l2 : mLk Nl 2 = some (.int (dI x2))) (h : fX5_takeToken_S_b39 N s x1 x2 = some z) : dQ xs Ln 0 1 23 70 (39, Nl, [], N) z := by
  unfold fX5_takeToken_S_b39 at h
  refine dq_aload e_70_39 l0 ?_
  refine dq_iconst e_70_40 ?_
  have S16 := dS_P (v := 0) hS (ac_28s_5_13_0 s hs) (show (28 + 13 * s) * 2048 + 13 = (57357 + 26624 * s) by omega)
  refine dq_put (key := (57357 + 26624 * s)) e_70_41 hS (ac_28s_5_13_0 s hs) rfl (by omega) ?_
  refine dq_aload e_70_44 l0 ?_
  refine dq_let h S16 (fun N17 S18 h => ?_)
  refine dq_getI (key := (57358 + 26624 * s)) e_70_45 S18 (ac_28s_5_14_0 s hs) (by omega) ?_
  refine dq_iconst e_70_48 ?_
  by_cases c19 : dG N17 (57358 + 26624 * s) < 3
  · rw [if_pos c19] at h
    refine dq_icT e_70_49 (dG_R _ _) (⟨by decide, by decide⟩) (decide_eq_true c19) ?_
    exact qX5_takeToken_S_b102 S18 hs rx1 rx2 l0 l1 l2 h
  · rw [if_neg c19] at h
    refine dq_icF e_70_49 (dG_R _ _) (⟨by decide, by decide⟩) (decide_eq_false c19) ?_
    refine dq_iload e_70_52 l1 ?_
    refine dq_aload e_70_53 l0 ?_
    refine dq_getR e_70_54 S18 (ac_28s_5_16_2 s hs) ?_
    refine dq_getI (key := (65546 + 26624 * s)) e_70_57 S18 (ac_32s_1_10_0 s hs) (by omega) ?_
    refine dq_isub (e := dW (x1 - (dG N17 (65546 + 26624 * s)))) e_70_60 rfl ?_
    refine dq_istore e_70_61 rfl (fun K25 m26 mm27 => ?_)
    have m28 := mm27 0 _ (by decide) rfl l0
    have m29 := mm27 1 _ (by decide) rfl l1
    have m30 := mm27 2 _ (by decide) rfl l2
    refine dq_aload e_70_62 m28 ?_
    refine dq_getR e_70_63 S18 (ac_28s_5_18_2 s hs) ?_
    refine dq_iconst e_70_66 ?_
    refine dq_dup2 e_70_68 rfl rfl ?_
    refine dq_ial (key := (81926 + 26624 * s)) e_70_69 S18 (aa_40s s hs) (⟨by decide, by decide⟩) (by decide) (by decide) (by show (40 + 13 * s) * 2048 + 6 = (81926 + 26624 * s); omega) ?_
    refine dq_iconst e_70_70 ?_
    refine dq_iadd (e := dW ((dG N17 (81926 + 26624 * s)) + 1)) e_70_71 rfl ?_
    have S31 := dS_A (v := dW ((dG N17 (81926 + 26624 * s)) + 1)) (k := (6 : Int).toNat) (key := (81926 + 26624 * s)) S18 (aa_40s s hs) (by decide) (by show (40 + 13 * s) * 2048 + 6 = (81926 + 26624 * s); omega)
    refine dq_ias (key := (81926 + 26624 * s)) e_70_72 S18 (aa_40s s hs) (⟨by decide, by decide⟩) (by decide) (by decide) (by show (40 + 13 * s) * 2048 + 6 = (81926 + 26624 * s); omega) ?_
    refine dq_aload e_70_73 m28 ?_
    refine dq_getR e_70_74 S31 (ac_28s_5_18_2 s hs) ?_
    refine dq_iconst e_70_77 ?_
    refine dq_dup2 e_70_79 rfl rfl ?_
    refine dq_let h S31 (fun N32 S33 h => ?_)
    refine dq_ial (key := (81927 + 26624 * s)) e_70_80 S33 (aa_40s s hs) (⟨by decide, by decide⟩) (by decide) (by decide) (by show (40 + 13 * s) * 2048 + 7 = (81927 + 26624 * s); omega) ?_
    refine dq_iload e_70_81 m26 ?_
    refine dq_iadd (e := dW ((dG N32 (81927 + 26624 * s)) + (dW (x1 - (dG N17 (65546 + 26624 * s)))))) e_70_82 rfl ?_
    have S34 := dS_A (v := dW ((dG N32 (81927 + 26624 * s)) + (dW (x1 - (dG N17 (65546 + 26624 * s)))))) (k := (7 : Int).toNat) (key := (81927 + 26624 * s)) S33 (aa_40s s hs) (by decide) (by show (40 + 13 * s) * 2048 + 7 = (81927 + 26624 * s); omega)
    refine dq_ias (key := (81927 + 26624 * s)) e_70_83 S33 (aa_40s s hs) (⟨by decide, by decide⟩) (by decide) (by decide) (by show (40 + 13 * s) * 2048 + 7 = (81927 + 26624 * s); omega) ?_
    refine dq_aload e_70_84 m28 ?_
    refine dq_getR e_70_85 S34 (ac_28s_5_18_2 s hs) ?_
    refine dq_iconst e_70_88 ?_
    refine dq_aload e_70_90 m28 ?_
    refine dq_getR e_70_91 S34 (ac_28s_5_18_2 s hs) ?_
    refine dq_iconst e_70_94 ?_
    refine dq_let h S34 (fun N35 S36 h => ?_)
    refine dq_ial (key := (81928 + 26624 * s)) e_70_96 S36 (aa_40s s hs) (⟨by decide, by decide⟩) (by decide) (by decide) (by show (40 + 13 * s) * 2048 + 8 = (81928 + 26624 * s); omega) ?_
    refine dq_iload e_70_97 m26 ?_
    refine dq_max e_70_98 (dG_R _ _) (dW_R _) rfl rfl rfl ?_
    have S37 := dS_A (v := dMx (dG N35 (81928 + 26624 * s)) (dW (x1 - (dG N17 (65546 + 26624 * s))))) (k := (8 : Int).toNat) (key := (81928 + 26624 * s)) S36 (aa_40s s hs) (by decide) (by show (40 + 13 * s) * 2048 + 8 = (81928 + 26624 * s); omega)
    refine dq_ias (key := (81928 + 26624 * s)) e_70_101 S36 (aa_40s s hs) (⟨by decide, by decide⟩) (by decide) (by decide) (by show (40 + 13 * s) * 2048 + 8 = (81928 + 26624 * s); omega) ?_
    exact qX5_takeToken_S_b102 S37 hs rx1 rx2 m28 m29 m30 h
noncomputable def fX5_takeToken_S (N : mMem) (s : Nat) (x1 : Int) : Option dZ := dlt (dP N (57358 + 26624 * s) (dW ((dG N (57358 + 26624 * s)) + 1))) fun N7 => (if dG N7 (57357 + 26624 * s) = 0 then fX5_takeToken_S_b39 (dP N7 (57356 + 26624 * s) (dW (x1 + (dG N7 (59392 + 26624 * s))))) s x1 (dW ((dG N7 (57356 + 26624 * s)) - x1)) else fX5_takeToken_S_b39 N7 s x1 0)
theorem qX5_takeToken_S {N : mMem} {s : Nat} {x1 : Int} {z : dZ} (hS : dS N) (hs : s < 8) (rx1 : dR x1) (h : fX5_takeToken_S N s x1 = some z) : dQ xs Ln 0 1 23 70 (0, lv_args 0 [.ref (28 + 13 * s), .int (dI x1)], [], N) z := by
  unfold fX5_takeToken_S at h
  have l0 : mLk (lv_args 0 [.ref (28 + 13 * s), .int (dI x1)]) 0 = some (.ref (28 + 13 * s)) := rfl
  have l1 : mLk (lv_args 0 [.ref (28 + 13 * s), .int (dI x1)]) 1 = some (.int (dI x1)) := rfl
  generalize lv_args 0 [.ref (28 + 13 * s), .int (dI x1)] = Nl at l0 l1 ⊢
  refine dq_aload e_70_0 l0 ?_
  refine dq_dup e_70_1 rfl ?_
  refine dq_getI (key := (57358 + 26624 * s)) e_70_2 hS (ac_28s_5_14_0 s hs) (by omega) ?_
  refine dq_iconst e_70_5 ?_
  refine dq_iadd (e := dW ((dG N (57358 + 26624 * s)) + 1)) e_70_6 rfl ?_
  have S1 := dS_P (v := dW ((dG N (57358 + 26624 * s)) + 1)) hS (ac_28s_5_14_0 s hs) (show (28 + 13 * s) * 2048 + 14 = (57358 + 26624 * s) by omega)
  refine dq_put (key := (57358 + 26624 * s)) e_70_7 hS (ac_28s_5_14_0 s hs) rfl (by omega) ?_
  refine dq_iconst e_70_10 ?_
  refine dq_istore e_70_11 rfl (fun K2 m3 mm4 => ?_)
  have m5 := mm4 0 _ (by decide) rfl l0
  have m6 := mm4 1 _ (by decide) rfl l1
  refine dq_aload e_70_12 m5 ?_
  refine dq_let h S1 (fun N7 S8 h => ?_)
  refine dq_getI (key := (57357 + 26624 * s)) e_70_13 S8 (ac_28s_5_13_0 s hs) (by omega) ?_
  by_cases c9 : dG N7 (57357 + 26624 * s) = 0
  · rw [if_pos c9] at h
    refine dq_ifF e_70_16 (dG_R _ _) (dnf c9) ?_
    refine dq_aload e_70_19 m5 ?_
    refine dq_getI (key := (57356 + 26624 * s)) e_70_20 S8 (ac_28s_5_12_0 s hs) (by omega) ?_
    refine dq_iload e_70_23 m6 ?_
    refine dq_isub (e := dW ((dG N7 (57356 + 26624 * s)) - x1)) e_70_24 rfl ?_
    refine dq_istore e_70_25 rfl (fun K10 m11 mm12 => ?_)
    have m13 := mm12 0 _ (by decide) rfl m5
    have m14 := mm12 1 _ (by decide) rfl m6
    refine dq_aload e_70_26 m13 ?_
    refine dq_iload e_70_27 m14 ?_
    refine dq_aload e_70_28 m13 ?_
    refine dq_getR e_70_29 S8 (ac_28s_5_6_2 s hs) ?_
    refine dq_getI (key := (59392 + 26624 * s)) e_70_32 S8 (ac_29s_0_0_0 s hs) (by omega) ?_
    refine dq_iadd (e := dW (x1 + (dG N7 (59392 + 26624 * s)))) e_70_35 rfl ?_
    have S15 := dS_P (v := dW (x1 + (dG N7 (59392 + 26624 * s)))) S8 (ac_28s_5_12_0 s hs) (show (28 + 13 * s) * 2048 + 12 = (57356 + 26624 * s) by omega)
    refine dq_put (key := (57356 + 26624 * s)) e_70_36 S8 (ac_28s_5_12_0 s hs) rfl (by omega) ?_
    exact qX5_takeToken_S_b39 S15 hs rx1 (dW_R _) m13 m14 m11 h
  · rw [if_neg c9] at h
    refine dq_ifT e_70_16 (dG_R _ _) (dnt c9) ?_
    exact qX5_takeToken_S_b39 S8 hs rx1 (⟨by decide, by decide⟩) m5 m6 m3 h
noncomputable def fX3_note_Rc7 (N : mMem) (x2 : Int) (x3 : Int) : Option dZ := dbd (fX2_opn_G N) fun N1 v2 => dbd (fX2_put_Gc0 N1 (dG N1 2049)) fun N6 v7 => dbd (fX2_put_Gc1 N6 7) fun N11 v12 => dbd (fX2_put_Gc2 N11 x2) fun N16 v17 => dbd (fX2_put_Gc3 N16 x3) fun N21 v22 => some (N21, 0)
theorem qX3_note_Rc7 {N : mMem} {x2 : Int} {x3 : Int} {z : dZ} (hS : dS N) (rx2 : dR x2) (rx3 : dR x3) (h : fX3_note_Rc7 N x2 x3 = some z) : dQ xs Ln 0 1 22 35 (0, lv_args 0 [.ref 1, .int (dI 7), .int (dI x2), .int (dI x3)], [], N) z := by
  unfold fX3_note_Rc7 at h
  have l0 : mLk (lv_args 0 [.ref 1, .int (dI 7), .int (dI x2), .int (dI x3)]) 0 = some (.ref 1) := rfl
  have l1 : mLk (lv_args 0 [.ref 1, .int (dI 7), .int (dI x2), .int (dI x3)]) 1 = some (.int (dI 7)) := rfl
  have l2 : mLk (lv_args 0 [.ref 1, .int (dI 7), .int (dI x2), .int (dI x3)]) 2 = some (.int (dI x2)) := rfl
  have l3 : mLk (lv_args 0 [.ref 1, .int (dI 7), .int (dI x2), .int (dI x3)]) 3 = some (.int (dI x3)) := rfl
  generalize lv_args 0 [.ref 1, .int (dI 7), .int (dI x2), .int (dI x3)] = Nl at l0 l1 l2 l3 ⊢
  refine dq_aload e_35_0 l0 ?_
  refine dq_getR e_35_1 hS ac_1_3_8_2 ?_
  obtain ⟨N1, v2, c3, h⟩ := dbd_inv h
  have q4 := qX2_opn_G (xs := xs) (Ln := Ln) hS c3
  have S5 : dS N1 := q4.2.1
  refine dq_callv (as := []) (S := []) (nx := 7) e_35_4 rfl rfl rfl hS ak_13_2 rfl rfl rfl rfl q4 rfl ?_
  refine dq_aload e_35_7 l0 ?_
  refine dq_getR e_35_8 S5 ac_1_3_8_2 ?_
  refine dq_iconst e_35_11 ?_
  refine dq_aload e_35_12 l0 ?_
  refine dq_getI (key := 2049) e_35_13 S5 ac_1_3_1_0 (by omega) ?_
  obtain ⟨N6, v7, c8, h⟩ := dbd_inv h
  have q9 := qX2_put_Gc0 (xs := xs) (Ln := Ln) S5 (dG_R _ _) c8
  have S10 : dS N6 := q9.2.1
  refine dq_callv (as := [.int (dI 0), .int (dI (dG N1 2049))]) (S := []) (nx := 19) e_35_16 rfl rfl rfl S5 ak_13_2 rfl rfl rfl rfl q9 rfl ?_
  refine dq_aload e_35_19 l0 ?_
  refine dq_getR e_35_20 S10 ac_1_3_8_2 ?_
  refine dq_iconst e_35_23 ?_
  refine dq_iload e_35_24 l1 ?_
  obtain ⟨N11, v12, c13, h⟩ := dbd_inv h
  have q14 := qX2_put_Gc1 (xs := xs) (Ln := Ln) S10 (⟨by decide, by decide⟩) c13
  have S15 : dS N11 := q14.2.1
  refine dq_callv (as := [.int (dI 1), .int (dI 7)]) (S := []) (nx := 28) e_35_25 rfl rfl rfl S10 ak_13_2 rfl rfl rfl rfl q14 rfl ?_
  refine dq_aload e_35_28 l0 ?_
  refine dq_getR e_35_29 S15 ac_1_3_8_2 ?_
  refine dq_iconst e_35_32 ?_
  refine dq_iload e_35_33 l2 ?_
  obtain ⟨N16, v17, c18, h⟩ := dbd_inv h
  have q19 := qX2_put_Gc2 (xs := xs) (Ln := Ln) S15 rx2 c18
  have S20 : dS N16 := q19.2.1
  refine dq_callv (as := [.int (dI 2), .int (dI x2)]) (S := []) (nx := 37) e_35_34 rfl rfl rfl S15 ak_13_2 rfl rfl rfl rfl q19 rfl ?_
  refine dq_aload e_35_37 l0 ?_
  refine dq_getR e_35_38 S20 ac_1_3_8_2 ?_
  refine dq_iconst e_35_41 ?_
  refine dq_iload e_35_42 l3 ?_
  obtain ⟨N21, v22, c23, h⟩ := dbd_inv h
  have q24 := qX2_put_Gc3 (xs := xs) (Ln := Ln) S20 rx3 c23
  have S25 : dS N21 := q24.2.1
  refine dq_callv (as := [.int (dI 3), .int (dI x3)]) (S := []) (nx := 46) e_35_43 rfl rfl rfl S20 ak_13_2 rfl rfl rfl rfl q24 rfl ?_
  cases h
  exact dq_retv e_35_46 rfl S25
noncomputable def fX3_tokenComes_RSC_b74 (N : mMem) (s : Nat) : Option dZ := dlt (dP N 53251 (dW ((dG N 53251) + 1))) fun N18 => dbd (fX3_note_Rc5 N18 (s : Int) 0) fun N20 v21 => some (N20, 0)
theorem qX3_tokenComes_RSC_b74 {Nl : List (Nat × Value)} {N : mMem} {s : Nat} {z : dZ} (hS : dS N) (hs : s < 8) (l0 : mLk Nl 0 = some (.ref 1)) (l1 : mLk Nl 1 = some (.ref (28 + 13 * s))) (h : fX3_tokenComes_RSC_b74 N s = some z) : dQ xs Ln 0 2 48 45 (74, Nl, [], N) z := by
  unfold fX3_tokenComes_RSC_b74 at h
  refine dq_aload e_45_74 l0 ?_
  refine dq_getR e_45_75 hS ac_1_3_10_2 ?_
  refine dq_iconst e_45_78 ?_
  refine dq_dup2 e_45_79 rfl rfl ?_
  refine dq_ial (key := 53251) e_45_80 hS aa_26 (⟨by decide, by decide⟩) (by decide) (by decide) (by show 26 * 2048 + 3 = 53251; omega) ?_
  refine dq_iconst e_45_81 ?_
  refine dq_iadd (e := dW ((dG N 53251) + 1)) e_45_82 rfl ?_
  have S17 := dS_A (v := dW ((dG N 53251) + 1)) (k := (3 : Int).toNat) (key := 53251) hS aa_26 (by decide) (by show 26 * 2048 + 3 = 53251; omega)
  refine dq_ias (key := 53251) e_45_83 hS aa_26 (⟨by decide, by decide⟩) (by decide) (by decide) (by show 26 * 2048 + 3 = 53251; omega) ?_
  refine dq_aload e_45_84 l0 ?_
  refine dq_iconst e_45_85 ?_
  refine dq_aload e_45_86 l1 ?_
  refine dq_getC (e := (s : Int)) e_45_87 S17 (ac_28s_5_0_1 s hs) rfl ?_
  refine dq_iconst e_45_90 ?_
  refine dq_let h S17 (fun N18 S19 h => ?_)
  obtain ⟨N20, v21, c22, h⟩ := dbd_inv h
  have q23 := qX3_note_Rc5 (xs := xs) (Ln := Ln) S19 (⟨by omega, by omega⟩) (⟨by decide, by decide⟩) c22
  have S24 : dS N20 := q23.2.1
  refine dq_callv (as := [.int (dI 5), .int (dI (s : Int)), .int (dI 0)]) (S := []) (nx := 94) e_45_91 rfl rfl rfl S19 ak_1_3 rfl rfl rfl rfl q23 rfl ?_
  refine dq_goto e_45_94 ?_
  cases h
  exact dq_retv e_45_157 rfl S24
noncomputable def fX3_tokenComes_RSC_b126 (N : mMem) (s : Nat) : Option dZ := dlt (dP N 53250 (dW ((dG N 53250) + 1))) fun N34 => dbd (fX3_note_Rc4 N34 (s : Int) 0) fun N36 v37 => some (N36, 0)
theorem qX3_tokenComes_RSC_b126 {Nl : List (Nat × Value)} {N : mMem} {s : Nat} {z : dZ} (hS : dS N) (hs : s < 8) (l0 : mLk Nl 0 = some (.ref 1)) (l1 : mLk Nl 1 = some (.ref (28 + 13 * s))) (h : fX3_tokenComes_RSC_b126 N s = some z) : dQ xs Ln 0 2 48 45 (126, Nl, [], N) z := by
  unfold fX3_tokenComes_RSC_b126 at h
  refine dq_aload e_45_126 l0 ?_
  refine dq_getR e_45_127 hS ac_1_3_10_2 ?_
  refine dq_iconst e_45_130 ?_
  refine dq_dup2 e_45_131 rfl rfl ?_
  refine dq_ial (key := 53250) e_45_132 hS aa_26 (⟨by decide, by decide⟩) (by decide) (by decide) (by show 26 * 2048 + 2 = 53250; omega) ?_
  refine dq_iconst e_45_133 ?_
  refine dq_iadd (e := dW ((dG N 53250) + 1)) e_45_134 rfl ?_
  have S33 := dS_A (v := dW ((dG N 53250) + 1)) (k := (2 : Int).toNat) (key := 53250) hS aa_26 (by decide) (by show 26 * 2048 + 2 = 53250; omega)
  refine dq_ias (key := 53250) e_45_135 hS aa_26 (⟨by decide, by decide⟩) (by decide) (by decide) (by show 26 * 2048 + 2 = 53250; omega) ?_
  refine dq_aload e_45_136 l0 ?_
  refine dq_iconst e_45_137 ?_
  refine dq_aload e_45_138 l1 ?_
  refine dq_getC (e := (s : Int)) e_45_139 S33 (ac_28s_5_0_1 s hs) rfl ?_
  refine dq_iconst e_45_142 ?_
  refine dq_let h S33 (fun N34 S35 h => ?_)
  obtain ⟨N36, v37, c38, h⟩ := dbd_inv h
  have q39 := qX3_note_Rc4 (xs := xs) (Ln := Ln) S35 (⟨by omega, by omega⟩) (⟨by decide, by decide⟩) c38
  have S40 : dS N36 := q39.2.1
  refine dq_callv (as := [.int (dI 4), .int (dI (s : Int)), .int (dI 0)]) (S := []) (nx := 146) e_45_143 rfl rfl rfl S35 ak_1_3 rfl rfl rfl rfl q39 rfl ?_
  refine dq_goto e_45_146 ?_
  cases h
  exact dq_retv e_45_157 rfl S40
noncomputable def fX3_tokenComes_RSC_b55 (N : mMem) (s : Nat) : Option dZ := (if dG N (57348 + 26624 * s) = 1 then dbd (fX0_isSame_CU N s) fun N10 v11 => (if v11 = 0 then fX3_tokenComes_RSC_b74 N10 s else (if dG N10 (65536 + 26624 * s) = 0 then dbd (fX3_latency_R N10) fun N26 v27 => (if dW ((dG N10 2049) - (dG N10 (65547 + 26624 * s))) < v27 then fX3_tokenComes_RSC_b126 N26 s else dbd (fX5_takeToken_S N26 s (dG N26 2049)) fun N41 v42 => some (N41, 0)) else fX3_tokenComes_RSC_b126 N10 s)) else fX3_tokenComes_RSC_b74 N s)
theorem qX3_tokenComes_RSC_b55 {Nl : List (Nat × Value)} {N : mMem} {s : Nat} {z : dZ} (hS : dS N) (hs : s < 8) (l0 : mLk Nl 0 = some (.ref 1)) (l1 : mLk Nl 1 = some (.ref (28 + 13 * s))) (l2 : mLk Nl 2 = some (.ref 27)) (h : fX3_tokenComes_RSC_b55 N s = some z) : dQ xs Ln 0 2 48 45 (55, Nl, [], N) z := by
  unfold fX3_tokenComes_RSC_b55 at h
  refine dq_aload e_45_55 l1 ?_
  refine dq_getI (key := (57348 + 26624 * s)) e_45_56 hS (ac_28s_5_4_0 s hs) (by omega) ?_
  refine dq_iconst e_45_59 ?_
  by_cases c9 : dG N (57348 + 26624 * s) = 1
  · rw [if_pos c9] at h
    refine dq_icF e_45_60 (dG_R _ _) (⟨by decide, by decide⟩) (dnf c9) ?_
    refine dq_aload e_45_63 l2 ?_
    refine dq_aload e_45_64 l1 ?_
    refine dq_getR e_45_65 hS (ac_28s_5_6_2 s hs) ?_
    obtain ⟨N10, v11, c12, h⟩ := dbd_inv h
    have q13 := qX0_isSame_CU (xs := xs) (Ln := Ln) hS hs c12
    have S14 : dS N10 := q13.2.1
    refine dq_calli (as := [.ref (29 + 13 * s)]) (S := []) (nx := 71) e_45_68 rfl rfl rfl hS ak_27_0 rfl rfl rfl rfl q13 rfl ?_
    have r15 : dR v11 := q13.2.2
    by_cases c16 : v11 = 0
    · rw [if_pos c16] at h
      refine dq_ifF e_45_71 r15 (dnf c16) ?_
      exact qX3_tokenComes_RSC_b74 S14 hs l0 l1 h
    · rw [if_neg c16] at h
      refine dq_ifT e_45_71 r15 (dnt c16) ?_
      refine dq_aload e_45_97 l1 ?_
      refine dq_getR e_45_98 S14 (ac_28s_5_16_2 s hs) ?_
      refine dq_getI (key := (65536 + 26624 * s)) e_45_101 S14 (ac_32s_1_0_0 s hs) (by omega) ?_
      by_cases c25 : dG N10 (65536 + 26624 * s) = 0
      · rw [if_pos c25] at h
        refine dq_ifF e_45_104 (dG_R _ _) (dnf c25) ?_
        refine dq_aload e_45_107 l0 ?_
        refine dq_getI (key := 2049) e_45_108 S14 ac_1_3_1_0 (by omega) ?_
        refine dq_aload e_45_111 l1 ?_
        refine dq_getR e_45_112 S14 (ac_28s_5_16_2 s hs) ?_
        refine dq_getI (key := (65547 + 26624 * s)) e_45_115 S14 (ac_32s_1_11_0 s hs) (by omega) ?_
        refine dq_isub (e := dW ((dG N10 2049) - (dG N10 (65547 + 26624 * s)))) e_45_118 rfl ?_
        refine dq_aload e_45_119 l0 ?_
        obtain ⟨N26, v27, c28, h⟩ := dbd_inv h
        have q29 := qX3_latency_R (xs := xs) (Ln := Ln) S14 c28
        have S30 : dS N26 := q29.2.1
        refine dq_calli (as := []) (S := [.int (dI (dW ((dG N10 2049) - (dG N10 (65547 + 26624 * s)))))]) (nx := 123) e_45_120 rfl rfl rfl S14 ak_1_3 rfl rfl rfl rfl q29 rfl ?_
        have r31 : dR v27 := q29.2.2
        by_cases c32 : dW ((dG N10 2049) - (dG N10 (65547 + 26624 * s))) < v27
        · rw [if_pos c32] at h
          refine dq_icF e_45_123 (dW_R _) r31 (dnf c32) ?_
          exact qX3_tokenComes_RSC_b126 S30 hs l0 l1 h
        · rw [if_neg c32] at h
          refine dq_icT e_45_123 (dW_R _) r31 (dnt c32) ?_
          refine dq_aload e_45_149 l1 ?_
          refine dq_aload e_45_150 l0 ?_
          refine dq_getI (key := 2049) e_45_151 S30 ac_1_3_1_0 (by omega) ?_
          obtain ⟨N41, v42, c43, h⟩ := dbd_inv h
          have q44 := qX5_takeToken_S (xs := xs) (Ln := Ln) S30 hs (dG_R _ _) c43
          have S45 : dS N41 := q44.2.1
          refine dq_callv (as := [.int (dI (dG N26 2049))]) (S := []) (nx := 157) e_45_154 rfl rfl rfl S30 (ak_28s_5 s hs) rfl rfl rfl rfl q44 rfl ?_
          cases h
          exact dq_retv e_45_157 rfl S45
      · rw [if_neg c25] at h
        refine dq_ifT e_45_104 (dG_R _ _) (dnt c25) ?_
        exact qX3_tokenComes_RSC_b126 S14 hs l0 l1 h
  · rw [if_neg c9] at h
    refine dq_icT e_45_60 (dG_R _ _) (⟨by decide, by decide⟩) (dnt c9) ?_
    exact qX3_tokenComes_RSC_b74 hS hs l0 l1 h
noncomputable def fX3_tokenComes_RSC (N : mMem) (s : Nat) : Option dZ := (if dG N (57348 + 26624 * s) = 2 then dbd (fX0_isSame_CE N s) fun N2 v3 => (if v3 = 0 then fX3_tokenComes_RSC_b55 N2 s else dbd (fX5_goUp_SC N2 s (dG N2 2049)) fun N46 v47 => dbd (fX3_note_Rc7 N46 (s : Int) (dG N46 55297)) fun N51 v52 => dbd (fX3_send_RC N51 (s : Int) 2) fun N56 v57 => some (N56, 0)) else fX3_tokenComes_RSC_b55 N s)
theorem qX3_tokenComes_RSC {N : mMem} {s : Nat} {z : dZ} (hS : dS N) (hs : s < 8) (h : fX3_tokenComes_RSC N s = some z) : dQ xs Ln 0 2 48 45 (0, lv_args 0 [.ref 1, .ref (28 + 13 * s), .ref 27], [], N) z := by
  unfold fX3_tokenComes_RSC at h
  have l0 : mLk (lv_args 0 [.ref 1, .ref (28 + 13 * s), .ref 27]) 0 = some (.ref 1) := rfl
  have l1 : mLk (lv_args 0 [.ref 1, .ref (28 + 13 * s), .ref 27]) 1 = some (.ref (28 + 13 * s)) := rfl
  have l2 : mLk (lv_args 0 [.ref 1, .ref (28 + 13 * s), .ref 27]) 2 = some (.ref 27) := rfl
  generalize lv_args 0 [.ref 1, .ref (28 + 13 * s), .ref 27] = Nl at l0 l1 l2 ⊢
  refine dq_aload e_45_0 l1 ?_
  refine dq_getI (key := (57348 + 26624 * s)) e_45_1 hS (ac_28s_5_4_0 s hs) (by omega) ?_
  refine dq_iconst e_45_4 ?_
  by_cases c1 : dG N (57348 + 26624 * s) = 2
  · rw [if_pos c1] at h
    refine dq_icF e_45_5 (dG_R _ _) (⟨by decide, by decide⟩) (dnf c1) ?_
    refine dq_aload e_45_8 l2 ?_
    refine dq_aload e_45_9 l1 ?_
    refine dq_getR e_45_10 hS (ac_28s_5_7_2 s hs) ?_
    obtain ⟨N2, v3, c4, h⟩ := dbd_inv h
    have q5 := qX0_isSame_CE (xs := xs) (Ln := Ln) hS hs c4
    have S6 : dS N2 := q5.2.1
    refine dq_calli (as := [.ref (30 + 13 * s)]) (S := []) (nx := 16) e_45_13 rfl rfl rfl hS ak_27_0 rfl rfl rfl rfl q5 rfl ?_
    have r7 : dR v3 := q5.2.2
    by_cases c8 : v3 = 0
    · rw [if_pos c8] at h
      refine dq_ifT e_45_16 r7 (decide_eq_true c8) ?_
      exact qX3_tokenComes_RSC_b55 S6 hs l0 l1 l2 h
    · rw [if_neg c8] at h
      refine dq_ifF e_45_16 r7 (decide_eq_false c8) ?_
      refine dq_aload e_45_19 l1 ?_
      refine dq_aload e_45_20 l2 ?_
      refine dq_aload e_45_21 l0 ?_
      refine dq_getI (key := 2049) e_45_22 S6 ac_1_3_1_0 (by omega) ?_
      obtain ⟨N46, v47, c48, h⟩ := dbd_inv h
      have q49 := qX5_goUp_SC (xs := xs) (Ln := Ln) S6 hs (dG_R _ _) c48
      have S50 : dS N46 := q49.2.1
      refine dq_callv (as := [.ref 27, .int (dI (dG N2 2049))]) (S := []) (nx := 28) e_45_25 rfl rfl rfl S6 (ak_28s_5 s hs) rfl rfl rfl rfl q49 rfl ?_
      refine dq_aload e_45_28 l0 ?_
      refine dq_iconst e_45_29 ?_
      refine dq_aload e_45_31 l1 ?_
      refine dq_getC (e := (s : Int)) e_45_32 S50 (ac_28s_5_0_1 s hs) rfl ?_
      refine dq_aload e_45_35 l2 ?_
      refine dq_getI (key := 55297) e_45_36 S50 ac_27_0_1_0 (by omega) ?_
      obtain ⟨N51, v52, c53, h⟩ := dbd_inv h
      have q54 := qX3_note_Rc7 (xs := xs) (Ln := Ln) S50 (⟨by omega, by omega⟩) (dG_R _ _) c53
      have S55 : dS N51 := q54.2.1
      refine dq_callv (as := [.int (dI 7), .int (dI (s : Int)), .int (dI (dG N46 55297))]) (S := []) (nx := 42) e_45_39 rfl rfl rfl S50 ak_1_3 rfl rfl rfl rfl q54 rfl ?_
      refine dq_aload e_45_42 l0 ?_
      refine dq_aload e_45_43 l1 ?_
      refine dq_getC (e := (s : Int)) e_45_44 S55 (ac_28s_5_0_1 s hs) rfl ?_
      refine dq_iconst e_45_47 ?_
      refine dq_aload e_45_48 l2 ?_
      obtain ⟨N56, v57, c58, h⟩ := dbd_inv h
      have q59 := qX3_send_RC (xs := xs) (Ln := Ln) S55 (⟨by omega, by omega⟩) (⟨by decide, by decide⟩) c58
      have S60 : dS N56 := q59.2.1
      refine dq_callv (as := [.int (dI (s : Int)), .int (dI 2), .ref 27]) (S := []) (nx := 52) e_45_49 rfl rfl rfl S55 ak_1_3 rfl rfl rfl rfl q59 rfl ?_
      refine dq_goto e_45_52 ?_
      cases h
      exact dq_retv e_45_157 rfl S60
  · rw [if_neg c1] at h
    refine dq_icT e_45_5 (dG_R _ _) (⟨by decide, by decide⟩) (dnt c1) ?_
    exact qX3_tokenComes_RSC_b55 hS hs l0 l1 l2 h
noncomputable def fX3_comes_R (N : mMem) (x1 : Int) : Option dZ := dbd (fX4_at_Pc1 N x1) fun N1 v2 => dbd (fX3_has_R N1 v2) fun N12 v13 => (if v13 = 0 then some (N12, 0) else dbd (fX4_at_Pc0 N12 x1) fun N19 v20 => dbd (fX4_at_Pc4 N19 x1) fun N31 v32 => dbd (fX4_at_Pc3 N31 x1) fun N37 v38 => dbd (fX4_at_Pc5 N37 x1) fun N43 v44 => dbd (fX0_become_C N43 v32 v38 v44) fun N49 v50 => dbd (fX4_remove_P N49 x1) fun N54 v55 => dbd (fX3_after_R N54 v2) fun N59 v60 => dgd (0 ≤ v60 ∧ v60 < 8) <| dln (v60).toNat fun u66 => (if dG N59 (57347 + 26624 * u66) = 0 then (if v20 = 0 then dbd (fX3_claimComes_RSC N59 u66) fun N74 v75 => some (N74, 0) else (if v20 = 1 then none else dbd (fX3_tokenComes_RSC N59 u66) fun N80 v81 => some (N80, 0))) else dbd (fX3_send_RC N59 (u66 : Int) v20) fun N85 v86 => some (N85, 0)))
theorem qX3_comes_R {N : mMem} {x1 : Int} {z : dZ} (hS : dS N) (rx1 : dR x1) (h : fX3_comes_R N x1 = some z) : dQ xs Ln 0 4 93 41 (0, lv_args 0 [.ref 1, .int (dI x1)], [], N) z := by
  unfold fX3_comes_R at h
  have l0 : mLk (lv_args 0 [.ref 1, .int (dI x1)]) 0 = some (.ref 1) := rfl
  have l1 : mLk (lv_args 0 [.ref 1, .int (dI x1)]) 1 = some (.int (dI x1)) := rfl
  generalize lv_args 0 [.ref 1, .int (dI x1)] = Nl at l0 l1 ⊢
  refine dq_aload e_41_0 l0 ?_
  refine dq_getR e_41_1 hS ac_1_3_7_2 ?_
  refine dq_iload e_41_4 l1 ?_
  refine dq_iconst e_41_5 ?_
  obtain ⟨N1, v2, c3, h⟩ := dbd_inv h
  have q4 := qX4_at_Pc1 (xs := xs) (Ln := Ln) hS rx1 c3
  have S5 : dS N1 := q4.2.1
  refine dq_calli (as := [.int (dI x1), .int (dI 1)]) (S := []) (nx := 9) e_41_6 rfl rfl rfl hS ak_5_4 rfl rfl rfl rfl q4 rfl ?_
  have r6 : dR v2 := q4.2.2
  refine dq_istore e_41_9 rfl (fun K7 m8 mm9 => ?_)
  have m10 := mm9 0 _ (by decide) rfl l0
  have m11 := mm9 1 _ (by decide) rfl l1
  refine dq_aload e_41_10 m10 ?_
  refine dq_iload e_41_11 m8 ?_
  obtain ⟨N12, v13, c14, h⟩ := dbd_inv h
  have q15 := qX3_has_R (xs := xs) (Ln := Ln) S5 r6 c14
  have S16 : dS N12 := q15.2.1
  refine dq_calli (as := [.int (dI v2)]) (S := []) (nx := 15) e_41_12 rfl rfl rfl S5 ak_1_3 rfl rfl rfl rfl q15 rfl ?_
  have r17 : dR v13 := q15.2.2
  by_cases c18 : v13 = 0
  · rw [if_pos c18] at h
    refine dq_ifF e_41_15 r17 (dnf c18) ?_
    cases h
    exact dq_retv e_41_18 rfl S16
  · rw [if_neg c18] at h
    refine dq_ifT e_41_15 r17 (dnt c18) ?_
    refine dq_aload e_41_19 m10 ?_
    refine dq_getR e_41_20 S16 ac_1_3_7_2 ?_
    refine dq_iload e_41_23 m11 ?_
    refine dq_iconst e_41_24 ?_
    obtain ⟨N19, v20, c21, h⟩ := dbd_inv h
    have q22 := qX4_at_Pc0 (xs := xs) (Ln := Ln) S16 rx1 c21
    have S23 : dS N19 := q22.2.1
    refine dq_calli (as := [.int (dI x1), .int (dI 0)]) (S := []) (nx := 28) e_41_25 rfl rfl rfl S16 ak_5_4 rfl rfl rfl rfl q22 rfl ?_
    have r24 : dR v20 := q22.2.2
    refine dq_istore e_41_28 rfl (fun K25 m26 mm27 => ?_)
    have m28 := mm27 0 _ (by decide) rfl m10
    have m29 := mm27 1 _ (by decide) rfl m11
    have m30 := mm27 2 _ (by decide) rfl m8
    refine dq_aload e_41_29 m28 ?_
    refine dq_getR e_41_30 S23 ac_1_3_11_2 ?_
    refine dq_aload e_41_33 m28 ?_
    refine dq_getR e_41_34 S23 ac_1_3_7_2 ?_
    refine dq_iload e_41_37 m29 ?_
    refine dq_iconst e_41_38 ?_
    obtain ⟨N31, v32, c33, h⟩ := dbd_inv h
    have q34 := qX4_at_Pc4 (xs := xs) (Ln := Ln) S23 rx1 c33
    have S35 : dS N31 := q34.2.1
    refine dq_calli (as := [.int (dI x1), .int (dI 4)]) (S := [.ref 27]) (nx := 42) e_41_39 rfl rfl rfl S23 ak_5_4 rfl rfl rfl rfl q34 rfl ?_
    have r36 : dR v32 := q34.2.2
    refine dq_aload e_41_42 m28 ?_
    refine dq_getR e_41_43 S35 ac_1_3_7_2 ?_
    refine dq_iload e_41_46 m29 ?_
    refine dq_iconst e_41_47 ?_
    obtain ⟨N37, v38, c39, h⟩ := dbd_inv h
    have q40 := qX4_at_Pc3 (xs := xs) (Ln := Ln) S35 rx1 c39
    have S41 : dS N37 := q40.2.1
    refine dq_calli (as := [.int (dI x1), .int (dI 3)]) (S := [.int (dI v32), .ref 27]) (nx := 51) e_41_48 rfl rfl rfl S35 ak_5_4 rfl rfl rfl rfl q40 rfl ?_
    have r42 : dR v38 := q40.2.2
    refine dq_aload e_41_51 m28 ?_
    refine dq_getR e_41_52 S41 ac_1_3_7_2 ?_
    refine dq_iload e_41_55 m29 ?_
    refine dq_iconst e_41_56 ?_
    obtain ⟨N43, v44, c45, h⟩ := dbd_inv h
    have q46 := qX4_at_Pc5 (xs := xs) (Ln := Ln) S41 rx1 c45
    have S47 : dS N43 := q46.2.1
    refine dq_calli (as := [.int (dI x1), .int (dI 5)]) (S := [.int (dI v38), .int (dI v32), .ref 27]) (nx := 60) e_41_57 rfl rfl rfl S41 ak_5_4 rfl rfl rfl rfl q46 rfl ?_
    have r48 : dR v44 := q46.2.2
    obtain ⟨N49, v50, c51, h⟩ := dbd_inv h
    have q52 := qX0_become_C (xs := xs) (Ln := Ln) S47 r36 r42 r48 c51
    have S53 : dS N49 := q52.2.1
    refine dq_callv (as := [.int (dI v32), .int (dI v38), .int (dI v44)]) (S := []) (nx := 63) e_41_60 rfl rfl rfl S47 ak_27_0 rfl rfl rfl rfl q52 rfl ?_
    refine dq_aload e_41_63 m28 ?_
    refine dq_getR e_41_64 S53 ac_1_3_7_2 ?_
    refine dq_iload e_41_67 m29 ?_
    obtain ⟨N54, v55, c56, h⟩ := dbd_inv h
    have q57 := qX4_remove_P (xs := xs) (Ln := Ln) S53 rx1 c56
    have S58 : dS N54 := q57.2.1
    refine dq_callv (as := [.int (dI x1)]) (S := []) (nx := 71) e_41_68 rfl rfl rfl S53 ak_5_4 rfl rfl rfl rfl q57 rfl ?_
    refine dq_aload e_41_71 m28 ?_
    refine dq_getR e_41_72 S58 ac_1_3_6_2 ?_
    refine dq_aload e_41_75 m28 ?_
    refine dq_iload e_41_76 m30 ?_
    obtain ⟨N59, v60, c61, h⟩ := dbd_inv h
    have q62 := qX3_after_R (xs := xs) (Ln := Ln) S58 r6 c61
    have S63 : dS N59 := q62.2.1
    refine dq_calli (as := [.int (dI v2)]) (S := [.ref 4]) (nx := 80) e_41_77 rfl rfl rfl S58 ak_1_3 rfl rfl rfl rfl q62 rfl ?_
    have r64 : dR v60 := q62.2.2
    obtain ⟨g65, h⟩ := dgd_inv h
    refine dq_aals h e_41_80 S63 r64 g65.1 g65.2 (fun u66 hu66 ku66 h => ?_)
    refine dq_astore e_41_81 rfl (fun K67 m68 mm69 => ?_)
    have m70 := mm69 0 _ (by decide) rfl m28
    have m71 := mm69 3 _ (by decide) rfl m26
    refine dq_aload e_41_83 m68 ?_
    refine dq_getI (key := (57347 + 26624 * u66)) e_41_85 S63 (ac_28s_5_3_0 u66 hu66) (by omega) ?_
    by_cases c72 : dG N59 (57347 + 26624 * u66) = 0
    · rw [if_pos c72] at h
      refine dq_ifT e_41_88 (dG_R _ _) (decide_eq_true c72) ?_
      refine dq_iload e_41_108 m71 ?_
      by_cases c73 : v20 = 0
      · rw [if_pos c73] at h
        refine dq_ifF e_41_109 r24 (dnf c73) ?_
        refine dq_aload e_41_112 m70 ?_
        refine dq_aload e_41_113 m68 ?_
        refine dq_aload e_41_115 m70 ?_
        refine dq_getR e_41_116 S63 ac_1_3_11_2 ?_
        obtain ⟨N74, v75, c76, h⟩ := dbd_inv h
        have q77 := qX3_claimComes_RSC (xs := xs) (Ln := Ln) S63 hu66 c76
        have S78 : dS N74 := q77.2.1
        refine dq_callv (as := [.ref (28 + 13 * u66), .ref 27]) (S := []) (nx := 122) e_41_119 rfl rfl rfl S63 ak_1_3 rfl rfl rfl rfl q77 rfl ?_
        refine dq_goto e_41_122 ?_
        cases h
        exact dq_retv e_41_153 rfl S78
      · rw [if_neg c73] at h
        refine dq_ifT e_41_109 r24 (dnt c73) ?_
        refine dq_iload e_41_125 m71 ?_
        refine dq_iconst e_41_126 ?_
        by_cases c79 : v20 = 1
        · rw [if_pos c79] at h
          refine dq_icF e_41_127 r24 (⟨by decide, by decide⟩) (dnf c79) ?_
          refine dq_aload e_41_130 m70 ?_
          refine dq_aload e_41_131 m68 ?_
          refine dq_aload e_41_133 m70 ?_
          refine dq_getR e_41_134 S63 ac_1_3_11_2 ?_
          cases h
        · rw [if_neg c79] at h
          refine dq_icT e_41_127 r24 (⟨by decide, by decide⟩) (dnt c79) ?_
          refine dq_aload e_41_143 m70 ?_
          refine dq_aload e_41_144 m68 ?_
          refine dq_aload e_41_146 m70 ?_
          refine dq_getR e_41_147 S63 ac_1_3_11_2 ?_
          obtain ⟨N80, v81, c82, h⟩ := dbd_inv h
          have q83 := qX3_tokenComes_RSC (xs := xs) (Ln := Ln) S63 hu66 c82
          have S84 : dS N80 := q83.2.1
          refine dq_callv (as := [.ref (28 + 13 * u66), .ref 27]) (S := []) (nx := 153) e_41_150 rfl rfl rfl S63 ak_1_3 rfl rfl rfl rfl q83 rfl ?_
          cases h
          exact dq_retv e_41_153 rfl S84
    · rw [if_neg c72] at h
      refine dq_ifF e_41_88 (dG_R _ _) (decide_eq_false c72) ?_
      refine dq_aload e_41_91 m70 ?_
      refine dq_aload e_41_92 m68 ?_
      refine dq_getC (e := (u66 : Int)) e_41_94 S63 (ac_28s_5_0_1 u66 hu66) rfl ?_
      refine dq_iload e_41_97 m71 ?_
      refine dq_aload e_41_98 m70 ?_
      refine dq_getR e_41_99 S63 ac_1_3_11_2 ?_
      obtain ⟨N85, v86, c87, h⟩ := dbd_inv h
      have q88 := qX3_send_RC (xs := xs) (Ln := Ln) S63 (⟨by omega, by omega⟩) r24 c87
      have S89 : dS N85 := q88.2.1
      refine dq_callv (as := [.int (dI (u66 : Int)), .int (dI v20), .ref 27]) (S := []) (nx := 105) e_41_102 rfl rfl rfl S63 ak_1_3 rfl rfl rfl rfl q88 rfl ?_
      refine dq_goto e_41_105 ?_
      cases h
      exact dq_retv e_41_153 rfl S89
noncomputable def fX3_note_Rc6 (N : mMem) (x2 : Int) (x3 : Int) : Option dZ := dbd (fX2_opn_G N) fun N1 v2 => dbd (fX2_put_Gc0 N1 (dG N1 2049)) fun N6 v7 => dbd (fX2_put_Gc1 N6 6) fun N11 v12 => dbd (fX2_put_Gc2 N11 x2) fun N16 v17 => dbd (fX2_put_Gc3 N16 x3) fun N21 v22 => some (N21, 0)
theorem qX3_note_Rc6 {N : mMem} {x2 : Int} {x3 : Int} {z : dZ} (hS : dS N) (rx2 : dR x2) (rx3 : dR x3) (h : fX3_note_Rc6 N x2 x3 = some z) : dQ xs Ln 0 1 22 35 (0, lv_args 0 [.ref 1, .int (dI 6), .int (dI x2), .int (dI x3)], [], N) z := by
  unfold fX3_note_Rc6 at h
  have l0 : mLk (lv_args 0 [.ref 1, .int (dI 6), .int (dI x2), .int (dI x3)]) 0 = some (.ref 1) := rfl
  have l1 : mLk (lv_args 0 [.ref 1, .int (dI 6), .int (dI x2), .int (dI x3)]) 1 = some (.int (dI 6)) := rfl
  have l2 : mLk (lv_args 0 [.ref 1, .int (dI 6), .int (dI x2), .int (dI x3)]) 2 = some (.int (dI x2)) := rfl
  have l3 : mLk (lv_args 0 [.ref 1, .int (dI 6), .int (dI x2), .int (dI x3)]) 3 = some (.int (dI x3)) := rfl
  generalize lv_args 0 [.ref 1, .int (dI 6), .int (dI x2), .int (dI x3)] = Nl at l0 l1 l2 l3 ⊢
  refine dq_aload e_35_0 l0 ?_
  refine dq_getR e_35_1 hS ac_1_3_8_2 ?_
  obtain ⟨N1, v2, c3, h⟩ := dbd_inv h
  have q4 := qX2_opn_G (xs := xs) (Ln := Ln) hS c3
  have S5 : dS N1 := q4.2.1
  refine dq_callv (as := []) (S := []) (nx := 7) e_35_4 rfl rfl rfl hS ak_13_2 rfl rfl rfl rfl q4 rfl ?_
  refine dq_aload e_35_7 l0 ?_
  refine dq_getR e_35_8 S5 ac_1_3_8_2 ?_
  refine dq_iconst e_35_11 ?_
  refine dq_aload e_35_12 l0 ?_
  refine dq_getI (key := 2049) e_35_13 S5 ac_1_3_1_0 (by omega) ?_
  obtain ⟨N6, v7, c8, h⟩ := dbd_inv h
  have q9 := qX2_put_Gc0 (xs := xs) (Ln := Ln) S5 (dG_R _ _) c8
  have S10 : dS N6 := q9.2.1
  refine dq_callv (as := [.int (dI 0), .int (dI (dG N1 2049))]) (S := []) (nx := 19) e_35_16 rfl rfl rfl S5 ak_13_2 rfl rfl rfl rfl q9 rfl ?_
  refine dq_aload e_35_19 l0 ?_
  refine dq_getR e_35_20 S10 ac_1_3_8_2 ?_
  refine dq_iconst e_35_23 ?_
  refine dq_iload e_35_24 l1 ?_
  obtain ⟨N11, v12, c13, h⟩ := dbd_inv h
  have q14 := qX2_put_Gc1 (xs := xs) (Ln := Ln) S10 (⟨by decide, by decide⟩) c13
  have S15 : dS N11 := q14.2.1
  refine dq_callv (as := [.int (dI 1), .int (dI 6)]) (S := []) (nx := 28) e_35_25 rfl rfl rfl S10 ak_13_2 rfl rfl rfl rfl q14 rfl ?_
  refine dq_aload e_35_28 l0 ?_
  refine dq_getR e_35_29 S15 ac_1_3_8_2 ?_
  refine dq_iconst e_35_32 ?_
  refine dq_iload e_35_33 l2 ?_
  obtain ⟨N16, v17, c18, h⟩ := dbd_inv h
  have q19 := qX2_put_Gc2 (xs := xs) (Ln := Ln) S15 rx2 c18
  have S20 : dS N16 := q19.2.1
  refine dq_callv (as := [.int (dI 2), .int (dI x2)]) (S := []) (nx := 37) e_35_34 rfl rfl rfl S15 ak_13_2 rfl rfl rfl rfl q19 rfl ?_
  refine dq_aload e_35_37 l0 ?_
  refine dq_getR e_35_38 S20 ac_1_3_8_2 ?_
  refine dq_iconst e_35_41 ?_
  refine dq_iload e_35_42 l3 ?_
  obtain ⟨N21, v22, c23, h⟩ := dbd_inv h
  have q24 := qX2_put_Gc3 (xs := xs) (Ln := Ln) S20 rx3 c23
  have S25 : dS N21 := q24.2.1
  refine dq_callv (as := [.int (dI 3), .int (dI x3)]) (S := []) (nx := 46) e_35_43 rfl rfl rfl S20 ak_13_2 rfl rfl rfl rfl q24 rfl ?_
  cases h
  exact dq_retv e_35_46 rfl S25
noncomputable def fX3_goOnStreaming_RS_b70 (N : mMem) (s : Nat) : Option dZ := some (dP N (63490 + 26624 * s) (dG N (63489 + 26624 * s)), 0)
theorem qX3_goOnStreaming_RS_b70 {Nl : List (Nat × Value)} {N : mMem} {s : Nat} {z : dZ} (hS : dS N) (hs : s < 8) (l2 : mLk Nl 2 = some (.ref (31 + 13 * s))) (h : fX3_goOnStreaming_RS_b70 N s = some z) : dQ xs Ln 0 2 45 46 (70, Nl, [], N) z := by
  unfold fX3_goOnStreaming_RS_b70 at h
  refine dq_aload e_46_70 l2 ?_
  refine dq_aload e_46_71 l2 ?_
  refine dq_getI (key := (63489 + 26624 * s)) e_46_72 hS (ac_31s_6_1_0 s hs) (by omega) ?_
  have S26 := dS_P (v := dG N (63489 + 26624 * s)) hS (ac_31s_6_2_0 s hs) (show (31 + 13 * s) * 2048 + 2 = (63490 + 26624 * s) by omega)
  refine dq_put (key := (63490 + 26624 * s)) e_46_75 hS (ac_31s_6_2_0 s hs) rfl (by omega) ?_
  cases h
  exact dq_retv e_46_78 rfl S26
noncomputable def fX3_goOnStreaming_RS (N : mMem) (s : Nat) : Option dZ := (if dG N (57347 + 26624 * s) = 0 then (if 0 < dG N (63488 + 26624 * s) then dgd ((0 : Int) ≤ dG N 2049 ∧ (0 : Int) < dG N (63488 + 26624 * s)) <| (if (dG N 2049) % (dG N (63488 + 26624 * s)) = 0 then (if 0 < dG N (63490 + 26624 * s) then dlt (dP N (81920 + 26624 * s) (dW ((dG N (81920 + 26624 * s)) + 1))) fun N14 => dbd (fX3_note_Rc6 N14 (s : Int) (dG N14 (63490 + 26624 * s))) fun N16 v17 => dbd (fX1_voidRest_H N16 s) fun N21 v22 => fX3_goOnStreaming_RS_b70 N21 s else fX3_goOnStreaming_RS_b70 N s) else some (N, 0)) else some (N, 0)) else some (N, 0))
theorem qX3_goOnStreaming_RS {N : mMem} {s : Nat} {z : dZ} (hS : dS N) (hs : s < 8) (h : fX3_goOnStreaming_RS N s = some z) : dQ xs Ln 0 2 45 46 (0, lv_args 0 [.ref 1, .ref (28 + 13 * s)], [], N) z := by
  unfold fX3_goOnStreaming_RS at h
  have l0 : mLk (lv_args 0 [.ref 1, .ref (28 + 13 * s)]) 0 = some (.ref 1) := rfl
  have l1 : mLk (lv_args 0 [.ref 1, .ref (28 + 13 * s)]) 1 = some (.ref (28 + 13 * s)) := rfl
  generalize lv_args 0 [.ref 1, .ref (28 + 13 * s)] = Nl at l0 l1 ⊢
  refine dq_aload e_46_0 l1 ?_
  refine dq_getR e_46_1 hS (ac_28s_5_15_2 s hs) ?_
  refine dq_astore e_46_4 rfl (fun K1 m2 mm3 => ?_)
  have m4 := mm3 0 _ (by decide) rfl l0
  have m5 := mm3 1 _ (by decide) rfl l1
  refine dq_aload e_46_5 m5 ?_
  refine dq_getI (key := (57347 + 26624 * s)) e_46_6 hS (ac_28s_5_3_0 s hs) (by omega) ?_
  by_cases c6 : dG N (57347 + 26624 * s) = 0
  · rw [if_pos c6] at h
    refine dq_ifF e_46_9 (dG_R _ _) (dnf c6) ?_
    refine dq_aload e_46_12 m2 ?_
    refine dq_getI (key := (63488 + 26624 * s)) e_46_13 hS (ac_31s_6_0_0 s hs) (by omega) ?_
    by_cases c7 : 0 < dG N (63488 + 26624 * s)
    · rw [if_pos c7] at h
      refine dq_ifF e_46_16 (dG_R _ _) (dnf c7) ?_
      refine dq_aload e_46_19 m4 ?_
      refine dq_getI (key := 2049) e_46_20 hS ac_1_3_1_0 (by omega) ?_
      refine dq_aload e_46_23 m2 ?_
      refine dq_getI (key := (63488 + 26624 * s)) e_46_24 hS (ac_31s_6_0_0 s hs) (by omega) ?_
      obtain ⟨⟨g8, g9⟩, h⟩ := dgd_inv h
      have r10 : dR ((dG N 2049) % (dG N (63488 + 26624 * s))) := ⟨by have := Int.emod_nonneg (dG N 2049) (show dG N (63488 + 26624 * s) ≠ (0 : Int) by omega); omega, by have := Int.emod_lt_of_pos (dG N 2049) g9; have := (show dR (dG N (63488 + 26624 * s)) from dG_R _ _).2; omega⟩
      refine dq_irem e_46_27 (dG_R _ _) (dG_R _ _) g8 g9 rfl ?_
      by_cases c11 : (dG N 2049) % (dG N (63488 + 26624 * s)) = 0
      · rw [if_pos c11] at h
        refine dq_ifT e_46_28 r10 (decide_eq_true c11) ?_
        refine dq_aload e_46_32 m2 ?_
        refine dq_getI (key := (63490 + 26624 * s)) e_46_33 hS (ac_31s_6_2_0 s hs) (by omega) ?_
        by_cases c12 : 0 < dG N (63490 + 26624 * s)
        · rw [if_pos c12] at h
          refine dq_ifF e_46_36 (dG_R _ _) (dnf c12) ?_
          refine dq_aload e_46_39 m5 ?_
          refine dq_getR e_46_40 hS (ac_28s_5_18_2 s hs) ?_
          refine dq_iconst e_46_43 ?_
          refine dq_dup2 e_46_44 rfl rfl ?_
          refine dq_ial (key := (81920 + 26624 * s)) e_46_45 hS (aa_40s s hs) (⟨by decide, by decide⟩) (by decide) (by decide) (by show (40 + 13 * s) * 2048 + 0 = (81920 + 26624 * s); omega) ?_
          refine dq_iconst e_46_46 ?_
          refine dq_iadd (e := dW ((dG N (81920 + 26624 * s)) + 1)) e_46_47 rfl ?_
          have S13 := dS_A (v := dW ((dG N (81920 + 26624 * s)) + 1)) (k := (0 : Int).toNat) (key := (81920 + 26624 * s)) hS (aa_40s s hs) (by decide) (by show (40 + 13 * s) * 2048 + 0 = (81920 + 26624 * s); omega)
          refine dq_ias (key := (81920 + 26624 * s)) e_46_48 hS (aa_40s s hs) (⟨by decide, by decide⟩) (by decide) (by decide) (by show (40 + 13 * s) * 2048 + 0 = (81920 + 26624 * s); omega) ?_
          refine dq_aload e_46_49 m4 ?_
          refine dq_iconst e_46_50 ?_
          refine dq_aload e_46_52 m5 ?_
          refine dq_getC (e := (s : Int)) e_46_53 S13 (ac_28s_5_0_1 s hs) rfl ?_
          refine dq_aload e_46_56 m2 ?_
          refine dq_let h S13 (fun N14 S15 h => ?_)
          refine dq_getI (key := (63490 + 26624 * s)) e_46_57 S15 (ac_31s_6_2_0 s hs) (by omega) ?_
          obtain ⟨N16, v17, c18, h⟩ := dbd_inv h
          have q19 := qX3_note_Rc6 (xs := xs) (Ln := Ln) S15 (⟨by omega, by omega⟩) (dG_R _ _) c18
          have S20 : dS N16 := q19.2.1
          refine dq_callv (as := [.int (dI 6), .int (dI (s : Int)), .int (dI (dG N14 (63490 + 26624 * s)))]) (S := []) (nx := 63) e_46_60 rfl rfl rfl S15 ak_1_3 rfl rfl rfl rfl q19 rfl ?_
          refine dq_aload e_46_63 m5 ?_
          refine dq_getR e_46_64 S20 (ac_28s_5_16_2 s hs) ?_
          obtain ⟨N21, v22, c23, h⟩ := dbd_inv h
          have q24 := qX1_voidRest_H (xs := xs) (Ln := Ln) S20 hs c23
          have S25 : dS N21 := q24.2.1
          refine dq_callv (as := []) (S := []) (nx := 70) e_46_67 rfl rfl rfl S20 (ak_32s_1 s hs) rfl rfl rfl rfl q24 rfl ?_
          exact qX3_goOnStreaming_RS_b70 S25 hs m2 h
        · rw [if_neg c12] at h
          refine dq_ifT e_46_36 (dG_R _ _) (dnt c12) ?_
          exact qX3_goOnStreaming_RS_b70 hS hs m2 h
      · rw [if_neg c11] at h
        refine dq_ifF e_46_28 r10 (decide_eq_false c11) ?_
        cases h
        exact dq_retv e_46_31 rfl hS
    · rw [if_neg c7] at h
      refine dq_ifT e_46_16 (dG_R _ _) (dnt c7) ?_
      cases h
      exact dq_retv e_46_31 rfl hS
  · rw [if_neg c6] at h
    refine dq_ifT e_46_9 (dG_R _ _) (dnt c6) ?_
    cases h
    exact dq_retv e_46_31 rfl hS
noncomputable def fX3_watchDue_RS (N : mMem) (s : Nat) : Option dZ := (if dG N (57356 + 26624 * s) = dG N 2049 then dlt (dP N (57356 + 26624 * s) (dW ((dG N 2049) + (dG N (59392 + 26624 * s))))) fun N3 => (if dG N3 (57357 + 26624 * s) = 1 then dbd (fX3_beginToClaim_RSN N3 s) fun N6 v7 => some (N6, 0) else some (dP N3 (57357 + 26624 * s) 1, 0)) else some (N, 0))
theorem qX3_watchDue_RS {N : mMem} {s : Nat} {z : dZ} (hS : dS N) (hs : s < 8) (h : fX3_watchDue_RS N s = some z) : dQ xs Ln 0 3 70 50 (0, lv_args 0 [.ref 1, .ref (28 + 13 * s)], [], N) z := by
  unfold fX3_watchDue_RS at h
  have l0 : mLk (lv_args 0 [.ref 1, .ref (28 + 13 * s)]) 0 = some (.ref 1) := rfl
  have l1 : mLk (lv_args 0 [.ref 1, .ref (28 + 13 * s)]) 1 = some (.ref (28 + 13 * s)) := rfl
  generalize lv_args 0 [.ref 1, .ref (28 + 13 * s)] = Nl at l0 l1 ⊢
  refine dq_aload e_50_0 l1 ?_
  refine dq_getI (key := (57356 + 26624 * s)) e_50_1 hS (ac_28s_5_12_0 s hs) (by omega) ?_
  refine dq_aload e_50_4 l0 ?_
  refine dq_getI (key := 2049) e_50_5 hS ac_1_3_1_0 (by omega) ?_
  by_cases c1 : dG N (57356 + 26624 * s) = dG N 2049
  · rw [if_pos c1] at h
    refine dq_icT e_50_8 (dG_R _ _) (dG_R _ _) (decide_eq_true c1) ?_
    refine dq_aload e_50_12 l1 ?_
    refine dq_aload e_50_13 l0 ?_
    refine dq_getI (key := 2049) e_50_14 hS ac_1_3_1_0 (by omega) ?_
    refine dq_aload e_50_17 l1 ?_
    refine dq_getR e_50_18 hS (ac_28s_5_6_2 s hs) ?_
    refine dq_getI (key := (59392 + 26624 * s)) e_50_21 hS (ac_29s_0_0_0 s hs) (by omega) ?_
    refine dq_iadd (e := dW ((dG N 2049) + (dG N (59392 + 26624 * s)))) e_50_24 rfl ?_
    have S2 := dS_P (v := dW ((dG N 2049) + (dG N (59392 + 26624 * s)))) hS (ac_28s_5_12_0 s hs) (show (28 + 13 * s) * 2048 + 12 = (57356 + 26624 * s) by omega)
    refine dq_put (key := (57356 + 26624 * s)) e_50_25 hS (ac_28s_5_12_0 s hs) rfl (by omega) ?_
    refine dq_aload e_50_28 l1 ?_
    refine dq_let h S2 (fun N3 S4 h => ?_)
    refine dq_getI (key := (57357 + 26624 * s)) e_50_29 S4 (ac_28s_5_13_0 s hs) (by omega) ?_
    refine dq_iconst e_50_32 ?_
    by_cases c5 : dG N3 (57357 + 26624 * s) = 1
    · rw [if_pos c5] at h
      refine dq_icF e_50_33 (dG_R _ _) (⟨by decide, by decide⟩) (dnf c5) ?_
      refine dq_aload e_50_36 l0 ?_
      refine dq_aload e_50_37 l1 ?_
      refine dq_null e_50_38 ?_
      obtain ⟨N6, v7, c8, h⟩ := dbd_inv h
      have q9 := qX3_beginToClaim_RSN (xs := xs) (Ln := Ln) S4 hs c8
      have S10 : dS N6 := q9.2.1
      refine dq_callv (as := [.ref (28 + 13 * s), .null]) (S := []) (nx := 42) e_50_39 rfl rfl rfl S4 ak_1_3 rfl rfl rfl rfl q9 rfl ?_
      refine dq_goto e_50_42 ?_
      cases h
      exact dq_retv e_50_50 rfl S10
    · rw [if_neg c5] at h
      refine dq_icT e_50_33 (dG_R _ _) (⟨by decide, by decide⟩) (dnt c5) ?_
      refine dq_aload e_50_45 l1 ?_
      refine dq_iconst e_50_46 ?_
      have S11 := dS_P (v := 1) S4 (ac_28s_5_13_0 s hs) (show (28 + 13 * s) * 2048 + 13 = (57357 + 26624 * s) by omega)
      refine dq_put (key := (57357 + 26624 * s)) e_50_47 S4 (ac_28s_5_13_0 s hs) rfl (by omega) ?_
      cases h
      exact dq_retv e_50_50 rfl S11
  · rw [if_neg c1] at h
    refine dq_icF e_50_8 (dG_R _ _) (dG_R _ _) (decide_eq_false c1) ?_
    cases h
    exact dq_retv e_50_11 rfl hS
noncomputable def fX3_isOutOfPatience_RS_b62 (N : mMem) : Option dZ := some (N, 0)
theorem qX3_isOutOfPatience_RS_b62 {Nl : List (Nat × Value)} {N : mMem} {z : dZ} (hS : dS N) (h : fX3_isOutOfPatience_RS_b62 N = some z) : dQ xs Ln 1 0 0 48 (62, Nl, [], N) z := by
  unfold fX3_isOutOfPatience_RS_b62 at h
  refine dq_iconst e_48_62 ?_
  cases h
  exact dq_reti (ty := .boolean) e_48_63 rfl (by decide +kernel) hS (⟨by decide, by decide⟩)
noncomputable def fX3_isOutOfPatience_RS (N : mMem) (s : Nat) : Option dZ := (if dG N (57348 + 26624 * s) = 2 then (if dW ((dG N 2049) - (dG N (57349 + 26624 * s))) < dG N 4097 then some (N, 0) else some (N, 1)) else (if dG N (57348 + 26624 * s) = 4 then (if dW ((dG N 2049) - (dG N (57354 + 26624 * s))) < dG N 4097 then fX3_isOutOfPatience_RS_b62 N else some (N, 1)) else fX3_isOutOfPatience_RS_b62 N))
theorem qX3_isOutOfPatience_RS {N : mMem} {s : Nat} {z : dZ} (hS : dS N) (hs : s < 8) (h : fX3_isOutOfPatience_RS N s = some z) : dQ xs Ln 1 0 0 48 (0, lv_args 0 [.ref 1, .ref (28 + 13 * s)], [], N) z := by
  unfold fX3_isOutOfPatience_RS at h
  have l0 : mLk (lv_args 0 [.ref 1, .ref (28 + 13 * s)]) 0 = some (.ref 1) := rfl
  have l1 : mLk (lv_args 0 [.ref 1, .ref (28 + 13 * s)]) 1 = some (.ref (28 + 13 * s)) := rfl
  generalize lv_args 0 [.ref 1, .ref (28 + 13 * s)] = Nl at l0 l1 ⊢
  refine dq_aload e_48_0 l1 ?_
  refine dq_getI (key := (57348 + 26624 * s)) e_48_1 hS (ac_28s_5_4_0 s hs) (by omega) ?_
  refine dq_iconst e_48_4 ?_
  by_cases c1 : dG N (57348 + 26624 * s) = 2
  · rw [if_pos c1] at h
    refine dq_icF e_48_5 (dG_R _ _) (⟨by decide, by decide⟩) (dnf c1) ?_
    refine dq_aload e_48_8 l0 ?_
    refine dq_getI (key := 2049) e_48_9 hS ac_1_3_1_0 (by omega) ?_
    refine dq_aload e_48_12 l1 ?_
    refine dq_getI (key := (57349 + 26624 * s)) e_48_13 hS (ac_28s_5_5_0 s hs) (by omega) ?_
    refine dq_isub (e := dW ((dG N 2049) - (dG N (57349 + 26624 * s)))) e_48_16 rfl ?_
    refine dq_aload e_48_17 l0 ?_
    refine dq_getR e_48_18 hS ac_1_3_4_2 ?_
    refine dq_iconst e_48_21 ?_
    refine dq_ial (key := 4097) e_48_22 hS aa_2 (⟨by decide, by decide⟩) (by decide) (by decide) (by show 2 * 2048 + 1 = 4097; omega) ?_
    by_cases c2 : dW ((dG N 2049) - (dG N (57349 + 26624 * s))) < dG N 4097
    · rw [if_pos c2] at h
      refine dq_icT e_48_23 (dW_R _) (dG_R _ _) (decide_eq_true c2) ?_
      refine dq_iconst e_48_30 ?_
      cases h
      exact dq_reti (ty := .boolean) e_48_31 rfl (by decide +kernel) hS (⟨by decide, by decide⟩)
    · rw [if_neg c2] at h
      refine dq_icF e_48_23 (dW_R _) (dG_R _ _) (decide_eq_false c2) ?_
      refine dq_iconst e_48_26 ?_
      refine dq_goto e_48_27 ?_
      cases h
      exact dq_reti (ty := .boolean) e_48_31 rfl (by decide +kernel) hS (⟨by decide, by decide⟩)
  · rw [if_neg c1] at h
    refine dq_icT e_48_5 (dG_R _ _) (⟨by decide, by decide⟩) (dnt c1) ?_
    refine dq_aload e_48_32 l1 ?_
    refine dq_getI (key := (57348 + 26624 * s)) e_48_33 hS (ac_28s_5_4_0 s hs) (by omega) ?_
    refine dq_iconst e_48_36 ?_
    by_cases c3 : dG N (57348 + 26624 * s) = 4
    · rw [if_pos c3] at h
      refine dq_icF e_48_37 (dG_R _ _) (⟨by decide, by decide⟩) (dnf c3) ?_
      refine dq_aload e_48_40 l0 ?_
      refine dq_getI (key := 2049) e_48_41 hS ac_1_3_1_0 (by omega) ?_
      refine dq_aload e_48_44 l1 ?_
      refine dq_getI (key := (57354 + 26624 * s)) e_48_45 hS (ac_28s_5_10_0 s hs) (by omega) ?_
      refine dq_isub (e := dW ((dG N 2049) - (dG N (57354 + 26624 * s)))) e_48_48 rfl ?_
      refine dq_aload e_48_49 l0 ?_
      refine dq_getR e_48_50 hS ac_1_3_4_2 ?_
      refine dq_iconst e_48_53 ?_
      refine dq_ial (key := 4097) e_48_54 hS aa_2 (⟨by decide, by decide⟩) (by decide) (by decide) (by show 2 * 2048 + 1 = 4097; omega) ?_
      by_cases c4 : dW ((dG N 2049) - (dG N (57354 + 26624 * s))) < dG N 4097
      · rw [if_pos c4] at h
        refine dq_icT e_48_55 (dW_R _) (dG_R _ _) (decide_eq_true c4) ?_
        exact qX3_isOutOfPatience_RS_b62 hS h
      · rw [if_neg c4] at h
        refine dq_icF e_48_55 (dW_R _) (dG_R _ _) (decide_eq_false c4) ?_
        refine dq_iconst e_48_58 ?_
        refine dq_goto e_48_59 ?_
        cases h
        exact dq_reti (ty := .boolean) e_48_63 rfl (by decide +kernel) hS (⟨by decide, by decide⟩)
    · rw [if_neg c3] at h
      refine dq_icT e_48_37 (dG_R _ _) (⟨by decide, by decide⟩) (dnt c3) ?_
      exact qX3_isOutOfPatience_RS_b62 hS h
noncomputable def fX3_sendAgain_RS (N : mMem) (s : Nat) : Option dZ := (if dG N (57348 + 26624 * s) = 3 then none else (if dG N (57348 + 26624 * s) = 2 then dbd (fX5_isBestOwn_S N s) fun N3 v4 => (if v4 = 0 then some (N3, 0) else dlt (dP N3 (57353 + 26624 * s) (dG N3 2049)) fun N11 => dbd (fX3_send_RE N11 s (s : Int) 0) fun N13 v14 => some (N13, 0)) else some (N, 0)))
theorem qX3_sendAgain_RS {N : mMem} {s : Nat} {z : dZ} (hS : dS N) (hs : s < 8) (h : fX3_sendAgain_RS N s = some z) : dQ xs Ln 0 2 48 49 (0, lv_args 0 [.ref 1, .ref (28 + 13 * s)], [], N) z := by
  unfold fX3_sendAgain_RS at h
  have l0 : mLk (lv_args 0 [.ref 1, .ref (28 + 13 * s)]) 0 = some (.ref 1) := rfl
  have l1 : mLk (lv_args 0 [.ref 1, .ref (28 + 13 * s)]) 1 = some (.ref (28 + 13 * s)) := rfl
  generalize lv_args 0 [.ref 1, .ref (28 + 13 * s)] = Nl at l0 l1 ⊢
  refine dq_aload e_49_0 l1 ?_
  refine dq_getI (key := (57348 + 26624 * s)) e_49_1 hS (ac_28s_5_4_0 s hs) (by omega) ?_
  refine dq_iconst e_49_4 ?_
  by_cases c1 : dG N (57348 + 26624 * s) = 3
  · rw [if_pos c1] at h
    refine dq_icF e_49_5 (dG_R _ _) (⟨by decide, by decide⟩) (dnf c1) ?_
    refine dq_aload e_49_8 l0 ?_
    refine dq_aload e_49_9 l1 ?_
    cases h
  · rw [if_neg c1] at h
    refine dq_icT e_49_5 (dG_R _ _) (⟨by decide, by decide⟩) (dnt c1) ?_
    refine dq_aload e_49_16 l1 ?_
    refine dq_getI (key := (57348 + 26624 * s)) e_49_17 hS (ac_28s_5_4_0 s hs) (by omega) ?_
    refine dq_iconst e_49_20 ?_
    by_cases c2 : dG N (57348 + 26624 * s) = 2
    · rw [if_pos c2] at h
      refine dq_icF e_49_21 (dG_R _ _) (⟨by decide, by decide⟩) (dnf c2) ?_
      refine dq_aload e_49_24 l1 ?_
      obtain ⟨N3, v4, c5, h⟩ := dbd_inv h
      have q6 := qX5_isBestOwn_S (xs := xs) (Ln := Ln) hS hs c5
      have S7 : dS N3 := q6.2.1
      refine dq_calli (as := []) (S := []) (nx := 28) e_49_25 rfl rfl rfl hS (ak_28s_5 s hs) rfl rfl rfl rfl q6 rfl ?_
      have r8 : dR v4 := q6.2.2
      by_cases c9 : v4 = 0
      · rw [if_pos c9] at h
        refine dq_ifT e_49_28 r8 (decide_eq_true c9) ?_
        cases h
        exact dq_retv e_49_52 rfl S7
      · rw [if_neg c9] at h
        refine dq_ifF e_49_28 r8 (decide_eq_false c9) ?_
        refine dq_aload e_49_31 l1 ?_
        refine dq_aload e_49_32 l0 ?_
        refine dq_getI (key := 2049) e_49_33 S7 ac_1_3_1_0 (by omega) ?_
        have S10 := dS_P (v := dG N3 2049) S7 (ac_28s_5_9_0 s hs) (show (28 + 13 * s) * 2048 + 9 = (57353 + 26624 * s) by omega)
        refine dq_put (key := (57353 + 26624 * s)) e_49_36 S7 (ac_28s_5_9_0 s hs) rfl (by omega) ?_
        refine dq_aload e_49_39 l0 ?_
        refine dq_aload e_49_40 l1 ?_
        refine dq_getC (e := (s : Int)) e_49_41 S10 (ac_28s_5_0_1 s hs) rfl ?_
        refine dq_iconst e_49_44 ?_
        refine dq_aload e_49_45 l1 ?_
        refine dq_getR e_49_46 S10 (ac_28s_5_7_2 s hs) ?_
        refine dq_let h S10 (fun N11 S12 h => ?_)
        obtain ⟨N13, v14, c15, h⟩ := dbd_inv h
        have q16 := qX3_send_RE (xs := xs) (Ln := Ln) S12 hs (⟨by omega, by omega⟩) (⟨by decide, by decide⟩) c15
        have S17 : dS N13 := q16.2.1
        refine dq_callv (as := [.int (dI (s : Int)), .int (dI 0), .ref (30 + 13 * s)]) (S := []) (nx := 52) e_49_49 rfl rfl rfl S12 ak_1_3 rfl rfl rfl rfl q16 rfl ?_
        cases h
        exact dq_retv e_49_52 rfl S17
    · rw [if_neg c2] at h
      refine dq_icT e_49_21 (dG_R _ _) (⟨by decide, by decide⟩) (dnt c2) ?_
      cases h
      exact dq_retv e_49_52 rfl hS
noncomputable def fX1_start_H (N : mMem) (s : Nat) (x1 : Int) (x2 : Int) (x3 : Int) : Option dZ := some (dP (dP (dP (dP (dP N (65539 + 26624 * s) x1) (65540 + 26624 * s) x2) (65541 + 26624 * s) x2) (65542 + 26624 * s) x3) (65543 + 26624 * s) 0, 0)
theorem qX1_start_H {N : mMem} {s : Nat} {x1 : Int} {x2 : Int} {x3 : Int} {z : dZ} (hS : dS N) (hs : s < 8) (rx1 : dR x1) (rx2 : dR x2) (rx3 : dR x3) (h : fX1_start_H N s x1 x2 x3 = some z) : dQ xs Ln 0 0 0 8 (0, lv_args 0 [.ref (32 + 13 * s), .int (dI x1), .int (dI x2), .int (dI x3)], [], N) z := by
  unfold fX1_start_H at h
  have l0 : mLk (lv_args 0 [.ref (32 + 13 * s), .int (dI x1), .int (dI x2), .int (dI x3)]) 0 = some (.ref (32 + 13 * s)) := rfl
  have l1 : mLk (lv_args 0 [.ref (32 + 13 * s), .int (dI x1), .int (dI x2), .int (dI x3)]) 1 = some (.int (dI x1)) := rfl
  have l2 : mLk (lv_args 0 [.ref (32 + 13 * s), .int (dI x1), .int (dI x2), .int (dI x3)]) 2 = some (.int (dI x2)) := rfl
  have l3 : mLk (lv_args 0 [.ref (32 + 13 * s), .int (dI x1), .int (dI x2), .int (dI x3)]) 3 = some (.int (dI x3)) := rfl
  generalize lv_args 0 [.ref (32 + 13 * s), .int (dI x1), .int (dI x2), .int (dI x3)] = Nl at l0 l1 l2 l3 ⊢
  refine dq_aload e_8_0 l0 ?_
  refine dq_iload e_8_1 l1 ?_
  have S1 := dS_P (v := x1) hS (ac_32s_1_3_0 s hs) (show (32 + 13 * s) * 2048 + 3 = (65539 + 26624 * s) by omega)
  refine dq_put (key := (65539 + 26624 * s)) e_8_2 hS (ac_32s_1_3_0 s hs) rfl (by omega) ?_
  refine dq_aload e_8_5 l0 ?_
  refine dq_iload e_8_6 l2 ?_
  have S2 := dS_P (v := x2) S1 (ac_32s_1_4_0 s hs) (show (32 + 13 * s) * 2048 + 4 = (65540 + 26624 * s) by omega)
  refine dq_put (key := (65540 + 26624 * s)) e_8_7 S1 (ac_32s_1_4_0 s hs) rfl (by omega) ?_
  refine dq_aload e_8_10 l0 ?_
  refine dq_iload e_8_11 l2 ?_
  have S3 := dS_P (v := x2) S2 (ac_32s_1_5_0 s hs) (show (32 + 13 * s) * 2048 + 5 = (65541 + 26624 * s) by omega)
  refine dq_put (key := (65541 + 26624 * s)) e_8_12 S2 (ac_32s_1_5_0 s hs) rfl (by omega) ?_
  refine dq_aload e_8_15 l0 ?_
  refine dq_iload e_8_16 l3 ?_
  have S4 := dS_P (v := x3) S3 (ac_32s_1_6_0 s hs) (show (32 + 13 * s) * 2048 + 6 = (65542 + 26624 * s) by omega)
  refine dq_put (key := (65542 + 26624 * s)) e_8_17 S3 (ac_32s_1_6_0 s hs) rfl (by omega) ?_
  refine dq_aload e_8_20 l0 ?_
  refine dq_iconst e_8_21 ?_
  have S5 := dS_P (v := 0) S4 (ac_32s_1_7_0 s hs) (show (32 + 13 * s) * 2048 + 7 = (65543 + 26624 * s) by omega)
  refine dq_put (key := (65543 + 26624 * s)) e_8_22 S4 (ac_32s_1_7_0 s hs) (by decide +kernel) (by omega) ?_
  cases h
  exact dq_retv e_8_25 rfl S5
noncomputable def fX4_at_Lc2_b24 (N : mMem) : Option dZ := some (N, (-1))
theorem qX4_at_Lc2_b24 {Nl : List (Nat × Value)} {N : mMem} {z : dZ} (hS : dS N) (h : fX4_at_Lc2_b24 N = some z) : dQ xs Ln 1 0 0 61 (24, Nl, [], N) z := by
  unfold fX4_at_Lc2_b24 at h
  refine dq_iconst e_61_24 ?_
  cases h
  exact dq_reti (ty := .int) e_61_25 rfl rfl hS (⟨by decide, by decide⟩)
noncomputable def fX4_at_Lc2 (N : mMem) (s : Nat) (x1 : Int) : Option dZ := (if x1 < 0 then fX4_at_Lc2_b24 N else (if x1 < dG N (67587 + 26624 * s) then dgd (0 ≤ x1 ∧ x1 < 8) <| some (N, dG N (75776 + 26624 * s + (x1).toNat)) else fX4_at_Lc2_b24 N))
theorem qX4_at_Lc2 {N : mMem} {s : Nat} {x1 : Int} {z : dZ} (hS : dS N) (hs : s < 8) (rx1 : dR x1) (h : fX4_at_Lc2 N s x1 = some z) : dQ xs Ln 1 0 0 61 (0, lv_args 0 [.ref (33 + 13 * s), .int (dI x1), .int (dI 2)], [], N) z := by
  unfold fX4_at_Lc2 at h
  have l0 : mLk (lv_args 0 [.ref (33 + 13 * s), .int (dI x1), .int (dI 2)]) 0 = some (.ref (33 + 13 * s)) := rfl
  have l1 : mLk (lv_args 0 [.ref (33 + 13 * s), .int (dI x1), .int (dI 2)]) 1 = some (.int (dI x1)) := rfl
  have l2 : mLk (lv_args 0 [.ref (33 + 13 * s), .int (dI x1), .int (dI 2)]) 2 = some (.int (dI 2)) := rfl
  generalize lv_args 0 [.ref (33 + 13 * s), .int (dI x1), .int (dI 2)] = Nl at l0 l1 l2 ⊢
  refine dq_iload e_61_0 l1 ?_
  by_cases c1 : x1 < 0
  · rw [if_pos c1] at h
    refine dq_ifT e_61_1 rx1 (decide_eq_true c1) ?_
    exact qX4_at_Lc2_b24 hS h
  · rw [if_neg c1] at h
    refine dq_ifF e_61_1 rx1 (decide_eq_false c1) ?_
    refine dq_iload e_61_4 l1 ?_
    refine dq_aload e_61_5 l0 ?_
    refine dq_getI (key := (67587 + 26624 * s)) e_61_6 hS (ac_33s_4_3_0 s hs) (by omega) ?_
    by_cases c2 : x1 < dG N (67587 + 26624 * s)
    · rw [if_pos c2] at h
      refine dq_icF e_61_9 rx1 (dG_R _ _) (dnf c2) ?_
      refine dq_iload e_61_12 l2 ?_
      refine dq_ifF e_61_13 (⟨by decide, by decide⟩) (by decide +kernel) ?_
      refine dq_iload e_61_16 l2 ?_
      refine dq_aload e_61_17 l0 ?_
      refine dq_getC (e := 5) e_61_18 hS (ac_33s_4_1_1 s hs) rfl ?_
      refine dq_icT e_61_21 (⟨by decide, by decide⟩) (⟨by decide, by decide⟩) (by decide +kernel) ?_
      refine dq_aload e_61_26 l0 ?_
      refine dq_getR e_61_27 hS (ac_33s_4_2_2 s hs) ?_
      refine dq_iload e_61_30 l2 ?_
      refine dq_aal (n := 2) e_61_31 hS ⟨by decide, by decide⟩ (by decide) rfl (ac_34s_101_2_2 s hs) rfl ?_
      refine dq_iload e_61_32 l1 ?_
      obtain ⟨g3, h⟩ := dgd_inv h
      refine dq_ial (key := (75776 + 26624 * s + (x1).toNat)) e_61_33 hS (aa_37s s hs) rx1 g3.1 g3.2 (by omega) ?_
      cases h
      exact dq_reti (ty := .int) e_61_34 rfl rfl hS (dG_R _ _)
    · rw [if_neg c2] at h
      refine dq_icT e_61_9 rx1 (dG_R _ _) (dnt c2) ?_
      exact qX4_at_Lc2_b24 hS h
noncomputable def fX4_at_Lc1_b24 (N : mMem) : Option dZ := some (N, (-1))
theorem qX4_at_Lc1_b24 {Nl : List (Nat × Value)} {N : mMem} {z : dZ} (hS : dS N) (h : fX4_at_Lc1_b24 N = some z) : dQ xs Ln 1 0 0 61 (24, Nl, [], N) z := by
  unfold fX4_at_Lc1_b24 at h
  refine dq_iconst e_61_24 ?_
  cases h
  exact dq_reti (ty := .int) e_61_25 rfl rfl hS (⟨by decide, by decide⟩)
end DQG5

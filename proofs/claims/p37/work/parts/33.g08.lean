/-! ===== functions over memory, and that the bodies run so; written by wip/dc ===== -/
section DQG8
variable {xs : Nat → Int32} {Ln : Nat}
noncomputable def fX7_look_Oc13_b20 (N : mMem) : Option dZ := dbd (fX3_countTokens_R N) fun N1 v2 => some (N1, v2)
theorem qX7_look_Oc13_b20 {Nl : List (Nat × Value)} {N : mMem} {z : dZ} (hS : dS N) (l0 : mLk Nl 0 = some (.ref 0)) (l1 : mLk Nl 1 = some (.int (dI 13))) (h : fX7_look_Oc13_b20 N = some z) : dQ xs Ln 1 2 46 90 (20, Nl, [], N) z := by
  unfold fX7_look_Oc13_b20 at h
  refine dq_iload e_90_20 l1 ?_
  refine dq_tsI (c := 13) (q := 174) e_90_21 (⟨by decide, by decide⟩) rfl (by decide +kernel) rfl (by decide +kernel) ?_
  refine dq_aload e_90_174 l0 ?_
  refine dq_getR e_90_175 hS ac_0_7_0_2 ?_
  obtain ⟨N1, v2, c3, h⟩ := dbd_inv h
  have q4 := qX3_countTokens_R (xs := xs) (Ln := Ln) hS c3
  have S5 : dS N1 := q4.2.1
  refine dq_calli (as := []) (S := []) (nx := 181) e_90_178 rfl rfl rfl hS ak_1_3 rfl rfl rfl rfl q4 rfl ?_
  have r6 : dR v2 := q4.2.2
  cases h
  exact dq_reti (ty := .int) e_90_181 rfl rfl S5 r6
noncomputable def fX7_look_Oc13 (N : mMem) : Option dZ := fX7_look_Oc13_b20 N
theorem qX7_look_Oc13 {N : mMem} {z : dZ} (hS : dS N) (h : fX7_look_Oc13 N = some z) : dQ xs Ln 1 2 46 90 (0, lv_args 0 [.ref 0, .int (dI 13)], [], N) z := by
  unfold fX7_look_Oc13 at h
  have l0 : mLk (lv_args 0 [.ref 0, .int (dI 13)]) 0 = some (.ref 0) := rfl
  have l1 : mLk (lv_args 0 [.ref 0, .int (dI 13)]) 1 = some (.int (dI 13)) := rfl
  generalize lv_args 0 [.ref 0, .int (dI 13)] = Nl at l0 l1 ⊢
  refine dq_iload e_90_0 l1 ?_
  refine dq_ifF e_90_1 (⟨by decide, by decide⟩) (by decide +kernel) ?_
  refine dq_iload e_90_4 l1 ?_
  refine dq_iconst e_90_5 ?_
  refine dq_icT e_90_7 (⟨by decide, by decide⟩) (⟨by decide, by decide⟩) (by decide +kernel) ?_
  exact qX7_look_Oc13_b20 hS l0 l1 h
noncomputable def fX7_count_Oc5 (N : mMem) : Option dZ := some (N, dG N 53253)
theorem qX7_count_Oc5 {N : mMem} {z : dZ} (hS : dS N) (h : fX7_count_Oc5 N = some z) : dQ xs Ln 1 0 0 89 (0, lv_args 0 [.ref 0, .int (dI 5)], [], N) z := by
  unfold fX7_count_Oc5 at h
  have l0 : mLk (lv_args 0 [.ref 0, .int (dI 5)]) 0 = some (.ref 0) := rfl
  have l1 : mLk (lv_args 0 [.ref 0, .int (dI 5)]) 1 = some (.int (dI 5)) := rfl
  generalize lv_args 0 [.ref 0, .int (dI 5)] = Nl at l0 l1 ⊢
  refine dq_iload e_89_0 l1 ?_
  refine dq_ifF e_89_1 (⟨by decide, by decide⟩) (by decide +kernel) ?_
  refine dq_iload e_89_4 l1 ?_
  refine dq_iconst e_89_5 ?_
  refine dq_icT e_89_7 (⟨by decide, by decide⟩) (⟨by decide, by decide⟩) (by decide +kernel) ?_
  refine dq_aload e_89_14 l0 ?_
  refine dq_getR e_89_15 hS ac_0_7_0_2 ?_
  refine dq_getR e_89_18 hS ac_1_3_10_2 ?_
  refine dq_iload e_89_21 l1 ?_
  refine dq_ial (key := 53253) e_89_22 hS aa_26 (⟨by decide, by decide⟩) (by decide) (by decide) (by show 26 * 2048 + 5 = 53253; omega) ?_
  cases h
  exact dq_reti (ty := .int) e_89_23 rfl rfl hS (dG_R _ _)
noncomputable def fX7_count_Oc4 (N : mMem) : Option dZ := some (N, dG N 53252)
theorem qX7_count_Oc4 {N : mMem} {z : dZ} (hS : dS N) (h : fX7_count_Oc4 N = some z) : dQ xs Ln 1 0 0 89 (0, lv_args 0 [.ref 0, .int (dI 4)], [], N) z := by
  unfold fX7_count_Oc4 at h
  have l0 : mLk (lv_args 0 [.ref 0, .int (dI 4)]) 0 = some (.ref 0) := rfl
  have l1 : mLk (lv_args 0 [.ref 0, .int (dI 4)]) 1 = some (.int (dI 4)) := rfl
  generalize lv_args 0 [.ref 0, .int (dI 4)] = Nl at l0 l1 ⊢
  refine dq_iload e_89_0 l1 ?_
  refine dq_ifF e_89_1 (⟨by decide, by decide⟩) (by decide +kernel) ?_
  refine dq_iload e_89_4 l1 ?_
  refine dq_iconst e_89_5 ?_
  refine dq_icT e_89_7 (⟨by decide, by decide⟩) (⟨by decide, by decide⟩) (by decide +kernel) ?_
  refine dq_aload e_89_14 l0 ?_
  refine dq_getR e_89_15 hS ac_0_7_0_2 ?_
  refine dq_getR e_89_18 hS ac_1_3_10_2 ?_
  refine dq_iload e_89_21 l1 ?_
  refine dq_ial (key := 53252) e_89_22 hS aa_26 (⟨by decide, by decide⟩) (by decide) (by decide) (by show 26 * 2048 + 4 = 53252; omega) ?_
  cases h
  exact dq_reti (ty := .int) e_89_23 rfl rfl hS (dG_R _ _)
noncomputable def fX7_look_Oc23_b20 (N : mMem) : Option dZ := dbd (fX3_leastTarget_R N) fun N1 v2 => some (N1, v2)
theorem qX7_look_Oc23_b20 {Nl : List (Nat × Value)} {N : mMem} {z : dZ} (hS : dS N) (l0 : mLk Nl 0 = some (.ref 0)) (l1 : mLk Nl 1 = some (.int (dI 23))) (h : fX7_look_Oc23_b20 N = some z) : dQ xs Ln 1 1 23 90 (20, Nl, [], N) z := by
  unfold fX7_look_Oc23_b20 at h
  refine dq_iload e_90_20 l1 ?_
  refine dq_tsI (c := 23) (q := 242) e_90_21 (⟨by decide, by decide⟩) rfl (by decide +kernel) rfl (by decide +kernel) ?_
  refine dq_aload e_90_242 l0 ?_
  refine dq_getR e_90_243 hS ac_0_7_0_2 ?_
  obtain ⟨N1, v2, c3, h⟩ := dbd_inv h
  have q4 := qX3_leastTarget_R (xs := xs) (Ln := Ln) hS c3
  have S5 : dS N1 := q4.2.1
  refine dq_calli (as := []) (S := []) (nx := 249) e_90_246 rfl rfl rfl hS ak_1_3 rfl rfl rfl rfl q4 rfl ?_
  have r6 : dR v2 := q4.2.2
  cases h
  exact dq_reti (ty := .int) e_90_249 rfl rfl S5 r6
noncomputable def fX7_look_Oc23 (N : mMem) : Option dZ := fX7_look_Oc23_b20 N
theorem qX7_look_Oc23 {N : mMem} {z : dZ} (hS : dS N) (h : fX7_look_Oc23 N = some z) : dQ xs Ln 1 1 23 90 (0, lv_args 0 [.ref 0, .int (dI 23)], [], N) z := by
  unfold fX7_look_Oc23 at h
  have l0 : mLk (lv_args 0 [.ref 0, .int (dI 23)]) 0 = some (.ref 0) := rfl
  have l1 : mLk (lv_args 0 [.ref 0, .int (dI 23)]) 1 = some (.int (dI 23)) := rfl
  generalize lv_args 0 [.ref 0, .int (dI 23)] = Nl at l0 l1 ⊢
  refine dq_iload e_90_0 l1 ?_
  refine dq_ifF e_90_1 (⟨by decide, by decide⟩) (by decide +kernel) ?_
  refine dq_iload e_90_4 l1 ?_
  refine dq_iconst e_90_5 ?_
  refine dq_icT e_90_7 (⟨by decide, by decide⟩) (⟨by decide, by decide⟩) (by decide +kernel) ?_
  exact qX7_look_Oc23_b20 hS l0 l1 h
noncomputable def fX7_count_Oc2 (N : mMem) : Option dZ := some (N, dG N 53250)
theorem qX7_count_Oc2 {N : mMem} {z : dZ} (hS : dS N) (h : fX7_count_Oc2 N = some z) : dQ xs Ln 1 0 0 89 (0, lv_args 0 [.ref 0, .int (dI 2)], [], N) z := by
  unfold fX7_count_Oc2 at h
  have l0 : mLk (lv_args 0 [.ref 0, .int (dI 2)]) 0 = some (.ref 0) := rfl
  have l1 : mLk (lv_args 0 [.ref 0, .int (dI 2)]) 1 = some (.int (dI 2)) := rfl
  generalize lv_args 0 [.ref 0, .int (dI 2)] = Nl at l0 l1 ⊢
  refine dq_iload e_89_0 l1 ?_
  refine dq_ifF e_89_1 (⟨by decide, by decide⟩) (by decide +kernel) ?_
  refine dq_iload e_89_4 l1 ?_
  refine dq_iconst e_89_5 ?_
  refine dq_icT e_89_7 (⟨by decide, by decide⟩) (⟨by decide, by decide⟩) (by decide +kernel) ?_
  refine dq_aload e_89_14 l0 ?_
  refine dq_getR e_89_15 hS ac_0_7_0_2 ?_
  refine dq_getR e_89_18 hS ac_1_3_10_2 ?_
  refine dq_iload e_89_21 l1 ?_
  refine dq_ial (key := 53250) e_89_22 hS aa_26 (⟨by decide, by decide⟩) (by decide) (by decide) (by show 26 * 2048 + 2 = 53250; omega) ?_
  cases h
  exact dq_reti (ty := .int) e_89_23 rfl rfl hS (dG_R _ _)
noncomputable def fX7_count_Oc3 (N : mMem) : Option dZ := some (N, dG N 53251)
theorem qX7_count_Oc3 {N : mMem} {z : dZ} (hS : dS N) (h : fX7_count_Oc3 N = some z) : dQ xs Ln 1 0 0 89 (0, lv_args 0 [.ref 0, .int (dI 3)], [], N) z := by
  unfold fX7_count_Oc3 at h
  have l0 : mLk (lv_args 0 [.ref 0, .int (dI 3)]) 0 = some (.ref 0) := rfl
  have l1 : mLk (lv_args 0 [.ref 0, .int (dI 3)]) 1 = some (.int (dI 3)) := rfl
  generalize lv_args 0 [.ref 0, .int (dI 3)] = Nl at l0 l1 ⊢
  refine dq_iload e_89_0 l1 ?_
  refine dq_ifF e_89_1 (⟨by decide, by decide⟩) (by decide +kernel) ?_
  refine dq_iload e_89_4 l1 ?_
  refine dq_iconst e_89_5 ?_
  refine dq_icT e_89_7 (⟨by decide, by decide⟩) (⟨by decide, by decide⟩) (by decide +kernel) ?_
  refine dq_aload e_89_14 l0 ?_
  refine dq_getR e_89_15 hS ac_0_7_0_2 ?_
  refine dq_getR e_89_18 hS ac_1_3_10_2 ?_
  refine dq_iload e_89_21 l1 ?_
  refine dq_ial (key := 53251) e_89_22 hS aa_26 (⟨by decide, by decide⟩) (by decide) (by decide) (by show 26 * 2048 + 3 = 53251; omega) ?_
  cases h
  exact dq_reti (ty := .int) e_89_23 rfl rfl hS (dG_R _ _)
noncomputable def fX7_count_Oc1 (N : mMem) : Option dZ := some (N, dG N 53249)
theorem qX7_count_Oc1 {N : mMem} {z : dZ} (hS : dS N) (h : fX7_count_Oc1 N = some z) : dQ xs Ln 1 0 0 89 (0, lv_args 0 [.ref 0, .int (dI 1)], [], N) z := by
  unfold fX7_count_Oc1 at h
  have l0 : mLk (lv_args 0 [.ref 0, .int (dI 1)]) 0 = some (.ref 0) := rfl
  have l1 : mLk (lv_args 0 [.ref 0, .int (dI 1)]) 1 = some (.int (dI 1)) := rfl
  generalize lv_args 0 [.ref 0, .int (dI 1)] = Nl at l0 l1 ⊢
  refine dq_iload e_89_0 l1 ?_
  refine dq_ifF e_89_1 (⟨by decide, by decide⟩) (by decide +kernel) ?_
  refine dq_iload e_89_4 l1 ?_
  refine dq_iconst e_89_5 ?_
  refine dq_icT e_89_7 (⟨by decide, by decide⟩) (⟨by decide, by decide⟩) (by decide +kernel) ?_
  refine dq_aload e_89_14 l0 ?_
  refine dq_getR e_89_15 hS ac_0_7_0_2 ?_
  refine dq_getR e_89_18 hS ac_1_3_10_2 ?_
  refine dq_iload e_89_21 l1 ?_
  refine dq_ial (key := 53249) e_89_22 hS aa_26 (⟨by decide, by decide⟩) (by decide) (by decide) (by show 26 * 2048 + 1 = 53249; omega) ?_
  cases h
  exact dq_reti (ty := .int) e_89_23 rfl rfl hS (dG_R _ _)
noncomputable def fX5_view_Sc3_b35 (N : mMem) (s : Nat) (x2 : Int) (y0 : Int) : Option dZ := (if y0 = 0 then some (N, (-1)) else some (N, dG N (59392 + 26624 * s)))
theorem qX5_view_Sc3_b35 {Nl : List (Nat × Value)} {N : mMem} {s : Nat} {x2 : Int} {y0 : Int} {z : dZ} (hS : dS N) (hs : s < 8) (rx2 : dR x2) (ry0 : dR y0) (l0 : mLk Nl 0 = some (.ref (28 + 13 * s))) (l1 : mLk Nl 1 = some (.int (dI 3))) (l2 : mLk Nl 2 = some (.int (dI x2))) (h : fX5_view_Sc3_b35 N s x2 y0 = some z) : dQ xs Ln 1 0 0 66 (35, Nl, [.int (dI y0)], N) z := by
  unfold fX5_view_Sc3_b35 at h
  refine dq_istore e_66_35 rfl (fun K2 m3 mm4 => ?_)
  have m5 := mm4 0 _ (by decide) rfl l0
  have m6 := mm4 1 _ (by decide) rfl l1
  have m7 := mm4 2 _ (by decide) rfl l2
  refine dq_iload e_66_36 m6 ?_
  refine dq_tsI (c := 3) (q := 175) e_66_37 (⟨by decide, by decide⟩) rfl (by decide +kernel) rfl (by decide +kernel) ?_
  refine dq_iload e_66_175 m3 ?_
  by_cases c8 : y0 = 0
  · rw [if_pos c8] at h
    refine dq_ifT e_66_176 ry0 (decide_eq_true c8) ?_
    refine dq_iconst e_66_189 ?_
    cases h
    exact dq_reti (ty := .int) e_66_190 rfl rfl hS (⟨by decide, by decide⟩)
  · rw [if_neg c8] at h
    refine dq_ifF e_66_176 ry0 (decide_eq_false c8) ?_
    refine dq_aload e_66_179 m5 ?_
    refine dq_getR e_66_180 hS (ac_28s_5_6_2 s hs) ?_
    refine dq_getI (key := (59392 + 26624 * s)) e_66_183 hS (ac_29s_0_0_0 s hs) (by omega) ?_
    refine dq_goto e_66_186 ?_
    cases h
    exact dq_reti (ty := .int) e_66_190 rfl rfl hS (dG_R _ _)
noncomputable def fX5_view_Sc3_b22 (N : mMem) (s : Nat) (x2 : Int) : Option dZ := (if dG N (57348 + 26624 * s) = 1 then fX5_view_Sc3_b35 N s x2 1 else fX5_view_Sc3_b35 N s x2 0)
theorem qX5_view_Sc3_b22 {Nl : List (Nat × Value)} {N : mMem} {s : Nat} {x2 : Int} {z : dZ} (hS : dS N) (hs : s < 8) (rx2 : dR x2) (l0 : mLk Nl 0 = some (.ref (28 + 13 * s))) (l1 : mLk Nl 1 = some (.int (dI 3))) (l2 : mLk Nl 2 = some (.int (dI x2))) (h : fX5_view_Sc3_b22 N s x2 = some z) : dQ xs Ln 1 0 0 66 (22, Nl, [], N) z := by
  unfold fX5_view_Sc3_b22 at h
  refine dq_aload e_66_22 l0 ?_
  refine dq_getI (key := (57348 + 26624 * s)) e_66_23 hS (ac_28s_5_4_0 s hs) (by omega) ?_
  refine dq_iconst e_66_26 ?_
  by_cases c1 : dG N (57348 + 26624 * s) = 1
  · rw [if_pos c1] at h
    refine dq_icF e_66_27 (dG_R _ _) (⟨by decide, by decide⟩) (dnf c1) ?_
    refine dq_iconst e_66_30 ?_
    refine dq_goto e_66_31 ?_
    exact qX5_view_Sc3_b35 hS hs rx2 (⟨by decide, by decide⟩) l0 l1 l2 h
  · rw [if_neg c1] at h
    refine dq_icT e_66_27 (dG_R _ _) (⟨by decide, by decide⟩) (dnt c1) ?_
    refine dq_iconst e_66_34 ?_
    exact qX5_view_Sc3_b35 hS hs rx2 (⟨by decide, by decide⟩) l0 l1 l2 h
noncomputable def fX5_view_Sc3 (N : mMem) (s : Nat) (x2 : Int) : Option dZ := fX5_view_Sc3_b22 N s x2
theorem qX5_view_Sc3 {N : mMem} {s : Nat} {x2 : Int} {z : dZ} (hS : dS N) (hs : s < 8) (rx2 : dR x2) (h : fX5_view_Sc3 N s x2 = some z) : dQ xs Ln 1 0 0 66 (0, lv_args 0 [.ref (28 + 13 * s), .int (dI 3), .int (dI x2)], [], N) z := by
  unfold fX5_view_Sc3 at h
  have l0 : mLk (lv_args 0 [.ref (28 + 13 * s), .int (dI 3), .int (dI x2)]) 0 = some (.ref (28 + 13 * s)) := rfl
  have l1 : mLk (lv_args 0 [.ref (28 + 13 * s), .int (dI 3), .int (dI x2)]) 1 = some (.int (dI 3)) := rfl
  have l2 : mLk (lv_args 0 [.ref (28 + 13 * s), .int (dI 3), .int (dI x2)]) 2 = some (.int (dI x2)) := rfl
  generalize lv_args 0 [.ref (28 + 13 * s), .int (dI 3), .int (dI x2)] = Nl at l0 l1 l2 ⊢
  refine dq_iload e_66_0 l1 ?_
  refine dq_iconst e_66_1 ?_
  refine dq_icT e_66_3 (⟨by decide, by decide⟩) (⟨by decide, by decide⟩) (by decide +kernel) ?_
  exact qX5_view_Sc3_b22 hS hs rx2 l0 l1 l2 h
noncomputable def fX7_station_Oc3 (N : mMem) (x1 : Int) : Option dZ := dbd (fX3_has_R N x1) fun N1 v2 => (if v2 = 0 then some (N1, (-1)) else dgd (0 ≤ x1 ∧ x1 < 8) <| dln (x1).toNat fun u9 => dbd (fX5_view_Sc3 N1 u9 (dG N1 2049)) fun N10 v11 => some (N10, v11))
theorem qX7_station_Oc3 {N : mMem} {x1 : Int} {z : dZ} (hS : dS N) (rx1 : dR x1) (h : fX7_station_Oc3 N x1 = some z) : dQ xs Ln 1 1 23 86 (0, lv_args 0 [.ref 0, .int (dI x1), .int (dI 3)], [], N) z := by
  unfold fX7_station_Oc3 at h
  have l0 : mLk (lv_args 0 [.ref 0, .int (dI x1), .int (dI 3)]) 0 = some (.ref 0) := rfl
  have l1 : mLk (lv_args 0 [.ref 0, .int (dI x1), .int (dI 3)]) 1 = some (.int (dI x1)) := rfl
  have l2 : mLk (lv_args 0 [.ref 0, .int (dI x1), .int (dI 3)]) 2 = some (.int (dI 3)) := rfl
  generalize lv_args 0 [.ref 0, .int (dI x1), .int (dI 3)] = Nl at l0 l1 l2 ⊢
  refine dq_aload e_86_0 l0 ?_
  refine dq_getR e_86_1 hS ac_0_7_0_2 ?_
  refine dq_iload e_86_4 l1 ?_
  obtain ⟨N1, v2, c3, h⟩ := dbd_inv h
  have q4 := qX3_has_R (xs := xs) (Ln := Ln) hS rx1 c3
  have S5 : dS N1 := q4.2.1
  refine dq_calli (as := [.int (dI x1)]) (S := []) (nx := 8) e_86_5 rfl rfl rfl hS ak_1_3 rfl rfl rfl rfl q4 rfl ?_
  have r6 : dR v2 := q4.2.2
  by_cases c7 : v2 = 0
  · rw [if_pos c7] at h
    refine dq_ifT e_86_8 r6 (decide_eq_true c7) ?_
    refine dq_iconst e_86_34 ?_
    cases h
    exact dq_reti (ty := .int) e_86_35 rfl rfl S5 (⟨by decide, by decide⟩)
  · rw [if_neg c7] at h
    refine dq_ifF e_86_8 r6 (decide_eq_false c7) ?_
    refine dq_aload e_86_11 l0 ?_
    refine dq_getR e_86_12 S5 ac_0_7_0_2 ?_
    refine dq_getR e_86_15 S5 ac_1_3_6_2 ?_
    refine dq_iload e_86_18 l1 ?_
    obtain ⟨g8, h⟩ := dgd_inv h
    refine dq_aals h e_86_19 S5 rx1 g8.1 g8.2 (fun u9 hu9 ku9 h => ?_)
    refine dq_iload e_86_20 l2 ?_
    refine dq_aload e_86_21 l0 ?_
    refine dq_getR e_86_22 S5 ac_0_7_0_2 ?_
    refine dq_getI (key := 2049) e_86_25 S5 ac_1_3_1_0 (by omega) ?_
    obtain ⟨N10, v11, c12, h⟩ := dbd_inv h
    have q13 := qX5_view_Sc3 (xs := xs) (Ln := Ln) S5 hu9 (dG_R _ _) c12
    have S14 : dS N10 := q13.2.1
    refine dq_calli (as := [.int (dI 3), .int (dI (dG N1 2049))]) (S := []) (nx := 31) e_86_28 rfl rfl rfl S5 (ak_28s_5 u9 hu9) rfl rfl rfl rfl q13 rfl ?_
    have r15 : dR v11 := q13.2.2
    refine dq_goto e_86_31 ?_
    cases h
    exact dq_reti (ty := .int) e_86_35 rfl rfl S14 r15
noncomputable def fX5_view_Sc5_b35 (N : mMem) (s : Nat) (x2 : Int) (y0 : Int) : Option dZ := (if y0 = 0 then some (N, 0) else some (N, dG N (57357 + 26624 * s)))
theorem qX5_view_Sc5_b35 {Nl : List (Nat × Value)} {N : mMem} {s : Nat} {x2 : Int} {y0 : Int} {z : dZ} (hS : dS N) (hs : s < 8) (rx2 : dR x2) (ry0 : dR y0) (l0 : mLk Nl 0 = some (.ref (28 + 13 * s))) (l1 : mLk Nl 1 = some (.int (dI 5))) (l2 : mLk Nl 2 = some (.int (dI x2))) (h : fX5_view_Sc5_b35 N s x2 y0 = some z) : dQ xs Ln 1 0 0 66 (35, Nl, [.int (dI y0)], N) z := by
  unfold fX5_view_Sc5_b35 at h
  refine dq_istore e_66_35 rfl (fun K2 m3 mm4 => ?_)
  have m5 := mm4 0 _ (by decide) rfl l0
  have m6 := mm4 1 _ (by decide) rfl l1
  have m7 := mm4 2 _ (by decide) rfl l2
  refine dq_iload e_66_36 m6 ?_
  refine dq_tsI (c := 5) (q := 206) e_66_37 (⟨by decide, by decide⟩) rfl (by decide +kernel) rfl (by decide +kernel) ?_
  refine dq_iload e_66_206 m3 ?_
  by_cases c8 : y0 = 0
  · rw [if_pos c8] at h
    refine dq_ifT e_66_207 ry0 (decide_eq_true c8) ?_
    refine dq_iconst e_66_217 ?_
    cases h
    exact dq_reti (ty := .int) e_66_218 rfl rfl hS (⟨by decide, by decide⟩)
  · rw [if_neg c8] at h
    refine dq_ifF e_66_207 ry0 (decide_eq_false c8) ?_
    refine dq_aload e_66_210 m5 ?_
    refine dq_getI (key := (57357 + 26624 * s)) e_66_211 hS (ac_28s_5_13_0 s hs) (by omega) ?_
    refine dq_goto e_66_214 ?_
    cases h
    exact dq_reti (ty := .int) e_66_218 rfl rfl hS (dG_R _ _)
noncomputable def fX5_view_Sc5_b22 (N : mMem) (s : Nat) (x2 : Int) : Option dZ := (if dG N (57348 + 26624 * s) = 1 then fX5_view_Sc5_b35 N s x2 1 else fX5_view_Sc5_b35 N s x2 0)
theorem qX5_view_Sc5_b22 {Nl : List (Nat × Value)} {N : mMem} {s : Nat} {x2 : Int} {z : dZ} (hS : dS N) (hs : s < 8) (rx2 : dR x2) (l0 : mLk Nl 0 = some (.ref (28 + 13 * s))) (l1 : mLk Nl 1 = some (.int (dI 5))) (l2 : mLk Nl 2 = some (.int (dI x2))) (h : fX5_view_Sc5_b22 N s x2 = some z) : dQ xs Ln 1 0 0 66 (22, Nl, [], N) z := by
  unfold fX5_view_Sc5_b22 at h
  refine dq_aload e_66_22 l0 ?_
  refine dq_getI (key := (57348 + 26624 * s)) e_66_23 hS (ac_28s_5_4_0 s hs) (by omega) ?_
  refine dq_iconst e_66_26 ?_
  by_cases c1 : dG N (57348 + 26624 * s) = 1
  · rw [if_pos c1] at h
    refine dq_icF e_66_27 (dG_R _ _) (⟨by decide, by decide⟩) (dnf c1) ?_
    refine dq_iconst e_66_30 ?_
    refine dq_goto e_66_31 ?_
    exact qX5_view_Sc5_b35 hS hs rx2 (⟨by decide, by decide⟩) l0 l1 l2 h
  · rw [if_neg c1] at h
    refine dq_icT e_66_27 (dG_R _ _) (⟨by decide, by decide⟩) (dnt c1) ?_
    refine dq_iconst e_66_34 ?_
    exact qX5_view_Sc5_b35 hS hs rx2 (⟨by decide, by decide⟩) l0 l1 l2 h
noncomputable def fX5_view_Sc5 (N : mMem) (s : Nat) (x2 : Int) : Option dZ := fX5_view_Sc5_b22 N s x2
theorem qX5_view_Sc5 {N : mMem} {s : Nat} {x2 : Int} {z : dZ} (hS : dS N) (hs : s < 8) (rx2 : dR x2) (h : fX5_view_Sc5 N s x2 = some z) : dQ xs Ln 1 0 0 66 (0, lv_args 0 [.ref (28 + 13 * s), .int (dI 5), .int (dI x2)], [], N) z := by
  unfold fX5_view_Sc5 at h
  have l0 : mLk (lv_args 0 [.ref (28 + 13 * s), .int (dI 5), .int (dI x2)]) 0 = some (.ref (28 + 13 * s)) := rfl
  have l1 : mLk (lv_args 0 [.ref (28 + 13 * s), .int (dI 5), .int (dI x2)]) 1 = some (.int (dI 5)) := rfl
  have l2 : mLk (lv_args 0 [.ref (28 + 13 * s), .int (dI 5), .int (dI x2)]) 2 = some (.int (dI x2)) := rfl
  generalize lv_args 0 [.ref (28 + 13 * s), .int (dI 5), .int (dI x2)] = Nl at l0 l1 l2 ⊢
  refine dq_iload e_66_0 l1 ?_
  refine dq_iconst e_66_1 ?_
  refine dq_icT e_66_3 (⟨by decide, by decide⟩) (⟨by decide, by decide⟩) (by decide +kernel) ?_
  exact qX5_view_Sc5_b22 hS hs rx2 l0 l1 l2 h
noncomputable def fX7_station_Oc5 (N : mMem) (x1 : Int) : Option dZ := dbd (fX3_has_R N x1) fun N1 v2 => (if v2 = 0 then some (N1, (-1)) else dgd (0 ≤ x1 ∧ x1 < 8) <| dln (x1).toNat fun u9 => dbd (fX5_view_Sc5 N1 u9 (dG N1 2049)) fun N10 v11 => some (N10, v11))
theorem qX7_station_Oc5 {N : mMem} {x1 : Int} {z : dZ} (hS : dS N) (rx1 : dR x1) (h : fX7_station_Oc5 N x1 = some z) : dQ xs Ln 1 1 23 86 (0, lv_args 0 [.ref 0, .int (dI x1), .int (dI 5)], [], N) z := by
  unfold fX7_station_Oc5 at h
  have l0 : mLk (lv_args 0 [.ref 0, .int (dI x1), .int (dI 5)]) 0 = some (.ref 0) := rfl
  have l1 : mLk (lv_args 0 [.ref 0, .int (dI x1), .int (dI 5)]) 1 = some (.int (dI x1)) := rfl
  have l2 : mLk (lv_args 0 [.ref 0, .int (dI x1), .int (dI 5)]) 2 = some (.int (dI 5)) := rfl
  generalize lv_args 0 [.ref 0, .int (dI x1), .int (dI 5)] = Nl at l0 l1 l2 ⊢
  refine dq_aload e_86_0 l0 ?_
  refine dq_getR e_86_1 hS ac_0_7_0_2 ?_
  refine dq_iload e_86_4 l1 ?_
  obtain ⟨N1, v2, c3, h⟩ := dbd_inv h
  have q4 := qX3_has_R (xs := xs) (Ln := Ln) hS rx1 c3
  have S5 : dS N1 := q4.2.1
  refine dq_calli (as := [.int (dI x1)]) (S := []) (nx := 8) e_86_5 rfl rfl rfl hS ak_1_3 rfl rfl rfl rfl q4 rfl ?_
  have r6 : dR v2 := q4.2.2
  by_cases c7 : v2 = 0
  · rw [if_pos c7] at h
    refine dq_ifT e_86_8 r6 (decide_eq_true c7) ?_
    refine dq_iconst e_86_34 ?_
    cases h
    exact dq_reti (ty := .int) e_86_35 rfl rfl S5 (⟨by decide, by decide⟩)
  · rw [if_neg c7] at h
    refine dq_ifF e_86_8 r6 (decide_eq_false c7) ?_
    refine dq_aload e_86_11 l0 ?_
    refine dq_getR e_86_12 S5 ac_0_7_0_2 ?_
    refine dq_getR e_86_15 S5 ac_1_3_6_2 ?_
    refine dq_iload e_86_18 l1 ?_
    obtain ⟨g8, h⟩ := dgd_inv h
    refine dq_aals h e_86_19 S5 rx1 g8.1 g8.2 (fun u9 hu9 ku9 h => ?_)
    refine dq_iload e_86_20 l2 ?_
    refine dq_aload e_86_21 l0 ?_
    refine dq_getR e_86_22 S5 ac_0_7_0_2 ?_
    refine dq_getI (key := 2049) e_86_25 S5 ac_1_3_1_0 (by omega) ?_
    obtain ⟨N10, v11, c12, h⟩ := dbd_inv h
    have q13 := qX5_view_Sc5 (xs := xs) (Ln := Ln) S5 hu9 (dG_R _ _) c12
    have S14 : dS N10 := q13.2.1
    refine dq_calli (as := [.int (dI 5), .int (dI (dG N1 2049))]) (S := []) (nx := 31) e_86_28 rfl rfl rfl S5 (ak_28s_5 u9 hu9) rfl rfl rfl rfl q13 rfl ?_
    have r15 : dR v11 := q13.2.2
    refine dq_goto e_86_31 ?_
    cases h
    exact dq_reti (ty := .int) e_86_35 rfl rfl S14 r15
noncomputable def fX5_view_Sc23 (N : mMem) (s : Nat) (x2 : Int) : Option dZ := some (N, dG N (81928 + 26624 * s))
theorem qX5_view_Sc23 {N : mMem} {s : Nat} {x2 : Int} {z : dZ} (hS : dS N) (hs : s < 8) (rx2 : dR x2) (h : fX5_view_Sc23 N s x2 = some z) : dQ xs Ln 1 0 0 66 (0, lv_args 0 [.ref (28 + 13 * s), .int (dI 23), .int (dI x2)], [], N) z := by
  unfold fX5_view_Sc23 at h
  have l0 : mLk (lv_args 0 [.ref (28 + 13 * s), .int (dI 23), .int (dI x2)]) 0 = some (.ref (28 + 13 * s)) := rfl
  have l1 : mLk (lv_args 0 [.ref (28 + 13 * s), .int (dI 23), .int (dI x2)]) 1 = some (.int (dI 23)) := rfl
  have l2 : mLk (lv_args 0 [.ref (28 + 13 * s), .int (dI 23), .int (dI x2)]) 2 = some (.int (dI x2)) := rfl
  generalize lv_args 0 [.ref (28 + 13 * s), .int (dI 23), .int (dI x2)] = Nl at l0 l1 l2 ⊢
  refine dq_iload e_66_0 l1 ?_
  refine dq_iconst e_66_1 ?_
  refine dq_icF e_66_3 (⟨by decide, by decide⟩) (⟨by decide, by decide⟩) (by decide +kernel) ?_
  refine dq_iload e_66_6 l1 ?_
  refine dq_iconst e_66_7 ?_
  refine dq_icF e_66_9 (⟨by decide, by decide⟩) (⟨by decide, by decide⟩) (by decide +kernel) ?_
  refine dq_aload e_66_12 l0 ?_
  refine dq_getR e_66_13 hS (ac_28s_5_18_2 s hs) ?_
  refine dq_iload e_66_16 l1 ?_
  refine dq_iconst e_66_17 ?_
  refine dq_isub (e := 8) e_66_19 (by decide +kernel) ?_
  refine dq_ial (key := (81928 + 26624 * s)) e_66_20 hS (aa_40s s hs) (⟨by decide, by decide⟩) (by decide) (by decide) (by show (40 + 13 * s) * 2048 + 8 = (81928 + 26624 * s); omega) ?_
  cases h
  exact dq_reti (ty := .int) e_66_21 rfl rfl hS (dG_R _ _)
noncomputable def fX7_station_Oc23 (N : mMem) (x1 : Int) : Option dZ := dbd (fX3_has_R N x1) fun N1 v2 => (if v2 = 0 then some (N1, (-1)) else dgd (0 ≤ x1 ∧ x1 < 8) <| dln (x1).toNat fun u9 => dbd (fX5_view_Sc23 N1 u9 (dG N1 2049)) fun N10 v11 => some (N10, v11))
theorem qX7_station_Oc23 {N : mMem} {x1 : Int} {z : dZ} (hS : dS N) (rx1 : dR x1) (h : fX7_station_Oc23 N x1 = some z) : dQ xs Ln 1 1 23 86 (0, lv_args 0 [.ref 0, .int (dI x1), .int (dI 23)], [], N) z := by
  unfold fX7_station_Oc23 at h
  have l0 : mLk (lv_args 0 [.ref 0, .int (dI x1), .int (dI 23)]) 0 = some (.ref 0) := rfl
  have l1 : mLk (lv_args 0 [.ref 0, .int (dI x1), .int (dI 23)]) 1 = some (.int (dI x1)) := rfl
  have l2 : mLk (lv_args 0 [.ref 0, .int (dI x1), .int (dI 23)]) 2 = some (.int (dI 23)) := rfl
  generalize lv_args 0 [.ref 0, .int (dI x1), .int (dI 23)] = Nl at l0 l1 l2 ⊢
  refine dq_aload e_86_0 l0 ?_
  refine dq_getR e_86_1 hS ac_0_7_0_2 ?_
  refine dq_iload e_86_4 l1 ?_
  obtain ⟨N1, v2, c3, h⟩ := dbd_inv h
  have q4 := qX3_has_R (xs := xs) (Ln := Ln) hS rx1 c3
  have S5 : dS N1 := q4.2.1
  refine dq_calli (as := [.int (dI x1)]) (S := []) (nx := 8) e_86_5 rfl rfl rfl hS ak_1_3 rfl rfl rfl rfl q4 rfl ?_
  have r6 : dR v2 := q4.2.2
  by_cases c7 : v2 = 0
  · rw [if_pos c7] at h
    refine dq_ifT e_86_8 r6 (decide_eq_true c7) ?_
    refine dq_iconst e_86_34 ?_
    cases h
    exact dq_reti (ty := .int) e_86_35 rfl rfl S5 (⟨by decide, by decide⟩)
  · rw [if_neg c7] at h
    refine dq_ifF e_86_8 r6 (decide_eq_false c7) ?_
    refine dq_aload e_86_11 l0 ?_
    refine dq_getR e_86_12 S5 ac_0_7_0_2 ?_
    refine dq_getR e_86_15 S5 ac_1_3_6_2 ?_
    refine dq_iload e_86_18 l1 ?_
    obtain ⟨g8, h⟩ := dgd_inv h
    refine dq_aals h e_86_19 S5 rx1 g8.1 g8.2 (fun u9 hu9 ku9 h => ?_)
    refine dq_iload e_86_20 l2 ?_
    refine dq_aload e_86_21 l0 ?_
    refine dq_getR e_86_22 S5 ac_0_7_0_2 ?_
    refine dq_getI (key := 2049) e_86_25 S5 ac_1_3_1_0 (by omega) ?_
    obtain ⟨N10, v11, c12, h⟩ := dbd_inv h
    have q13 := qX5_view_Sc23 (xs := xs) (Ln := Ln) S5 hu9 (dG_R _ _) c12
    have S14 : dS N10 := q13.2.1
    refine dq_calli (as := [.int (dI 23), .int (dI (dG N1 2049))]) (S := []) (nx := 31) e_86_28 rfl rfl rfl S5 (ak_28s_5 u9 hu9) rfl rfl rfl rfl q13 rfl ?_
    have r15 : dR v11 := q13.2.2
    refine dq_goto e_86_31 ?_
    cases h
    exact dq_reti (ty := .int) e_86_35 rfl rfl S14 r15
noncomputable def fX5_view_Sc18 (N : mMem) (s : Nat) (x2 : Int) : Option dZ := some (N, dG N (81923 + 26624 * s))
theorem qX5_view_Sc18 {N : mMem} {s : Nat} {x2 : Int} {z : dZ} (hS : dS N) (hs : s < 8) (rx2 : dR x2) (h : fX5_view_Sc18 N s x2 = some z) : dQ xs Ln 1 0 0 66 (0, lv_args 0 [.ref (28 + 13 * s), .int (dI 18), .int (dI x2)], [], N) z := by
  unfold fX5_view_Sc18 at h
  have l0 : mLk (lv_args 0 [.ref (28 + 13 * s), .int (dI 18), .int (dI x2)]) 0 = some (.ref (28 + 13 * s)) := rfl
  have l1 : mLk (lv_args 0 [.ref (28 + 13 * s), .int (dI 18), .int (dI x2)]) 1 = some (.int (dI 18)) := rfl
  have l2 : mLk (lv_args 0 [.ref (28 + 13 * s), .int (dI 18), .int (dI x2)]) 2 = some (.int (dI x2)) := rfl
  generalize lv_args 0 [.ref (28 + 13 * s), .int (dI 18), .int (dI x2)] = Nl at l0 l1 l2 ⊢
  refine dq_iload e_66_0 l1 ?_
  refine dq_iconst e_66_1 ?_
  refine dq_icF e_66_3 (⟨by decide, by decide⟩) (⟨by decide, by decide⟩) (by decide +kernel) ?_
  refine dq_iload e_66_6 l1 ?_
  refine dq_iconst e_66_7 ?_
  refine dq_icF e_66_9 (⟨by decide, by decide⟩) (⟨by decide, by decide⟩) (by decide +kernel) ?_
  refine dq_aload e_66_12 l0 ?_
  refine dq_getR e_66_13 hS (ac_28s_5_18_2 s hs) ?_
  refine dq_iload e_66_16 l1 ?_
  refine dq_iconst e_66_17 ?_
  refine dq_isub (e := 3) e_66_19 (by decide +kernel) ?_
  refine dq_ial (key := (81923 + 26624 * s)) e_66_20 hS (aa_40s s hs) (⟨by decide, by decide⟩) (by decide) (by decide) (by show (40 + 13 * s) * 2048 + 3 = (81923 + 26624 * s); omega) ?_
  cases h
  exact dq_reti (ty := .int) e_66_21 rfl rfl hS (dG_R _ _)
noncomputable def fX7_station_Oc18 (N : mMem) (x1 : Int) : Option dZ := dbd (fX3_has_R N x1) fun N1 v2 => (if v2 = 0 then some (N1, (-1)) else dgd (0 ≤ x1 ∧ x1 < 8) <| dln (x1).toNat fun u9 => dbd (fX5_view_Sc18 N1 u9 (dG N1 2049)) fun N10 v11 => some (N10, v11))
theorem qX7_station_Oc18 {N : mMem} {x1 : Int} {z : dZ} (hS : dS N) (rx1 : dR x1) (h : fX7_station_Oc18 N x1 = some z) : dQ xs Ln 1 1 23 86 (0, lv_args 0 [.ref 0, .int (dI x1), .int (dI 18)], [], N) z := by
  unfold fX7_station_Oc18 at h
  have l0 : mLk (lv_args 0 [.ref 0, .int (dI x1), .int (dI 18)]) 0 = some (.ref 0) := rfl
  have l1 : mLk (lv_args 0 [.ref 0, .int (dI x1), .int (dI 18)]) 1 = some (.int (dI x1)) := rfl
  have l2 : mLk (lv_args 0 [.ref 0, .int (dI x1), .int (dI 18)]) 2 = some (.int (dI 18)) := rfl
  generalize lv_args 0 [.ref 0, .int (dI x1), .int (dI 18)] = Nl at l0 l1 l2 ⊢
  refine dq_aload e_86_0 l0 ?_
  refine dq_getR e_86_1 hS ac_0_7_0_2 ?_
  refine dq_iload e_86_4 l1 ?_
  obtain ⟨N1, v2, c3, h⟩ := dbd_inv h
  have q4 := qX3_has_R (xs := xs) (Ln := Ln) hS rx1 c3
  have S5 : dS N1 := q4.2.1
  refine dq_calli (as := [.int (dI x1)]) (S := []) (nx := 8) e_86_5 rfl rfl rfl hS ak_1_3 rfl rfl rfl rfl q4 rfl ?_
  have r6 : dR v2 := q4.2.2
  by_cases c7 : v2 = 0
  · rw [if_pos c7] at h
    refine dq_ifT e_86_8 r6 (decide_eq_true c7) ?_
    refine dq_iconst e_86_34 ?_
    cases h
    exact dq_reti (ty := .int) e_86_35 rfl rfl S5 (⟨by decide, by decide⟩)
  · rw [if_neg c7] at h
    refine dq_ifF e_86_8 r6 (decide_eq_false c7) ?_
    refine dq_aload e_86_11 l0 ?_
    refine dq_getR e_86_12 S5 ac_0_7_0_2 ?_
    refine dq_getR e_86_15 S5 ac_1_3_6_2 ?_
    refine dq_iload e_86_18 l1 ?_
    obtain ⟨g8, h⟩ := dgd_inv h
    refine dq_aals h e_86_19 S5 rx1 g8.1 g8.2 (fun u9 hu9 ku9 h => ?_)
    refine dq_iload e_86_20 l2 ?_
    refine dq_aload e_86_21 l0 ?_
    refine dq_getR e_86_22 S5 ac_0_7_0_2 ?_
    refine dq_getI (key := 2049) e_86_25 S5 ac_1_3_1_0 (by omega) ?_
    obtain ⟨N10, v11, c12, h⟩ := dbd_inv h
    have q13 := qX5_view_Sc18 (xs := xs) (Ln := Ln) S5 hu9 (dG_R _ _) c12
    have S14 : dS N10 := q13.2.1
    refine dq_calli (as := [.int (dI 18), .int (dI (dG N1 2049))]) (S := []) (nx := 31) e_86_28 rfl rfl rfl S5 (ak_28s_5 u9 hu9) rfl rfl rfl rfl q13 rfl ?_
    have r15 : dR v11 := q13.2.2
    refine dq_goto e_86_31 ?_
    cases h
    exact dq_reti (ty := .int) e_86_35 rfl rfl S14 r15
noncomputable def fX5_view_Sc9_b35 (N : mMem) (s : Nat) (x2 : Int) (y0 : Int) : Option dZ := some (N, dG N (65538 + 26624 * s))
theorem qX5_view_Sc9_b35 {Nl : List (Nat × Value)} {N : mMem} {s : Nat} {x2 : Int} {y0 : Int} {z : dZ} (hS : dS N) (hs : s < 8) (rx2 : dR x2) (ry0 : dR y0) (l0 : mLk Nl 0 = some (.ref (28 + 13 * s))) (l1 : mLk Nl 1 = some (.int (dI 9))) (l2 : mLk Nl 2 = some (.int (dI x2))) (h : fX5_view_Sc9_b35 N s x2 y0 = some z) : dQ xs Ln 1 0 0 66 (35, Nl, [.int (dI y0)], N) z := by
  unfold fX5_view_Sc9_b35 at h
  refine dq_istore e_66_35 rfl (fun K2 m3 mm4 => ?_)
  have m5 := mm4 0 _ (by decide) rfl l0
  have m6 := mm4 1 _ (by decide) rfl l1
  have m7 := mm4 2 _ (by decide) rfl l2
  refine dq_iload e_66_36 m6 ?_
  refine dq_tsI (c := 9) (q := 256) e_66_37 (⟨by decide, by decide⟩) rfl (by decide +kernel) rfl (by decide +kernel) ?_
  refine dq_aload e_66_256 m5 ?_
  refine dq_getR e_66_257 hS (ac_28s_5_16_2 s hs) ?_
  refine dq_getI (key := (65538 + 26624 * s)) e_66_260 hS (ac_32s_1_2_0 s hs) (by omega) ?_
  cases h
  exact dq_reti (ty := .int) e_66_263 rfl rfl hS (dG_R _ _)
noncomputable def fX5_view_Sc9_b22 (N : mMem) (s : Nat) (x2 : Int) : Option dZ := (if dG N (57348 + 26624 * s) = 1 then fX5_view_Sc9_b35 N s x2 1 else fX5_view_Sc9_b35 N s x2 0)
theorem qX5_view_Sc9_b22 {Nl : List (Nat × Value)} {N : mMem} {s : Nat} {x2 : Int} {z : dZ} (hS : dS N) (hs : s < 8) (rx2 : dR x2) (l0 : mLk Nl 0 = some (.ref (28 + 13 * s))) (l1 : mLk Nl 1 = some (.int (dI 9))) (l2 : mLk Nl 2 = some (.int (dI x2))) (h : fX5_view_Sc9_b22 N s x2 = some z) : dQ xs Ln 1 0 0 66 (22, Nl, [], N) z := by
  unfold fX5_view_Sc9_b22 at h
  refine dq_aload e_66_22 l0 ?_
  refine dq_getI (key := (57348 + 26624 * s)) e_66_23 hS (ac_28s_5_4_0 s hs) (by omega) ?_
  refine dq_iconst e_66_26 ?_
  by_cases c1 : dG N (57348 + 26624 * s) = 1
  · rw [if_pos c1] at h
    refine dq_icF e_66_27 (dG_R _ _) (⟨by decide, by decide⟩) (dnf c1) ?_
    refine dq_iconst e_66_30 ?_
    refine dq_goto e_66_31 ?_
    exact qX5_view_Sc9_b35 hS hs rx2 (⟨by decide, by decide⟩) l0 l1 l2 h
  · rw [if_neg c1] at h
    refine dq_icT e_66_27 (dG_R _ _) (⟨by decide, by decide⟩) (dnt c1) ?_
    refine dq_iconst e_66_34 ?_
    exact qX5_view_Sc9_b35 hS hs rx2 (⟨by decide, by decide⟩) l0 l1 l2 h
noncomputable def fX5_view_Sc9 (N : mMem) (s : Nat) (x2 : Int) : Option dZ := fX5_view_Sc9_b22 N s x2
theorem qX5_view_Sc9 {N : mMem} {s : Nat} {x2 : Int} {z : dZ} (hS : dS N) (hs : s < 8) (rx2 : dR x2) (h : fX5_view_Sc9 N s x2 = some z) : dQ xs Ln 1 0 0 66 (0, lv_args 0 [.ref (28 + 13 * s), .int (dI 9), .int (dI x2)], [], N) z := by
  unfold fX5_view_Sc9 at h
  have l0 : mLk (lv_args 0 [.ref (28 + 13 * s), .int (dI 9), .int (dI x2)]) 0 = some (.ref (28 + 13 * s)) := rfl
  have l1 : mLk (lv_args 0 [.ref (28 + 13 * s), .int (dI 9), .int (dI x2)]) 1 = some (.int (dI 9)) := rfl
  have l2 : mLk (lv_args 0 [.ref (28 + 13 * s), .int (dI 9), .int (dI x2)]) 2 = some (.int (dI x2)) := rfl
  generalize lv_args 0 [.ref (28 + 13 * s), .int (dI 9), .int (dI x2)] = Nl at l0 l1 l2 ⊢
  refine dq_iload e_66_0 l1 ?_
  refine dq_iconst e_66_1 ?_
  refine dq_icT e_66_3 (⟨by decide, by decide⟩) (⟨by decide, by decide⟩) (by decide +kernel) ?_
  exact qX5_view_Sc9_b22 hS hs rx2 l0 l1 l2 h
noncomputable def fX7_station_Oc9 (N : mMem) (x1 : Int) : Option dZ := dbd (fX3_has_R N x1) fun N1 v2 => (if v2 = 0 then some (N1, (-1)) else dgd (0 ≤ x1 ∧ x1 < 8) <| dln (x1).toNat fun u9 => dbd (fX5_view_Sc9 N1 u9 (dG N1 2049)) fun N10 v11 => some (N10, v11))
theorem qX7_station_Oc9 {N : mMem} {x1 : Int} {z : dZ} (hS : dS N) (rx1 : dR x1) (h : fX7_station_Oc9 N x1 = some z) : dQ xs Ln 1 1 23 86 (0, lv_args 0 [.ref 0, .int (dI x1), .int (dI 9)], [], N) z := by
  unfold fX7_station_Oc9 at h
  have l0 : mLk (lv_args 0 [.ref 0, .int (dI x1), .int (dI 9)]) 0 = some (.ref 0) := rfl
  have l1 : mLk (lv_args 0 [.ref 0, .int (dI x1), .int (dI 9)]) 1 = some (.int (dI x1)) := rfl
  have l2 : mLk (lv_args 0 [.ref 0, .int (dI x1), .int (dI 9)]) 2 = some (.int (dI 9)) := rfl
  generalize lv_args 0 [.ref 0, .int (dI x1), .int (dI 9)] = Nl at l0 l1 l2 ⊢
  refine dq_aload e_86_0 l0 ?_
  refine dq_getR e_86_1 hS ac_0_7_0_2 ?_
  refine dq_iload e_86_4 l1 ?_
  obtain ⟨N1, v2, c3, h⟩ := dbd_inv h
  have q4 := qX3_has_R (xs := xs) (Ln := Ln) hS rx1 c3
  have S5 : dS N1 := q4.2.1
  refine dq_calli (as := [.int (dI x1)]) (S := []) (nx := 8) e_86_5 rfl rfl rfl hS ak_1_3 rfl rfl rfl rfl q4 rfl ?_
  have r6 : dR v2 := q4.2.2
  by_cases c7 : v2 = 0
  · rw [if_pos c7] at h
    refine dq_ifT e_86_8 r6 (decide_eq_true c7) ?_
    refine dq_iconst e_86_34 ?_
    cases h
    exact dq_reti (ty := .int) e_86_35 rfl rfl S5 (⟨by decide, by decide⟩)
  · rw [if_neg c7] at h
    refine dq_ifF e_86_8 r6 (decide_eq_false c7) ?_
    refine dq_aload e_86_11 l0 ?_
    refine dq_getR e_86_12 S5 ac_0_7_0_2 ?_
    refine dq_getR e_86_15 S5 ac_1_3_6_2 ?_
    refine dq_iload e_86_18 l1 ?_
    obtain ⟨g8, h⟩ := dgd_inv h
    refine dq_aals h e_86_19 S5 rx1 g8.1 g8.2 (fun u9 hu9 ku9 h => ?_)
    refine dq_iload e_86_20 l2 ?_
    refine dq_aload e_86_21 l0 ?_
    refine dq_getR e_86_22 S5 ac_0_7_0_2 ?_
    refine dq_getI (key := 2049) e_86_25 S5 ac_1_3_1_0 (by omega) ?_
    obtain ⟨N10, v11, c12, h⟩ := dbd_inv h
    have q13 := qX5_view_Sc9 (xs := xs) (Ln := Ln) S5 hu9 (dG_R _ _) c12
    have S14 : dS N10 := q13.2.1
    refine dq_calli (as := [.int (dI 9), .int (dI (dG N1 2049))]) (S := []) (nx := 31) e_86_28 rfl rfl rfl S5 (ak_28s_5 u9 hu9) rfl rfl rfl rfl q13 rfl ?_
    have r15 : dR v11 := q13.2.2
    refine dq_goto e_86_31 ?_
    cases h
    exact dq_reti (ty := .int) e_86_35 rfl rfl S14 r15
noncomputable def fX5_view_Sc2_b35 (N : mMem) (s : Nat) (x2 : Int) (y0 : Int) : Option dZ := some (N, dG N (57346 + 26624 * s))
theorem qX5_view_Sc2_b35 {Nl : List (Nat × Value)} {N : mMem} {s : Nat} {x2 : Int} {y0 : Int} {z : dZ} (hS : dS N) (hs : s < 8) (rx2 : dR x2) (ry0 : dR y0) (l0 : mLk Nl 0 = some (.ref (28 + 13 * s))) (l1 : mLk Nl 1 = some (.int (dI 2))) (l2 : mLk Nl 2 = some (.int (dI x2))) (h : fX5_view_Sc2_b35 N s x2 y0 = some z) : dQ xs Ln 1 0 0 66 (35, Nl, [.int (dI y0)], N) z := by
  unfold fX5_view_Sc2_b35 at h
  refine dq_istore e_66_35 rfl (fun K2 m3 mm4 => ?_)
  have m5 := mm4 0 _ (by decide) rfl l0
  have m6 := mm4 1 _ (by decide) rfl l1
  have m7 := mm4 2 _ (by decide) rfl l2
  refine dq_iload e_66_36 m6 ?_
  refine dq_tsI (c := 2) (q := 170) e_66_37 (⟨by decide, by decide⟩) rfl (by decide +kernel) rfl (by decide +kernel) ?_
  refine dq_aload e_66_170 m5 ?_
  refine dq_getI (key := (57346 + 26624 * s)) e_66_171 hS (ac_28s_5_2_0 s hs) (by omega) ?_
  cases h
  exact dq_reti (ty := .int) e_66_174 rfl rfl hS (dG_R _ _)
noncomputable def fX5_view_Sc2_b22 (N : mMem) (s : Nat) (x2 : Int) : Option dZ := (if dG N (57348 + 26624 * s) = 1 then fX5_view_Sc2_b35 N s x2 1 else fX5_view_Sc2_b35 N s x2 0)
theorem qX5_view_Sc2_b22 {Nl : List (Nat × Value)} {N : mMem} {s : Nat} {x2 : Int} {z : dZ} (hS : dS N) (hs : s < 8) (rx2 : dR x2) (l0 : mLk Nl 0 = some (.ref (28 + 13 * s))) (l1 : mLk Nl 1 = some (.int (dI 2))) (l2 : mLk Nl 2 = some (.int (dI x2))) (h : fX5_view_Sc2_b22 N s x2 = some z) : dQ xs Ln 1 0 0 66 (22, Nl, [], N) z := by
  unfold fX5_view_Sc2_b22 at h
  refine dq_aload e_66_22 l0 ?_
  refine dq_getI (key := (57348 + 26624 * s)) e_66_23 hS (ac_28s_5_4_0 s hs) (by omega) ?_
  refine dq_iconst e_66_26 ?_
  by_cases c1 : dG N (57348 + 26624 * s) = 1
  · rw [if_pos c1] at h
    refine dq_icF e_66_27 (dG_R _ _) (⟨by decide, by decide⟩) (dnf c1) ?_
    refine dq_iconst e_66_30 ?_
    refine dq_goto e_66_31 ?_
    exact qX5_view_Sc2_b35 hS hs rx2 (⟨by decide, by decide⟩) l0 l1 l2 h
  · rw [if_neg c1] at h
    refine dq_icT e_66_27 (dG_R _ _) (⟨by decide, by decide⟩) (dnt c1) ?_
    refine dq_iconst e_66_34 ?_
    exact qX5_view_Sc2_b35 hS hs rx2 (⟨by decide, by decide⟩) l0 l1 l2 h
noncomputable def fX5_view_Sc2 (N : mMem) (s : Nat) (x2 : Int) : Option dZ := fX5_view_Sc2_b22 N s x2
theorem qX5_view_Sc2 {N : mMem} {s : Nat} {x2 : Int} {z : dZ} (hS : dS N) (hs : s < 8) (rx2 : dR x2) (h : fX5_view_Sc2 N s x2 = some z) : dQ xs Ln 1 0 0 66 (0, lv_args 0 [.ref (28 + 13 * s), .int (dI 2), .int (dI x2)], [], N) z := by
  unfold fX5_view_Sc2 at h
  have l0 : mLk (lv_args 0 [.ref (28 + 13 * s), .int (dI 2), .int (dI x2)]) 0 = some (.ref (28 + 13 * s)) := rfl
  have l1 : mLk (lv_args 0 [.ref (28 + 13 * s), .int (dI 2), .int (dI x2)]) 1 = some (.int (dI 2)) := rfl
  have l2 : mLk (lv_args 0 [.ref (28 + 13 * s), .int (dI 2), .int (dI x2)]) 2 = some (.int (dI x2)) := rfl
  generalize lv_args 0 [.ref (28 + 13 * s), .int (dI 2), .int (dI x2)] = Nl at l0 l1 l2 ⊢
  refine dq_iload e_66_0 l1 ?_
  refine dq_iconst e_66_1 ?_
  refine dq_icT e_66_3 (⟨by decide, by decide⟩) (⟨by decide, by decide⟩) (by decide +kernel) ?_
  exact qX5_view_Sc2_b22 hS hs rx2 l0 l1 l2 h
noncomputable def fX7_station_Oc2 (N : mMem) (x1 : Int) : Option dZ := dbd (fX3_has_R N x1) fun N1 v2 => (if v2 = 0 then some (N1, (-1)) else dgd (0 ≤ x1 ∧ x1 < 8) <| dln (x1).toNat fun u9 => dbd (fX5_view_Sc2 N1 u9 (dG N1 2049)) fun N10 v11 => some (N10, v11))
theorem qX7_station_Oc2 {N : mMem} {x1 : Int} {z : dZ} (hS : dS N) (rx1 : dR x1) (h : fX7_station_Oc2 N x1 = some z) : dQ xs Ln 1 1 23 86 (0, lv_args 0 [.ref 0, .int (dI x1), .int (dI 2)], [], N) z := by
  unfold fX7_station_Oc2 at h
  have l0 : mLk (lv_args 0 [.ref 0, .int (dI x1), .int (dI 2)]) 0 = some (.ref 0) := rfl
  have l1 : mLk (lv_args 0 [.ref 0, .int (dI x1), .int (dI 2)]) 1 = some (.int (dI x1)) := rfl
  have l2 : mLk (lv_args 0 [.ref 0, .int (dI x1), .int (dI 2)]) 2 = some (.int (dI 2)) := rfl
  generalize lv_args 0 [.ref 0, .int (dI x1), .int (dI 2)] = Nl at l0 l1 l2 ⊢
  refine dq_aload e_86_0 l0 ?_
  refine dq_getR e_86_1 hS ac_0_7_0_2 ?_
  refine dq_iload e_86_4 l1 ?_
  obtain ⟨N1, v2, c3, h⟩ := dbd_inv h
  have q4 := qX3_has_R (xs := xs) (Ln := Ln) hS rx1 c3
  have S5 : dS N1 := q4.2.1
  refine dq_calli (as := [.int (dI x1)]) (S := []) (nx := 8) e_86_5 rfl rfl rfl hS ak_1_3 rfl rfl rfl rfl q4 rfl ?_
  have r6 : dR v2 := q4.2.2
  by_cases c7 : v2 = 0
  · rw [if_pos c7] at h
    refine dq_ifT e_86_8 r6 (decide_eq_true c7) ?_
    refine dq_iconst e_86_34 ?_
    cases h
    exact dq_reti (ty := .int) e_86_35 rfl rfl S5 (⟨by decide, by decide⟩)
  · rw [if_neg c7] at h
    refine dq_ifF e_86_8 r6 (decide_eq_false c7) ?_
    refine dq_aload e_86_11 l0 ?_
    refine dq_getR e_86_12 S5 ac_0_7_0_2 ?_
    refine dq_getR e_86_15 S5 ac_1_3_6_2 ?_
    refine dq_iload e_86_18 l1 ?_
    obtain ⟨g8, h⟩ := dgd_inv h
    refine dq_aals h e_86_19 S5 rx1 g8.1 g8.2 (fun u9 hu9 ku9 h => ?_)
    refine dq_iload e_86_20 l2 ?_
    refine dq_aload e_86_21 l0 ?_
    refine dq_getR e_86_22 S5 ac_0_7_0_2 ?_
    refine dq_getI (key := 2049) e_86_25 S5 ac_1_3_1_0 (by omega) ?_
    obtain ⟨N10, v11, c12, h⟩ := dbd_inv h
    have q13 := qX5_view_Sc2 (xs := xs) (Ln := Ln) S5 hu9 (dG_R _ _) c12
    have S14 : dS N10 := q13.2.1
    refine dq_calli (as := [.int (dI 2), .int (dI (dG N1 2049))]) (S := []) (nx := 31) e_86_28 rfl rfl rfl S5 (ak_28s_5 u9 hu9) rfl rfl rfl rfl q13 rfl ?_
    have r15 : dR v11 := q13.2.2
    refine dq_goto e_86_31 ?_
    cases h
    exact dq_reti (ty := .int) e_86_35 rfl rfl S14 r15
noncomputable def fX5_view_Sc21 (N : mMem) (s : Nat) (x2 : Int) : Option dZ := some (N, dG N (81926 + 26624 * s))
theorem qX5_view_Sc21 {N : mMem} {s : Nat} {x2 : Int} {z : dZ} (hS : dS N) (hs : s < 8) (rx2 : dR x2) (h : fX5_view_Sc21 N s x2 = some z) : dQ xs Ln 1 0 0 66 (0, lv_args 0 [.ref (28 + 13 * s), .int (dI 21), .int (dI x2)], [], N) z := by
  unfold fX5_view_Sc21 at h
  have l0 : mLk (lv_args 0 [.ref (28 + 13 * s), .int (dI 21), .int (dI x2)]) 0 = some (.ref (28 + 13 * s)) := rfl
  have l1 : mLk (lv_args 0 [.ref (28 + 13 * s), .int (dI 21), .int (dI x2)]) 1 = some (.int (dI 21)) := rfl
  have l2 : mLk (lv_args 0 [.ref (28 + 13 * s), .int (dI 21), .int (dI x2)]) 2 = some (.int (dI x2)) := rfl
  generalize lv_args 0 [.ref (28 + 13 * s), .int (dI 21), .int (dI x2)] = Nl at l0 l1 l2 ⊢
  refine dq_iload e_66_0 l1 ?_
  refine dq_iconst e_66_1 ?_
  refine dq_icF e_66_3 (⟨by decide, by decide⟩) (⟨by decide, by decide⟩) (by decide +kernel) ?_
  refine dq_iload e_66_6 l1 ?_
  refine dq_iconst e_66_7 ?_
  refine dq_icF e_66_9 (⟨by decide, by decide⟩) (⟨by decide, by decide⟩) (by decide +kernel) ?_
  refine dq_aload e_66_12 l0 ?_
  refine dq_getR e_66_13 hS (ac_28s_5_18_2 s hs) ?_
  refine dq_iload e_66_16 l1 ?_
  refine dq_iconst e_66_17 ?_
  refine dq_isub (e := 6) e_66_19 (by decide +kernel) ?_
  refine dq_ial (key := (81926 + 26624 * s)) e_66_20 hS (aa_40s s hs) (⟨by decide, by decide⟩) (by decide) (by decide) (by show (40 + 13 * s) * 2048 + 6 = (81926 + 26624 * s); omega) ?_
  cases h
  exact dq_reti (ty := .int) e_66_21 rfl rfl hS (dG_R _ _)
noncomputable def fX7_station_Oc21 (N : mMem) (x1 : Int) : Option dZ := dbd (fX3_has_R N x1) fun N1 v2 => (if v2 = 0 then some (N1, (-1)) else dgd (0 ≤ x1 ∧ x1 < 8) <| dln (x1).toNat fun u9 => dbd (fX5_view_Sc21 N1 u9 (dG N1 2049)) fun N10 v11 => some (N10, v11))
theorem qX7_station_Oc21 {N : mMem} {x1 : Int} {z : dZ} (hS : dS N) (rx1 : dR x1) (h : fX7_station_Oc21 N x1 = some z) : dQ xs Ln 1 1 23 86 (0, lv_args 0 [.ref 0, .int (dI x1), .int (dI 21)], [], N) z := by
  unfold fX7_station_Oc21 at h
  have l0 : mLk (lv_args 0 [.ref 0, .int (dI x1), .int (dI 21)]) 0 = some (.ref 0) := rfl
  have l1 : mLk (lv_args 0 [.ref 0, .int (dI x1), .int (dI 21)]) 1 = some (.int (dI x1)) := rfl
  have l2 : mLk (lv_args 0 [.ref 0, .int (dI x1), .int (dI 21)]) 2 = some (.int (dI 21)) := rfl
  generalize lv_args 0 [.ref 0, .int (dI x1), .int (dI 21)] = Nl at l0 l1 l2 ⊢
  refine dq_aload e_86_0 l0 ?_
  refine dq_getR e_86_1 hS ac_0_7_0_2 ?_
  refine dq_iload e_86_4 l1 ?_
  obtain ⟨N1, v2, c3, h⟩ := dbd_inv h
  have q4 := qX3_has_R (xs := xs) (Ln := Ln) hS rx1 c3
  have S5 : dS N1 := q4.2.1
  refine dq_calli (as := [.int (dI x1)]) (S := []) (nx := 8) e_86_5 rfl rfl rfl hS ak_1_3 rfl rfl rfl rfl q4 rfl ?_
  have r6 : dR v2 := q4.2.2
  by_cases c7 : v2 = 0
  · rw [if_pos c7] at h
    refine dq_ifT e_86_8 r6 (decide_eq_true c7) ?_
    refine dq_iconst e_86_34 ?_
    cases h
    exact dq_reti (ty := .int) e_86_35 rfl rfl S5 (⟨by decide, by decide⟩)
  · rw [if_neg c7] at h
    refine dq_ifF e_86_8 r6 (decide_eq_false c7) ?_
    refine dq_aload e_86_11 l0 ?_
    refine dq_getR e_86_12 S5 ac_0_7_0_2 ?_
    refine dq_getR e_86_15 S5 ac_1_3_6_2 ?_
    refine dq_iload e_86_18 l1 ?_
    obtain ⟨g8, h⟩ := dgd_inv h
    refine dq_aals h e_86_19 S5 rx1 g8.1 g8.2 (fun u9 hu9 ku9 h => ?_)
    refine dq_iload e_86_20 l2 ?_
    refine dq_aload e_86_21 l0 ?_
    refine dq_getR e_86_22 S5 ac_0_7_0_2 ?_
    refine dq_getI (key := 2049) e_86_25 S5 ac_1_3_1_0 (by omega) ?_
    obtain ⟨N10, v11, c12, h⟩ := dbd_inv h
    have q13 := qX5_view_Sc21 (xs := xs) (Ln := Ln) S5 hu9 (dG_R _ _) c12
    have S14 : dS N10 := q13.2.1
    refine dq_calli (as := [.int (dI 21), .int (dI (dG N1 2049))]) (S := []) (nx := 31) e_86_28 rfl rfl rfl S5 (ak_28s_5 u9 hu9) rfl rfl rfl rfl q13 rfl ?_
    have r15 : dR v11 := q13.2.2
    refine dq_goto e_86_31 ?_
    cases h
    exact dq_reti (ty := .int) e_86_35 rfl rfl S14 r15
noncomputable def fX7_mean_O (N : mMem) (x1 : Int) : Option dZ := dbd (fX3_has_R N x1) fun N1 v2 => (if v2 = 0 then some (N1, (-1)) else dgd (0 ≤ x1 ∧ x1 < 8) <| dln (x1).toNat fun u9 => (if 0 < dG N1 (81926 + 26624 * u9) then dgd ((0 : Int) ≤ dW6 ((dG N1 (81927 + 26624 * u9)) * 1000) ∧ (0 : Int) < dG N1 (81926 + 26624 * u9)) <| some (N1, (dW6 ((dG N1 (81927 + 26624 * u9)) * 1000)) / (dG N1 (81926 + 26624 * u9))) else some (N1, (-1))))
theorem qX7_mean_O {N : mMem} {x1 : Int} {z : dZ} (hS : dS N) (rx1 : dR x1) (h : fX7_mean_O N x1 = some z) : dQ xs Ln 2 1 21 88 (0, lv_args 0 [.ref 0, .int (dI x1)], [], N) z := by
  unfold fX7_mean_O at h
  have l0 : mLk (lv_args 0 [.ref 0, .int (dI x1)]) 0 = some (.ref 0) := rfl
  have l1 : mLk (lv_args 0 [.ref 0, .int (dI x1)]) 1 = some (.int (dI x1)) := rfl
  generalize lv_args 0 [.ref 0, .int (dI x1)] = Nl at l0 l1 ⊢
  refine dq_aload e_88_0 l0 ?_
  refine dq_getR e_88_1 hS ac_0_7_0_2 ?_
  refine dq_iload e_88_4 l1 ?_
  obtain ⟨N1, v2, c3, h⟩ := dbd_inv h
  have q4 := qX3_has_R (xs := xs) (Ln := Ln) hS rx1 c3
  have S5 : dS N1 := q4.2.1
  refine dq_calli (as := [.int (dI x1)]) (S := []) (nx := 8) e_88_5 rfl rfl rfl hS ak_1_3 rfl rfl rfl rfl q4 rfl ?_
  have r6 : dR v2 := q4.2.2
  by_cases c7 : v2 = 0
  · rw [if_pos c7] at h
    refine dq_ifF e_88_8 r6 (dnf c7) ?_
    refine dq_lconst e_88_11 ?_
    cases h
    exact dq_retl e_88_14 rfl S5 (⟨by decide, by decide⟩)
  · rw [if_neg c7] at h
    refine dq_ifT e_88_8 r6 (dnt c7) ?_
    refine dq_aload e_88_15 l0 ?_
    refine dq_getR e_88_16 S5 ac_0_7_0_2 ?_
    refine dq_getR e_88_19 S5 ac_1_3_6_2 ?_
    refine dq_iload e_88_22 l1 ?_
    obtain ⟨g8, h⟩ := dgd_inv h
    refine dq_aals h e_88_23 S5 rx1 g8.1 g8.2 (fun u9 hu9 ku9 h => ?_)
    refine dq_getR e_88_24 S5 (ac_28s_5_18_2 u9 hu9) ?_
    refine dq_astore e_88_27 rfl (fun K10 m11 mm12 => ?_)
    refine dq_aload e_88_28 m11 ?_
    refine dq_iconst e_88_29 ?_
    refine dq_ial (key := (81926 + 26624 * u9)) e_88_31 S5 (aa_40s u9 hu9) (⟨by decide, by decide⟩) (by decide) (by decide) (by show (40 + 13 * u9) * 2048 + 6 = (81926 + 26624 * u9); omega) ?_
    by_cases c13 : 0 < dG N1 (81926 + 26624 * u9)
    · rw [if_pos c13] at h
      refine dq_ifF e_88_32 (dG_R _ _) (dnf c13) ?_
      refine dq_aload e_88_35 m11 ?_
      refine dq_iconst e_88_36 ?_
      refine dq_ial (key := (81927 + 26624 * u9)) e_88_38 S5 (aa_40s u9 hu9) (⟨by decide, by decide⟩) (by decide) (by decide) (by show (40 + 13 * u9) * 2048 + 7 = (81927 + 26624 * u9); omega) ?_
      have r14 : dR6 (dG N1 (81927 + 26624 * u9)) := ⟨by have := (show dR (dG N1 (81927 + 26624 * u9)) from dG_R _ _).1; omega, by have := (show dR (dG N1 (81927 + 26624 * u9)) from dG_R _ _).2; omega⟩
      refine dq_i2l e_88_39 (dG_R _ _) ?_
      refine dq_lconst e_88_40 ?_
      refine dq_lmul e_88_43 rfl ?_
      refine dq_aload e_88_44 m11 ?_
      refine dq_iconst e_88_45 ?_
      refine dq_ial (key := (81926 + 26624 * u9)) e_88_47 S5 (aa_40s u9 hu9) (⟨by decide, by decide⟩) (by decide) (by decide) (by show (40 + 13 * u9) * 2048 + 6 = (81926 + 26624 * u9); omega) ?_
      have r15 : dR6 (dG N1 (81926 + 26624 * u9)) := ⟨by have := (show dR (dG N1 (81926 + 26624 * u9)) from dG_R _ _).1; omega, by have := (show dR (dG N1 (81926 + 26624 * u9)) from dG_R _ _).2; omega⟩
      refine dq_i2l e_88_48 (dG_R _ _) ?_
      obtain ⟨g16, h⟩ := dgd_inv h
      have r17 : dR6 ((dW6 ((dG N1 (81927 + 26624 * u9)) * 1000)) / (dG N1 (81926 + 26624 * u9))) := ⟨by have := Int.ediv_nonneg g16.1 (Int.le_of_lt g16.2); omega, by have := Int.ediv_le_self (dG N1 (81926 + 26624 * u9)) g16.1; have := (show dR6 (dW6 ((dG N1 (81927 + 26624 * u9)) * 1000)) from dW6_R _).2; omega⟩
      refine dq_ldiv e_88_49 (dW6_R _) r15 g16.1 g16.2 rfl ?_
      refine dq_goto e_88_50 ?_
      cases h
      exact dq_retl e_88_56 rfl S5 r17
    · rw [if_neg c13] at h
      refine dq_ifT e_88_32 (dG_R _ _) (dnt c13) ?_
      refine dq_lconst e_88_53 ?_
      cases h
      exact dq_retl e_88_56 rfl S5 (⟨by decide, by decide⟩)
noncomputable def fX7_frame_O (N : mMem) (x1 : Int) (x2 : Int) (x3 : Int) (x4 : Int) : Option dZ := dbd (fX3_canFrame_R N x1 x2 x3 x4) fun N1 v2 => (if v2 = 0 then some (N1, (-1)) else dbd (fX3_queue_R N1 x1 x2 x3 x4) fun N8 v9 => dgd (0 ≤ x1 ∧ x1 < 8) <| dln (x1).toNat fun u15 => some (N8, dG N8 (67587 + 26624 * u15)))
theorem qX7_frame_O {N : mMem} {x1 : Int} {x2 : Int} {x3 : Int} {x4 : Int} {z : dZ} (hS : dS N) (rx1 : dR x1) (rx2 : dR x2) (rx3 : dR x3) (rx4 : dR x4) (h : fX7_frame_O N x1 x2 x3 x4 = some z) : dQ xs Ln 1 2 49 81 (0, lv_args 0 [.ref 0, .int (dI x1), .int (dI x2), .int (dI x3), .int (dI x4)], [], N) z := by
  unfold fX7_frame_O at h
  have l0 : mLk (lv_args 0 [.ref 0, .int (dI x1), .int (dI x2), .int (dI x3), .int (dI x4)]) 0 = some (.ref 0) := rfl
  have l1 : mLk (lv_args 0 [.ref 0, .int (dI x1), .int (dI x2), .int (dI x3), .int (dI x4)]) 1 = some (.int (dI x1)) := rfl
  have l2 : mLk (lv_args 0 [.ref 0, .int (dI x1), .int (dI x2), .int (dI x3), .int (dI x4)]) 2 = some (.int (dI x2)) := rfl
  have l3 : mLk (lv_args 0 [.ref 0, .int (dI x1), .int (dI x2), .int (dI x3), .int (dI x4)]) 3 = some (.int (dI x3)) := rfl
  have l4 : mLk (lv_args 0 [.ref 0, .int (dI x1), .int (dI x2), .int (dI x3), .int (dI x4)]) 4 = some (.int (dI x4)) := rfl
  generalize lv_args 0 [.ref 0, .int (dI x1), .int (dI x2), .int (dI x3), .int (dI x4)] = Nl at l0 l1 l2 l3 l4 ⊢
  refine dq_aload e_81_0 l0 ?_
  refine dq_getR e_81_1 hS ac_0_7_0_2 ?_
  refine dq_iload e_81_4 l1 ?_
  refine dq_iload e_81_5 l2 ?_
  refine dq_iload e_81_6 l3 ?_
  refine dq_iload e_81_7 l4 ?_
  obtain ⟨N1, v2, c3, h⟩ := dbd_inv h
  have q4 := qX3_canFrame_R (xs := xs) (Ln := Ln) hS rx1 rx2 rx3 rx4 c3
  have S5 : dS N1 := q4.2.1
  refine dq_calli (as := [.int (dI x1), .int (dI x2), .int (dI x3), .int (dI x4)]) (S := []) (nx := 12) e_81_9 rfl rfl rfl hS ak_1_3 rfl rfl rfl rfl q4 rfl ?_
  have r6 : dR v2 := q4.2.2
  by_cases c7 : v2 = 0
  · rw [if_pos c7] at h
    refine dq_ifF e_81_12 r6 (dnf c7) ?_
    refine dq_iconst e_81_15 ?_
    cases h
    exact dq_reti (ty := .int) e_81_16 rfl rfl S5 (⟨by decide, by decide⟩)
  · rw [if_neg c7] at h
    refine dq_ifT e_81_12 r6 (dnt c7) ?_
    refine dq_aload e_81_17 l0 ?_
    refine dq_getR e_81_18 S5 ac_0_7_0_2 ?_
    refine dq_iload e_81_21 l1 ?_
    refine dq_iload e_81_22 l2 ?_
    refine dq_iload e_81_23 l3 ?_
    refine dq_iload e_81_24 l4 ?_
    obtain ⟨N8, v9, c10, h⟩ := dbd_inv h
    have q11 := qX3_queue_R (xs := xs) (Ln := Ln) S5 rx1 rx2 rx3 rx4 c10
    have S12 : dS N8 := q11.2.1
    refine dq_calli (as := [.int (dI x1), .int (dI x2), .int (dI x3), .int (dI x4)]) (S := []) (nx := 29) e_81_26 rfl rfl rfl S5 ak_1_3 rfl rfl rfl rfl q11 rfl ?_
    have r13 : dR v9 := q11.2.2
    refine dq_pop e_81_29 rfl ?_
    refine dq_aload e_81_30 l0 ?_
    refine dq_getR e_81_31 S12 ac_0_7_0_2 ?_
    refine dq_getR e_81_34 S12 ac_1_3_6_2 ?_
    refine dq_iload e_81_37 l1 ?_
    obtain ⟨g14, h⟩ := dgd_inv h
    refine dq_aals h e_81_38 S12 rx1 g14.1 g14.2 (fun u15 hu15 ku15 h => ?_)
    refine dq_getR e_81_39 S12 (ac_28s_5_17_2 u15 hu15) ?_
    refine dq_getI (key := (67587 + 26624 * u15)) e_81_42 S12 (ac_33s_4_3_0 u15 hu15) (by omega) ?_
    cases h
    exact dq_reti (ty := .int) e_81_45 rfl rfl S12 (dG_R _ _)
noncomputable def fX3_longestTrip_R_b4 : Nat → mMem → Int → Int → Option dZ
  | 0, _, _, _ => none
  | n + 1, N, x1, x2 => (if x2 < dG N 2048 then dgd (0 ≤ x2 ∧ x2 < 8) <| dln (x2).toNat fun u12 => fX3_longestTrip_R_b4 n N (dMx x1 (dG N (81928 + 26624 * u12))) (dW (x2 + 1)) else some (N, x1))
theorem qX3_longestTrip_R_b4 : ∀ (n : Nat) {Nl : List (Nat × Value)} {N : mMem} {x1 : Int} {x2 : Int} {z : dZ}, dS N → dR x1 → dR x2 → mLk Nl 0 = some (.ref 1) → mLk Nl 1 = some (.int (dI x1)) → mLk Nl 2 = some (.int (dI x2)) → fX3_longestTrip_R_b4 n N x1 x2 = some z → dQ xs Ln 1 1 13 30 (4, Nl, [], N) z := fun n => by
  induction n with
  | zero =>
    intro Nl N x1 x2 z hS rx1 rx2 l0 l1 l2 h
    cases h
  | succ n ih =>
    intro Nl N x1 x2 z hS rx1 rx2 l0 l1 l2 h
    rw [fX3_longestTrip_R_b4] at h
    refine dq_iload e_30_4 l2 ?_
    refine dq_aload e_30_5 l0 ?_
    refine dq_getI (key := 2048) e_30_6 hS ac_1_3_0_0 (by omega) ?_
    by_cases c10 : x2 < dG N 2048
    · rw [if_pos c10] at h
      refine dq_icF e_30_9 rx2 (dG_R _ _) (dnf c10) ?_
      refine dq_iload e_30_12 l1 ?_
      refine dq_aload e_30_13 l0 ?_
      refine dq_getR e_30_14 hS ac_1_3_6_2 ?_
      refine dq_iload e_30_17 l2 ?_
      obtain ⟨g11, h⟩ := dgd_inv h
      refine dq_aals h e_30_18 hS rx2 g11.1 g11.2 (fun u12 hu12 ku12 h => ?_)
      refine dq_getR e_30_19 hS (ac_28s_5_18_2 u12 hu12) ?_
      refine dq_iconst e_30_22 ?_
      refine dq_ial (key := (81928 + 26624 * u12)) e_30_24 hS (aa_40s u12 hu12) (⟨by decide, by decide⟩) (by decide) (by decide) (by show (40 + 13 * u12) * 2048 + 8 = (81928 + 26624 * u12); omega) ?_
      refine dq_max e_30_25 rx1 (dG_R _ _) rfl rfl rfl ?_
      refine dq_istore e_30_28 rfl (fun K13 m14 mm15 => ?_)
      have m16 := mm15 0 _ (by decide) rfl l0
      have m17 := mm15 2 _ (by decide) rfl l2
      refine dq_iinc (x := x2) (e := dW (x2 + 1)) e_30_29 m17 rfl rfl (fun K18 m19 mm20 => ?_)
      have m21 := mm20 0 _ (by decide) rfl m16
      have m22 := mm20 1 _ (by decide) rfl m14
      refine dq_goto e_30_32 ?_
      exact ih hS (dMx_R rx1 (dG_R _ _)) (dW_R _) m21 m22 m19 h
    · rw [if_neg c10] at h
      refine dq_icT e_30_9 rx2 (dG_R _ _) (dnt c10) ?_
      refine dq_iload e_30_35 l1 ?_
      cases h
      exact dq_reti (ty := .int) e_30_36 rfl rfl hS rx1
noncomputable def fX3_longestTrip_R (N : mMem) : Option dZ := fX3_longestTrip_R_b4 1000 N 0 0
theorem qX3_longestTrip_R {N : mMem} {z : dZ} (hS : dS N) (h : fX3_longestTrip_R N = some z) : dQ xs Ln 1 1 13 30 (0, lv_args 0 [.ref 1], [], N) z := by
  unfold fX3_longestTrip_R at h
  have l0 : mLk (lv_args 0 [.ref 1]) 0 = some (.ref 1) := rfl
  generalize lv_args 0 [.ref 1] = Nl at l0 ⊢
  refine dq_iconst e_30_0 ?_
  refine dq_istore e_30_1 rfl (fun K1 m2 mm3 => ?_)
  have m4 := mm3 0 _ (by decide) rfl l0
  refine dq_iconst e_30_2 ?_
  refine dq_istore e_30_3 rfl (fun K5 m6 mm7 => ?_)
  have m8 := mm7 0 _ (by decide) rfl m4
  have m9 := mm7 1 _ (by decide) rfl m2
  exact qX3_longestTrip_R_b4 _ hS (⟨by decide, by decide⟩) (⟨by decide, by decide⟩) m8 m9 m6 h
noncomputable def fX7_look_Oc22_b20 (N : mMem) : Option dZ := dbd (fX3_longestTrip_R N) fun N1 v2 => some (N1, v2)
theorem qX7_look_Oc22_b20 {Nl : List (Nat × Value)} {N : mMem} {z : dZ} (hS : dS N) (l0 : mLk Nl 0 = some (.ref 0)) (l1 : mLk Nl 1 = some (.int (dI 22))) (h : fX7_look_Oc22_b20 N = some z) : dQ xs Ln 1 2 35 90 (20, Nl, [], N) z := by
  unfold fX7_look_Oc22_b20 at h
  refine dq_iload e_90_20 l1 ?_
  refine dq_tsI (c := 22) (q := 234) e_90_21 (⟨by decide, by decide⟩) rfl (by decide +kernel) rfl (by decide +kernel) ?_
  refine dq_aload e_90_234 l0 ?_
  refine dq_getR e_90_235 hS ac_0_7_0_2 ?_
  obtain ⟨N1, v2, c3, h⟩ := dbd_inv h
  have q4 := qX3_longestTrip_R (xs := xs) (Ln := Ln) hS c3
  have S5 : dS N1 := q4.2.1
  refine dq_calli (as := []) (S := []) (nx := 241) e_90_238 rfl rfl rfl hS ak_1_3 rfl rfl rfl rfl q4 rfl ?_
  have r6 : dR v2 := q4.2.2
  cases h
  exact dq_reti (ty := .int) e_90_241 rfl rfl S5 r6
noncomputable def fX7_look_Oc22 (N : mMem) : Option dZ := fX7_look_Oc22_b20 N
theorem qX7_look_Oc22 {N : mMem} {z : dZ} (hS : dS N) (h : fX7_look_Oc22 N = some z) : dQ xs Ln 1 2 35 90 (0, lv_args 0 [.ref 0, .int (dI 22)], [], N) z := by
  unfold fX7_look_Oc22 at h
  have l0 : mLk (lv_args 0 [.ref 0, .int (dI 22)]) 0 = some (.ref 0) := rfl
  have l1 : mLk (lv_args 0 [.ref 0, .int (dI 22)]) 1 = some (.int (dI 22)) := rfl
  generalize lv_args 0 [.ref 0, .int (dI 22)] = Nl at l0 l1 ⊢
  refine dq_iload e_90_0 l1 ?_
  refine dq_ifF e_90_1 (⟨by decide, by decide⟩) (by decide +kernel) ?_
  refine dq_iload e_90_4 l1 ?_
  refine dq_iconst e_90_5 ?_
  refine dq_icT e_90_7 (⟨by decide, by decide⟩) (⟨by decide, by decide⟩) (by decide +kernel) ?_
  exact qX7_look_Oc22_b20 hS l0 l1 h
noncomputable def fX3_kindSet_Rc2_b31 (k : mMem → Int → Int → Option dZ) (N : mMem) (x2 : Int) (x3 : Int) : Option dZ := k N x2 (dW (x3 + 1))
theorem qX3_kindSet_Rc2_b31 {k : mMem → Int → Int → Option dZ} (hk : ∀ {Nl : List (Nat × Value)} {N : mMem} {x2 : Int} {x3 : Int} {z : dZ}, dS N → dR x2 → dR x3 → mLk Nl 0 = some (.ref 1) → mLk Nl 1 = some (.int (dI 2)) → mLk Nl 2 = some (.int (dI x2)) → mLk Nl 3 = some (.int (dI x3)) → k N x2 x3 = some z → dQ xs Ln 1 0 0 24 (4, Nl, [], N) z) {Nl : List (Nat × Value)} {N : mMem} {x2 : Int} {x3 : Int} {z : dZ} (hS : dS N) (rx2 : dR x2) (rx3 : dR x3) (l0 : mLk Nl 0 = some (.ref 1)) (l1 : mLk Nl 1 = some (.int (dI 2))) (l2 : mLk Nl 2 = some (.int (dI x2))) (l3 : mLk Nl 3 = some (.int (dI x3))) (h : fX3_kindSet_Rc2_b31 k N x2 x3 = some z) : dQ xs Ln 1 0 0 24 (31, Nl, [], N) z := by
  unfold fX3_kindSet_Rc2_b31 at h
  refine dq_iinc (x := x3) (e := dW (x3 + 1)) e_24_31 l3 rfl rfl (fun K22 m23 mm24 => ?_)
  have m25 := mm24 0 _ (by decide) rfl l0
  have m26 := mm24 1 _ (by decide) rfl l1
  have m27 := mm24 2 _ (by decide) rfl l2
  refine dq_goto e_24_34 ?_
  exact hk hS rx2 (dW_R _) m25 m26 m27 m23 h
noncomputable def fX3_kindSet_Rc2_b4 : Nat → mMem → Int → Int → Option dZ
  | 0, _, _, _ => none
  | n + 1, N, x2, x3 => (if x3 < dG N 2048 then dgd (0 ≤ x3 ∧ x3 < 8) <| dln (x3).toNat fun u14 => (if dG N (57348 + 26624 * u14) = 2 then fX3_kindSet_Rc2_b31 (fX3_kindSet_Rc2_b4 n) N (dOr x2 (dShl 1 x3)) x3 else fX3_kindSet_Rc2_b31 (fX3_kindSet_Rc2_b4 n) N x2 x3) else some (N, x2))
theorem qX3_kindSet_Rc2_b4 : ∀ (n : Nat) {Nl : List (Nat × Value)} {N : mMem} {x2 : Int} {x3 : Int} {z : dZ}, dS N → dR x2 → dR x3 → mLk Nl 0 = some (.ref 1) → mLk Nl 1 = some (.int (dI 2)) → mLk Nl 2 = some (.int (dI x2)) → mLk Nl 3 = some (.int (dI x3)) → fX3_kindSet_Rc2_b4 n N x2 x3 = some z → dQ xs Ln 1 0 0 24 (4, Nl, [], N) z := fun n => by
  induction n with
  | zero =>
    intro Nl N x2 x3 z hS rx2 rx3 l0 l1 l2 l3 h
    cases h
  | succ n ih =>
    intro Nl N x2 x3 z hS rx2 rx3 l0 l1 l2 l3 h
    rw [fX3_kindSet_Rc2_b4] at h
    refine dq_iload e_24_4 l3 ?_
    refine dq_aload e_24_5 l0 ?_
    refine dq_getI (key := 2048) e_24_6 hS ac_1_3_0_0 (by omega) ?_
    by_cases c12 : x3 < dG N 2048
    · rw [if_pos c12] at h
      refine dq_icF e_24_9 rx3 (dG_R _ _) (dnf c12) ?_
      refine dq_aload e_24_12 l0 ?_
      refine dq_getR e_24_13 hS ac_1_3_6_2 ?_
      refine dq_iload e_24_16 l3 ?_
      obtain ⟨g13, h⟩ := dgd_inv h
      refine dq_aals h e_24_17 hS rx3 g13.1 g13.2 (fun u14 hu14 ku14 h => ?_)
      refine dq_getI (key := (57348 + 26624 * u14)) e_24_18 hS (ac_28s_5_4_0 u14 hu14) (by omega) ?_
      refine dq_iload e_24_21 l1 ?_
      by_cases c15 : dG N (57348 + 26624 * u14) = 2
      · rw [if_pos c15] at h
        refine dq_icF e_24_22 (dG_R _ _) (⟨by decide, by decide⟩) (dnf c15) ?_
        refine dq_iload e_24_25 l2 ?_
        refine dq_iconst e_24_26 ?_
        refine dq_iload e_24_27 l3 ?_
        refine dq_ishl e_24_28 ?_
        refine dq_ior e_24_29 ?_
        refine dq_istore e_24_30 rfl (fun K16 m17 mm18 => ?_)
        have m19 := mm18 0 _ (by decide) rfl l0
        have m20 := mm18 1 _ (by decide) rfl l1
        have m21 := mm18 3 _ (by decide) rfl l3
        exact qX3_kindSet_Rc2_b31 ih hS (dOr_R _ _) rx3 m19 m20 m17 m21 h
      · rw [if_neg c15] at h
        refine dq_icT e_24_22 (dG_R _ _) (⟨by decide, by decide⟩) (dnt c15) ?_
        exact qX3_kindSet_Rc2_b31 ih hS rx2 rx3 l0 l1 l2 l3 h
    · rw [if_neg c12] at h
      refine dq_icT e_24_9 rx3 (dG_R _ _) (dnt c12) ?_
      refine dq_iload e_24_37 l2 ?_
      cases h
      exact dq_reti (ty := .int) e_24_38 rfl rfl hS rx2
noncomputable def fX3_kindSet_Rc2 (N : mMem) : Option dZ := fX3_kindSet_Rc2_b4 1000 N 0 0
theorem qX3_kindSet_Rc2 {N : mMem} {z : dZ} (hS : dS N) (h : fX3_kindSet_Rc2 N = some z) : dQ xs Ln 1 0 0 24 (0, lv_args 0 [.ref 1, .int (dI 2)], [], N) z := by
  unfold fX3_kindSet_Rc2 at h
  have l0 : mLk (lv_args 0 [.ref 1, .int (dI 2)]) 0 = some (.ref 1) := rfl
  have l1 : mLk (lv_args 0 [.ref 1, .int (dI 2)]) 1 = some (.int (dI 2)) := rfl
  generalize lv_args 0 [.ref 1, .int (dI 2)] = Nl at l0 l1 ⊢
  refine dq_iconst e_24_0 ?_
  refine dq_istore e_24_1 rfl (fun K1 m2 mm3 => ?_)
  have m4 := mm3 0 _ (by decide) rfl l0
  have m5 := mm3 1 _ (by decide) rfl l1
  refine dq_iconst e_24_2 ?_
  refine dq_istore e_24_3 rfl (fun K6 m7 mm8 => ?_)
  have m9 := mm8 0 _ (by decide) rfl m4
  have m10 := mm8 1 _ (by decide) rfl m5
  have m11 := mm8 2 _ (by decide) rfl m2
  exact qX3_kindSet_Rc2_b4 _ hS (⟨by decide, by decide⟩) (⟨by decide, by decide⟩) m9 m10 m11 m7 h
noncomputable def fX7_look_Oc15_b20 (N : mMem) : Option dZ := dbd (fX3_kindSet_Rc2 N) fun N1 v2 => some (N1, v2)
theorem qX7_look_Oc15_b20 {Nl : List (Nat × Value)} {N : mMem} {z : dZ} (hS : dS N) (l0 : mLk Nl 0 = some (.ref 0)) (l1 : mLk Nl 1 = some (.int (dI 15))) (h : fX7_look_Oc15_b20 N = some z) : dQ xs Ln 1 1 23 90 (20, Nl, [], N) z := by
  unfold fX7_look_Oc15_b20 at h
  refine dq_iload e_90_20 l1 ?_
  refine dq_tsI (c := 15) (q := 182) e_90_21 (⟨by decide, by decide⟩) rfl (by decide +kernel) rfl (by decide +kernel) ?_
  refine dq_aload e_90_182 l0 ?_
  refine dq_getR e_90_183 hS ac_0_7_0_2 ?_
  refine dq_iload e_90_186 l1 ?_
  refine dq_iconst e_90_187 ?_
  refine dq_isub (e := 1) e_90_189 (by decide +kernel) ?_
  refine dq_iconst e_90_190 ?_
  refine dq_iadd (e := 2) e_90_191 (by decide +kernel) ?_
  obtain ⟨N1, v2, c3, h⟩ := dbd_inv h
  have q4 := qX3_kindSet_Rc2 (xs := xs) (Ln := Ln) hS c3
  have S5 : dS N1 := q4.2.1
  refine dq_calli (as := [.int (dI 2)]) (S := []) (nx := 195) e_90_192 rfl rfl rfl hS ak_1_3 rfl rfl rfl rfl q4 rfl ?_
  have r6 : dR v2 := q4.2.2
  cases h
  exact dq_reti (ty := .int) e_90_195 rfl rfl S5 r6
noncomputable def fX7_look_Oc15 (N : mMem) : Option dZ := fX7_look_Oc15_b20 N
theorem qX7_look_Oc15 {N : mMem} {z : dZ} (hS : dS N) (h : fX7_look_Oc15 N = some z) : dQ xs Ln 1 1 23 90 (0, lv_args 0 [.ref 0, .int (dI 15)], [], N) z := by
  unfold fX7_look_Oc15 at h
  have l0 : mLk (lv_args 0 [.ref 0, .int (dI 15)]) 0 = some (.ref 0) := rfl
  have l1 : mLk (lv_args 0 [.ref 0, .int (dI 15)]) 1 = some (.int (dI 15)) := rfl
  generalize lv_args 0 [.ref 0, .int (dI 15)] = Nl at l0 l1 ⊢
  refine dq_iload e_90_0 l1 ?_
  refine dq_ifF e_90_1 (⟨by decide, by decide⟩) (by decide +kernel) ?_
  refine dq_iload e_90_4 l1 ?_
  refine dq_iconst e_90_5 ?_
  refine dq_icT e_90_7 (⟨by decide, by decide⟩) (⟨by decide, by decide⟩) (by decide +kernel) ?_
  exact qX7_look_Oc15_b20 hS l0 l1 h
noncomputable def fX3_kindSet_Rc3_b31 (k : mMem → Int → Int → Option dZ) (N : mMem) (x2 : Int) (x3 : Int) : Option dZ := k N x2 (dW (x3 + 1))
theorem qX3_kindSet_Rc3_b31 {k : mMem → Int → Int → Option dZ} (hk : ∀ {Nl : List (Nat × Value)} {N : mMem} {x2 : Int} {x3 : Int} {z : dZ}, dS N → dR x2 → dR x3 → mLk Nl 0 = some (.ref 1) → mLk Nl 1 = some (.int (dI 3)) → mLk Nl 2 = some (.int (dI x2)) → mLk Nl 3 = some (.int (dI x3)) → k N x2 x3 = some z → dQ xs Ln 1 0 0 24 (4, Nl, [], N) z) {Nl : List (Nat × Value)} {N : mMem} {x2 : Int} {x3 : Int} {z : dZ} (hS : dS N) (rx2 : dR x2) (rx3 : dR x3) (l0 : mLk Nl 0 = some (.ref 1)) (l1 : mLk Nl 1 = some (.int (dI 3))) (l2 : mLk Nl 2 = some (.int (dI x2))) (l3 : mLk Nl 3 = some (.int (dI x3))) (h : fX3_kindSet_Rc3_b31 k N x2 x3 = some z) : dQ xs Ln 1 0 0 24 (31, Nl, [], N) z := by
  unfold fX3_kindSet_Rc3_b31 at h
  refine dq_iinc (x := x3) (e := dW (x3 + 1)) e_24_31 l3 rfl rfl (fun K22 m23 mm24 => ?_)
  have m25 := mm24 0 _ (by decide) rfl l0
  have m26 := mm24 1 _ (by decide) rfl l1
  have m27 := mm24 2 _ (by decide) rfl l2
  refine dq_goto e_24_34 ?_
  exact hk hS rx2 (dW_R _) m25 m26 m27 m23 h
noncomputable def fX3_kindSet_Rc3_b4 : Nat → mMem → Int → Int → Option dZ
  | 0, _, _, _ => none
  | n + 1, N, x2, x3 => (if x3 < dG N 2048 then dgd (0 ≤ x3 ∧ x3 < 8) <| dln (x3).toNat fun u14 => (if dG N (57348 + 26624 * u14) = 3 then fX3_kindSet_Rc3_b31 (fX3_kindSet_Rc3_b4 n) N (dOr x2 (dShl 1 x3)) x3 else fX3_kindSet_Rc3_b31 (fX3_kindSet_Rc3_b4 n) N x2 x3) else some (N, x2))
theorem qX3_kindSet_Rc3_b4 : ∀ (n : Nat) {Nl : List (Nat × Value)} {N : mMem} {x2 : Int} {x3 : Int} {z : dZ}, dS N → dR x2 → dR x3 → mLk Nl 0 = some (.ref 1) → mLk Nl 1 = some (.int (dI 3)) → mLk Nl 2 = some (.int (dI x2)) → mLk Nl 3 = some (.int (dI x3)) → fX3_kindSet_Rc3_b4 n N x2 x3 = some z → dQ xs Ln 1 0 0 24 (4, Nl, [], N) z := fun n => by
  induction n with
  | zero =>
    intro Nl N x2 x3 z hS rx2 rx3 l0 l1 l2 l3 h
    cases h
  | succ n ih =>
    intro Nl N x2 x3 z hS rx2 rx3 l0 l1 l2 l3 h
    rw [fX3_kindSet_Rc3_b4] at h
    refine dq_iload e_24_4 l3 ?_
    refine dq_aload e_24_5 l0 ?_
    refine dq_getI (key := 2048) e_24_6 hS ac_1_3_0_0 (by omega) ?_
    by_cases c12 : x3 < dG N 2048
    · rw [if_pos c12] at h
      refine dq_icF e_24_9 rx3 (dG_R _ _) (dnf c12) ?_
      refine dq_aload e_24_12 l0 ?_
      refine dq_getR e_24_13 hS ac_1_3_6_2 ?_
      refine dq_iload e_24_16 l3 ?_
      obtain ⟨g13, h⟩ := dgd_inv h
      refine dq_aals h e_24_17 hS rx3 g13.1 g13.2 (fun u14 hu14 ku14 h => ?_)
      refine dq_getI (key := (57348 + 26624 * u14)) e_24_18 hS (ac_28s_5_4_0 u14 hu14) (by omega) ?_
      refine dq_iload e_24_21 l1 ?_
      by_cases c15 : dG N (57348 + 26624 * u14) = 3
      · rw [if_pos c15] at h
        refine dq_icF e_24_22 (dG_R _ _) (⟨by decide, by decide⟩) (dnf c15) ?_
        refine dq_iload e_24_25 l2 ?_
        refine dq_iconst e_24_26 ?_
        refine dq_iload e_24_27 l3 ?_
        refine dq_ishl e_24_28 ?_
        refine dq_ior e_24_29 ?_
        refine dq_istore e_24_30 rfl (fun K16 m17 mm18 => ?_)
        have m19 := mm18 0 _ (by decide) rfl l0
        have m20 := mm18 1 _ (by decide) rfl l1
        have m21 := mm18 3 _ (by decide) rfl l3
        exact qX3_kindSet_Rc3_b31 ih hS (dOr_R _ _) rx3 m19 m20 m17 m21 h
      · rw [if_neg c15] at h
        refine dq_icT e_24_22 (dG_R _ _) (⟨by decide, by decide⟩) (dnt c15) ?_
        exact qX3_kindSet_Rc3_b31 ih hS rx2 rx3 l0 l1 l2 l3 h
    · rw [if_neg c12] at h
      refine dq_icT e_24_9 rx3 (dG_R _ _) (dnt c12) ?_
      refine dq_iload e_24_37 l2 ?_
      cases h
      exact dq_reti (ty := .int) e_24_38 rfl rfl hS rx2
noncomputable def fX3_kindSet_Rc3 (N : mMem) : Option dZ := fX3_kindSet_Rc3_b4 1000 N 0 0
theorem qX3_kindSet_Rc3 {N : mMem} {z : dZ} (hS : dS N) (h : fX3_kindSet_Rc3 N = some z) : dQ xs Ln 1 0 0 24 (0, lv_args 0 [.ref 1, .int (dI 3)], [], N) z := by
  unfold fX3_kindSet_Rc3 at h
  have l0 : mLk (lv_args 0 [.ref 1, .int (dI 3)]) 0 = some (.ref 1) := rfl
  have l1 : mLk (lv_args 0 [.ref 1, .int (dI 3)]) 1 = some (.int (dI 3)) := rfl
  generalize lv_args 0 [.ref 1, .int (dI 3)] = Nl at l0 l1 ⊢
  refine dq_iconst e_24_0 ?_
  refine dq_istore e_24_1 rfl (fun K1 m2 mm3 => ?_)
  have m4 := mm3 0 _ (by decide) rfl l0
  have m5 := mm3 1 _ (by decide) rfl l1
  refine dq_iconst e_24_2 ?_
  refine dq_istore e_24_3 rfl (fun K6 m7 mm8 => ?_)
  have m9 := mm8 0 _ (by decide) rfl m4
  have m10 := mm8 1 _ (by decide) rfl m5
  have m11 := mm8 2 _ (by decide) rfl m2
  exact qX3_kindSet_Rc3_b4 _ hS (⟨by decide, by decide⟩) (⟨by decide, by decide⟩) m9 m10 m11 m7 h
noncomputable def fX7_look_Oc16_b20 (N : mMem) : Option dZ := dbd (fX3_kindSet_Rc3 N) fun N1 v2 => some (N1, v2)
theorem qX7_look_Oc16_b20 {Nl : List (Nat × Value)} {N : mMem} {z : dZ} (hS : dS N) (l0 : mLk Nl 0 = some (.ref 0)) (l1 : mLk Nl 1 = some (.int (dI 16))) (h : fX7_look_Oc16_b20 N = some z) : dQ xs Ln 1 1 23 90 (20, Nl, [], N) z := by
  unfold fX7_look_Oc16_b20 at h
  refine dq_iload e_90_20 l1 ?_
  refine dq_tsI (c := 16) (q := 182) e_90_21 (⟨by decide, by decide⟩) rfl (by decide +kernel) rfl (by decide +kernel) ?_
  refine dq_aload e_90_182 l0 ?_
  refine dq_getR e_90_183 hS ac_0_7_0_2 ?_
  refine dq_iload e_90_186 l1 ?_
  refine dq_iconst e_90_187 ?_
  refine dq_isub (e := 2) e_90_189 (by decide +kernel) ?_
  refine dq_iconst e_90_190 ?_
  refine dq_iadd (e := 3) e_90_191 (by decide +kernel) ?_
  obtain ⟨N1, v2, c3, h⟩ := dbd_inv h
  have q4 := qX3_kindSet_Rc3 (xs := xs) (Ln := Ln) hS c3
  have S5 : dS N1 := q4.2.1
  refine dq_calli (as := [.int (dI 3)]) (S := []) (nx := 195) e_90_192 rfl rfl rfl hS ak_1_3 rfl rfl rfl rfl q4 rfl ?_
  have r6 : dR v2 := q4.2.2
  cases h
  exact dq_reti (ty := .int) e_90_195 rfl rfl S5 r6
end DQG8

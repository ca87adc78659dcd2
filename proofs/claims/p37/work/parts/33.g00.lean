/-! ===== functions over memory, and that the bodies run so; written by wip/dc ===== -/
section DQG0
variable {xs : Nat → Int32} {Ln : Nat}
noncomputable def fX7_look_Oc6_b20 (N : mMem) : Option dZ := some (N, dG N 2048)
theorem qX7_look_Oc6_b20 {Nl : List (Nat × Value)} {N : mMem} {z : dZ} (hS : dS N) (l0 : mLk Nl 0 = some (.ref 0)) (l1 : mLk Nl 1 = some (.int (dI 6))) (h : fX7_look_Oc6_b20 N = some z) : dQ xs Ln 1 0 0 90 (20, Nl, [], N) z := by
  unfold fX7_look_Oc6_b20 at h
  refine dq_iload e_90_20 l1 ?_
  refine dq_tsI (c := 6) (q := 108) e_90_21 (⟨by decide, by decide⟩) rfl (by decide +kernel) rfl (by decide +kernel) ?_
  refine dq_aload e_90_108 l0 ?_
  refine dq_getR e_90_109 hS ac_0_7_0_2 ?_
  refine dq_getI (key := 2048) e_90_112 hS ac_1_3_0_0 (by omega) ?_
  cases h
  exact dq_reti (ty := .int) e_90_115 rfl rfl hS (dG_R _ _)
noncomputable def fX7_look_Oc6 (N : mMem) : Option dZ := fX7_look_Oc6_b20 N
theorem qX7_look_Oc6 {N : mMem} {z : dZ} (hS : dS N) (h : fX7_look_Oc6 N = some z) : dQ xs Ln 1 0 0 90 (0, lv_args 0 [.ref 0, .int (dI 6)], [], N) z := by
  unfold fX7_look_Oc6 at h
  have l0 : mLk (lv_args 0 [.ref 0, .int (dI 6)]) 0 = some (.ref 0) := rfl
  have l1 : mLk (lv_args 0 [.ref 0, .int (dI 6)]) 1 = some (.int (dI 6)) := rfl
  generalize lv_args 0 [.ref 0, .int (dI 6)] = Nl at l0 l1 ⊢
  refine dq_iload e_90_0 l1 ?_
  refine dq_ifF e_90_1 (⟨by decide, by decide⟩) (by decide +kernel) ?_
  refine dq_iload e_90_4 l1 ?_
  refine dq_iconst e_90_5 ?_
  refine dq_icT e_90_7 (⟨by decide, by decide⟩) (⟨by decide, by decide⟩) (by decide +kernel) ?_
  exact qX7_look_Oc6_b20 hS l0 l1 h
noncomputable def fX3_has_R_b16 (N : mMem) : Option dZ := some (N, 0)
theorem qX3_has_R_b16 {Nl : List (Nat × Value)} {N : mMem} {z : dZ} (hS : dS N) (h : fX3_has_R_b16 N = some z) : dQ xs Ln 1 0 0 18 (16, Nl, [], N) z := by
  unfold fX3_has_R_b16 at h
  refine dq_iconst e_18_16 ?_
  cases h
  exact dq_reti (ty := .boolean) e_18_17 rfl (by decide +kernel) hS (⟨by decide, by decide⟩)
noncomputable def fX3_has_R (N : mMem) (x1 : Int) : Option dZ := (if x1 < 0 then fX3_has_R_b16 N else (if x1 < dG N 2048 then some (N, 1) else fX3_has_R_b16 N))
theorem qX3_has_R {N : mMem} {x1 : Int} {z : dZ} (hS : dS N) (rx1 : dR x1) (h : fX3_has_R N x1 = some z) : dQ xs Ln 1 0 0 18 (0, lv_args 0 [.ref 1, .int (dI x1)], [], N) z := by
  unfold fX3_has_R at h
  have l0 : mLk (lv_args 0 [.ref 1, .int (dI x1)]) 0 = some (.ref 1) := rfl
  have l1 : mLk (lv_args 0 [.ref 1, .int (dI x1)]) 1 = some (.int (dI x1)) := rfl
  generalize lv_args 0 [.ref 1, .int (dI x1)] = Nl at l0 l1 ⊢
  refine dq_iload e_18_0 l1 ?_
  by_cases c1 : x1 < 0
  · rw [if_pos c1] at h
    refine dq_ifT e_18_1 rx1 (decide_eq_true c1) ?_
    exact qX3_has_R_b16 hS h
  · rw [if_neg c1] at h
    refine dq_ifF e_18_1 rx1 (decide_eq_false c1) ?_
    refine dq_iload e_18_4 l1 ?_
    refine dq_aload e_18_5 l0 ?_
    refine dq_getI (key := 2048) e_18_6 hS ac_1_3_0_0 (by omega) ?_
    by_cases c2 : x1 < dG N 2048
    · rw [if_pos c2] at h
      refine dq_icF e_18_9 rx1 (dG_R _ _) (dnf c2) ?_
      refine dq_iconst e_18_12 ?_
      refine dq_goto e_18_13 ?_
      cases h
      exact dq_reti (ty := .boolean) e_18_17 rfl (by decide +kernel) hS (⟨by decide, by decide⟩)
    · rw [if_neg c2] at h
      refine dq_icT e_18_9 rx1 (dG_R _ _) (dnt c2) ?_
      exact qX3_has_R_b16 hS h
noncomputable def fX5_view_Sc26_b35 (N : mMem) (s : Nat) (x2 : Int) (y0 : Int) : Option dZ := (if dG N (57347 + 26624 * s) = 0 then some (N, 0) else some (N, 1))
theorem qX5_view_Sc26_b35 {Nl : List (Nat × Value)} {N : mMem} {s : Nat} {x2 : Int} {y0 : Int} {z : dZ} (hS : dS N) (hs : s < 8) (rx2 : dR x2) (ry0 : dR y0) (l0 : mLk Nl 0 = some (.ref (28 + 13 * s))) (l1 : mLk Nl 1 = some (.int (dI 26))) (l2 : mLk Nl 2 = some (.int (dI x2))) (h : fX5_view_Sc26_b35 N s x2 y0 = some z) : dQ xs Ln 1 0 0 66 (35, Nl, [.int (dI y0)], N) z := by
  unfold fX5_view_Sc26_b35 at h
  refine dq_istore e_66_35 rfl (fun K2 m3 mm4 => ?_)
  have m5 := mm4 0 _ (by decide) rfl l0
  have m6 := mm4 1 _ (by decide) rfl l1
  have m7 := mm4 2 _ (by decide) rfl l2
  refine dq_iload e_66_36 m6 ?_
  refine dq_tsI (c := 26) (q := 314) e_66_37 (⟨by decide, by decide⟩) rfl (by decide +kernel) rfl (by decide +kernel) ?_
  refine dq_aload e_66_314 m5 ?_
  refine dq_getI (key := (57347 + 26624 * s)) e_66_315 hS (ac_28s_5_3_0 s hs) (by omega) ?_
  by_cases c8 : dG N (57347 + 26624 * s) = 0
  · rw [if_pos c8] at h
    refine dq_ifT e_66_318 (dG_R _ _) (decide_eq_true c8) ?_
    refine dq_iconst e_66_325 ?_
    cases h
    exact dq_reti (ty := .int) e_66_326 rfl rfl hS (⟨by decide, by decide⟩)
  · rw [if_neg c8] at h
    refine dq_ifF e_66_318 (dG_R _ _) (decide_eq_false c8) ?_
    refine dq_iconst e_66_321 ?_
    refine dq_goto e_66_322 ?_
    cases h
    exact dq_reti (ty := .int) e_66_326 rfl rfl hS (⟨by decide, by decide⟩)
noncomputable def fX5_view_Sc26_b22 (N : mMem) (s : Nat) (x2 : Int) : Option dZ := (if dG N (57348 + 26624 * s) = 1 then fX5_view_Sc26_b35 N s x2 1 else fX5_view_Sc26_b35 N s x2 0)
theorem qX5_view_Sc26_b22 {Nl : List (Nat × Value)} {N : mMem} {s : Nat} {x2 : Int} {z : dZ} (hS : dS N) (hs : s < 8) (rx2 : dR x2) (l0 : mLk Nl 0 = some (.ref (28 + 13 * s))) (l1 : mLk Nl 1 = some (.int (dI 26))) (l2 : mLk Nl 2 = some (.int (dI x2))) (h : fX5_view_Sc26_b22 N s x2 = some z) : dQ xs Ln 1 0 0 66 (22, Nl, [], N) z := by
  unfold fX5_view_Sc26_b22 at h
  refine dq_aload e_66_22 l0 ?_
  refine dq_getI (key := (57348 + 26624 * s)) e_66_23 hS (ac_28s_5_4_0 s hs) (by omega) ?_
  refine dq_iconst e_66_26 ?_
  by_cases c1 : dG N (57348 + 26624 * s) = 1
  · rw [if_pos c1] at h
    refine dq_icF e_66_27 (dG_R _ _) (⟨by decide, by decide⟩) (dnf c1) ?_
    refine dq_iconst e_66_30 ?_
    refine dq_goto e_66_31 ?_
    exact qX5_view_Sc26_b35 hS hs rx2 (⟨by decide, by decide⟩) l0 l1 l2 h
  · rw [if_neg c1] at h
    refine dq_icT e_66_27 (dG_R _ _) (⟨by decide, by decide⟩) (dnt c1) ?_
    refine dq_iconst e_66_34 ?_
    exact qX5_view_Sc26_b35 hS hs rx2 (⟨by decide, by decide⟩) l0 l1 l2 h
noncomputable def fX5_view_Sc26 (N : mMem) (s : Nat) (x2 : Int) : Option dZ := fX5_view_Sc26_b22 N s x2
theorem qX5_view_Sc26 {N : mMem} {s : Nat} {x2 : Int} {z : dZ} (hS : dS N) (hs : s < 8) (rx2 : dR x2) (h : fX5_view_Sc26 N s x2 = some z) : dQ xs Ln 1 0 0 66 (0, lv_args 0 [.ref (28 + 13 * s), .int (dI 26), .int (dI x2)], [], N) z := by
  unfold fX5_view_Sc26 at h
  have l0 : mLk (lv_args 0 [.ref (28 + 13 * s), .int (dI 26), .int (dI x2)]) 0 = some (.ref (28 + 13 * s)) := rfl
  have l1 : mLk (lv_args 0 [.ref (28 + 13 * s), .int (dI 26), .int (dI x2)]) 1 = some (.int (dI 26)) := rfl
  have l2 : mLk (lv_args 0 [.ref (28 + 13 * s), .int (dI 26), .int (dI x2)]) 2 = some (.int (dI x2)) := rfl
  generalize lv_args 0 [.ref (28 + 13 * s), .int (dI 26), .int (dI x2)] = Nl at l0 l1 l2 ⊢
  refine dq_iload e_66_0 l1 ?_
  refine dq_iconst e_66_1 ?_
  refine dq_icF e_66_3 (⟨by decide, by decide⟩) (⟨by decide, by decide⟩) (by decide +kernel) ?_
  refine dq_iload e_66_6 l1 ?_
  refine dq_iconst e_66_7 ?_
  refine dq_icT e_66_9 (⟨by decide, by decide⟩) (⟨by decide, by decide⟩) (by decide +kernel) ?_
  exact qX5_view_Sc26_b22 hS hs rx2 l0 l1 l2 h
noncomputable def fX7_station_Oc26 (N : mMem) (x1 : Int) : Option dZ := dbd (fX3_has_R N x1) fun N1 v2 => (if v2 = 0 then some (N1, (-1)) else dgd (0 ≤ x1 ∧ x1 < 8) <| dln (x1).toNat fun u9 => dbd (fX5_view_Sc26 N1 u9 (dG N1 2049)) fun N10 v11 => some (N10, v11))
theorem qX7_station_Oc26 {N : mMem} {x1 : Int} {z : dZ} (hS : dS N) (rx1 : dR x1) (h : fX7_station_Oc26 N x1 = some z) : dQ xs Ln 1 1 23 86 (0, lv_args 0 [.ref 0, .int (dI x1), .int (dI 26)], [], N) z := by
  unfold fX7_station_Oc26 at h
  have l0 : mLk (lv_args 0 [.ref 0, .int (dI x1), .int (dI 26)]) 0 = some (.ref 0) := rfl
  have l1 : mLk (lv_args 0 [.ref 0, .int (dI x1), .int (dI 26)]) 1 = some (.int (dI x1)) := rfl
  have l2 : mLk (lv_args 0 [.ref 0, .int (dI x1), .int (dI 26)]) 2 = some (.int (dI 26)) := rfl
  generalize lv_args 0 [.ref 0, .int (dI x1), .int (dI 26)] = Nl at l0 l1 l2 ⊢
  refine dq_aload e_86_0 l0 ?_
  refine dq_getR e_86_1 hS ac_0_7_0_2 ?_
  refine dq_iload e_86_4 l1 ?_
  obtain ⟨N1, v2, c3, h⟩ := dbd_inv h
  have q4 := qX3_has_R (xs := xs) (Ln := Ln) hS rx1 c3
  have S5 : dS N1 := q4.2.1
  refine dq_calli (as := [.int (dI x1)]) (S := []) (nx := 8) e_86_5 rfl rfl rfl hS ak_1_3 rfl rfl rfl rfl q4 rfl ?_
  have r6 : dR v2 := q4.2.2
  by_cases c7 : v2 = 0
  · rw [if_pos c7] at h
    refine dq_ifT e_86_8 r6 (decide_eq_true c7) ?_
    refine dq_iconst e_86_34 ?_
    cases h
    exact dq_reti (ty := .int) e_86_35 rfl rfl S5 (⟨by decide, by decide⟩)
  · rw [if_neg c7] at h
    refine dq_ifF e_86_8 r6 (decide_eq_false c7) ?_
    refine dq_aload e_86_11 l0 ?_
    refine dq_getR e_86_12 S5 ac_0_7_0_2 ?_
    refine dq_getR e_86_15 S5 ac_1_3_6_2 ?_
    refine dq_iload e_86_18 l1 ?_
    obtain ⟨g8, h⟩ := dgd_inv h
    refine dq_aals h e_86_19 S5 rx1 g8.1 g8.2 (fun u9 hu9 ku9 h => ?_)
    refine dq_iload e_86_20 l2 ?_
    refine dq_aload e_86_21 l0 ?_
    refine dq_getR e_86_22 S5 ac_0_7_0_2 ?_
    refine dq_getI (key := 2049) e_86_25 S5 ac_1_3_1_0 (by omega) ?_
    obtain ⟨N10, v11, c12, h⟩ := dbd_inv h
    have q13 := qX5_view_Sc26 (xs := xs) (Ln := Ln) S5 hu9 (dG_R _ _) c12
    have S14 : dS N10 := q13.2.1
    refine dq_calli (as := [.int (dI 26), .int (dI (dG N1 2049))]) (S := []) (nx := 31) e_86_28 rfl rfl rfl S5 (ak_28s_5 u9 hu9) rfl rfl rfl rfl q13 rfl ?_
    have r15 : dR v11 := q13.2.2
    refine dq_goto e_86_31 ?_
    cases h
    exact dq_reti (ty := .int) e_86_35 rfl rfl S14 r15
noncomputable def fX5_view_Sc1_b35 (N : mMem) (s : Nat) (x2 : Int) (y0 : Int) : Option dZ := some (N, dG N (57345 + 26624 * s))
theorem qX5_view_Sc1_b35 {Nl : List (Nat × Value)} {N : mMem} {s : Nat} {x2 : Int} {y0 : Int} {z : dZ} (hS : dS N) (hs : s < 8) (rx2 : dR x2) (ry0 : dR y0) (l0 : mLk Nl 0 = some (.ref (28 + 13 * s))) (l1 : mLk Nl 1 = some (.int (dI 1))) (l2 : mLk Nl 2 = some (.int (dI x2))) (h : fX5_view_Sc1_b35 N s x2 y0 = some z) : dQ xs Ln 1 0 0 66 (35, Nl, [.int (dI y0)], N) z := by
  unfold fX5_view_Sc1_b35 at h
  refine dq_istore e_66_35 rfl (fun K2 m3 mm4 => ?_)
  have m5 := mm4 0 _ (by decide) rfl l0
  have m6 := mm4 1 _ (by decide) rfl l1
  have m7 := mm4 2 _ (by decide) rfl l2
  refine dq_iload e_66_36 m6 ?_
  refine dq_tsI (c := 1) (q := 165) e_66_37 (⟨by decide, by decide⟩) rfl (by decide +kernel) rfl (by decide +kernel) ?_
  refine dq_aload e_66_165 m5 ?_
  refine dq_getI (key := (57345 + 26624 * s)) e_66_166 hS (ac_28s_5_1_0 s hs) (by omega) ?_
  cases h
  exact dq_reti (ty := .int) e_66_169 rfl rfl hS (dG_R _ _)
noncomputable def fX5_view_Sc1_b22 (N : mMem) (s : Nat) (x2 : Int) : Option dZ := (if dG N (57348 + 26624 * s) = 1 then fX5_view_Sc1_b35 N s x2 1 else fX5_view_Sc1_b35 N s x2 0)
theorem qX5_view_Sc1_b22 {Nl : List (Nat × Value)} {N : mMem} {s : Nat} {x2 : Int} {z : dZ} (hS : dS N) (hs : s < 8) (rx2 : dR x2) (l0 : mLk Nl 0 = some (.ref (28 + 13 * s))) (l1 : mLk Nl 1 = some (.int (dI 1))) (l2 : mLk Nl 2 = some (.int (dI x2))) (h : fX5_view_Sc1_b22 N s x2 = some z) : dQ xs Ln 1 0 0 66 (22, Nl, [], N) z := by
  unfold fX5_view_Sc1_b22 at h
  refine dq_aload e_66_22 l0 ?_
  refine dq_getI (key := (57348 + 26624 * s)) e_66_23 hS (ac_28s_5_4_0 s hs) (by omega) ?_
  refine dq_iconst e_66_26 ?_
  by_cases c1 : dG N (57348 + 26624 * s) = 1
  · rw [if_pos c1] at h
    refine dq_icF e_66_27 (dG_R _ _) (⟨by decide, by decide⟩) (dnf c1) ?_
    refine dq_iconst e_66_30 ?_
    refine dq_goto e_66_31 ?_
    exact qX5_view_Sc1_b35 hS hs rx2 (⟨by decide, by decide⟩) l0 l1 l2 h
  · rw [if_neg c1] at h
    refine dq_icT e_66_27 (dG_R _ _) (⟨by decide, by decide⟩) (dnt c1) ?_
    refine dq_iconst e_66_34 ?_
    exact qX5_view_Sc1_b35 hS hs rx2 (⟨by decide, by decide⟩) l0 l1 l2 h
noncomputable def fX5_view_Sc1 (N : mMem) (s : Nat) (x2 : Int) : Option dZ := fX5_view_Sc1_b22 N s x2
theorem qX5_view_Sc1 {N : mMem} {s : Nat} {x2 : Int} {z : dZ} (hS : dS N) (hs : s < 8) (rx2 : dR x2) (h : fX5_view_Sc1 N s x2 = some z) : dQ xs Ln 1 0 0 66 (0, lv_args 0 [.ref (28 + 13 * s), .int (dI 1), .int (dI x2)], [], N) z := by
  unfold fX5_view_Sc1 at h
  have l0 : mLk (lv_args 0 [.ref (28 + 13 * s), .int (dI 1), .int (dI x2)]) 0 = some (.ref (28 + 13 * s)) := rfl
  have l1 : mLk (lv_args 0 [.ref (28 + 13 * s), .int (dI 1), .int (dI x2)]) 1 = some (.int (dI 1)) := rfl
  have l2 : mLk (lv_args 0 [.ref (28 + 13 * s), .int (dI 1), .int (dI x2)]) 2 = some (.int (dI x2)) := rfl
  generalize lv_args 0 [.ref (28 + 13 * s), .int (dI 1), .int (dI x2)] = Nl at l0 l1 l2 ⊢
  refine dq_iload e_66_0 l1 ?_
  refine dq_iconst e_66_1 ?_
  refine dq_icT e_66_3 (⟨by decide, by decide⟩) (⟨by decide, by decide⟩) (by decide +kernel) ?_
  exact qX5_view_Sc1_b22 hS hs rx2 l0 l1 l2 h
noncomputable def fX7_station_Oc1 (N : mMem) (x1 : Int) : Option dZ := dbd (fX3_has_R N x1) fun N1 v2 => (if v2 = 0 then some (N1, (-1)) else dgd (0 ≤ x1 ∧ x1 < 8) <| dln (x1).toNat fun u9 => dbd (fX5_view_Sc1 N1 u9 (dG N1 2049)) fun N10 v11 => some (N10, v11))
theorem qX7_station_Oc1 {N : mMem} {x1 : Int} {z : dZ} (hS : dS N) (rx1 : dR x1) (h : fX7_station_Oc1 N x1 = some z) : dQ xs Ln 1 1 23 86 (0, lv_args 0 [.ref 0, .int (dI x1), .int (dI 1)], [], N) z := by
  unfold fX7_station_Oc1 at h
  have l0 : mLk (lv_args 0 [.ref 0, .int (dI x1), .int (dI 1)]) 0 = some (.ref 0) := rfl
  have l1 : mLk (lv_args 0 [.ref 0, .int (dI x1), .int (dI 1)]) 1 = some (.int (dI x1)) := rfl
  have l2 : mLk (lv_args 0 [.ref 0, .int (dI x1), .int (dI 1)]) 2 = some (.int (dI 1)) := rfl
  generalize lv_args 0 [.ref 0, .int (dI x1), .int (dI 1)] = Nl at l0 l1 l2 ⊢
  refine dq_aload e_86_0 l0 ?_
  refine dq_getR e_86_1 hS ac_0_7_0_2 ?_
  refine dq_iload e_86_4 l1 ?_
  obtain ⟨N1, v2, c3, h⟩ := dbd_inv h
  have q4 := qX3_has_R (xs := xs) (Ln := Ln) hS rx1 c3
  have S5 : dS N1 := q4.2.1
  refine dq_calli (as := [.int (dI x1)]) (S := []) (nx := 8) e_86_5 rfl rfl rfl hS ak_1_3 rfl rfl rfl rfl q4 rfl ?_
  have r6 : dR v2 := q4.2.2
  by_cases c7 : v2 = 0
  · rw [if_pos c7] at h
    refine dq_ifT e_86_8 r6 (decide_eq_true c7) ?_
    refine dq_iconst e_86_34 ?_
    cases h
    exact dq_reti (ty := .int) e_86_35 rfl rfl S5 (⟨by decide, by decide⟩)
  · rw [if_neg c7] at h
    refine dq_ifF e_86_8 r6 (decide_eq_false c7) ?_
    refine dq_aload e_86_11 l0 ?_
    refine dq_getR e_86_12 S5 ac_0_7_0_2 ?_
    refine dq_getR e_86_15 S5 ac_1_3_6_2 ?_
    refine dq_iload e_86_18 l1 ?_
    obtain ⟨g8, h⟩ := dgd_inv h
    refine dq_aals h e_86_19 S5 rx1 g8.1 g8.2 (fun u9 hu9 ku9 h => ?_)
    refine dq_iload e_86_20 l2 ?_
    refine dq_aload e_86_21 l0 ?_
    refine dq_getR e_86_22 S5 ac_0_7_0_2 ?_
    refine dq_getI (key := 2049) e_86_25 S5 ac_1_3_1_0 (by omega) ?_
    obtain ⟨N10, v11, c12, h⟩ := dbd_inv h
    have q13 := qX5_view_Sc1 (xs := xs) (Ln := Ln) S5 hu9 (dG_R _ _) c12
    have S14 : dS N10 := q13.2.1
    refine dq_calli (as := [.int (dI 1), .int (dI (dG N1 2049))]) (S := []) (nx := 31) e_86_28 rfl rfl rfl S5 (ak_28s_5 u9 hu9) rfl rfl rfl rfl q13 rfl ?_
    have r15 : dR v11 := q13.2.2
    refine dq_goto e_86_31 ?_
    cases h
    exact dq_reti (ty := .int) e_86_35 rfl rfl S14 r15
noncomputable def fL_least_O_b46 (xs : Nat → Int32) (Ln : Nat) (k : mMem → Int → Int → Option dZ) (N : mMem) (x1 : Int) (x2 : Int) : Option dZ := k N x1 (dW (x2 + 1))
theorem qL_least_O_b46 (rLn : dR (Ln : Int)) {k : mMem → Int → Int → Option dZ} (hk : ∀ {Nl : List (Nat × Value)} {N : mMem} {x1 : Int} {x2 : Int} {z : dZ}, dS N → dR x1 → dR x2 → mLk Nl 0 = some (.ref 0) → mLk Nl 1 = some (.int (dI x1)) → mLk Nl 2 = some (.int (dI x2)) → k N x1 x2 = some z → dQ xs Ln 1 2 45 95 (4, Nl, [], N) z) {Nl : List (Nat × Value)} {N : mMem} {x1 : Int} {x2 : Int} {z : dZ} (hS : dS N) (rx1 : dR x1) (rx2 : dR x2) (l0 : mLk Nl 0 = some (.ref 0)) (l1 : mLk Nl 1 = some (.int (dI x1))) (l2 : mLk Nl 2 = some (.int (dI x2))) (h : fL_least_O_b46 xs Ln k N x1 x2 = some z) : dQ xs Ln 1 2 45 95 (46, Nl, [], N) z := by
  unfold fL_least_O_b46 at h
  refine dq_iinc (x := x2) (e := dW (x2 + 1)) e_95_46 l2 rfl rfl (fun K30 m31 mm32 => ?_)
  have m33 := mm32 0 _ (by decide) rfl l0
  have m34 := mm32 1 _ (by decide) rfl l1
  refine dq_goto e_95_49 ?_
  exact hk hS rx1 (dW_R _) m33 m34 m31 h
noncomputable def fL_least_O_b44 (xs : Nat → Int32) (Ln : Nat) (k : mMem → Int → Int → Option dZ) (N : mMem) (x2 : Int) : Option dZ := fL_least_O_b46 xs Ln k N x2 x2
theorem qL_least_O_b44 (rLn : dR (Ln : Int)) {k : mMem → Int → Int → Option dZ} (hk : ∀ {Nl : List (Nat × Value)} {N : mMem} {x1 : Int} {x2 : Int} {z : dZ}, dS N → dR x1 → dR x2 → mLk Nl 0 = some (.ref 0) → mLk Nl 1 = some (.int (dI x1)) → mLk Nl 2 = some (.int (dI x2)) → k N x1 x2 = some z → dQ xs Ln 1 2 45 95 (4, Nl, [], N) z) {Nl : List (Nat × Value)} {N : mMem} {x2 : Int} {z : dZ} (hS : dS N) (rx2 : dR x2) (l0 : mLk Nl 0 = some (.ref 0)) (l2 : mLk Nl 2 = some (.int (dI x2))) (h : fL_least_O_b44 xs Ln k N x2 = some z) : dQ xs Ln 1 2 45 95 (44, Nl, [], N) z := by
  unfold fL_least_O_b44 at h
  refine dq_iload e_95_44 l2 ?_
  refine dq_istore e_95_45 rfl (fun K25 m26 mm27 => ?_)
  have m28 := mm27 0 _ (by decide) rfl l0
  have m29 := mm27 2 _ (by decide) rfl l2
  exact qL_least_O_b46 rLn hk hS rx2 rx2 m28 m26 m29 h
noncomputable def fL_least_O_b4 (xs : Nat → Int32) (Ln : Nat) : Nat → mMem → Int → Int → Option dZ
  | 0, _, _, _ => none
  | n + 1, N, x1, x2 => dbd (fX7_look_Oc6 N) fun N10 v11 => (if x2 < v11 then dbd (fX7_station_Oc26 N10 x2) fun N17 v18 => (if v18 = 0 then (if x1 = (-1) then fL_least_O_b44 xs Ln (fL_least_O_b4 xs Ln n) N17 x2 else dbd (fX7_station_Oc1 N17 x2) fun N35 v36 => dbd (fX7_station_Oc1 N35 x1) fun N41 v42 => (if v36 < v42 then fL_least_O_b44 xs Ln (fL_least_O_b4 xs Ln n) N41 x2 else fL_least_O_b46 xs Ln (fL_least_O_b4 xs Ln n) N41 x1 x2)) else fL_least_O_b46 xs Ln (fL_least_O_b4 xs Ln n) N17 x1 x2) else some (N10, x1))
theorem qL_least_O_b4 (rLn : dR (Ln : Int)) : ∀ (n : Nat) {Nl : List (Nat × Value)} {N : mMem} {x1 : Int} {x2 : Int} {z : dZ}, dS N → dR x1 → dR x2 → mLk Nl 0 = some (.ref 0) → mLk Nl 1 = some (.int (dI x1)) → mLk Nl 2 = some (.int (dI x2)) → fL_least_O_b4 xs Ln n N x1 x2 = some z → dQ xs Ln 1 2 45 95 (4, Nl, [], N) z := fun n => by
  induction n with
  | zero =>
    intro Nl N x1 x2 z hS rx1 rx2 l0 l1 l2 h
    cases h
  | succ n ih =>
    intro Nl N x1 x2 z hS rx1 rx2 l0 l1 l2 h
    rw [fL_least_O_b4] at h
    refine dq_iload e_95_4 l2 ?_
    refine dq_aload e_95_5 l0 ?_
    refine dq_iconst e_95_6 ?_
    obtain ⟨N10, v11, c12, h⟩ := dbd_inv h
    have q13 := qX7_look_Oc6 (xs := xs) (Ln := Ln) hS c12
    have S14 : dS N10 := q13.2.1
    refine dq_calli (as := [.int (dI 6)]) (S := [.int (dI x2)]) (nx := 11) e_95_8 rfl rfl rfl hS ak_0_7 rfl rfl rfl rfl q13 rfl ?_
    have r15 : dR v11 := q13.2.2
    by_cases c16 : x2 < v11
    · rw [if_pos c16] at h
      refine dq_icF e_95_11 rx2 r15 (dnf c16) ?_
      refine dq_aload e_95_14 l0 ?_
      refine dq_iload e_95_15 l2 ?_
      refine dq_iconst e_95_16 ?_
      obtain ⟨N17, v18, c19, h⟩ := dbd_inv h
      have q20 := qX7_station_Oc26 (xs := xs) (Ln := Ln) S14 rx2 c19
      have S21 : dS N17 := q20.2.1
      refine dq_calli (as := [.int (dI x2), .int (dI 26)]) (S := []) (nx := 21) e_95_18 rfl rfl rfl S14 ak_0_7 rfl rfl rfl rfl q20 rfl ?_
      have r22 : dR v18 := q20.2.2
      by_cases c23 : v18 = 0
      · rw [if_pos c23] at h
        refine dq_ifF e_95_21 r22 (dnf c23) ?_
        refine dq_iload e_95_24 l1 ?_
        refine dq_iconst e_95_25 ?_
        by_cases c24 : x1 = (-1)
        · rw [if_pos c24] at h
          refine dq_icT e_95_26 rx1 (⟨by decide, by decide⟩) (decide_eq_true c24) ?_
          exact qL_least_O_b44 rLn ih S21 rx2 l0 l2 h
        · rw [if_neg c24] at h
          refine dq_icF e_95_26 rx1 (⟨by decide, by decide⟩) (decide_eq_false c24) ?_
          refine dq_aload e_95_29 l0 ?_
          refine dq_iload e_95_30 l2 ?_
          refine dq_iconst e_95_31 ?_
          obtain ⟨N35, v36, c37, h⟩ := dbd_inv h
          have q38 := qX7_station_Oc1 (xs := xs) (Ln := Ln) S21 rx2 c37
          have S39 : dS N35 := q38.2.1
          refine dq_calli (as := [.int (dI x2), .int (dI 1)]) (S := []) (nx := 35) e_95_32 rfl rfl rfl S21 ak_0_7 rfl rfl rfl rfl q38 rfl ?_
          have r40 : dR v36 := q38.2.2
          refine dq_aload e_95_35 l0 ?_
          refine dq_iload e_95_36 l1 ?_
          refine dq_iconst e_95_37 ?_
          obtain ⟨N41, v42, c43, h⟩ := dbd_inv h
          have q44 := qX7_station_Oc1 (xs := xs) (Ln := Ln) S39 rx1 c43
          have S45 : dS N41 := q44.2.1
          refine dq_calli (as := [.int (dI x1), .int (dI 1)]) (S := [.int (dI v36)]) (nx := 41) e_95_38 rfl rfl rfl S39 ak_0_7 rfl rfl rfl rfl q44 rfl ?_
          have r46 : dR v42 := q44.2.2
          by_cases c47 : v36 < v42
          · rw [if_pos c47] at h
            refine dq_icF e_95_41 r40 r46 (dnf c47) ?_
            exact qL_least_O_b44 rLn ih S45 rx2 l0 l2 h
          · rw [if_neg c47] at h
            refine dq_icT e_95_41 r40 r46 (dnt c47) ?_
            exact qL_least_O_b46 rLn ih S45 rx1 rx2 l0 l1 l2 h
      · rw [if_neg c23] at h
        refine dq_ifT e_95_21 r22 (dnt c23) ?_
        exact qL_least_O_b46 rLn ih S21 rx1 rx2 l0 l1 l2 h
    · rw [if_neg c16] at h
      refine dq_icT e_95_11 rx2 r15 (dnt c16) ?_
      refine dq_iload e_95_52 l1 ?_
      cases h
      exact dq_reti (ty := .int) e_95_53 rfl rfl S14 rx1
noncomputable def fL_least_O (xs : Nat → Int32) (Ln : Nat) (N : mMem) : Option dZ := fL_least_O_b4 xs Ln 1000 N (-1) 0
theorem qL_least_O (rLn : dR (Ln : Int)) {N : mMem} {z : dZ} (hS : dS N) (h : fL_least_O xs Ln N = some z) : dQ xs Ln 1 2 45 95 (0, lv_args 0 [.ref 0], [], N) z := by
  unfold fL_least_O at h
  have l0 : mLk (lv_args 0 [.ref 0]) 0 = some (.ref 0) := rfl
  generalize lv_args 0 [.ref 0] = Nl at l0 ⊢
  refine dq_iconst e_95_0 ?_
  refine dq_istore e_95_1 rfl (fun K1 m2 mm3 => ?_)
  have m4 := mm3 0 _ (by decide) rfl l0
  refine dq_iconst e_95_2 ?_
  refine dq_istore e_95_3 rfl (fun K5 m6 mm7 => ?_)
  have m8 := mm7 0 _ (by decide) rfl m4
  have m9 := mm7 1 _ (by decide) rfl m2
  exact qL_least_O_b4 rLn _ hS (⟨by decide, by decide⟩) (⟨by decide, by decide⟩) m8 m9 m6 h
noncomputable def fX5_view_Sc0_b35 (N : mMem) (s : Nat) (x2 : Int) (y0 : Int) : Option dZ := some (N, dG N (57348 + 26624 * s))
theorem qX5_view_Sc0_b35 {Nl : List (Nat × Value)} {N : mMem} {s : Nat} {x2 : Int} {y0 : Int} {z : dZ} (hS : dS N) (hs : s < 8) (rx2 : dR x2) (ry0 : dR y0) (l0 : mLk Nl 0 = some (.ref (28 + 13 * s))) (l1 : mLk Nl 1 = some (.int (dI 0))) (l2 : mLk Nl 2 = some (.int (dI x2))) (h : fX5_view_Sc0_b35 N s x2 y0 = some z) : dQ xs Ln 1 0 0 66 (35, Nl, [.int (dI y0)], N) z := by
  unfold fX5_view_Sc0_b35 at h
  refine dq_istore e_66_35 rfl (fun K2 m3 mm4 => ?_)
  have m5 := mm4 0 _ (by decide) rfl l0
  have m6 := mm4 1 _ (by decide) rfl l1
  have m7 := mm4 2 _ (by decide) rfl l2
  refine dq_iload e_66_36 m6 ?_
  refine dq_tsI (c := 0) (q := 160) e_66_37 (⟨by decide, by decide⟩) rfl (by decide +kernel) rfl (by decide +kernel) ?_
  refine dq_aload e_66_160 m5 ?_
  refine dq_getI (key := (57348 + 26624 * s)) e_66_161 hS (ac_28s_5_4_0 s hs) (by omega) ?_
  cases h
  exact dq_reti (ty := .int) e_66_164 rfl rfl hS (dG_R _ _)
noncomputable def fX5_view_Sc0_b22 (N : mMem) (s : Nat) (x2 : Int) : Option dZ := (if dG N (57348 + 26624 * s) = 1 then fX5_view_Sc0_b35 N s x2 1 else fX5_view_Sc0_b35 N s x2 0)
theorem qX5_view_Sc0_b22 {Nl : List (Nat × Value)} {N : mMem} {s : Nat} {x2 : Int} {z : dZ} (hS : dS N) (hs : s < 8) (rx2 : dR x2) (l0 : mLk Nl 0 = some (.ref (28 + 13 * s))) (l1 : mLk Nl 1 = some (.int (dI 0))) (l2 : mLk Nl 2 = some (.int (dI x2))) (h : fX5_view_Sc0_b22 N s x2 = some z) : dQ xs Ln 1 0 0 66 (22, Nl, [], N) z := by
  unfold fX5_view_Sc0_b22 at h
  refine dq_aload e_66_22 l0 ?_
  refine dq_getI (key := (57348 + 26624 * s)) e_66_23 hS (ac_28s_5_4_0 s hs) (by omega) ?_
  refine dq_iconst e_66_26 ?_
  by_cases c1 : dG N (57348 + 26624 * s) = 1
  · rw [if_pos c1] at h
    refine dq_icF e_66_27 (dG_R _ _) (⟨by decide, by decide⟩) (dnf c1) ?_
    refine dq_iconst e_66_30 ?_
    refine dq_goto e_66_31 ?_
    exact qX5_view_Sc0_b35 hS hs rx2 (⟨by decide, by decide⟩) l0 l1 l2 h
  · rw [if_neg c1] at h
    refine dq_icT e_66_27 (dG_R _ _) (⟨by decide, by decide⟩) (dnt c1) ?_
    refine dq_iconst e_66_34 ?_
    exact qX5_view_Sc0_b35 hS hs rx2 (⟨by decide, by decide⟩) l0 l1 l2 h
noncomputable def fX5_view_Sc0 (N : mMem) (s : Nat) (x2 : Int) : Option dZ := fX5_view_Sc0_b22 N s x2
theorem qX5_view_Sc0 {N : mMem} {s : Nat} {x2 : Int} {z : dZ} (hS : dS N) (hs : s < 8) (rx2 : dR x2) (h : fX5_view_Sc0 N s x2 = some z) : dQ xs Ln 1 0 0 66 (0, lv_args 0 [.ref (28 + 13 * s), .int (dI 0), .int (dI x2)], [], N) z := by
  unfold fX5_view_Sc0 at h
  have l0 : mLk (lv_args 0 [.ref (28 + 13 * s), .int (dI 0), .int (dI x2)]) 0 = some (.ref (28 + 13 * s)) := rfl
  have l1 : mLk (lv_args 0 [.ref (28 + 13 * s), .int (dI 0), .int (dI x2)]) 1 = some (.int (dI 0)) := rfl
  have l2 : mLk (lv_args 0 [.ref (28 + 13 * s), .int (dI 0), .int (dI x2)]) 2 = some (.int (dI x2)) := rfl
  generalize lv_args 0 [.ref (28 + 13 * s), .int (dI 0), .int (dI x2)] = Nl at l0 l1 l2 ⊢
  refine dq_iload e_66_0 l1 ?_
  refine dq_iconst e_66_1 ?_
  refine dq_icT e_66_3 (⟨by decide, by decide⟩) (⟨by decide, by decide⟩) (by decide +kernel) ?_
  exact qX5_view_Sc0_b22 hS hs rx2 l0 l1 l2 h
noncomputable def fX7_station_Oc0 (N : mMem) (x1 : Int) : Option dZ := dbd (fX3_has_R N x1) fun N1 v2 => (if v2 = 0 then some (N1, (-1)) else dgd (0 ≤ x1 ∧ x1 < 8) <| dln (x1).toNat fun u9 => dbd (fX5_view_Sc0 N1 u9 (dG N1 2049)) fun N10 v11 => some (N10, v11))
theorem qX7_station_Oc0 {N : mMem} {x1 : Int} {z : dZ} (hS : dS N) (rx1 : dR x1) (h : fX7_station_Oc0 N x1 = some z) : dQ xs Ln 1 1 23 86 (0, lv_args 0 [.ref 0, .int (dI x1), .int (dI 0)], [], N) z := by
  unfold fX7_station_Oc0 at h
  have l0 : mLk (lv_args 0 [.ref 0, .int (dI x1), .int (dI 0)]) 0 = some (.ref 0) := rfl
  have l1 : mLk (lv_args 0 [.ref 0, .int (dI x1), .int (dI 0)]) 1 = some (.int (dI x1)) := rfl
  have l2 : mLk (lv_args 0 [.ref 0, .int (dI x1), .int (dI 0)]) 2 = some (.int (dI 0)) := rfl
  generalize lv_args 0 [.ref 0, .int (dI x1), .int (dI 0)] = Nl at l0 l1 l2 ⊢
  refine dq_aload e_86_0 l0 ?_
  refine dq_getR e_86_1 hS ac_0_7_0_2 ?_
  refine dq_iload e_86_4 l1 ?_
  obtain ⟨N1, v2, c3, h⟩ := dbd_inv h
  have q4 := qX3_has_R (xs := xs) (Ln := Ln) hS rx1 c3
  have S5 : dS N1 := q4.2.1
  refine dq_calli (as := [.int (dI x1)]) (S := []) (nx := 8) e_86_5 rfl rfl rfl hS ak_1_3 rfl rfl rfl rfl q4 rfl ?_
  have r6 : dR v2 := q4.2.2
  by_cases c7 : v2 = 0
  · rw [if_pos c7] at h
    refine dq_ifT e_86_8 r6 (decide_eq_true c7) ?_
    refine dq_iconst e_86_34 ?_
    cases h
    exact dq_reti (ty := .int) e_86_35 rfl rfl S5 (⟨by decide, by decide⟩)
  · rw [if_neg c7] at h
    refine dq_ifF e_86_8 r6 (decide_eq_false c7) ?_
    refine dq_aload e_86_11 l0 ?_
    refine dq_getR e_86_12 S5 ac_0_7_0_2 ?_
    refine dq_getR e_86_15 S5 ac_1_3_6_2 ?_
    refine dq_iload e_86_18 l1 ?_
    obtain ⟨g8, h⟩ := dgd_inv h
    refine dq_aals h e_86_19 S5 rx1 g8.1 g8.2 (fun u9 hu9 ku9 h => ?_)
    refine dq_iload e_86_20 l2 ?_
    refine dq_aload e_86_21 l0 ?_
    refine dq_getR e_86_22 S5 ac_0_7_0_2 ?_
    refine dq_getI (key := 2049) e_86_25 S5 ac_1_3_1_0 (by omega) ?_
    obtain ⟨N10, v11, c12, h⟩ := dbd_inv h
    have q13 := qX5_view_Sc0 (xs := xs) (Ln := Ln) S5 hu9 (dG_R _ _) c12
    have S14 : dS N10 := q13.2.1
    refine dq_calli (as := [.int (dI 0), .int (dI (dG N1 2049))]) (S := []) (nx := 31) e_86_28 rfl rfl rfl S5 (ak_28s_5 u9 hu9) rfl rfl rfl rfl q13 rfl ?_
    have r15 : dR v11 := q13.2.2
    refine dq_goto e_86_31 ?_
    cases h
    exact dq_reti (ty := .int) e_86_35 rfl rfl S14 r15
noncomputable def fX5_follows_S (N : mMem) (s : Nat) : Option dZ := (if dG N (57348 + 26624 * s) = 1 then some (N, dG N (59393 + 26624 * s)) else if dG N (57348 + 26624 * s) = 2 then some (N, dG N (61441 + 26624 * s)) else if dG N (57348 + 26624 * s) = 3 then some (N, (-1)) else if dG N (57348 + 26624 * s) = 4 then some (N, dG N (57355 + 26624 * s)) else some (N, (-1)))
theorem qX5_follows_S {N : mMem} {s : Nat} {z : dZ} (hS : dS N) (hs : s < 8) (h : fX5_follows_S N s = some z) : dQ xs Ln 1 0 0 67 (0, lv_args 0 [.ref (28 + 13 * s)], [], N) z := by
  unfold fX5_follows_S at h
  have l0 : mLk (lv_args 0 [.ref (28 + 13 * s)]) 0 = some (.ref (28 + 13 * s)) := rfl
  generalize lv_args 0 [.ref (28 + 13 * s)] = Nl at l0 ⊢
  refine dq_aload e_67_0 l0 ?_
  refine dq_getI (key := (57348 + 26624 * s)) e_67_1 hS (ac_28s_5_4_0 s hs) (by omega) ?_
  by_cases c1 : dG N (57348 + 26624 * s) = 1
  · rw [if_pos c1] at h
    refine dq_tsI (c := 1) (q := 36) e_67_4 (dG_R _ _) c1 (by decide +kernel) rfl (by decide +kernel) ?_
    refine dq_aload e_67_36 l0 ?_
    refine dq_getR e_67_37 hS (ac_28s_5_6_2 s hs) ?_
    refine dq_getI (key := (59393 + 26624 * s)) e_67_40 hS (ac_29s_0_1_0 s hs) (by omega) ?_
    cases h
    exact dq_reti (ty := .int) e_67_43 rfl rfl hS (dG_R _ _)
  rw [if_neg c1] at h
  by_cases c2 : dG N (57348 + 26624 * s) = 2
  · rw [if_pos c2] at h
    refine dq_tsI (c := 2) (q := 44) e_67_4 (dG_R _ _) c2 (by decide +kernel) rfl (by decide +kernel) ?_
    refine dq_aload e_67_44 l0 ?_
    refine dq_getR e_67_45 hS (ac_28s_5_7_2 s hs) ?_
    refine dq_getI (key := (61441 + 26624 * s)) e_67_48 hS (ac_30s_0_1_0 s hs) (by omega) ?_
    cases h
    exact dq_reti (ty := .int) e_67_51 rfl rfl hS (dG_R _ _)
  rw [if_neg c2] at h
  by_cases c3 : dG N (57348 + 26624 * s) = 3
  · rw [if_pos c3] at h
    refine dq_tsI (c := 3) (q := 57) e_67_4 (dG_R _ _) c3 (by decide +kernel) rfl (by decide +kernel) ?_
    refine dq_iconst e_67_57 ?_
    cases h
    exact dq_reti (ty := .int) e_67_58 rfl rfl hS (⟨by decide, by decide⟩)
  rw [if_neg c3] at h
  by_cases c4 : dG N (57348 + 26624 * s) = 4
  · rw [if_pos c4] at h
    refine dq_tsI (c := 4) (q := 52) e_67_4 (dG_R _ _) c4 (by decide +kernel) rfl (by decide +kernel) ?_
    refine dq_aload e_67_52 l0 ?_
    refine dq_getI (key := (57355 + 26624 * s)) e_67_53 hS (ac_28s_5_11_0 s hs) (by omega) ?_
    cases h
    exact dq_reti (ty := .int) e_67_56 rfl rfl hS (dG_R _ _)
  rw [if_neg c4] at h
  refine dq_tsD e_67_4 (dG_R _ _) (by rw [Bool.or_eq_true_iff, decide_eq_true_iff, decide_eq_true_iff]; omega) ?_
  refine dq_iconst e_67_57 ?_
  cases h
  exact dq_reti (ty := .int) e_67_58 rfl rfl hS (⟨by decide, by decide⟩)
noncomputable def fX5_view_Sc24_b35 (N : mMem) (s : Nat) (x2 : Int) (y0 : Int) : Option dZ := dbd (fX5_follows_S N s) fun N8 v9 => some (N8, v9)
theorem qX5_view_Sc24_b35 {Nl : List (Nat × Value)} {N : mMem} {s : Nat} {x2 : Int} {y0 : Int} {z : dZ} (hS : dS N) (hs : s < 8) (rx2 : dR x2) (ry0 : dR y0) (l0 : mLk Nl 0 = some (.ref (28 + 13 * s))) (l1 : mLk Nl 1 = some (.int (dI 24))) (l2 : mLk Nl 2 = some (.int (dI x2))) (h : fX5_view_Sc24_b35 N s x2 y0 = some z) : dQ xs Ln 1 1 20 66 (35, Nl, [.int (dI y0)], N) z := by
  unfold fX5_view_Sc24_b35 at h
  refine dq_istore e_66_35 rfl (fun K2 m3 mm4 => ?_)
  have m5 := mm4 0 _ (by decide) rfl l0
  have m6 := mm4 1 _ (by decide) rfl l1
  have m7 := mm4 2 _ (by decide) rfl l2
  refine dq_iload e_66_36 m6 ?_
  refine dq_tsI (c := 24) (q := 304) e_66_37 (⟨by decide, by decide⟩) rfl (by decide +kernel) rfl (by decide +kernel) ?_
  refine dq_aload e_66_304 m5 ?_
  obtain ⟨N8, v9, c10, h⟩ := dbd_inv h
  have q11 := qX5_follows_S (xs := xs) (Ln := Ln) hS hs c10
  have S12 : dS N8 := q11.2.1
  refine dq_calli (as := []) (S := []) (nx := 308) e_66_305 rfl rfl rfl hS (ak_28s_5 s hs) rfl rfl rfl rfl q11 rfl ?_
  have r13 : dR v9 := q11.2.2
  cases h
  exact dq_reti (ty := .int) e_66_308 rfl rfl S12 r13
noncomputable def fX5_view_Sc24_b22 (N : mMem) (s : Nat) (x2 : Int) : Option dZ := (if dG N (57348 + 26624 * s) = 1 then fX5_view_Sc24_b35 N s x2 1 else fX5_view_Sc24_b35 N s x2 0)
theorem qX5_view_Sc24_b22 {Nl : List (Nat × Value)} {N : mMem} {s : Nat} {x2 : Int} {z : dZ} (hS : dS N) (hs : s < 8) (rx2 : dR x2) (l0 : mLk Nl 0 = some (.ref (28 + 13 * s))) (l1 : mLk Nl 1 = some (.int (dI 24))) (l2 : mLk Nl 2 = some (.int (dI x2))) (h : fX5_view_Sc24_b22 N s x2 = some z) : dQ xs Ln 1 1 20 66 (22, Nl, [], N) z := by
  unfold fX5_view_Sc24_b22 at h
  refine dq_aload e_66_22 l0 ?_
  refine dq_getI (key := (57348 + 26624 * s)) e_66_23 hS (ac_28s_5_4_0 s hs) (by omega) ?_
  refine dq_iconst e_66_26 ?_
  by_cases c1 : dG N (57348 + 26624 * s) = 1
  · rw [if_pos c1] at h
    refine dq_icF e_66_27 (dG_R _ _) (⟨by decide, by decide⟩) (dnf c1) ?_
    refine dq_iconst e_66_30 ?_
    refine dq_goto e_66_31 ?_
    exact qX5_view_Sc24_b35 hS hs rx2 (⟨by decide, by decide⟩) l0 l1 l2 h
  · rw [if_neg c1] at h
    refine dq_icT e_66_27 (dG_R _ _) (⟨by decide, by decide⟩) (dnt c1) ?_
    refine dq_iconst e_66_34 ?_
    exact qX5_view_Sc24_b35 hS hs rx2 (⟨by decide, by decide⟩) l0 l1 l2 h
noncomputable def fX5_view_Sc24 (N : mMem) (s : Nat) (x2 : Int) : Option dZ := fX5_view_Sc24_b22 N s x2
theorem qX5_view_Sc24 {N : mMem} {s : Nat} {x2 : Int} {z : dZ} (hS : dS N) (hs : s < 8) (rx2 : dR x2) (h : fX5_view_Sc24 N s x2 = some z) : dQ xs Ln 1 1 20 66 (0, lv_args 0 [.ref (28 + 13 * s), .int (dI 24), .int (dI x2)], [], N) z := by
  unfold fX5_view_Sc24 at h
  have l0 : mLk (lv_args 0 [.ref (28 + 13 * s), .int (dI 24), .int (dI x2)]) 0 = some (.ref (28 + 13 * s)) := rfl
  have l1 : mLk (lv_args 0 [.ref (28 + 13 * s), .int (dI 24), .int (dI x2)]) 1 = some (.int (dI 24)) := rfl
  have l2 : mLk (lv_args 0 [.ref (28 + 13 * s), .int (dI 24), .int (dI x2)]) 2 = some (.int (dI x2)) := rfl
  generalize lv_args 0 [.ref (28 + 13 * s), .int (dI 24), .int (dI x2)] = Nl at l0 l1 l2 ⊢
  refine dq_iload e_66_0 l1 ?_
  refine dq_iconst e_66_1 ?_
  refine dq_icF e_66_3 (⟨by decide, by decide⟩) (⟨by decide, by decide⟩) (by decide +kernel) ?_
  refine dq_iload e_66_6 l1 ?_
  refine dq_iconst e_66_7 ?_
  refine dq_icT e_66_9 (⟨by decide, by decide⟩) (⟨by decide, by decide⟩) (by decide +kernel) ?_
  exact qX5_view_Sc24_b22 hS hs rx2 l0 l1 l2 h
noncomputable def fX7_station_Oc24 (N : mMem) (x1 : Int) : Option dZ := dbd (fX3_has_R N x1) fun N1 v2 => (if v2 = 0 then some (N1, (-1)) else dgd (0 ≤ x1 ∧ x1 < 8) <| dln (x1).toNat fun u9 => dbd (fX5_view_Sc24 N1 u9 (dG N1 2049)) fun N10 v11 => some (N10, v11))
theorem qX7_station_Oc24 {N : mMem} {x1 : Int} {z : dZ} (hS : dS N) (rx1 : dR x1) (h : fX7_station_Oc24 N x1 = some z) : dQ xs Ln 1 2 43 86 (0, lv_args 0 [.ref 0, .int (dI x1), .int (dI 24)], [], N) z := by
  unfold fX7_station_Oc24 at h
  have l0 : mLk (lv_args 0 [.ref 0, .int (dI x1), .int (dI 24)]) 0 = some (.ref 0) := rfl
  have l1 : mLk (lv_args 0 [.ref 0, .int (dI x1), .int (dI 24)]) 1 = some (.int (dI x1)) := rfl
  have l2 : mLk (lv_args 0 [.ref 0, .int (dI x1), .int (dI 24)]) 2 = some (.int (dI 24)) := rfl
  generalize lv_args 0 [.ref 0, .int (dI x1), .int (dI 24)] = Nl at l0 l1 l2 ⊢
  refine dq_aload e_86_0 l0 ?_
  refine dq_getR e_86_1 hS ac_0_7_0_2 ?_
  refine dq_iload e_86_4 l1 ?_
  obtain ⟨N1, v2, c3, h⟩ := dbd_inv h
  have q4 := qX3_has_R (xs := xs) (Ln := Ln) hS rx1 c3
  have S5 : dS N1 := q4.2.1
  refine dq_calli (as := [.int (dI x1)]) (S := []) (nx := 8) e_86_5 rfl rfl rfl hS ak_1_3 rfl rfl rfl rfl q4 rfl ?_
  have r6 : dR v2 := q4.2.2
  by_cases c7 : v2 = 0
  · rw [if_pos c7] at h
    refine dq_ifT e_86_8 r6 (decide_eq_true c7) ?_
    refine dq_iconst e_86_34 ?_
    cases h
    exact dq_reti (ty := .int) e_86_35 rfl rfl S5 (⟨by decide, by decide⟩)
  · rw [if_neg c7] at h
    refine dq_ifF e_86_8 r6 (decide_eq_false c7) ?_
    refine dq_aload e_86_11 l0 ?_
    refine dq_getR e_86_12 S5 ac_0_7_0_2 ?_
    refine dq_getR e_86_15 S5 ac_1_3_6_2 ?_
    refine dq_iload e_86_18 l1 ?_
    obtain ⟨g8, h⟩ := dgd_inv h
    refine dq_aals h e_86_19 S5 rx1 g8.1 g8.2 (fun u9 hu9 ku9 h => ?_)
    refine dq_iload e_86_20 l2 ?_
    refine dq_aload e_86_21 l0 ?_
    refine dq_getR e_86_22 S5 ac_0_7_0_2 ?_
    refine dq_getI (key := 2049) e_86_25 S5 ac_1_3_1_0 (by omega) ?_
    obtain ⟨N10, v11, c12, h⟩ := dbd_inv h
    have q13 := qX5_view_Sc24 (xs := xs) (Ln := Ln) S5 hu9 (dG_R _ _) c12
    have S14 : dS N10 := q13.2.1
    refine dq_calli (as := [.int (dI 24), .int (dI (dG N1 2049))]) (S := []) (nx := 31) e_86_28 rfl rfl rfl S5 (ak_28s_5 u9 hu9) rfl rfl rfl rfl q13 rfl ?_
    have r15 : dR v11 := q13.2.2
    refine dq_goto e_86_31 ?_
    cases h
    exact dq_reti (ty := .int) e_86_35 rfl rfl S14 r15
noncomputable def fL_areUpBy_O_b45 (xs : Nat → Int32) (Ln : Nat) (k : mMem → Int → Int → Option dZ) (N : mMem) (x1 : Int) (x2 : Int) : Option dZ := k N x1 (dW (x2 + 1))
theorem qL_areUpBy_O_b45 (rLn : dR (Ln : Int)) {k : mMem → Int → Int → Option dZ} (hk : ∀ {Nl : List (Nat × Value)} {N : mMem} {x1 : Int} {x2 : Int} {z : dZ}, dS N → dR x1 → dR x2 → mLk Nl 0 = some (.ref 0) → mLk Nl 1 = some (.int (dI x1)) → mLk Nl 2 = some (.int (dI x2)) → k N x1 x2 = some z → dQ xs Ln 1 3 65 96 (2, Nl, [], N) z) {Nl : List (Nat × Value)} {N : mMem} {x1 : Int} {x2 : Int} {z : dZ} (hS : dS N) (rx1 : dR x1) (rx2 : dR x2) (l0 : mLk Nl 0 = some (.ref 0)) (l1 : mLk Nl 1 = some (.int (dI x1))) (l2 : mLk Nl 2 = some (.int (dI x2))) (h : fL_areUpBy_O_b45 xs Ln k N x1 x2 = some z) : dQ xs Ln 1 3 65 96 (45, Nl, [], N) z := by
  unfold fL_areUpBy_O_b45 at h
  refine dq_iinc (x := x2) (e := dW (x2 + 1)) e_96_45 l2 rfl rfl (fun K34 m35 mm36 => ?_)
  have m37 := mm36 0 _ (by decide) rfl l0
  have m38 := mm36 1 _ (by decide) rfl l1
  refine dq_goto e_96_48 ?_
  exact hk hS rx1 (dW_R _) m37 m38 m35 h
noncomputable def fL_areUpBy_O_b43 (xs : Nat → Int32) (Ln : Nat) (N : mMem) : Option dZ := some (N, 0)
theorem qL_areUpBy_O_b43 (rLn : dR (Ln : Int)) {Nl : List (Nat × Value)} {N : mMem} {z : dZ} (hS : dS N) (h : fL_areUpBy_O_b43 xs Ln N = some z) : dQ xs Ln 1 3 65 96 (43, Nl, [], N) z := by
  unfold fL_areUpBy_O_b43 at h
  refine dq_iconst e_96_43 ?_
  cases h
  exact dq_reti (ty := .boolean) e_96_44 rfl (by decide +kernel) hS (⟨by decide, by decide⟩)
noncomputable def fL_areUpBy_O_b2 (xs : Nat → Int32) (Ln : Nat) : Nat → mMem → Int → Int → Option dZ
  | 0, _, _, _ => none
  | n + 1, N, x1, x2 => dbd (fX7_look_Oc6 N) fun N6 v7 => (if x2 < v7 then dbd (fX7_station_Oc26 N6 x2) fun N13 v14 => (if v14 = 0 then dbd (fX7_station_Oc0 N13 x2) fun N20 v21 => (if v21 = 1 then dbd (fX7_station_Oc24 N20 x2) fun N27 v28 => (if v28 = x1 then fL_areUpBy_O_b45 xs Ln (fL_areUpBy_O_b2 xs Ln n) N27 x1 x2 else fL_areUpBy_O_b43 xs Ln N27) else fL_areUpBy_O_b43 xs Ln N20) else fL_areUpBy_O_b45 xs Ln (fL_areUpBy_O_b2 xs Ln n) N13 x1 x2) else some (N6, 1))
theorem qL_areUpBy_O_b2 (rLn : dR (Ln : Int)) : ∀ (n : Nat) {Nl : List (Nat × Value)} {N : mMem} {x1 : Int} {x2 : Int} {z : dZ}, dS N → dR x1 → dR x2 → mLk Nl 0 = some (.ref 0) → mLk Nl 1 = some (.int (dI x1)) → mLk Nl 2 = some (.int (dI x2)) → fL_areUpBy_O_b2 xs Ln n N x1 x2 = some z → dQ xs Ln 1 3 65 96 (2, Nl, [], N) z := fun n => by
  induction n with
  | zero =>
    intro Nl N x1 x2 z hS rx1 rx2 l0 l1 l2 h
    cases h
  | succ n ih =>
    intro Nl N x1 x2 z hS rx1 rx2 l0 l1 l2 h
    rw [fL_areUpBy_O_b2] at h
    refine dq_iload e_96_2 l2 ?_
    refine dq_aload e_96_3 l0 ?_
    refine dq_iconst e_96_4 ?_
    obtain ⟨N6, v7, c8, h⟩ := dbd_inv h
    have q9 := qX7_look_Oc6 (xs := xs) (Ln := Ln) hS c8
    have S10 : dS N6 := q9.2.1
    refine dq_calli (as := [.int (dI 6)]) (S := [.int (dI x2)]) (nx := 9) e_96_6 rfl rfl rfl hS ak_0_7 rfl rfl rfl rfl q9 rfl ?_
    have r11 : dR v7 := q9.2.2
    by_cases c12 : x2 < v7
    · rw [if_pos c12] at h
      refine dq_icF e_96_9 rx2 r11 (dnf c12) ?_
      refine dq_aload e_96_12 l0 ?_
      refine dq_iload e_96_13 l2 ?_
      refine dq_iconst e_96_14 ?_
      obtain ⟨N13, v14, c15, h⟩ := dbd_inv h
      have q16 := qX7_station_Oc26 (xs := xs) (Ln := Ln) S10 rx2 c15
      have S17 : dS N13 := q16.2.1
      refine dq_calli (as := [.int (dI x2), .int (dI 26)]) (S := []) (nx := 19) e_96_16 rfl rfl rfl S10 ak_0_7 rfl rfl rfl rfl q16 rfl ?_
      have r18 : dR v14 := q16.2.2
      by_cases c19 : v14 = 0
      · rw [if_pos c19] at h
        refine dq_ifF e_96_19 r18 (dnf c19) ?_
        refine dq_aload e_96_22 l0 ?_
        refine dq_iload e_96_23 l2 ?_
        refine dq_iconst e_96_24 ?_
        obtain ⟨N20, v21, c22, h⟩ := dbd_inv h
        have q23 := qX7_station_Oc0 (xs := xs) (Ln := Ln) S17 rx2 c22
        have S24 : dS N20 := q23.2.1
        refine dq_calli (as := [.int (dI x2), .int (dI 0)]) (S := []) (nx := 28) e_96_25 rfl rfl rfl S17 ak_0_7 rfl rfl rfl rfl q23 rfl ?_
        have r25 : dR v21 := q23.2.2
        refine dq_iconst e_96_28 ?_
        by_cases c26 : v21 = 1
        · rw [if_pos c26] at h
          refine dq_icF e_96_29 r25 (⟨by decide, by decide⟩) (dnf c26) ?_
          refine dq_aload e_96_32 l0 ?_
          refine dq_iload e_96_33 l2 ?_
          refine dq_iconst e_96_34 ?_
          obtain ⟨N27, v28, c29, h⟩ := dbd_inv h
          have q30 := qX7_station_Oc24 (xs := xs) (Ln := Ln) S24 rx2 c29
          have S31 : dS N27 := q30.2.1
          refine dq_calli (as := [.int (dI x2), .int (dI 24)]) (S := []) (nx := 39) e_96_36 rfl rfl rfl S24 ak_0_7 rfl rfl rfl rfl q30 rfl ?_
          have r32 : dR v28 := q30.2.2
          refine dq_iload e_96_39 l1 ?_
          by_cases c33 : v28 = x1
          · rw [if_pos c33] at h
            refine dq_icT e_96_40 r32 rx1 (decide_eq_true c33) ?_
            exact qL_areUpBy_O_b45 rLn ih S31 rx1 rx2 l0 l1 l2 h
          · rw [if_neg c33] at h
            refine dq_icF e_96_40 r32 rx1 (decide_eq_false c33) ?_
            exact qL_areUpBy_O_b43 rLn S31 h
        · rw [if_neg c26] at h
          refine dq_icT e_96_29 r25 (⟨by decide, by decide⟩) (dnt c26) ?_
          exact qL_areUpBy_O_b43 rLn S24 h
      · rw [if_neg c19] at h
        refine dq_ifT e_96_19 r18 (dnt c19) ?_
        exact qL_areUpBy_O_b45 rLn ih S17 rx1 rx2 l0 l1 l2 h
    · rw [if_neg c12] at h
      refine dq_icT e_96_9 rx2 r11 (dnt c12) ?_
      refine dq_iconst e_96_51 ?_
      cases h
      exact dq_reti (ty := .boolean) e_96_52 rfl (by decide +kernel) S10 (⟨by decide, by decide⟩)
noncomputable def fL_areUpBy_O (xs : Nat → Int32) (Ln : Nat) (N : mMem) (x1 : Int) : Option dZ := fL_areUpBy_O_b2 xs Ln 1000 N x1 0
theorem qL_areUpBy_O (rLn : dR (Ln : Int)) {N : mMem} {x1 : Int} {z : dZ} (hS : dS N) (rx1 : dR x1) (h : fL_areUpBy_O xs Ln N x1 = some z) : dQ xs Ln 1 3 65 96 (0, lv_args 0 [.ref 0, .int (dI x1)], [], N) z := by
  unfold fL_areUpBy_O at h
  have l0 : mLk (lv_args 0 [.ref 0, .int (dI x1)]) 0 = some (.ref 0) := rfl
  have l1 : mLk (lv_args 0 [.ref 0, .int (dI x1)]) 1 = some (.int (dI x1)) := rfl
  generalize lv_args 0 [.ref 0, .int (dI x1)] = Nl at l0 l1 ⊢
  refine dq_iconst e_96_0 ?_
  refine dq_istore e_96_1 rfl (fun K1 m2 mm3 => ?_)
  have m4 := mm3 0 _ (by decide) rfl l0
  have m5 := mm3 1 _ (by decide) rfl l1
  exact qL_areUpBy_O_b2 rLn _ hS rx1 (⟨by decide, by decide⟩) m4 m5 m2 h
noncomputable def fL_cell_X (xs : Nat → Int32) (Ln : Nat) (N : mMem) (x1 : Int) : Option dZ := (if x1 < (Ln : Int) then dgd (0 ≤ x1 ∧ x1 < (Ln : Int)) <| some (N, dX xs x1) else some (N, dW ((dW (1640531527 * x1)) + 829)))
theorem qL_cell_X (rLn : dR (Ln : Int)) {N : mMem} {x1 : Int} {z : dZ} (hS : dS N) (rx1 : dR x1) (h : fL_cell_X xs Ln N x1 = some z) : dQ xs Ln 1 0 0 92 (0, lv_args 0 [.ref 1000000, .int (dI x1)], [], N) z := by
  unfold fL_cell_X at h
  have l0 : mLk (lv_args 0 [.ref 1000000, .int (dI x1)]) 0 = some (.ref 1000000) := rfl
  have l1 : mLk (lv_args 0 [.ref 1000000, .int (dI x1)]) 1 = some (.int (dI x1)) := rfl
  generalize lv_args 0 [.ref 1000000, .int (dI x1)] = Nl at l0 l1 ⊢
  refine dq_iload e_92_0 l1 ?_
  refine dq_aload e_92_1 l0 ?_
  refine dq_len e_92_2 ?_
  by_cases c1 : x1 < (Ln : Int)
  · rw [if_pos c1] at h
    refine dq_icF e_92_3 rx1 rLn (dnf c1) ?_
    refine dq_aload e_92_6 l0 ?_
    refine dq_iload e_92_7 l1 ?_
    obtain ⟨g2, h⟩ := dgd_inv h
    refine dq_scr e_92_8 rx1 g2.1 g2.2 ?_
    refine dq_goto e_92_9 ?_
    cases h
    exact dq_reti (ty := .int) e_92_20 rfl rfl hS (dX_R _ _)
  · rw [if_neg c1] at h
    refine dq_icT e_92_3 rx1 rLn (dnt c1) ?_
    refine dq_iconst e_92_12 ?_
    refine dq_iload e_92_14 l1 ?_
    refine dq_imul (e := dW (1640531527 * x1)) e_92_15 rfl ?_
    refine dq_iconst e_92_16 ?_
    refine dq_iadd (e := dW ((dW (1640531527 * x1)) + 829)) e_92_19 rfl ?_
    cases h
    exact dq_reti (ty := .int) e_92_20 rfl rfl hS (dW_R _)
noncomputable def fL_between (xs : Nat → Int32) (Ln : Nat) (N : mMem) (x0 : Int) (x1 : Int) (x2 : Int) : Option dZ := dgd ((0 : Int) ≤ dAnd x0 2147483647 ∧ (0 : Int) < dW ((dW (x2 - x1)) + 1)) <| some (N, dW (x1 + ((dAnd x0 2147483647) % (dW ((dW (x2 - x1)) + 1)))))
theorem qL_between (rLn : dR (Ln : Int)) {N : mMem} {x0 : Int} {x1 : Int} {x2 : Int} {z : dZ} (hS : dS N) (rx0 : dR x0) (rx1 : dR x1) (rx2 : dR x2) (h : fL_between xs Ln N x0 x1 x2 = some z) : dQ xs Ln 1 0 0 93 (0, lv_args 0 [.int (dI x0), .int (dI x1), .int (dI x2)], [], N) z := by
  unfold fL_between at h
  have l0 : mLk (lv_args 0 [.int (dI x0), .int (dI x1), .int (dI x2)]) 0 = some (.int (dI x0)) := rfl
  have l1 : mLk (lv_args 0 [.int (dI x0), .int (dI x1), .int (dI x2)]) 1 = some (.int (dI x1)) := rfl
  have l2 : mLk (lv_args 0 [.int (dI x0), .int (dI x1), .int (dI x2)]) 2 = some (.int (dI x2)) := rfl
  generalize lv_args 0 [.int (dI x0), .int (dI x1), .int (dI x2)] = Nl at l0 l1 l2 ⊢
  refine dq_iload e_93_0 l1 ?_
  refine dq_iload e_93_1 l0 ?_
  refine dq_iconst e_93_2 ?_
  refine dq_iand e_93_4 ?_
  refine dq_iload e_93_5 l2 ?_
  refine dq_iload e_93_6 l1 ?_
  refine dq_isub (e := dW (x2 - x1)) e_93_7 rfl ?_
  refine dq_iconst e_93_8 ?_
  refine dq_iadd (e := dW ((dW (x2 - x1)) + 1)) e_93_9 rfl ?_
  obtain ⟨⟨g1, g2⟩, h⟩ := dgd_inv h
  have r3 : dR ((dAnd x0 2147483647) % (dW ((dW (x2 - x1)) + 1))) := ⟨by have := Int.emod_nonneg (dAnd x0 2147483647) (show dW ((dW (x2 - x1)) + 1) ≠ (0 : Int) by omega); omega, by have := Int.emod_lt_of_pos (dAnd x0 2147483647) g2; have := (show dR (dW ((dW (x2 - x1)) + 1)) from dW_R _).2; omega⟩
  refine dq_irem e_93_10 (dAnd_R _ _) (dW_R _) g1 g2 rfl ?_
  refine dq_iadd (e := dW (x1 + ((dAnd x0 2147483647) % (dW ((dW (x2 - x1)) + 1))))) e_93_11 rfl ?_
  cases h
  exact dq_reti (ty := .int) e_93_12 rfl rfl hS (dW_R _)
noncomputable def fX3_allShares_R_b38 (k : mMem → Int → Int → Option dZ) (N : mMem) (x2 : Int) (y0 : Int) (y1 : Int) : Option dZ := k N (dW (y0 + y1)) (dW (x2 + 1))
theorem qX3_allShares_R_b38 {k : mMem → Int → Int → Option dZ} (hk : ∀ {Nl : List (Nat × Value)} {N : mMem} {x1 : Int} {x2 : Int} {z : dZ}, dS N → dR x1 → dR x2 → mLk Nl 0 = some (.ref 1) → mLk Nl 1 = some (.int (dI x1)) → mLk Nl 2 = some (.int (dI x2)) → k N x1 x2 = some z → dQ xs Ln 1 0 0 27 (4, Nl, [], N) z) {Nl : List (Nat × Value)} {N : mMem} {x2 : Int} {y0 : Int} {y1 : Int} {z : dZ} (hS : dS N) (rx2 : dR x2) (ry0 : dR y0) (ry1 : dR y1) (l0 : mLk Nl 0 = some (.ref 1)) (l2 : mLk Nl 2 = some (.int (dI x2))) (h : fX3_allShares_R_b38 k N x2 y0 y1 = some z) : dQ xs Ln 1 0 0 27 (38, Nl, [.int (dI y1), .int (dI y0)], N) z := by
  unfold fX3_allShares_R_b38 at h
  refine dq_iadd (e := dW (y0 + y1)) e_27_38 rfl ?_
  refine dq_istore e_27_39 rfl (fun K16 m17 mm18 => ?_)
  have m19 := mm18 0 _ (by decide) rfl l0
  have m20 := mm18 2 _ (by decide) rfl l2
  refine dq_iinc (x := x2) (e := dW (x2 + 1)) e_27_40 m20 rfl rfl (fun K21 m22 mm23 => ?_)
  have m24 := mm23 0 _ (by decide) rfl m19
  have m25 := mm23 1 _ (by decide) rfl m17
  refine dq_goto e_27_43 ?_
  exact hk hS (dW_R _) (dW_R _) m24 m25 m22 h
noncomputable def fX3_allShares_R_b4 : Nat → mMem → Int → Int → Option dZ
  | 0, _, _, _ => none
  | n + 1, N, x1, x2 => (if x2 < dG N 2048 then dgd (0 ≤ x2 ∧ x2 < 8) <| dln (x2).toNat fun u12 => (if dG N (57347 + 26624 * u12) = 0 then dgd (0 ≤ x2 ∧ x2 < 8) <| dln (x2).toNat fun u15 => fX3_allShares_R_b38 (fX3_allShares_R_b4 n) N x2 x1 (dG N (57346 + 26624 * u15)) else fX3_allShares_R_b38 (fX3_allShares_R_b4 n) N x2 x1 0) else some (N, x1))
theorem qX3_allShares_R_b4 : ∀ (n : Nat) {Nl : List (Nat × Value)} {N : mMem} {x1 : Int} {x2 : Int} {z : dZ}, dS N → dR x1 → dR x2 → mLk Nl 0 = some (.ref 1) → mLk Nl 1 = some (.int (dI x1)) → mLk Nl 2 = some (.int (dI x2)) → fX3_allShares_R_b4 n N x1 x2 = some z → dQ xs Ln 1 0 0 27 (4, Nl, [], N) z := fun n => by
  induction n with
  | zero =>
    intro Nl N x1 x2 z hS rx1 rx2 l0 l1 l2 h
    cases h
  | succ n ih =>
    intro Nl N x1 x2 z hS rx1 rx2 l0 l1 l2 h
    rw [fX3_allShares_R_b4] at h
    refine dq_iload e_27_4 l2 ?_
    refine dq_aload e_27_5 l0 ?_
    refine dq_getI (key := 2048) e_27_6 hS ac_1_3_0_0 (by omega) ?_
    by_cases c10 : x2 < dG N 2048
    · rw [if_pos c10] at h
      refine dq_icF e_27_9 rx2 (dG_R _ _) (dnf c10) ?_
      refine dq_iload e_27_12 l1 ?_
      refine dq_aload e_27_13 l0 ?_
      refine dq_getR e_27_14 hS ac_1_3_6_2 ?_
      refine dq_iload e_27_17 l2 ?_
      obtain ⟨g11, h⟩ := dgd_inv h
      refine dq_aals h e_27_18 hS rx2 g11.1 g11.2 (fun u12 hu12 ku12 h => ?_)
      refine dq_getI (key := (57347 + 26624 * u12)) e_27_19 hS (ac_28s_5_3_0 u12 hu12) (by omega) ?_
      by_cases c13 : dG N (57347 + 26624 * u12) = 0
      · rw [if_pos c13] at h
        refine dq_ifT e_27_22 (dG_R _ _) (decide_eq_true c13) ?_
        refine dq_aload e_27_29 l0 ?_
        refine dq_getR e_27_30 hS ac_1_3_6_2 ?_
        refine dq_iload e_27_33 l2 ?_
        obtain ⟨g14, h⟩ := dgd_inv h
        refine dq_aals h e_27_34 hS rx2 g14.1 g14.2 (fun u15 hu15 ku15 h => ?_)
        refine dq_getI (key := (57346 + 26624 * u15)) e_27_35 hS (ac_28s_5_2_0 u15 hu15) (by omega) ?_
        exact qX3_allShares_R_b38 ih hS rx2 rx1 (dG_R _ _) l0 l2 h
      · rw [if_neg c13] at h
        refine dq_ifF e_27_22 (dG_R _ _) (decide_eq_false c13) ?_
        refine dq_iconst e_27_25 ?_
        refine dq_goto e_27_26 ?_
        exact qX3_allShares_R_b38 ih hS rx2 rx1 (⟨by decide, by decide⟩) l0 l2 h
    · rw [if_neg c10] at h
      refine dq_icT e_27_9 rx2 (dG_R _ _) (dnt c10) ?_
      refine dq_iload e_27_46 l1 ?_
      cases h
      exact dq_reti (ty := .int) e_27_47 rfl rfl hS rx1
noncomputable def fX3_allShares_R (N : mMem) : Option dZ := fX3_allShares_R_b4 1000 N 0 0
theorem qX3_allShares_R {N : mMem} {z : dZ} (hS : dS N) (h : fX3_allShares_R N = some z) : dQ xs Ln 1 0 0 27 (0, lv_args 0 [.ref 1], [], N) z := by
  unfold fX3_allShares_R at h
  have l0 : mLk (lv_args 0 [.ref 1]) 0 = some (.ref 1) := rfl
  generalize lv_args 0 [.ref 1] = Nl at l0 ⊢
  refine dq_iconst e_27_0 ?_
  refine dq_istore e_27_1 rfl (fun K1 m2 mm3 => ?_)
  have m4 := mm3 0 _ (by decide) rfl l0
  refine dq_iconst e_27_2 ?_
  refine dq_istore e_27_3 rfl (fun K5 m6 mm7 => ?_)
  have m8 := mm7 0 _ (by decide) rfl m4
  have m9 := mm7 1 _ (by decide) rfl m2
  exact qX3_allShares_R_b4 _ hS (⟨by decide, by decide⟩) (⟨by decide, by decide⟩) m8 m9 m6 h
noncomputable def fX3_latency_R_b4 : Nat → mMem → Int → Int → Option dZ
  | 0, _, _, _ => none
  | n + 1, N, x1, x2 => (if x2 < dG N 2048 then dgd (0 ≤ x2 ∧ x2 < 8) <| fX3_latency_R_b4 n N (dW (x1 + (dG N (6144 + (x2).toNat)))) (dW (x2 + 1)) else some (N, x1))
theorem qX3_latency_R_b4 : ∀ (n : Nat) {Nl : List (Nat × Value)} {N : mMem} {x1 : Int} {x2 : Int} {z : dZ}, dS N → dR x1 → dR x2 → mLk Nl 0 = some (.ref 1) → mLk Nl 1 = some (.int (dI x1)) → mLk Nl 2 = some (.int (dI x2)) → fX3_latency_R_b4 n N x1 x2 = some z → dQ xs Ln 1 0 0 22 (4, Nl, [], N) z := fun n => by
  induction n with
  | zero =>
    intro Nl N x1 x2 z hS rx1 rx2 l0 l1 l2 h
    cases h
  | succ n ih =>
    intro Nl N x1 x2 z hS rx1 rx2 l0 l1 l2 h
    rw [fX3_latency_R_b4] at h
    refine dq_iload e_22_4 l2 ?_
    refine dq_aload e_22_5 l0 ?_
    refine dq_getI (key := 2048) e_22_6 hS ac_1_3_0_0 (by omega) ?_
    by_cases c10 : x2 < dG N 2048
    · rw [if_pos c10] at h
      refine dq_icF e_22_9 rx2 (dG_R _ _) (dnf c10) ?_
      refine dq_iload e_22_12 l1 ?_
      refine dq_aload e_22_13 l0 ?_
      refine dq_getR e_22_14 hS ac_1_3_5_2 ?_
      refine dq_iload e_22_17 l2 ?_
      obtain ⟨g11, h⟩ := dgd_inv h
      refine dq_ial (key := (6144 + (x2).toNat)) e_22_18 hS aa_3 rx2 g11.1 g11.2 (by omega) ?_
      refine dq_iadd (e := dW (x1 + (dG N (6144 + (x2).toNat)))) e_22_19 rfl ?_
      refine dq_istore e_22_20 rfl (fun K12 m13 mm14 => ?_)
      have m15 := mm14 0 _ (by decide) rfl l0
      have m16 := mm14 2 _ (by decide) rfl l2
      refine dq_iinc (x := x2) (e := dW (x2 + 1)) e_22_21 m16 rfl rfl (fun K17 m18 mm19 => ?_)
      have m20 := mm19 0 _ (by decide) rfl m15
      have m21 := mm19 1 _ (by decide) rfl m13
      refine dq_goto e_22_24 ?_
      exact ih hS (dW_R _) (dW_R _) m20 m21 m18 h
    · rw [if_neg c10] at h
      refine dq_icT e_22_9 rx2 (dG_R _ _) (dnt c10) ?_
      refine dq_iload e_22_27 l1 ?_
      cases h
      exact dq_reti (ty := .int) e_22_28 rfl rfl hS rx1
noncomputable def fX3_latency_R (N : mMem) : Option dZ := fX3_latency_R_b4 1000 N 0 0
theorem qX3_latency_R {N : mMem} {z : dZ} (hS : dS N) (h : fX3_latency_R N = some z) : dQ xs Ln 1 0 0 22 (0, lv_args 0 [.ref 1], [], N) z := by
  unfold fX3_latency_R at h
  have l0 : mLk (lv_args 0 [.ref 1]) 0 = some (.ref 1) := rfl
  generalize lv_args 0 [.ref 1] = Nl at l0 ⊢
  refine dq_iconst e_22_0 ?_
  refine dq_istore e_22_1 rfl (fun K1 m2 mm3 => ?_)
  have m4 := mm3 0 _ (by decide) rfl l0
  refine dq_iconst e_22_2 ?_
  refine dq_istore e_22_3 rfl (fun K5 m6 mm7 => ?_)
  have m8 := mm7 0 _ (by decide) rfl m4
  have m9 := mm7 1 _ (by decide) rfl m2
  exact qX3_latency_R_b4 _ hS (⟨by decide, by decide⟩) (⟨by decide, by decide⟩) m8 m9 m6 h
noncomputable def fX3_leastTarget_R_b51 (k : mMem → Int → Int → Option dZ) (N : mMem) (x1 : Int) (x2 : Int) : Option dZ := k N x1 (dW (x2 + 1))
theorem qX3_leastTarget_R_b51 {k : mMem → Int → Int → Option dZ} (hk : ∀ {Nl : List (Nat × Value)} {N : mMem} {x1 : Int} {x2 : Int} {z : dZ}, dS N → dR x1 → dR x2 → mLk Nl 0 = some (.ref 1) → mLk Nl 1 = some (.int (dI x1)) → mLk Nl 2 = some (.int (dI x2)) → k N x1 x2 = some z → dQ xs Ln 1 0 0 25 (4, Nl, [], N) z) {Nl : List (Nat × Value)} {N : mMem} {x1 : Int} {x2 : Int} {z : dZ} (hS : dS N) (rx1 : dR x1) (rx2 : dR x2) (l0 : mLk Nl 0 = some (.ref 1)) (l1 : mLk Nl 1 = some (.int (dI x1))) (l2 : mLk Nl 2 = some (.int (dI x2))) (h : fX3_leastTarget_R_b51 k N x1 x2 = some z) : dQ xs Ln 1 0 0 25 (51, Nl, [], N) z := by
  unfold fX3_leastTarget_R_b51 at h
  refine dq_iinc (x := x2) (e := dW (x2 + 1)) e_25_51 l2 rfl rfl (fun K26 m27 mm28 => ?_)
  have m29 := mm28 0 _ (by decide) rfl l0
  have m30 := mm28 1 _ (by decide) rfl l1
  refine dq_goto e_25_54 ?_
  exact hk hS rx1 (dW_R _) m29 m30 m27 h
noncomputable def fX3_leastTarget_R_b43 (k : mMem → Int → Int → Option dZ) (N : mMem) (u12 : Nat) (x2 : Int) : Option dZ := fX3_leastTarget_R_b51 k N (dG N (59392 + 26624 * u12)) x2
theorem qX3_leastTarget_R_b43 {k : mMem → Int → Int → Option dZ} (hk : ∀ {Nl : List (Nat × Value)} {N : mMem} {x1 : Int} {x2 : Int} {z : dZ}, dS N → dR x1 → dR x2 → mLk Nl 0 = some (.ref 1) → mLk Nl 1 = some (.int (dI x1)) → mLk Nl 2 = some (.int (dI x2)) → k N x1 x2 = some z → dQ xs Ln 1 0 0 25 (4, Nl, [], N) z) {Nl : List (Nat × Value)} {N : mMem} {u12 : Nat} {x2 : Int} {z : dZ} (hS : dS N) (hu12 : u12 < 8) (rx2 : dR x2) (l0 : mLk Nl 0 = some (.ref 1)) (l2 : mLk Nl 2 = some (.int (dI x2))) (l3 : mLk Nl 3 = some (.ref (28 + 13 * u12))) (h : fX3_leastTarget_R_b43 k N u12 x2 = some z) : dQ xs Ln 1 0 0 25 (43, Nl, [], N) z := by
  unfold fX3_leastTarget_R_b43 at h
  refine dq_aload e_25_43 l3 ?_
  refine dq_getR e_25_44 hS (ac_28s_5_6_2 u12 hu12) ?_
  refine dq_getI (key := (59392 + 26624 * u12)) e_25_47 hS (ac_29s_0_0_0 u12 hu12) (by omega) ?_
  refine dq_istore e_25_50 rfl (fun K21 m22 mm23 => ?_)
  have m24 := mm23 0 _ (by decide) rfl l0
  have m25 := mm23 2 _ (by decide) rfl l2
  exact qX3_leastTarget_R_b51 hk hS (dG_R _ _) rx2 m24 m22 m25 h
noncomputable def fX3_leastTarget_R_b4 : Nat → mMem → Int → Int → Option dZ
  | 0, _, _, _ => none
  | n + 1, N, x1, x2 => (if x2 < dG N 2048 then dgd (0 ≤ x2 ∧ x2 < 8) <| dln (x2).toNat fun u12 => (if dG N (57348 + 26624 * u12) = 1 then (if x1 = (-1) then fX3_leastTarget_R_b43 (fX3_leastTarget_R_b4 n) N u12 x2 else (if dG N (59392 + 26624 * u12) < x1 then fX3_leastTarget_R_b43 (fX3_leastTarget_R_b4 n) N u12 x2 else fX3_leastTarget_R_b51 (fX3_leastTarget_R_b4 n) N x1 x2)) else fX3_leastTarget_R_b51 (fX3_leastTarget_R_b4 n) N x1 x2) else some (N, x1))
theorem qX3_leastTarget_R_b4 : ∀ (n : Nat) {Nl : List (Nat × Value)} {N : mMem} {x1 : Int} {x2 : Int} {z : dZ}, dS N → dR x1 → dR x2 → mLk Nl 0 = some (.ref 1) → mLk Nl 1 = some (.int (dI x1)) → mLk Nl 2 = some (.int (dI x2)) → fX3_leastTarget_R_b4 n N x1 x2 = some z → dQ xs Ln 1 0 0 25 (4, Nl, [], N) z := fun n => by
  induction n with
  | zero =>
    intro Nl N x1 x2 z hS rx1 rx2 l0 l1 l2 h
    cases h
  | succ n ih =>
    intro Nl N x1 x2 z hS rx1 rx2 l0 l1 l2 h
    rw [fX3_leastTarget_R_b4] at h
    refine dq_iload e_25_4 l2 ?_
    refine dq_aload e_25_5 l0 ?_
    refine dq_getI (key := 2048) e_25_6 hS ac_1_3_0_0 (by omega) ?_
    by_cases c10 : x2 < dG N 2048
    · rw [if_pos c10] at h
      refine dq_icF e_25_9 rx2 (dG_R _ _) (dnf c10) ?_
      refine dq_aload e_25_12 l0 ?_
      refine dq_getR e_25_13 hS ac_1_3_6_2 ?_
      refine dq_iload e_25_16 l2 ?_
      obtain ⟨g11, h⟩ := dgd_inv h
      refine dq_aals h e_25_17 hS rx2 g11.1 g11.2 (fun u12 hu12 ku12 h => ?_)
      refine dq_astore e_25_18 rfl (fun K13 m14 mm15 => ?_)
      have m16 := mm15 0 _ (by decide) rfl l0
      have m17 := mm15 1 _ (by decide) rfl l1
      have m18 := mm15 2 _ (by decide) rfl l2
      refine dq_aload e_25_19 m14 ?_
      refine dq_getI (key := (57348 + 26624 * u12)) e_25_20 hS (ac_28s_5_4_0 u12 hu12) (by omega) ?_
      refine dq_iconst e_25_23 ?_
      by_cases c19 : dG N (57348 + 26624 * u12) = 1
      · rw [if_pos c19] at h
        refine dq_icF e_25_24 (dG_R _ _) (⟨by decide, by decide⟩) (dnf c19) ?_
        refine dq_iload e_25_27 m17 ?_
        refine dq_iconst e_25_28 ?_
        by_cases c20 : x1 = (-1)
        · rw [if_pos c20] at h
          refine dq_icT e_25_29 rx1 (⟨by decide, by decide⟩) (decide_eq_true c20) ?_
          exact qX3_leastTarget_R_b43 ih hS hu12 rx2 m16 m18 m14 h
        · rw [if_neg c20] at h
          refine dq_icF e_25_29 rx1 (⟨by decide, by decide⟩) (decide_eq_false c20) ?_
          refine dq_aload e_25_32 m14 ?_
          refine dq_getR e_25_33 hS (ac_28s_5_6_2 u12 hu12) ?_
          refine dq_getI (key := (59392 + 26624 * u12)) e_25_36 hS (ac_29s_0_0_0 u12 hu12) (by omega) ?_
          refine dq_iload e_25_39 m17 ?_
          by_cases c31 : dG N (59392 + 26624 * u12) < x1
          · rw [if_pos c31] at h
            refine dq_icF e_25_40 (dG_R _ _) rx1 (dnf c31) ?_
            exact qX3_leastTarget_R_b43 ih hS hu12 rx2 m16 m18 m14 h
          · rw [if_neg c31] at h
            refine dq_icT e_25_40 (dG_R _ _) rx1 (dnt c31) ?_
            exact qX3_leastTarget_R_b51 ih hS rx1 rx2 m16 m17 m18 h
      · rw [if_neg c19] at h
        refine dq_icT e_25_24 (dG_R _ _) (⟨by decide, by decide⟩) (dnt c19) ?_
        exact qX3_leastTarget_R_b51 ih hS rx1 rx2 m16 m17 m18 h
    · rw [if_neg c10] at h
      refine dq_icT e_25_9 rx2 (dG_R _ _) (dnt c10) ?_
      refine dq_iload e_25_57 l1 ?_
      cases h
      exact dq_reti (ty := .int) e_25_58 rfl rfl hS rx1
noncomputable def fX3_leastTarget_R (N : mMem) : Option dZ := fX3_leastTarget_R_b4 1000 N (-1) 0
theorem qX3_leastTarget_R {N : mMem} {z : dZ} (hS : dS N) (h : fX3_leastTarget_R N = some z) : dQ xs Ln 1 0 0 25 (0, lv_args 0 [.ref 1], [], N) z := by
  unfold fX3_leastTarget_R at h
  have l0 : mLk (lv_args 0 [.ref 1]) 0 = some (.ref 1) := rfl
  generalize lv_args 0 [.ref 1] = Nl at l0 ⊢
  refine dq_iconst e_25_0 ?_
  refine dq_istore e_25_1 rfl (fun K1 m2 mm3 => ?_)
  have m4 := mm3 0 _ (by decide) rfl l0
  refine dq_iconst e_25_2 ?_
  refine dq_istore e_25_3 rfl (fun K5 m6 mm7 => ?_)
  have m8 := mm7 0 _ (by decide) rfl m4
  have m9 := mm7 1 _ (by decide) rfl m2
  exact qX3_leastTarget_R_b4 _ hS (⟨by decide, by decide⟩) (⟨by decide, by decide⟩) m8 m9 m6 h
noncomputable def fX3_floor_R_b47 (k : mMem → Int → Int → Option dZ) (N : mMem) (x1 : Int) (x2 : Int) : Option dZ := k N x1 (dW (x2 + 1))
theorem qX3_floor_R_b47 {k : mMem → Int → Int → Option dZ} (hk : ∀ {Nl : List (Nat × Value)} {N : mMem} {x1 : Int} {x2 : Int} {z : dZ}, dS N → dR x1 → dR x2 → mLk Nl 0 = some (.ref 1) → mLk Nl 1 = some (.int (dI x1)) → mLk Nl 2 = some (.int (dI x2)) → k N x1 x2 = some z → dQ xs Ln 1 1 23 26 (7, Nl, [], N) z) {Nl : List (Nat × Value)} {N : mMem} {x1 : Int} {x2 : Int} {z : dZ} (hS : dS N) (rx1 : dR x1) (rx2 : dR x2) (l0 : mLk Nl 0 = some (.ref 1)) (l1 : mLk Nl 1 = some (.int (dI x1))) (l2 : mLk Nl 2 = some (.int (dI x2))) (h : fX3_floor_R_b47 k N x1 x2 = some z) : dQ xs Ln 1 1 23 26 (47, Nl, [], N) z := by
  unfold fX3_floor_R_b47 at h
  refine dq_iinc (x := x2) (e := dW (x2 + 1)) e_26_47 l2 rfl rfl (fun K32 m33 mm34 => ?_)
  have m35 := mm34 0 _ (by decide) rfl l0
  have m36 := mm34 1 _ (by decide) rfl l1
  refine dq_goto e_26_50 ?_
  exact hk hS rx1 (dW_R _) m35 m36 m33 h
noncomputable def fX3_floor_R_b42 (k : mMem → Int → Int → Option dZ) (N : mMem) (u18 : Nat) (x2 : Int) : Option dZ := fX3_floor_R_b47 k N (dG N (57345 + 26624 * u18)) x2
theorem qX3_floor_R_b42 {k : mMem → Int → Int → Option dZ} (hk : ∀ {Nl : List (Nat × Value)} {N : mMem} {x1 : Int} {x2 : Int} {z : dZ}, dS N → dR x1 → dR x2 → mLk Nl 0 = some (.ref 1) → mLk Nl 1 = some (.int (dI x1)) → mLk Nl 2 = some (.int (dI x2)) → k N x1 x2 = some z → dQ xs Ln 1 1 23 26 (7, Nl, [], N) z) {Nl : List (Nat × Value)} {N : mMem} {u18 : Nat} {x2 : Int} {z : dZ} (hS : dS N) (hu18 : u18 < 8) (rx2 : dR x2) (l0 : mLk Nl 0 = some (.ref 1)) (l2 : mLk Nl 2 = some (.int (dI x2))) (l3 : mLk Nl 3 = some (.ref (28 + 13 * u18))) (h : fX3_floor_R_b42 k N u18 x2 = some z) : dQ xs Ln 1 1 23 26 (42, Nl, [], N) z := by
  unfold fX3_floor_R_b42 at h
  refine dq_aload e_26_42 l3 ?_
  refine dq_getI (key := (57345 + 26624 * u18)) e_26_43 hS (ac_28s_5_1_0 u18 hu18) (by omega) ?_
  refine dq_istore e_26_46 rfl (fun K27 m28 mm29 => ?_)
  have m30 := mm29 0 _ (by decide) rfl l0
  have m31 := mm29 2 _ (by decide) rfl l2
  exact qX3_floor_R_b47 hk hS (dG_R _ _) rx2 m30 m28 m31 h
noncomputable def fX3_floor_R_b7 : Nat → mMem → Int → Int → Option dZ
  | 0, _, _, _ => none
  | n + 1, N, x1, x2 => (if x2 < dG N 2048 then dgd (0 ≤ x2 ∧ x2 < 8) <| dln (x2).toNat fun u18 => (if dG N (57347 + 26624 * u18) = 0 then (if x1 = (-1) then fX3_floor_R_b42 (fX3_floor_R_b7 n) N u18 x2 else (if dG N (57345 + 26624 * u18) < x1 then fX3_floor_R_b42 (fX3_floor_R_b7 n) N u18 x2 else fX3_floor_R_b47 (fX3_floor_R_b7 n) N x1 x2)) else fX3_floor_R_b47 (fX3_floor_R_b7 n) N x1 x2) else some (N, x1))
theorem qX3_floor_R_b7 : ∀ (n : Nat) {Nl : List (Nat × Value)} {N : mMem} {x1 : Int} {x2 : Int} {z : dZ}, dS N → dR x1 → dR x2 → mLk Nl 0 = some (.ref 1) → mLk Nl 1 = some (.int (dI x1)) → mLk Nl 2 = some (.int (dI x2)) → fX3_floor_R_b7 n N x1 x2 = some z → dQ xs Ln 1 1 23 26 (7, Nl, [], N) z := fun n => by
  induction n with
  | zero =>
    intro Nl N x1 x2 z hS rx1 rx2 l0 l1 l2 h
    cases h
  | succ n ih =>
    intro Nl N x1 x2 z hS rx1 rx2 l0 l1 l2 h
    rw [fX3_floor_R_b7] at h
    refine dq_iload e_26_7 l2 ?_
    refine dq_aload e_26_8 l0 ?_
    refine dq_getI (key := 2048) e_26_9 hS ac_1_3_0_0 (by omega) ?_
    by_cases c16 : x2 < dG N 2048
    · rw [if_pos c16] at h
      refine dq_icF e_26_12 rx2 (dG_R _ _) (dnf c16) ?_
      refine dq_aload e_26_15 l0 ?_
      refine dq_getR e_26_16 hS ac_1_3_6_2 ?_
      refine dq_iload e_26_19 l2 ?_
      obtain ⟨g17, h⟩ := dgd_inv h
      refine dq_aals h e_26_20 hS rx2 g17.1 g17.2 (fun u18 hu18 ku18 h => ?_)
      refine dq_astore e_26_21 rfl (fun K19 m20 mm21 => ?_)
      have m22 := mm21 0 _ (by decide) rfl l0
      have m23 := mm21 1 _ (by decide) rfl l1
      have m24 := mm21 2 _ (by decide) rfl l2
      refine dq_aload e_26_22 m20 ?_
      refine dq_getI (key := (57347 + 26624 * u18)) e_26_23 hS (ac_28s_5_3_0 u18 hu18) (by omega) ?_
      by_cases c25 : dG N (57347 + 26624 * u18) = 0
      · rw [if_pos c25] at h
        refine dq_ifF e_26_26 (dG_R _ _) (dnf c25) ?_
        refine dq_iload e_26_29 m23 ?_
        refine dq_iconst e_26_30 ?_
        by_cases c26 : x1 = (-1)
        · rw [if_pos c26] at h
          refine dq_icT e_26_31 rx1 (⟨by decide, by decide⟩) (decide_eq_true c26) ?_
          exact qX3_floor_R_b42 ih hS hu18 rx2 m22 m24 m20 h
        · rw [if_neg c26] at h
          refine dq_icF e_26_31 rx1 (⟨by decide, by decide⟩) (decide_eq_false c26) ?_
          refine dq_aload e_26_34 m20 ?_
          refine dq_getI (key := (57345 + 26624 * u18)) e_26_35 hS (ac_28s_5_1_0 u18 hu18) (by omega) ?_
          refine dq_iload e_26_38 m23 ?_
          by_cases c37 : dG N (57345 + 26624 * u18) < x1
          · rw [if_pos c37] at h
            refine dq_icF e_26_39 (dG_R _ _) rx1 (dnf c37) ?_
            exact qX3_floor_R_b42 ih hS hu18 rx2 m22 m24 m20 h
          · rw [if_neg c37] at h
            refine dq_icT e_26_39 (dG_R _ _) rx1 (dnt c37) ?_
            exact qX3_floor_R_b47 ih hS rx1 rx2 m22 m23 m24 h
      · rw [if_neg c25] at h
        refine dq_ifT e_26_26 (dG_R _ _) (dnt c25) ?_
        exact qX3_floor_R_b47 ih hS rx1 rx2 m22 m23 m24 h
    · rw [if_neg c16] at h
      refine dq_icT e_26_12 rx2 (dG_R _ _) (dnt c16) ?_
      refine dq_iload e_26_53 l1 ?_
      cases h
      exact dq_reti (ty := .int) e_26_54 rfl rfl hS rx1
noncomputable def fX3_floor_R (N : mMem) : Option dZ := dbd (fX3_leastTarget_R N) fun N1 v2 => fX3_floor_R_b7 1000 N1 v2 0
theorem qX3_floor_R {N : mMem} {z : dZ} (hS : dS N) (h : fX3_floor_R N = some z) : dQ xs Ln 1 1 23 26 (0, lv_args 0 [.ref 1], [], N) z := by
  unfold fX3_floor_R at h
  have l0 : mLk (lv_args 0 [.ref 1]) 0 = some (.ref 1) := rfl
  generalize lv_args 0 [.ref 1] = Nl at l0 ⊢
  refine dq_aload e_26_0 l0 ?_
  obtain ⟨N1, v2, c3, h⟩ := dbd_inv h
  have q4 := qX3_leastTarget_R (xs := xs) (Ln := Ln) hS c3
  have S5 : dS N1 := q4.2.1
  refine dq_calli (as := []) (S := []) (nx := 4) e_26_1 rfl rfl rfl hS ak_1_3 rfl rfl rfl rfl q4 rfl ?_
  have r6 : dR v2 := q4.2.2
  refine dq_istore e_26_4 rfl (fun K7 m8 mm9 => ?_)
  have m10 := mm9 0 _ (by decide) rfl l0
  refine dq_iconst e_26_5 ?_
  refine dq_istore e_26_6 rfl (fun K11 m12 mm13 => ?_)
  have m14 := mm13 0 _ (by decide) rfl m10
  have m15 := mm13 1 _ (by decide) rfl m8
  exact qX3_floor_R_b7 _ S5 r6 (⟨by decide, by decide⟩) m14 m15 m12 h
noncomputable def fX3_isWithinFloor_R (N : mMem) : Option dZ := dbd (fX3_allShares_R N) fun N1 v2 => dbd (fX3_latency_R N1) fun N7 v8 => dbd (fX3_floor_R N7) fun N13 v14 => (if v14 < dW ((dW (v2 + v8)) + (dG N7 4096)) then some (N13, 0) else some (N13, 1))
theorem qX3_isWithinFloor_R {N : mMem} {z : dZ} (hS : dS N) (h : fX3_isWithinFloor_R N = some z) : dQ xs Ln 1 2 46 28 (0, lv_args 0 [.ref 1], [], N) z := by
  unfold fX3_isWithinFloor_R at h
  have l0 : mLk (lv_args 0 [.ref 1]) 0 = some (.ref 1) := rfl
  generalize lv_args 0 [.ref 1] = Nl at l0 ⊢
  refine dq_aload e_28_0 l0 ?_
  obtain ⟨N1, v2, c3, h⟩ := dbd_inv h
  have q4 := qX3_allShares_R (xs := xs) (Ln := Ln) hS c3
  have S5 : dS N1 := q4.2.1
  refine dq_calli (as := []) (S := []) (nx := 4) e_28_1 rfl rfl rfl hS ak_1_3 rfl rfl rfl rfl q4 rfl ?_
  have r6 : dR v2 := q4.2.2
  refine dq_aload e_28_4 l0 ?_
  obtain ⟨N7, v8, c9, h⟩ := dbd_inv h
  have q10 := qX3_latency_R (xs := xs) (Ln := Ln) S5 c9
  have S11 : dS N7 := q10.2.1
  refine dq_calli (as := []) (S := [.int (dI v2)]) (nx := 8) e_28_5 rfl rfl rfl S5 ak_1_3 rfl rfl rfl rfl q10 rfl ?_
  have r12 : dR v8 := q10.2.2
  refine dq_iadd (e := dW (v2 + v8)) e_28_8 rfl ?_
  refine dq_aload e_28_9 l0 ?_
  refine dq_getR e_28_10 S11 ac_1_3_4_2 ?_
  refine dq_iconst e_28_13 ?_
  refine dq_ial (key := 4096) e_28_14 S11 aa_2 (⟨by decide, by decide⟩) (by decide) (by decide) (by show 2 * 2048 + 0 = 4096; omega) ?_
  refine dq_iadd (e := dW ((dW (v2 + v8)) + (dG N7 4096))) e_28_15 rfl ?_
  refine dq_aload e_28_16 l0 ?_
  obtain ⟨N13, v14, c15, h⟩ := dbd_inv h
  have q16 := qX3_floor_R (xs := xs) (Ln := Ln) S11 c15
  have S17 : dS N13 := q16.2.1
  refine dq_calli (as := []) (S := [.int (dI (dW ((dW (v2 + v8)) + (dG N7 4096))))]) (nx := 20) e_28_17 rfl rfl rfl S11 ak_1_3 rfl rfl rfl rfl q16 rfl ?_
  have r18 : dR v14 := q16.2.2
  by_cases c19 : v14 < dW ((dW (v2 + v8)) + (dG N7 4096))
  · rw [if_pos c19] at h
    refine dq_icT e_28_20 (dW_R _) r18 (decide_eq_true c19) ?_
    refine dq_iconst e_28_27 ?_
    cases h
    exact dq_reti (ty := .boolean) e_28_28 rfl (by decide +kernel) S17 (⟨by decide, by decide⟩)
  · rw [if_neg c19] at h
    refine dq_icF e_28_20 (dW_R _) r18 (decide_eq_false c19) ?_
    refine dq_iconst e_28_23 ?_
    refine dq_goto e_28_24 ?_
    cases h
    exact dq_reti (ty := .boolean) e_28_28 rfl (by decide +kernel) S17 (⟨by decide, by decide⟩)
noncomputable def fX7_delay_O_b22 (N : mMem) : Option dZ := some (N, 0)
theorem qX7_delay_O_b22 {Nl : List (Nat × Value)} {N : mMem} {z : dZ} (hS : dS N) (h : fX7_delay_O_b22 N = some z) : dQ xs Ln 1 3 66 77 (22, Nl, [], N) z := by
  unfold fX7_delay_O_b22 at h
  refine dq_iconst e_77_22 ?_
  cases h
  exact dq_reti (ty := .boolean) e_77_23 rfl (by decide +kernel) hS (⟨by decide, by decide⟩)
end DQG0

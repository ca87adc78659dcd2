/-! ===== functions over memory, and that the bodies run so; written by wip/dc ===== -/
section DQG1
variable {xs : Nat → Int32} {Ln : Nat}
noncomputable def fX7_delay_O (N : mMem) (x1 : Int) (x2 : Int) : Option dZ := dbd (fX3_has_R N x1) fun N1 v2 => (if v2 = 0 then fX7_delay_O_b22 N1 else (if x2 < 1 then fX7_delay_O_b22 N1 else (if 20 < x2 then fX7_delay_O_b22 N1 else dgd (0 ≤ x1 ∧ x1 < 8) <| dgd (0 ≤ x1 ∧ x1 < 8) <| dlt (dP N1 (6144 + (x1).toNat) x2) fun N19 => dbd (fX3_isWithinFloor_R N19) fun N21 v22 => (if v22 = 0 then dgd (0 ≤ x1 ∧ x1 < 8) <| some (dP N21 (6144 + (x1).toNat) (dG N1 (6144 + (x1).toNat)), 0) else some (N21, 1)))))
theorem qX7_delay_O {N : mMem} {x1 : Int} {x2 : Int} {z : dZ} (hS : dS N) (rx1 : dR x1) (rx2 : dR x2) (h : fX7_delay_O N x1 x2 = some z) : dQ xs Ln 1 3 66 77 (0, lv_args 0 [.ref 0, .int (dI x1), .int (dI x2)], [], N) z := by
  unfold fX7_delay_O at h
  have l0 : mLk (lv_args 0 [.ref 0, .int (dI x1), .int (dI x2)]) 0 = some (.ref 0) := rfl
  have l1 : mLk (lv_args 0 [.ref 0, .int (dI x1), .int (dI x2)]) 1 = some (.int (dI x1)) := rfl
  have l2 : mLk (lv_args 0 [.ref 0, .int (dI x1), .int (dI x2)]) 2 = some (.int (dI x2)) := rfl
  generalize lv_args 0 [.ref 0, .int (dI x1), .int (dI x2)] = Nl at l0 l1 l2 ⊢
  refine dq_aload e_77_0 l0 ?_
  refine dq_getR e_77_1 hS ac_0_7_0_2 ?_
  refine dq_iload e_77_4 l1 ?_
  obtain ⟨N1, v2, c3, h⟩ := dbd_inv h
  have q4 := qX3_has_R (xs := xs) (Ln := Ln) hS rx1 c3
  have S5 : dS N1 := q4.2.1
  refine dq_calli (as := [.int (dI x1)]) (S := []) (nx := 8) e_77_5 rfl rfl rfl hS ak_1_3 rfl rfl rfl rfl q4 rfl ?_
  have r6 : dR v2 := q4.2.2
  by_cases c7 : v2 = 0
  · rw [if_pos c7] at h
    refine dq_ifT e_77_8 r6 (decide_eq_true c7) ?_
    exact qX7_delay_O_b22 S5 h
  · rw [if_neg c7] at h
    refine dq_ifF e_77_8 r6 (decide_eq_false c7) ?_
    refine dq_iload e_77_11 l2 ?_
    refine dq_iconst e_77_12 ?_
    by_cases c8 : x2 < 1
    · rw [if_pos c8] at h
      refine dq_icT e_77_13 rx2 (⟨by decide, by decide⟩) (decide_eq_true c8) ?_
      exact qX7_delay_O_b22 S5 h
    · rw [if_neg c8] at h
      refine dq_icF e_77_13 rx2 (⟨by decide, by decide⟩) (decide_eq_false c8) ?_
      refine dq_iload e_77_16 l2 ?_
      refine dq_iconst e_77_17 ?_
      by_cases c9 : 20 < x2
      · rw [if_pos c9] at h
        refine dq_icF e_77_19 rx2 (⟨by decide, by decide⟩) (dnf c9) ?_
        exact qX7_delay_O_b22 S5 h
      · rw [if_neg c9] at h
        refine dq_icT e_77_19 rx2 (⟨by decide, by decide⟩) (dnt c9) ?_
        refine dq_aload e_77_24 l0 ?_
        refine dq_getR e_77_25 S5 ac_0_7_0_2 ?_
        refine dq_getR e_77_28 S5 ac_1_3_5_2 ?_
        refine dq_iload e_77_31 l1 ?_
        obtain ⟨g10, h⟩ := dgd_inv h
        refine dq_ial (key := (6144 + (x1).toNat)) e_77_32 S5 aa_3 rx1 g10.1 g10.2 (by omega) ?_
        refine dq_istore e_77_33 rfl (fun K11 m12 mm13 => ?_)
        have m14 := mm13 0 _ (by decide) rfl l0
        have m15 := mm13 1 _ (by decide) rfl l1
        have m16 := mm13 2 _ (by decide) rfl l2
        refine dq_aload e_77_34 m14 ?_
        refine dq_getR e_77_35 S5 ac_0_7_0_2 ?_
        refine dq_getR e_77_38 S5 ac_1_3_5_2 ?_
        refine dq_iload e_77_41 m15 ?_
        refine dq_iload e_77_42 m16 ?_
        obtain ⟨g17, h⟩ := dgd_inv h
        have S18 := dS_A (v := x2) (k := (x1 : Int).toNat) (key := (6144 + (x1).toNat)) S5 aa_3 (by have := g17.1; have := g17.2; omega) (by omega)
        refine dq_ias (key := (6144 + (x1).toNat)) e_77_43 S5 aa_3 rx1 g17.1 g17.2 (by omega) ?_
        refine dq_aload e_77_44 m14 ?_
        refine dq_getR e_77_45 S18 ac_0_7_0_2 ?_
        refine dq_let h S18 (fun N19 S20 h => ?_)
        obtain ⟨N21, v22, c23, h⟩ := dbd_inv h
        have q24 := qX3_isWithinFloor_R (xs := xs) (Ln := Ln) S20 c23
        have S25 : dS N21 := q24.2.1
        refine dq_calli (as := []) (S := []) (nx := 51) e_77_48 rfl rfl rfl S20 ak_1_3 rfl rfl rfl rfl q24 rfl ?_
        have r26 : dR v22 := q24.2.2
        by_cases c27 : v22 = 0
        · rw [if_pos c27] at h
          refine dq_ifT e_77_51 r26 (decide_eq_true c27) ?_
          refine dq_aload e_77_56 m14 ?_
          refine dq_getR e_77_57 S25 ac_0_7_0_2 ?_
          refine dq_getR e_77_60 S25 ac_1_3_5_2 ?_
          refine dq_iload e_77_63 m15 ?_
          refine dq_iload e_77_64 m12 ?_
          obtain ⟨g28, h⟩ := dgd_inv h
          have S29 := dS_A (v := dG N1 (6144 + (x1).toNat)) (k := (x1 : Int).toNat) (key := (6144 + (x1).toNat)) S25 aa_3 (by have := g28.1; have := g28.2; omega) (by omega)
          refine dq_ias (key := (6144 + (x1).toNat)) e_77_65 S25 aa_3 rx1 g28.1 g28.2 (by omega) ?_
          refine dq_iconst e_77_66 ?_
          cases h
          exact dq_reti (ty := .boolean) e_77_67 rfl (by decide +kernel) S29 (⟨by decide, by decide⟩)
        · rw [if_neg c27] at h
          refine dq_ifF e_77_51 r26 (decide_eq_false c27) ?_
          refine dq_iconst e_77_54 ?_
          cases h
          exact dq_reti (ty := .boolean) e_77_55 rfl (by decide +kernel) S25 (⟨by decide, by decide⟩)
noncomputable def fX7_bid_O_b24 (N : mMem) : Option dZ := some (N, 0)
theorem qX7_bid_O_b24 {Nl : List (Nat × Value)} {N : mMem} {z : dZ} (hS : dS N) (h : fX7_bid_O_b24 N = some z) : dQ xs Ln 1 3 66 78 (24, Nl, [], N) z := by
  unfold fX7_bid_O_b24 at h
  refine dq_iconst e_78_24 ?_
  cases h
  exact dq_reti (ty := .boolean) e_78_25 rfl (by decide +kernel) hS (⟨by decide, by decide⟩)
noncomputable def fX7_bid_O (N : mMem) (x1 : Int) (x2 : Int) : Option dZ := dbd (fX3_has_R N x1) fun N1 v2 => (if v2 = 0 then fX7_bid_O_b24 N1 else (if x2 < 10 then fX7_bid_O_b24 N1 else (if 500 < x2 then fX7_bid_O_b24 N1 else dgd (0 ≤ x1 ∧ x1 < 8) <| dln (x1).toNat fun u11 => dlt (dP N1 (57345 + 26624 * u11) x2) fun N24 => dbd (fX3_isWithinFloor_R N24) fun N26 v27 => (if v27 = 0 then some (dP N26 (57345 + 26624 * u11) (dG N1 (57345 + 26624 * u11)), 0) else some (N26, 1)))))
theorem qX7_bid_O {N : mMem} {x1 : Int} {x2 : Int} {z : dZ} (hS : dS N) (rx1 : dR x1) (rx2 : dR x2) (h : fX7_bid_O N x1 x2 = some z) : dQ xs Ln 1 3 66 78 (0, lv_args 0 [.ref 0, .int (dI x1), .int (dI x2)], [], N) z := by
  unfold fX7_bid_O at h
  have l0 : mLk (lv_args 0 [.ref 0, .int (dI x1), .int (dI x2)]) 0 = some (.ref 0) := rfl
  have l1 : mLk (lv_args 0 [.ref 0, .int (dI x1), .int (dI x2)]) 1 = some (.int (dI x1)) := rfl
  have l2 : mLk (lv_args 0 [.ref 0, .int (dI x1), .int (dI x2)]) 2 = some (.int (dI x2)) := rfl
  generalize lv_args 0 [.ref 0, .int (dI x1), .int (dI x2)] = Nl at l0 l1 l2 ⊢
  refine dq_aload e_78_0 l0 ?_
  refine dq_getR e_78_1 hS ac_0_7_0_2 ?_
  refine dq_iload e_78_4 l1 ?_
  obtain ⟨N1, v2, c3, h⟩ := dbd_inv h
  have q4 := qX3_has_R (xs := xs) (Ln := Ln) hS rx1 c3
  have S5 : dS N1 := q4.2.1
  refine dq_calli (as := [.int (dI x1)]) (S := []) (nx := 8) e_78_5 rfl rfl rfl hS ak_1_3 rfl rfl rfl rfl q4 rfl ?_
  have r6 : dR v2 := q4.2.2
  by_cases c7 : v2 = 0
  · rw [if_pos c7] at h
    refine dq_ifT e_78_8 r6 (decide_eq_true c7) ?_
    exact qX7_bid_O_b24 S5 h
  · rw [if_neg c7] at h
    refine dq_ifF e_78_8 r6 (decide_eq_false c7) ?_
    refine dq_iload e_78_11 l2 ?_
    refine dq_iconst e_78_12 ?_
    by_cases c8 : x2 < 10
    · rw [if_pos c8] at h
      refine dq_icT e_78_14 rx2 (⟨by decide, by decide⟩) (decide_eq_true c8) ?_
      exact qX7_bid_O_b24 S5 h
    · rw [if_neg c8] at h
      refine dq_icF e_78_14 rx2 (⟨by decide, by decide⟩) (decide_eq_false c8) ?_
      refine dq_iload e_78_17 l2 ?_
      refine dq_iconst e_78_18 ?_
      by_cases c9 : 500 < x2
      · rw [if_pos c9] at h
        refine dq_icF e_78_21 rx2 (⟨by decide, by decide⟩) (dnf c9) ?_
        exact qX7_bid_O_b24 S5 h
      · rw [if_neg c9] at h
        refine dq_icT e_78_21 rx2 (⟨by decide, by decide⟩) (dnt c9) ?_
        refine dq_aload e_78_26 l0 ?_
        refine dq_getR e_78_27 S5 ac_0_7_0_2 ?_
        refine dq_getR e_78_30 S5 ac_1_3_6_2 ?_
        refine dq_iload e_78_33 l1 ?_
        obtain ⟨g10, h⟩ := dgd_inv h
        refine dq_aals h e_78_34 S5 rx1 g10.1 g10.2 (fun u11 hu11 ku11 h => ?_)
        refine dq_astore e_78_35 rfl (fun K12 m13 mm14 => ?_)
        have m15 := mm14 0 _ (by decide) rfl l0
        have m16 := mm14 2 _ (by decide) rfl l2
        refine dq_aload e_78_36 m13 ?_
        refine dq_getI (key := (57345 + 26624 * u11)) e_78_37 S5 (ac_28s_5_1_0 u11 hu11) (by omega) ?_
        refine dq_istore e_78_40 rfl (fun K17 m18 mm19 => ?_)
        have m20 := mm19 0 _ (by decide) rfl m15
        have m21 := mm19 2 _ (by decide) rfl m16
        have m22 := mm19 3 _ (by decide) rfl m13
        refine dq_aload e_78_42 m22 ?_
        refine dq_iload e_78_43 m21 ?_
        have S23 := dS_P (v := x2) S5 (ac_28s_5_1_0 u11 hu11) (show (28 + 13 * u11) * 2048 + 1 = (57345 + 26624 * u11) by omega)
        refine dq_put (key := (57345 + 26624 * u11)) e_78_44 S5 (ac_28s_5_1_0 u11 hu11) rfl (by omega) ?_
        refine dq_aload e_78_47 m20 ?_
        refine dq_getR e_78_48 S23 ac_0_7_0_2 ?_
        refine dq_let h S23 (fun N24 S25 h => ?_)
        obtain ⟨N26, v27, c28, h⟩ := dbd_inv h
        have q29 := qX3_isWithinFloor_R (xs := xs) (Ln := Ln) S25 c28
        have S30 : dS N26 := q29.2.1
        refine dq_calli (as := []) (S := []) (nx := 54) e_78_51 rfl rfl rfl S25 ak_1_3 rfl rfl rfl rfl q29 rfl ?_
        have r31 : dR v27 := q29.2.2
        by_cases c32 : v27 = 0
        · rw [if_pos c32] at h
          refine dq_ifT e_78_54 r31 (decide_eq_true c32) ?_
          refine dq_aload e_78_59 m22 ?_
          refine dq_iload e_78_60 m18 ?_
          have S33 := dS_P (v := dG N1 (57345 + 26624 * u11)) S30 (ac_28s_5_1_0 u11 hu11) (show (28 + 13 * u11) * 2048 + 1 = (57345 + 26624 * u11) by omega)
          refine dq_put (key := (57345 + 26624 * u11)) e_78_62 S30 (ac_28s_5_1_0 u11 hu11) rfl (by omega) ?_
          refine dq_iconst e_78_65 ?_
          cases h
          exact dq_reti (ty := .boolean) e_78_66 rfl (by decide +kernel) S33 (⟨by decide, by decide⟩)
        · rw [if_neg c32] at h
          refine dq_ifF e_78_54 r31 (decide_eq_false c32) ?_
          refine dq_iconst e_78_57 ?_
          cases h
          exact dq_reti (ty := .boolean) e_78_58 rfl (by decide +kernel) S30 (⟨by decide, by decide⟩)
noncomputable def fX7_set_Oc0_b28 (N : mMem) : Option dZ := some (N, 0)
theorem qX7_set_Oc0_b28 {Nl : List (Nat × Value)} {N : mMem} {z : dZ} (hS : dS N) (h : fX7_set_Oc0_b28 N = some z) : dQ xs Ln 1 3 66 76 (28, Nl, [], N) z := by
  unfold fX7_set_Oc0_b28 at h
  refine dq_iconst e_76_28 ?_
  cases h
  exact dq_reti (ty := .boolean) e_76_29 rfl (by decide +kernel) hS (⟨by decide, by decide⟩)
noncomputable def fX7_set_Oc0_b64 (N : mMem) : Option dZ := some (N, 1)
theorem qX7_set_Oc0_b64 {Nl : List (Nat × Value)} {N : mMem} {z : dZ} (hS : dS N) (h : fX7_set_Oc0_b64 N = some z) : dQ xs Ln 1 3 66 76 (64, Nl, [], N) z := by
  unfold fX7_set_Oc0_b64 at h
  refine dq_iconst e_76_64 ?_
  cases h
  exact dq_reti (ty := .boolean) e_76_65 rfl (by decide +kernel) hS (⟨by decide, by decide⟩)
noncomputable def fX7_set_Oc0 (N : mMem) (x2 : Int) : Option dZ := (if x2 < dXs 2 0 then fX7_set_Oc0_b28 N else (if dXs 3 0 < x2 then fX7_set_Oc0_b28 N else dlt (dP N 4096 x2) fun N10 => dbd (fX3_isWithinFloor_R N10) fun N12 v13 => (if v13 = 0 then some (dP N12 4096 (dG N 4096), 0) else fX7_set_Oc0_b64 N12)))
theorem qX7_set_Oc0 {N : mMem} {x2 : Int} {z : dZ} (hS : dS N) (rx2 : dR x2) (h : fX7_set_Oc0 N x2 = some z) : dQ xs Ln 1 3 66 76 (0, lv_args 0 [.ref 0, .int (dI 0), .int (dI x2)], [], N) z := by
  unfold fX7_set_Oc0 at h
  have l0 : mLk (lv_args 0 [.ref 0, .int (dI 0), .int (dI x2)]) 0 = some (.ref 0) := rfl
  have l1 : mLk (lv_args 0 [.ref 0, .int (dI 0), .int (dI x2)]) 1 = some (.int (dI 0)) := rfl
  have l2 : mLk (lv_args 0 [.ref 0, .int (dI 0), .int (dI x2)]) 2 = some (.int (dI x2)) := rfl
  generalize lv_args 0 [.ref 0, .int (dI 0), .int (dI x2)] = Nl at l0 l1 l2 ⊢
  refine dq_iload e_76_0 l1 ?_
  refine dq_ifF e_76_1 (⟨by decide, by decide⟩) (by decide +kernel) ?_
  refine dq_iload e_76_4 l1 ?_
  refine dq_iconst e_76_5 ?_
  refine dq_icF e_76_7 (⟨by decide, by decide⟩) (⟨by decide, by decide⟩) (by decide +kernel) ?_
  refine dq_iload e_76_10 l2 ?_
  refine dq_gets e_76_11 ?_
  refine dq_iload e_76_14 l1 ?_
  refine dq_sta (a := 2) e_76_15 (⟨by decide, by decide⟩) (by decide) (by decide) (by decide) (by decide) ?_
  by_cases c1 : x2 < dXs 2 0
  · rw [if_pos c1] at h
    refine dq_icT e_76_16 rx2 (dXs_R _ _) (decide_eq_true c1) ?_
    exact qX7_set_Oc0_b28 hS h
  · rw [if_neg c1] at h
    refine dq_icF e_76_16 rx2 (dXs_R _ _) (decide_eq_false c1) ?_
    refine dq_iload e_76_19 l2 ?_
    refine dq_gets e_76_20 ?_
    refine dq_iload e_76_23 l1 ?_
    refine dq_sta (a := 3) e_76_24 (⟨by decide, by decide⟩) (by decide) (by decide) (by decide) (by decide) ?_
    by_cases c2 : dXs 3 0 < x2
    · rw [if_pos c2] at h
      refine dq_icF e_76_25 rx2 (dXs_R _ _) (dnf c2) ?_
      exact qX7_set_Oc0_b28 hS h
    · rw [if_neg c2] at h
      refine dq_icT e_76_25 rx2 (dXs_R _ _) (dnt c2) ?_
      refine dq_aload e_76_30 l0 ?_
      refine dq_getR e_76_31 hS ac_0_7_0_2 ?_
      refine dq_getR e_76_34 hS ac_1_3_4_2 ?_
      refine dq_iload e_76_37 l1 ?_
      refine dq_ial (key := 4096) e_76_38 hS aa_2 (⟨by decide, by decide⟩) (by decide) (by decide) (by show 2 * 2048 + 0 = 4096; omega) ?_
      refine dq_istore e_76_39 rfl (fun K3 m4 mm5 => ?_)
      have m6 := mm5 0 _ (by decide) rfl l0
      have m7 := mm5 1 _ (by decide) rfl l1
      have m8 := mm5 2 _ (by decide) rfl l2
      refine dq_aload e_76_40 m6 ?_
      refine dq_getR e_76_41 hS ac_0_7_0_2 ?_
      refine dq_getR e_76_44 hS ac_1_3_4_2 ?_
      refine dq_iload e_76_47 m7 ?_
      refine dq_iload e_76_48 m8 ?_
      have S9 := dS_A (v := x2) (k := (0 : Int).toNat) (key := 4096) hS aa_2 (by decide) (by show 2 * 2048 + 0 = 4096; omega)
      refine dq_ias (key := 4096) e_76_49 hS aa_2 (⟨by decide, by decide⟩) (by decide) (by decide) (by show 2 * 2048 + 0 = 4096; omega) ?_
      refine dq_iload e_76_50 m7 ?_
      refine dq_ifF e_76_51 (⟨by decide, by decide⟩) (by decide +kernel) ?_
      refine dq_aload e_76_54 m6 ?_
      refine dq_getR e_76_55 S9 ac_0_7_0_2 ?_
      refine dq_let h S9 (fun N10 S11 h => ?_)
      obtain ⟨N12, v13, c14, h⟩ := dbd_inv h
      have q15 := qX3_isWithinFloor_R (xs := xs) (Ln := Ln) S11 c14
      have S16 : dS N12 := q15.2.1
      refine dq_calli (as := []) (S := []) (nx := 61) e_76_58 rfl rfl rfl S11 ak_1_3 rfl rfl rfl rfl q15 rfl ?_
      have r17 : dR v13 := q15.2.2
      by_cases c18 : v13 = 0
      · rw [if_pos c18] at h
        refine dq_ifT e_76_61 r17 (decide_eq_true c18) ?_
        refine dq_aload e_76_66 m6 ?_
        refine dq_getR e_76_67 S16 ac_0_7_0_2 ?_
        refine dq_getR e_76_70 S16 ac_1_3_4_2 ?_
        refine dq_iload e_76_73 m7 ?_
        refine dq_iload e_76_74 m4 ?_
        have S19 := dS_A (v := dG N 4096) (k := (0 : Int).toNat) (key := 4096) S16 aa_2 (by decide) (by show 2 * 2048 + 0 = 4096; omega)
        refine dq_ias (key := 4096) e_76_75 S16 aa_2 (⟨by decide, by decide⟩) (by decide) (by decide) (by show 2 * 2048 + 0 = 4096; omega) ?_
        refine dq_iconst e_76_76 ?_
        cases h
        exact dq_reti (ty := .boolean) e_76_77 rfl (by decide +kernel) S19 (⟨by decide, by decide⟩)
      · rw [if_neg c18] at h
        refine dq_ifF e_76_61 r17 (decide_eq_false c18) ?_
        exact qX7_set_Oc0_b64 S16 h
noncomputable def fX7_set_O_b28 (N : mMem) : Option dZ := some (N, 0)
theorem qX7_set_O_b28 {Nl : List (Nat × Value)} {N : mMem} {z : dZ} (hS : dS N) (h : fX7_set_O_b28 N = some z) : dQ xs Ln 1 3 66 76 (28, Nl, [], N) z := by
  unfold fX7_set_O_b28 at h
  refine dq_iconst e_76_28 ?_
  cases h
  exact dq_reti (ty := .boolean) e_76_29 rfl (by decide +kernel) hS (⟨by decide, by decide⟩)
noncomputable def fX7_set_O_b64 (N : mMem) : Option dZ := some (N, 1)
theorem qX7_set_O_b64 {Nl : List (Nat × Value)} {N : mMem} {z : dZ} (hS : dS N) (h : fX7_set_O_b64 N = some z) : dQ xs Ln 1 3 66 76 (64, Nl, [], N) z := by
  unfold fX7_set_O_b64 at h
  refine dq_iconst e_76_64 ?_
  cases h
  exact dq_reti (ty := .boolean) e_76_65 rfl (by decide +kernel) hS (⟨by decide, by decide⟩)
noncomputable def fX7_set_O (N : mMem) (x1 : Int) (x2 : Int) : Option dZ := (if x1 < 0 then fX7_set_O_b28 N else (if x1 < 6 then dgd (0 ≤ x1 ∧ x1 < 6) <| (if x2 < dXs 2 x1 then fX7_set_O_b28 N else dgd (0 ≤ x1 ∧ x1 < 6) <| (if dXs 3 x1 < x2 then fX7_set_O_b28 N else dgd (0 ≤ x1 ∧ x1 < 6) <| dgd (0 ≤ x1 ∧ x1 < 6) <| (if x1 = 0 then dlt (dP N (4096 + (x1).toNat) x2) fun N17 => dbd (fX3_isWithinFloor_R N17) fun N19 v20 => (if v20 = 0 then dgd (0 ≤ x1 ∧ x1 < 6) <| some (dP N19 (4096 + (x1).toNat) (dG N (4096 + (x1).toNat)), 0) else fX7_set_O_b64 N19) else fX7_set_O_b64 (dP N (4096 + (x1).toNat) x2)))) else fX7_set_O_b28 N))
theorem qX7_set_O {N : mMem} {x1 : Int} {x2 : Int} {z : dZ} (hS : dS N) (rx1 : dR x1) (rx2 : dR x2) (h : fX7_set_O N x1 x2 = some z) : dQ xs Ln 1 3 66 76 (0, lv_args 0 [.ref 0, .int (dI x1), .int (dI x2)], [], N) z := by
  unfold fX7_set_O at h
  have l0 : mLk (lv_args 0 [.ref 0, .int (dI x1), .int (dI x2)]) 0 = some (.ref 0) := rfl
  have l1 : mLk (lv_args 0 [.ref 0, .int (dI x1), .int (dI x2)]) 1 = some (.int (dI x1)) := rfl
  have l2 : mLk (lv_args 0 [.ref 0, .int (dI x1), .int (dI x2)]) 2 = some (.int (dI x2)) := rfl
  generalize lv_args 0 [.ref 0, .int (dI x1), .int (dI x2)] = Nl at l0 l1 l2 ⊢
  refine dq_iload e_76_0 l1 ?_
  by_cases c1 : x1 < 0
  · rw [if_pos c1] at h
    refine dq_ifT e_76_1 rx1 (decide_eq_true c1) ?_
    exact qX7_set_O_b28 hS h
  · rw [if_neg c1] at h
    refine dq_ifF e_76_1 rx1 (decide_eq_false c1) ?_
    refine dq_iload e_76_4 l1 ?_
    refine dq_iconst e_76_5 ?_
    by_cases c2 : x1 < 6
    · rw [if_pos c2] at h
      refine dq_icF e_76_7 rx1 (⟨by decide, by decide⟩) (dnf c2) ?_
      refine dq_iload e_76_10 l2 ?_
      refine dq_gets e_76_11 ?_
      refine dq_iload e_76_14 l1 ?_
      obtain ⟨g3, h⟩ := dgd_inv h
      refine dq_sta (a := 2) e_76_15 rx1 g3.1 g3.2 (by decide) (by decide) ?_
      by_cases c4 : x2 < dXs 2 x1
      · rw [if_pos c4] at h
        refine dq_icT e_76_16 rx2 (dXs_R _ _) (decide_eq_true c4) ?_
        exact qX7_set_O_b28 hS h
      · rw [if_neg c4] at h
        refine dq_icF e_76_16 rx2 (dXs_R _ _) (decide_eq_false c4) ?_
        refine dq_iload e_76_19 l2 ?_
        refine dq_gets e_76_20 ?_
        refine dq_iload e_76_23 l1 ?_
        obtain ⟨g5, h⟩ := dgd_inv h
        refine dq_sta (a := 3) e_76_24 rx1 g5.1 g5.2 (by decide) (by decide) ?_
        by_cases c6 : dXs 3 x1 < x2
        · rw [if_pos c6] at h
          refine dq_icF e_76_25 rx2 (dXs_R _ _) (dnf c6) ?_
          exact qX7_set_O_b28 hS h
        · rw [if_neg c6] at h
          refine dq_icT e_76_25 rx2 (dXs_R _ _) (dnt c6) ?_
          refine dq_aload e_76_30 l0 ?_
          refine dq_getR e_76_31 hS ac_0_7_0_2 ?_
          refine dq_getR e_76_34 hS ac_1_3_4_2 ?_
          refine dq_iload e_76_37 l1 ?_
          obtain ⟨g7, h⟩ := dgd_inv h
          refine dq_ial (key := (4096 + (x1).toNat)) e_76_38 hS aa_2 rx1 g7.1 g7.2 (by omega) ?_
          refine dq_istore e_76_39 rfl (fun K8 m9 mm10 => ?_)
          have m11 := mm10 0 _ (by decide) rfl l0
          have m12 := mm10 1 _ (by decide) rfl l1
          have m13 := mm10 2 _ (by decide) rfl l2
          refine dq_aload e_76_40 m11 ?_
          refine dq_getR e_76_41 hS ac_0_7_0_2 ?_
          refine dq_getR e_76_44 hS ac_1_3_4_2 ?_
          refine dq_iload e_76_47 m12 ?_
          refine dq_iload e_76_48 m13 ?_
          obtain ⟨g14, h⟩ := dgd_inv h
          have S15 := dS_A (v := x2) (k := (x1 : Int).toNat) (key := (4096 + (x1).toNat)) hS aa_2 (by have := g14.1; have := g14.2; omega) (by omega)
          refine dq_ias (key := (4096 + (x1).toNat)) e_76_49 hS aa_2 rx1 g14.1 g14.2 (by omega) ?_
          refine dq_iload e_76_50 m12 ?_
          by_cases c16 : x1 = 0
          · rw [if_pos c16] at h
            refine dq_ifF e_76_51 rx1 (dnf c16) ?_
            refine dq_aload e_76_54 m11 ?_
            refine dq_getR e_76_55 S15 ac_0_7_0_2 ?_
            refine dq_let h S15 (fun N17 S18 h => ?_)
            obtain ⟨N19, v20, c21, h⟩ := dbd_inv h
            have q22 := qX3_isWithinFloor_R (xs := xs) (Ln := Ln) S18 c21
            have S23 : dS N19 := q22.2.1
            refine dq_calli (as := []) (S := []) (nx := 61) e_76_58 rfl rfl rfl S18 ak_1_3 rfl rfl rfl rfl q22 rfl ?_
            have r24 : dR v20 := q22.2.2
            by_cases c25 : v20 = 0
            · rw [if_pos c25] at h
              refine dq_ifT e_76_61 r24 (decide_eq_true c25) ?_
              refine dq_aload e_76_66 m11 ?_
              refine dq_getR e_76_67 S23 ac_0_7_0_2 ?_
              refine dq_getR e_76_70 S23 ac_1_3_4_2 ?_
              refine dq_iload e_76_73 m12 ?_
              refine dq_iload e_76_74 m9 ?_
              obtain ⟨g26, h⟩ := dgd_inv h
              have S27 := dS_A (v := dG N (4096 + (x1).toNat)) (k := (x1 : Int).toNat) (key := (4096 + (x1).toNat)) S23 aa_2 (by have := g26.1; have := g26.2; omega) (by omega)
              refine dq_ias (key := (4096 + (x1).toNat)) e_76_75 S23 aa_2 rx1 g26.1 g26.2 (by omega) ?_
              refine dq_iconst e_76_76 ?_
              cases h
              exact dq_reti (ty := .boolean) e_76_77 rfl (by decide +kernel) S27 (⟨by decide, by decide⟩)
            · rw [if_neg c25] at h
              refine dq_ifF e_76_61 r24 (decide_eq_false c25) ?_
              exact qX7_set_O_b64 S23 h
          · rw [if_neg c16] at h
            refine dq_ifT e_76_51 rx1 (dnt c16) ?_
            exact qX7_set_O_b64 S15 h
    · rw [if_neg c2] at h
      refine dq_icT e_76_7 rx1 (⟨by decide, by decide⟩) (dnt c2) ?_
      exact qX7_set_O_b28 hS h
noncomputable def fX7_share_O_b22 (N : mMem) : Option dZ := some (N, 0)
theorem qX7_share_O_b22 {Nl : List (Nat × Value)} {N : mMem} {z : dZ} (hS : dS N) (h : fX7_share_O_b22 N = some z) : dQ xs Ln 1 3 66 79 (22, Nl, [], N) z := by
  unfold fX7_share_O_b22 at h
  refine dq_iconst e_79_22 ?_
  cases h
  exact dq_reti (ty := .boolean) e_79_23 rfl (by decide +kernel) hS (⟨by decide, by decide⟩)
noncomputable def fX7_share_O (N : mMem) (x1 : Int) (x2 : Int) : Option dZ := dbd (fX3_has_R N x1) fun N1 v2 => (if v2 = 0 then fX7_share_O_b22 N1 else (if x2 < 0 then fX7_share_O_b22 N1 else (if 200 < x2 then fX7_share_O_b22 N1 else dgd (0 ≤ x1 ∧ x1 < 8) <| dln (x1).toNat fun u11 => dlt (dP N1 (57346 + 26624 * u11) x2) fun N24 => dbd (fX3_isWithinFloor_R N24) fun N26 v27 => (if v27 = 0 then some (dP N26 (57346 + 26624 * u11) (dG N1 (57346 + 26624 * u11)), 0) else some (N26, 1)))))
theorem qX7_share_O {N : mMem} {x1 : Int} {x2 : Int} {z : dZ} (hS : dS N) (rx1 : dR x1) (rx2 : dR x2) (h : fX7_share_O N x1 x2 = some z) : dQ xs Ln 1 3 66 79 (0, lv_args 0 [.ref 0, .int (dI x1), .int (dI x2)], [], N) z := by
  unfold fX7_share_O at h
  have l0 : mLk (lv_args 0 [.ref 0, .int (dI x1), .int (dI x2)]) 0 = some (.ref 0) := rfl
  have l1 : mLk (lv_args 0 [.ref 0, .int (dI x1), .int (dI x2)]) 1 = some (.int (dI x1)) := rfl
  have l2 : mLk (lv_args 0 [.ref 0, .int (dI x1), .int (dI x2)]) 2 = some (.int (dI x2)) := rfl
  generalize lv_args 0 [.ref 0, .int (dI x1), .int (dI x2)] = Nl at l0 l1 l2 ⊢
  refine dq_aload e_79_0 l0 ?_
  refine dq_getR e_79_1 hS ac_0_7_0_2 ?_
  refine dq_iload e_79_4 l1 ?_
  obtain ⟨N1, v2, c3, h⟩ := dbd_inv h
  have q4 := qX3_has_R (xs := xs) (Ln := Ln) hS rx1 c3
  have S5 : dS N1 := q4.2.1
  refine dq_calli (as := [.int (dI x1)]) (S := []) (nx := 8) e_79_5 rfl rfl rfl hS ak_1_3 rfl rfl rfl rfl q4 rfl ?_
  have r6 : dR v2 := q4.2.2
  by_cases c7 : v2 = 0
  · rw [if_pos c7] at h
    refine dq_ifT e_79_8 r6 (decide_eq_true c7) ?_
    exact qX7_share_O_b22 S5 h
  · rw [if_neg c7] at h
    refine dq_ifF e_79_8 r6 (decide_eq_false c7) ?_
    refine dq_iload e_79_11 l2 ?_
    by_cases c8 : x2 < 0
    · rw [if_pos c8] at h
      refine dq_ifT e_79_12 rx2 (decide_eq_true c8) ?_
      exact qX7_share_O_b22 S5 h
    · rw [if_neg c8] at h
      refine dq_ifF e_79_12 rx2 (decide_eq_false c8) ?_
      refine dq_iload e_79_15 l2 ?_
      refine dq_iconst e_79_16 ?_
      by_cases c9 : 200 < x2
      · rw [if_pos c9] at h
        refine dq_icF e_79_19 rx2 (⟨by decide, by decide⟩) (dnf c9) ?_
        exact qX7_share_O_b22 S5 h
      · rw [if_neg c9] at h
        refine dq_icT e_79_19 rx2 (⟨by decide, by decide⟩) (dnt c9) ?_
        refine dq_aload e_79_24 l0 ?_
        refine dq_getR e_79_25 S5 ac_0_7_0_2 ?_
        refine dq_getR e_79_28 S5 ac_1_3_6_2 ?_
        refine dq_iload e_79_31 l1 ?_
        obtain ⟨g10, h⟩ := dgd_inv h
        refine dq_aals h e_79_32 S5 rx1 g10.1 g10.2 (fun u11 hu11 ku11 h => ?_)
        refine dq_astore e_79_33 rfl (fun K12 m13 mm14 => ?_)
        have m15 := mm14 0 _ (by decide) rfl l0
        have m16 := mm14 2 _ (by decide) rfl l2
        refine dq_aload e_79_34 m13 ?_
        refine dq_getI (key := (57346 + 26624 * u11)) e_79_35 S5 (ac_28s_5_2_0 u11 hu11) (by omega) ?_
        refine dq_istore e_79_38 rfl (fun K17 m18 mm19 => ?_)
        have m20 := mm19 0 _ (by decide) rfl m15
        have m21 := mm19 2 _ (by decide) rfl m16
        have m22 := mm19 3 _ (by decide) rfl m13
        refine dq_aload e_79_40 m22 ?_
        refine dq_iload e_79_41 m21 ?_
        have S23 := dS_P (v := x2) S5 (ac_28s_5_2_0 u11 hu11) (show (28 + 13 * u11) * 2048 + 2 = (57346 + 26624 * u11) by omega)
        refine dq_put (key := (57346 + 26624 * u11)) e_79_42 S5 (ac_28s_5_2_0 u11 hu11) rfl (by omega) ?_
        refine dq_aload e_79_45 m20 ?_
        refine dq_getR e_79_46 S23 ac_0_7_0_2 ?_
        refine dq_let h S23 (fun N24 S25 h => ?_)
        obtain ⟨N26, v27, c28, h⟩ := dbd_inv h
        have q29 := qX3_isWithinFloor_R (xs := xs) (Ln := Ln) S25 c28
        have S30 : dS N26 := q29.2.1
        refine dq_calli (as := []) (S := []) (nx := 52) e_79_49 rfl rfl rfl S25 ak_1_3 rfl rfl rfl rfl q29 rfl ?_
        have r31 : dR v27 := q29.2.2
        by_cases c32 : v27 = 0
        · rw [if_pos c32] at h
          refine dq_ifT e_79_52 r31 (decide_eq_true c32) ?_
          refine dq_aload e_79_57 m22 ?_
          refine dq_iload e_79_58 m18 ?_
          have S33 := dS_P (v := dG N1 (57346 + 26624 * u11)) S30 (ac_28s_5_2_0 u11 hu11) (show (28 + 13 * u11) * 2048 + 2 = (57346 + 26624 * u11) by omega)
          refine dq_put (key := (57346 + 26624 * u11)) e_79_60 S30 (ac_28s_5_2_0 u11 hu11) rfl (by omega) ?_
          refine dq_iconst e_79_63 ?_
          cases h
          exact dq_reti (ty := .boolean) e_79_64 rfl (by decide +kernel) S33 (⟨by decide, by decide⟩)
        · rw [if_neg c32] at h
          refine dq_ifF e_79_52 r31 (decide_eq_false c32) ?_
          refine dq_iconst e_79_55 ?_
          cases h
          exact dq_reti (ty := .boolean) e_79_56 rfl (by decide +kernel) S30 (⟨by decide, by decide⟩)
noncomputable def fX1_voidRest_H (N : mMem) (s : Nat) : Option dZ := (if dG N (65539 + 26624 * s) = 1 then some (dP N (65543 + 26624 * s) 1, 0) else some (N, 0))
theorem qX1_voidRest_H {N : mMem} {s : Nat} {z : dZ} (hS : dS N) (hs : s < 8) (h : fX1_voidRest_H N s = some z) : dQ xs Ln 0 0 0 10 (0, lv_args 0 [.ref (32 + 13 * s)], [], N) z := by
  unfold fX1_voidRest_H at h
  have l0 : mLk (lv_args 0 [.ref (32 + 13 * s)]) 0 = some (.ref (32 + 13 * s)) := rfl
  generalize lv_args 0 [.ref (32 + 13 * s)] = Nl at l0 ⊢
  refine dq_aload e_10_0 l0 ?_
  refine dq_getI (key := (65539 + 26624 * s)) e_10_1 hS (ac_32s_1_3_0 s hs) (by omega) ?_
  refine dq_iconst e_10_4 ?_
  by_cases c1 : dG N (65539 + 26624 * s) = 1
  · rw [if_pos c1] at h
    refine dq_icF e_10_5 (dG_R _ _) (⟨by decide, by decide⟩) (dnf c1) ?_
    refine dq_aload e_10_8 l0 ?_
    refine dq_iconst e_10_9 ?_
    have S2 := dS_P (v := 1) hS (ac_32s_1_7_0 s hs) (show (32 + 13 * s) * 2048 + 7 = (65543 + 26624 * s) by omega)
    refine dq_put (key := (65543 + 26624 * s)) e_10_10 hS (ac_32s_1_7_0 s hs) (by decide +kernel) (by omega) ?_
    cases h
    exact dq_retv e_10_13 rfl S2
  · rw [if_neg c1] at h
    refine dq_icT e_10_5 (dG_R _ _) (⟨by decide, by decide⟩) (dnt c1) ?_
    cases h
    exact dq_retv e_10_13 rfl hS
noncomputable def fX7_stream_O_b77 (N : mMem) (u10 : Nat) (y1 : Int) : Option dZ := dlt (dP (dP N (63489 + 26624 * u10) y1) (63490 + 26624 * u10) 0) fun N20 => dbd (fX1_voidRest_H N20 u10) fun N22 v23 => some (N22, 1)
theorem qX7_stream_O_b77 {Nl : List (Nat × Value)} {N : mMem} {u10 : Nat} {y1 : Int} {z : dZ} (hS : dS N) (hu10 : u10 < 8) (ry1 : dR y1) (l4 : mLk Nl 4 = some (.ref (28 + 13 * u10))) (h : fX7_stream_O_b77 N u10 y1 = some z) : dQ xs Ln 1 1 21 80 (77, Nl, [.int (dI y1), .ref (31 + 13 * u10)], N) z := by
  unfold fX7_stream_O_b77 at h
  have S18 := dS_P (v := y1) hS (ac_31s_6_1_0 u10 hu10) (show (31 + 13 * u10) * 2048 + 1 = (63489 + 26624 * u10) by omega)
  refine dq_put (key := (63489 + 26624 * u10)) e_80_77 hS (ac_31s_6_1_0 u10 hu10) rfl (by omega) ?_
  refine dq_aload e_80_80 l4 ?_
  refine dq_getR e_80_82 S18 (ac_28s_5_15_2 u10 hu10) ?_
  refine dq_iconst e_80_85 ?_
  have S19 := dS_P (v := 0) S18 (ac_31s_6_2_0 u10 hu10) (show (31 + 13 * u10) * 2048 + 2 = (63490 + 26624 * u10) by omega)
  refine dq_put (key := (63490 + 26624 * u10)) e_80_86 S18 (ac_31s_6_2_0 u10 hu10) rfl (by omega) ?_
  refine dq_aload e_80_89 l4 ?_
  refine dq_getR e_80_91 S19 (ac_28s_5_16_2 u10 hu10) ?_
  refine dq_let h S19 (fun N20 S21 h => ?_)
  obtain ⟨N22, v23, c24, h⟩ := dbd_inv h
  have q25 := qX1_voidRest_H (xs := xs) (Ln := Ln) S21 hu10 c24
  have S26 : dS N22 := q25.2.1
  refine dq_callv (as := []) (S := []) (nx := 97) e_80_94 rfl rfl rfl S21 (ak_32s_1 u10 hu10) rfl rfl rfl rfl q25 rfl ?_
  refine dq_iconst e_80_97 ?_
  cases h
  exact dq_reti (ty := .boolean) e_80_98 rfl (by decide +kernel) S26 (⟨by decide, by decide⟩)
noncomputable def fX7_stream_O_b43 (N : mMem) (x1 : Int) (x2 : Int) (x3 : Int) : Option dZ := dgd (0 ≤ x1 ∧ x1 < 8) <| dln (x1).toNat fun u10 => (if x2 = 0 then fX7_stream_O_b77 (dP N (63488 + 26624 * u10) x2) u10 0 else fX7_stream_O_b77 (dP N (63488 + 26624 * u10) x2) u10 x3)
theorem qX7_stream_O_b43 {Nl : List (Nat × Value)} {N : mMem} {x1 : Int} {x2 : Int} {x3 : Int} {z : dZ} (hS : dS N) (rx1 : dR x1) (rx2 : dR x2) (rx3 : dR x3) (l0 : mLk Nl 0 = some (.ref 0)) (l1 : mLk Nl 1 = some (.int (dI x1))) (l2 : mLk Nl 2 = some (.int (dI x2))) (l3 : mLk Nl 3 = some (.int (dI x3))) (h : fX7_stream_O_b43 N x1 x2 x3 = some z) : dQ xs Ln 1 1 21 80 (43, Nl, [], N) z := by
  unfold fX7_stream_O_b43 at h
  refine dq_aload e_80_43 l0 ?_
  refine dq_getR e_80_44 hS ac_0_7_0_2 ?_
  refine dq_getR e_80_47 hS ac_1_3_6_2 ?_
  refine dq_iload e_80_50 l1 ?_
  obtain ⟨g9, h⟩ := dgd_inv h
  refine dq_aals h e_80_51 hS rx1 g9.1 g9.2 (fun u10 hu10 ku10 h => ?_)
  refine dq_astore e_80_52 rfl (fun K11 m12 mm13 => ?_)
  have m14 := mm13 2 _ (by decide) rfl l2
  have m15 := mm13 3 _ (by decide) rfl l3
  refine dq_aload e_80_54 m12 ?_
  refine dq_getR e_80_56 hS (ac_28s_5_15_2 u10 hu10) ?_
  refine dq_iload e_80_59 m14 ?_
  have S16 := dS_P (v := x2) hS (ac_31s_6_0_0 u10 hu10) (show (31 + 13 * u10) * 2048 + 0 = (63488 + 26624 * u10) by omega)
  refine dq_put (key := (63488 + 26624 * u10)) e_80_60 hS (ac_31s_6_0_0 u10 hu10) rfl (by omega) ?_
  refine dq_aload e_80_63 m12 ?_
  refine dq_getR e_80_65 S16 (ac_28s_5_15_2 u10 hu10) ?_
  refine dq_iload e_80_68 m14 ?_
  by_cases c17 : x2 = 0
  · rw [if_pos c17] at h
    refine dq_ifF e_80_69 rx2 (dnf c17) ?_
    refine dq_iconst e_80_72 ?_
    refine dq_goto e_80_73 ?_
    exact qX7_stream_O_b77 S16 hu10 (⟨by decide, by decide⟩) m12 h
  · rw [if_neg c17] at h
    refine dq_ifT e_80_69 rx2 (dnt c17) ?_
    refine dq_iload e_80_76 m15 ?_
    exact qX7_stream_O_b77 S16 hu10 rx3 m12 h
noncomputable def fX7_stream_O_b41 (N : mMem) : Option dZ := some (N, 0)
theorem qX7_stream_O_b41 {Nl : List (Nat × Value)} {N : mMem} {z : dZ} (hS : dS N) (h : fX7_stream_O_b41 N = some z) : dQ xs Ln 1 1 21 80 (41, Nl, [], N) z := by
  unfold fX7_stream_O_b41 at h
  refine dq_iconst e_80_41 ?_
  cases h
  exact dq_reti (ty := .boolean) e_80_42 rfl (by decide +kernel) hS (⟨by decide, by decide⟩)
noncomputable def fX7_stream_O (N : mMem) (x1 : Int) (x2 : Int) (x3 : Int) : Option dZ := dbd (fX3_has_R N x1) fun N1 v2 => (if v2 = 0 then some (N1, 0) else (if x2 = 0 then fX7_stream_O_b43 N1 x1 x2 x3 else (if x2 < 20 then fX7_stream_O_b41 N1 else (if 999 < x2 then fX7_stream_O_b41 N1 else (if x3 < 1 then fX7_stream_O_b41 N1 else (if 99 < x3 then fX7_stream_O_b41 N1 else fX7_stream_O_b43 N1 x1 x2 x3))))))
theorem qX7_stream_O {N : mMem} {x1 : Int} {x2 : Int} {x3 : Int} {z : dZ} (hS : dS N) (rx1 : dR x1) (rx2 : dR x2) (rx3 : dR x3) (h : fX7_stream_O N x1 x2 x3 = some z) : dQ xs Ln 1 1 21 80 (0, lv_args 0 [.ref 0, .int (dI x1), .int (dI x2), .int (dI x3)], [], N) z := by
  unfold fX7_stream_O at h
  have l0 : mLk (lv_args 0 [.ref 0, .int (dI x1), .int (dI x2), .int (dI x3)]) 0 = some (.ref 0) := rfl
  have l1 : mLk (lv_args 0 [.ref 0, .int (dI x1), .int (dI x2), .int (dI x3)]) 1 = some (.int (dI x1)) := rfl
  have l2 : mLk (lv_args 0 [.ref 0, .int (dI x1), .int (dI x2), .int (dI x3)]) 2 = some (.int (dI x2)) := rfl
  have l3 : mLk (lv_args 0 [.ref 0, .int (dI x1), .int (dI x2), .int (dI x3)]) 3 = some (.int (dI x3)) := rfl
  generalize lv_args 0 [.ref 0, .int (dI x1), .int (dI x2), .int (dI x3)] = Nl at l0 l1 l2 l3 ⊢
  refine dq_aload e_80_0 l0 ?_
  refine dq_getR e_80_1 hS ac_0_7_0_2 ?_
  refine dq_iload e_80_4 l1 ?_
  obtain ⟨N1, v2, c3, h⟩ := dbd_inv h
  have q4 := qX3_has_R (xs := xs) (Ln := Ln) hS rx1 c3
  have S5 : dS N1 := q4.2.1
  refine dq_calli (as := [.int (dI x1)]) (S := []) (nx := 8) e_80_5 rfl rfl rfl hS ak_1_3 rfl rfl rfl rfl q4 rfl ?_
  have r6 : dR v2 := q4.2.2
  by_cases c7 : v2 = 0
  · rw [if_pos c7] at h
    refine dq_ifF e_80_8 r6 (dnf c7) ?_
    refine dq_iconst e_80_11 ?_
    cases h
    exact dq_reti (ty := .boolean) e_80_12 rfl (by decide +kernel) S5 (⟨by decide, by decide⟩)
  · rw [if_neg c7] at h
    refine dq_ifT e_80_8 r6 (dnt c7) ?_
    refine dq_iload e_80_13 l2 ?_
    by_cases c8 : x2 = 0
    · rw [if_pos c8] at h
      refine dq_ifT e_80_14 rx2 (decide_eq_true c8) ?_
      exact qX7_stream_O_b43 S5 rx1 rx2 rx3 l0 l1 l2 l3 h
    · rw [if_neg c8] at h
      refine dq_ifF e_80_14 rx2 (decide_eq_false c8) ?_
      refine dq_iload e_80_17 l2 ?_
      refine dq_iconst e_80_18 ?_
      by_cases c27 : x2 < 20
      · rw [if_pos c27] at h
        refine dq_icT e_80_20 rx2 (⟨by decide, by decide⟩) (decide_eq_true c27) ?_
        exact qX7_stream_O_b41 S5 h
      · rw [if_neg c27] at h
        refine dq_icF e_80_20 rx2 (⟨by decide, by decide⟩) (decide_eq_false c27) ?_
        refine dq_iload e_80_23 l2 ?_
        refine dq_iconst e_80_24 ?_
        by_cases c28 : 999 < x2
        · rw [if_pos c28] at h
          refine dq_icT e_80_27 rx2 (⟨by decide, by decide⟩) (decide_eq_true c28) ?_
          exact qX7_stream_O_b41 S5 h
        · rw [if_neg c28] at h
          refine dq_icF e_80_27 rx2 (⟨by decide, by decide⟩) (decide_eq_false c28) ?_
          refine dq_iload e_80_30 l3 ?_
          refine dq_iconst e_80_31 ?_
          by_cases c29 : x3 < 1
          · rw [if_pos c29] at h
            refine dq_icT e_80_32 rx3 (⟨by decide, by decide⟩) (decide_eq_true c29) ?_
            exact qX7_stream_O_b41 S5 h
          · rw [if_neg c29] at h
            refine dq_icF e_80_32 rx3 (⟨by decide, by decide⟩) (decide_eq_false c29) ?_
            refine dq_iload e_80_35 l3 ?_
            refine dq_iconst e_80_36 ?_
            by_cases c30 : 99 < x3
            · rw [if_pos c30] at h
              refine dq_icF e_80_38 rx3 (⟨by decide, by decide⟩) (dnf c30) ?_
              exact qX7_stream_O_b41 S5 h
            · rw [if_neg c30] at h
              refine dq_icT e_80_38 rx3 (⟨by decide, by decide⟩) (dnt c30) ?_
              exact qX7_stream_O_b43 S5 rx1 rx2 rx3 l0 l1 l2 l3 h
noncomputable def fX7_state_O (N : mMem) (x1 : Int) : Option dZ := some (dP N 2050 x1, dG N 2050)
theorem qX7_state_O {N : mMem} {x1 : Int} {z : dZ} (hS : dS N) (rx1 : dR x1) (h : fX7_state_O N x1 = some z) : dQ xs Ln 1 0 0 82 (0, lv_args 0 [.ref 0, .int (dI x1)], [], N) z := by
  unfold fX7_state_O at h
  have l0 : mLk (lv_args 0 [.ref 0, .int (dI x1)]) 0 = some (.ref 0) := rfl
  have l1 : mLk (lv_args 0 [.ref 0, .int (dI x1)]) 1 = some (.int (dI x1)) := rfl
  generalize lv_args 0 [.ref 0, .int (dI x1)] = Nl at l0 l1 ⊢
  refine dq_aload e_82_0 l0 ?_
  refine dq_getR e_82_1 hS ac_0_7_0_2 ?_
  refine dq_getI (key := 2050) e_82_4 hS ac_1_3_2_0 (by omega) ?_
  refine dq_istore e_82_7 rfl (fun K1 m2 mm3 => ?_)
  have m4 := mm3 0 _ (by decide) rfl l0
  have m5 := mm3 1 _ (by decide) rfl l1
  refine dq_aload e_82_8 m4 ?_
  refine dq_getR e_82_9 hS ac_0_7_0_2 ?_
  refine dq_iload e_82_12 m5 ?_
  have S6 := dS_P (v := x1) hS ac_1_3_2_0 (show 1 * 2048 + 2 = 2050 by omega)
  refine dq_put (key := 2050) e_82_13 hS ac_1_3_2_0 rfl (by omega) ?_
  refine dq_iload e_82_16 m2 ?_
  cases h
  exact dq_reti (ty := .int) e_82_17 rfl rfl S6 (dG_R _ _)
noncomputable def fL_ring_OX_b222 (xs : Nat → Int32) (Ln : Nat) (k : mMem → Int → Int → Option dZ) (N : mMem) (x2 : Int) (x3 : Int) : Option dZ := k N x2 (dW (x3 + 1))
theorem qL_ring_OX_b222 (rLn : dR (Ln : Int)) {k : mMem → Int → Int → Option dZ} (hk : ∀ {Nl : List (Nat × Value)} {N : mMem} {x2 : Int} {x3 : Int} {z : dZ}, dS N → dR x2 → dR x3 → mLk Nl 0 = some (.ref 0) → mLk Nl 1 = some (.ref 1000000) → mLk Nl 2 = some (.int (dI x2)) → mLk Nl 3 = some (.int (dI x3)) → k N x2 x3 = some z → dQ xs Ln 1 7 281 94 (162, Nl, [], N) z) {Nl : List (Nat × Value)} {N : mMem} {x2 : Int} {x3 : Int} {z : dZ} (hS : dS N) (rx2 : dR x2) (rx3 : dR x3) (l0 : mLk Nl 0 = some (.ref 0)) (l1 : mLk Nl 1 = some (.ref 1000000)) (l2 : mLk Nl 2 = some (.int (dI x2))) (l3 : mLk Nl 3 = some (.int (dI x3))) (h : fL_ring_OX_b222 xs Ln k N x2 x3 = some z) : dQ xs Ln 1 7 281 94 (222, Nl, [], N) z := by
  unfold fL_ring_OX_b222 at h
  refine dq_iinc (x := x3) (e := dW (x3 + 1)) e_94_222 l3 rfl rfl (fun K197 m198 mm199 => ?_)
  have m200 := mm199 0 _ (by decide) rfl l0
  have m201 := mm199 1 _ (by decide) rfl l1
  have m202 := mm199 2 _ (by decide) rfl l2
  refine dq_goto e_94_225 ?_
  exact hk hS rx2 (dW_R _) m200 m201 m202 m198 h
noncomputable def fL_ring_OX_b162 (xs : Nat → Int32) (Ln : Nat) : Nat → mMem → Int → Int → Option dZ
  | 0, _, _, _ => none
  | n + 1, N, x2, x3 => (if x3 < x2 then dbd (fL_cell_X xs Ln N (dW (26 + x3))) fun N160 v161 => (if dAnd v161 1 = 1 then dbd (fL_cell_X xs Ln N160 (dW (26 + x3))) fun N167 v168 => dbd (fL_between xs Ln N167 (dShr v168 1) 20 999) fun N173 v174 => dbd (fL_cell_X xs Ln N173 (dW (26 + x3))) fun N179 v180 => dbd (fL_between xs Ln N179 (dShr v180 12) 1 99) fun N185 v186 => dbd (fX7_stream_O N185 x3 v174 v186) fun N191 v192 => fL_ring_OX_b222 xs Ln (fL_ring_OX_b162 xs Ln n) N191 x2 x3 else fL_ring_OX_b222 xs Ln (fL_ring_OX_b162 xs Ln n) N160 x2 x3) else dbd (fL_cell_X xs Ln N 34) fun N203 v204 => dbd (fX7_state_O N203 v204) fun N209 v210 => some (N209, x2))
theorem qL_ring_OX_b162 (rLn : dR (Ln : Int)) : ∀ (n : Nat) {Nl : List (Nat × Value)} {N : mMem} {x2 : Int} {x3 : Int} {z : dZ}, dS N → dR x2 → dR x3 → mLk Nl 0 = some (.ref 0) → mLk Nl 1 = some (.ref 1000000) → mLk Nl 2 = some (.int (dI x2)) → mLk Nl 3 = some (.int (dI x3)) → fL_ring_OX_b162 xs Ln n N x2 x3 = some z → dQ xs Ln 1 7 281 94 (162, Nl, [], N) z := fun n => by
  induction n with
  | zero =>
    intro Nl N x2 x3 z hS rx2 rx3 l0 l1 l2 l3 h
    cases h
  | succ n ih =>
    intro Nl N x2 x3 z hS rx2 rx3 l0 l1 l2 l3 h
    rw [fL_ring_OX_b162] at h
    refine dq_iload e_94_162 l3 ?_
    refine dq_iload e_94_163 l2 ?_
    by_cases c159 : x3 < x2
    · rw [if_pos c159] at h
      refine dq_icF e_94_164 rx3 rx2 (dnf c159) ?_
      refine dq_aload e_94_167 l1 ?_
      refine dq_iconst e_94_168 ?_
      refine dq_iload e_94_170 l3 ?_
      refine dq_iadd (e := dW (26 + x3)) e_94_171 rfl ?_
      obtain ⟨N160, v161, c162, h⟩ := dbd_inv h
      have q163 := qL_cell_X (xs := xs) (Ln := Ln) rLn hS (dW_R _) c162
      have S164 : dS N160 := q163.2.1
      refine dq_callsi (as := [.ref 1000000, .int (dI (dW (26 + x3)))]) (S := []) (nx := 175) e_94_172 rfl rfl rfl rfl rfl rfl rfl q163 rfl ?_
      have r165 : dR v161 := q163.2.2
      refine dq_iconst e_94_175 ?_
      refine dq_iand e_94_176 ?_
      refine dq_iconst e_94_177 ?_
      by_cases c166 : dAnd v161 1 = 1
      · rw [if_pos c166] at h
        refine dq_icF e_94_178 (dAnd_R _ _) (⟨by decide, by decide⟩) (dnf c166) ?_
        refine dq_aload e_94_181 l0 ?_
        refine dq_iload e_94_182 l3 ?_
        refine dq_aload e_94_183 l1 ?_
        refine dq_iconst e_94_184 ?_
        refine dq_iload e_94_186 l3 ?_
        refine dq_iadd (e := dW (26 + x3)) e_94_187 rfl ?_
        obtain ⟨N167, v168, c169, h⟩ := dbd_inv h
        have q170 := qL_cell_X (xs := xs) (Ln := Ln) rLn S164 (dW_R _) c169
        have S171 : dS N167 := q170.2.1
        refine dq_callsi (as := [.ref 1000000, .int (dI (dW (26 + x3)))]) (S := [.int (dI x3), .ref 0]) (nx := 191) e_94_188 rfl rfl rfl rfl rfl rfl rfl q170 rfl ?_
        have r172 : dR v168 := q170.2.2
        refine dq_iconst e_94_191 ?_
        refine dq_ishr e_94_192 ?_
        refine dq_iconst e_94_193 ?_
        refine dq_iconst e_94_195 ?_
        obtain ⟨N173, v174, c175, h⟩ := dbd_inv h
        have q176 := qL_between (xs := xs) (Ln := Ln) rLn S171 (dShr_R _ _) (⟨by decide, by decide⟩) (⟨by decide, by decide⟩) c175
        have S177 : dS N173 := q176.2.1
        refine dq_callsi (as := [.int (dI (dShr v168 1)), .int (dI 20), .int (dI 999)]) (S := [.int (dI x3), .ref 0]) (nx := 201) e_94_198 rfl rfl rfl rfl rfl rfl rfl q176 rfl ?_
        have r178 : dR v174 := q176.2.2
        refine dq_aload e_94_201 l1 ?_
        refine dq_iconst e_94_202 ?_
        refine dq_iload e_94_204 l3 ?_
        refine dq_iadd (e := dW (26 + x3)) e_94_205 rfl ?_
        obtain ⟨N179, v180, c181, h⟩ := dbd_inv h
        have q182 := qL_cell_X (xs := xs) (Ln := Ln) rLn S177 (dW_R _) c181
        have S183 : dS N179 := q182.2.1
        refine dq_callsi (as := [.ref 1000000, .int (dI (dW (26 + x3)))]) (S := [.int (dI v174), .int (dI x3), .ref 0]) (nx := 209) e_94_206 rfl rfl rfl rfl rfl rfl rfl q182 rfl ?_
        have r184 : dR v180 := q182.2.2
        refine dq_iconst e_94_209 ?_
        refine dq_ishr e_94_211 ?_
        refine dq_iconst e_94_212 ?_
        refine dq_iconst e_94_213 ?_
        obtain ⟨N185, v186, c187, h⟩ := dbd_inv h
        have q188 := qL_between (xs := xs) (Ln := Ln) rLn S183 (dShr_R _ _) (⟨by decide, by decide⟩) (⟨by decide, by decide⟩) c187
        have S189 : dS N185 := q188.2.1
        refine dq_callsi (as := [.int (dI (dShr v180 12)), .int (dI 1), .int (dI 99)]) (S := [.int (dI v174), .int (dI x3), .ref 0]) (nx := 218) e_94_215 rfl rfl rfl rfl rfl rfl rfl q188 rfl ?_
        have r190 : dR v186 := q188.2.2
        obtain ⟨N191, v192, c193, h⟩ := dbd_inv h
        have q194 := qX7_stream_O (xs := xs) (Ln := Ln) S189 rx3 r178 r190 c193
        have S195 : dS N191 := q194.2.1
        refine dq_calli (as := [.int (dI x3), .int (dI v174), .int (dI v186)]) (S := []) (nx := 221) e_94_218 rfl rfl rfl S189 ak_0_7 rfl rfl rfl rfl q194 rfl ?_
        have r196 : dR v192 := q194.2.2
        refine dq_pop e_94_221 rfl ?_
        exact qL_ring_OX_b222 rLn ih S195 rx2 rx3 l0 l1 l2 l3 h
      · rw [if_neg c166] at h
        refine dq_icT e_94_178 (dAnd_R _ _) (⟨by decide, by decide⟩) (dnt c166) ?_
        exact qL_ring_OX_b222 rLn ih S164 rx2 rx3 l0 l1 l2 l3 h
    · rw [if_neg c159] at h
      refine dq_icT e_94_164 rx3 rx2 (dnt c159) ?_
      refine dq_aload e_94_228 l0 ?_
      refine dq_aload e_94_229 l1 ?_
      refine dq_iconst e_94_230 ?_
      obtain ⟨N203, v204, c205, h⟩ := dbd_inv h
      have q206 := qL_cell_X (xs := xs) (Ln := Ln) rLn hS (⟨by decide, by decide⟩) c205
      have S207 : dS N203 := q206.2.1
      refine dq_callsi (as := [.ref 1000000, .int (dI 34)]) (S := [.ref 0]) (nx := 235) e_94_232 rfl rfl rfl rfl rfl rfl rfl q206 rfl ?_
      have r208 : dR v204 := q206.2.2
      obtain ⟨N209, v210, c211, h⟩ := dbd_inv h
      have q212 := qX7_state_O (xs := xs) (Ln := Ln) S207 r208 c211
      have S213 : dS N209 := q212.2.1
      refine dq_calli (as := [.int (dI v204)]) (S := []) (nx := 238) e_94_235 rfl rfl rfl S207 ak_0_7 rfl rfl rfl rfl q212 rfl ?_
      have r214 : dR v210 := q212.2.2
      refine dq_pop e_94_238 rfl ?_
      refine dq_iload e_94_239 l2 ?_
      cases h
      exact dq_reti (ty := .int) e_94_240 rfl rfl S213 rx2
noncomputable def fL_ring_OX_b129 (xs : Nat → Int32) (Ln : Nat) : Nat → mMem → Int → Int → Option dZ
  | 0, _, _, _ => none
  | n + 1, N, x2, x3 => (if x3 < x2 then dbd (fL_cell_X xs Ln N (dW (18 + x3))) fun N129 v130 => dbd (fL_between xs Ln N129 v130 0 25) fun N135 v136 => dbd (fX7_share_O N135 x3 v136) fun N141 v142 => fL_ring_OX_b129 xs Ln n N141 x2 (dW (x3 + 1)) else fL_ring_OX_b162 xs Ln 1000 N x2 0)
theorem qL_ring_OX_b129 (rLn : dR (Ln : Int)) : ∀ (n : Nat) {Nl : List (Nat × Value)} {N : mMem} {x2 : Int} {x3 : Int} {z : dZ}, dS N → dR x2 → dR x3 → mLk Nl 0 = some (.ref 0) → mLk Nl 1 = some (.ref 1000000) → mLk Nl 2 = some (.int (dI x2)) → mLk Nl 3 = some (.int (dI x3)) → fL_ring_OX_b129 xs Ln n N x2 x3 = some z → dQ xs Ln 1 7 281 94 (129, Nl, [], N) z := fun n => by
  induction n with
  | zero =>
    intro Nl N x2 x3 z hS rx2 rx3 l0 l1 l2 l3 h
    cases h
  | succ n ih =>
    intro Nl N x2 x3 z hS rx2 rx3 l0 l1 l2 l3 h
    rw [fL_ring_OX_b129] at h
    refine dq_iload e_94_129 l3 ?_
    refine dq_iload e_94_130 l2 ?_
    by_cases c128 : x3 < x2
    · rw [if_pos c128] at h
      refine dq_icF e_94_131 rx3 rx2 (dnf c128) ?_
      refine dq_aload e_94_134 l0 ?_
      refine dq_iload e_94_135 l3 ?_
      refine dq_aload e_94_136 l1 ?_
      refine dq_iconst e_94_137 ?_
      refine dq_iload e_94_139 l3 ?_
      refine dq_iadd (e := dW (18 + x3)) e_94_140 rfl ?_
      obtain ⟨N129, v130, c131, h⟩ := dbd_inv h
      have q132 := qL_cell_X (xs := xs) (Ln := Ln) rLn hS (dW_R _) c131
      have S133 : dS N129 := q132.2.1
      refine dq_callsi (as := [.ref 1000000, .int (dI (dW (18 + x3)))]) (S := [.int (dI x3), .ref 0]) (nx := 144) e_94_141 rfl rfl rfl rfl rfl rfl rfl q132 rfl ?_
      have r134 : dR v130 := q132.2.2
      refine dq_iconst e_94_144 ?_
      refine dq_iconst e_94_145 ?_
      obtain ⟨N135, v136, c137, h⟩ := dbd_inv h
      have q138 := qL_between (xs := xs) (Ln := Ln) rLn S133 r134 (⟨by decide, by decide⟩) (⟨by decide, by decide⟩) c137
      have S139 : dS N135 := q138.2.1
      refine dq_callsi (as := [.int (dI v130), .int (dI 0), .int (dI 25)]) (S := [.int (dI x3), .ref 0]) (nx := 150) e_94_147 rfl rfl rfl rfl rfl rfl rfl q138 rfl ?_
      have r140 : dR v136 := q138.2.2
      obtain ⟨N141, v142, c143, h⟩ := dbd_inv h
      have q144 := qX7_share_O (xs := xs) (Ln := Ln) S139 rx3 r140 c143
      have S145 : dS N141 := q144.2.1
      refine dq_calli (as := [.int (dI x3), .int (dI v136)]) (S := []) (nx := 153) e_94_150 rfl rfl rfl S139 ak_0_7 rfl rfl rfl rfl q144 rfl ?_
      have r146 : dR v142 := q144.2.2
      refine dq_pop e_94_153 rfl ?_
      refine dq_iinc (x := x3) (e := dW (x3 + 1)) e_94_154 l3 rfl rfl (fun K147 m148 mm149 => ?_)
      have m150 := mm149 0 _ (by decide) rfl l0
      have m151 := mm149 1 _ (by decide) rfl l1
      have m152 := mm149 2 _ (by decide) rfl l2
      refine dq_goto e_94_157 ?_
      exact ih S145 rx2 (dW_R _) m150 m151 m152 m148 h
    · rw [if_neg c128] at h
      refine dq_icT e_94_131 rx3 rx2 (dnt c128) ?_
      refine dq_iconst e_94_160 ?_
      refine dq_istore e_94_161 rfl (fun K153 m154 mm155 => ?_)
      have m156 := mm155 0 _ (by decide) rfl l0
      have m157 := mm155 1 _ (by decide) rfl l1
      have m158 := mm155 2 _ (by decide) rfl l2
      exact qL_ring_OX_b162 rLn _ hS rx2 (⟨by decide, by decide⟩) m156 m157 m158 m154 h
noncomputable def fL_ring_OX_b90 (xs : Nat → Int32) (Ln : Nat) : Nat → mMem → Int → Int → Option dZ
  | 0, _, _, _ => none
  | n + 1, N, x2, x3 => (if x3 < 3 then dbd (fL_cell_X xs Ln N 1) fun N98 v99 => dbd (fL_between xs Ln N98 (dShr v99 (dW (6 + (dW (3 * x3))))) 0 60) fun N104 v105 => dbd (fX7_set_O N104 (dW (3 + x3)) v105) fun N110 v111 => fL_ring_OX_b90 xs Ln n N110 x2 (dW (x3 + 1)) else fL_ring_OX_b129 xs Ln 1000 N x2 0)
theorem qL_ring_OX_b90 (rLn : dR (Ln : Int)) : ∀ (n : Nat) {Nl : List (Nat × Value)} {N : mMem} {x2 : Int} {x3 : Int} {z : dZ}, dS N → dR x2 → dR x3 → mLk Nl 0 = some (.ref 0) → mLk Nl 1 = some (.ref 1000000) → mLk Nl 2 = some (.int (dI x2)) → mLk Nl 3 = some (.int (dI x3)) → fL_ring_OX_b90 xs Ln n N x2 x3 = some z → dQ xs Ln 1 7 281 94 (90, Nl, [], N) z := fun n => by
  induction n with
  | zero =>
    intro Nl N x2 x3 z hS rx2 rx3 l0 l1 l2 l3 h
    cases h
  | succ n ih =>
    intro Nl N x2 x3 z hS rx2 rx3 l0 l1 l2 l3 h
    rw [fL_ring_OX_b90] at h
    refine dq_iload e_94_90 l3 ?_
    refine dq_iconst e_94_91 ?_
    by_cases c97 : x3 < 3
    · rw [if_pos c97] at h
      refine dq_icF e_94_92 rx3 (⟨by decide, by decide⟩) (dnf c97) ?_
      refine dq_aload e_94_95 l0 ?_
      refine dq_iconst e_94_96 ?_
      refine dq_iload e_94_97 l3 ?_
      refine dq_iadd (e := dW (3 + x3)) e_94_98 rfl ?_
      refine dq_aload e_94_99 l1 ?_
      refine dq_iconst e_94_100 ?_
      obtain ⟨N98, v99, c100, h⟩ := dbd_inv h
      have q101 := qL_cell_X (xs := xs) (Ln := Ln) rLn hS (⟨by decide, by decide⟩) c100
      have S102 : dS N98 := q101.2.1
      refine dq_callsi (as := [.ref 1000000, .int (dI 1)]) (S := [.int (dI (dW (3 + x3))), .ref 0]) (nx := 104) e_94_101 rfl rfl rfl rfl rfl rfl rfl q101 rfl ?_
      have r103 : dR v99 := q101.2.2
      refine dq_iconst e_94_104 ?_
      refine dq_iconst e_94_106 ?_
      refine dq_iload e_94_107 l3 ?_
      refine dq_imul (e := dW (3 * x3)) e_94_108 rfl ?_
      refine dq_iadd (e := dW (6 + (dW (3 * x3)))) e_94_109 rfl ?_
      refine dq_ishr e_94_110 ?_
      refine dq_iconst e_94_111 ?_
      refine dq_iconst e_94_112 ?_
      obtain ⟨N104, v105, c106, h⟩ := dbd_inv h
      have q107 := qL_between (xs := xs) (Ln := Ln) rLn S102 (dShr_R _ _) (⟨by decide, by decide⟩) (⟨by decide, by decide⟩) c106
      have S108 : dS N104 := q107.2.1
      refine dq_callsi (as := [.int (dI (dShr v99 (dW (6 + (dW (3 * x3)))))), .int (dI 0), .int (dI 60)]) (S := [.int (dI (dW (3 + x3))), .ref 0]) (nx := 117) e_94_114 rfl rfl rfl rfl rfl rfl rfl q107 rfl ?_
      have r109 : dR v105 := q107.2.2
      obtain ⟨N110, v111, c112, h⟩ := dbd_inv h
      have q113 := qX7_set_O (xs := xs) (Ln := Ln) S108 (dW_R _) r109 c112
      have S114 : dS N110 := q113.2.1
      refine dq_calli (as := [.int (dI (dW (3 + x3))), .int (dI v105)]) (S := []) (nx := 120) e_94_117 rfl rfl rfl S108 ak_0_7 rfl rfl rfl rfl q113 rfl ?_
      have r115 : dR v111 := q113.2.2
      refine dq_pop e_94_120 rfl ?_
      refine dq_iinc (x := x3) (e := dW (x3 + 1)) e_94_121 l3 rfl rfl (fun K116 m117 mm118 => ?_)
      have m119 := mm118 0 _ (by decide) rfl l0
      have m120 := mm118 1 _ (by decide) rfl l1
      have m121 := mm118 2 _ (by decide) rfl l2
      refine dq_goto e_94_124 ?_
      exact ih S114 rx2 (dW_R _) m119 m120 m121 m117 h
    · rw [if_neg c97] at h
      refine dq_icT e_94_92 rx3 (⟨by decide, by decide⟩) (dnt c97) ?_
      refine dq_iconst e_94_127 ?_
      refine dq_istore e_94_128 rfl (fun K122 m123 mm124 => ?_)
      have m125 := mm124 0 _ (by decide) rfl l0
      have m126 := mm124 1 _ (by decide) rfl l1
      have m127 := mm124 2 _ (by decide) rfl l2
      exact qL_ring_OX_b129 rLn _ hS rx2 (⟨by decide, by decide⟩) m125 m126 m127 m123 h
noncomputable def fL_ring_OX_b20 (xs : Nat → Int32) (Ln : Nat) : Nat → mMem → Int → Int → Option dZ
  | 0, _, _, _ => none
  | n + 1, N, x2, x3 => (if x3 < x2 then dbd (fL_cell_X xs Ln N (dW (2 + x3))) fun N31 v32 => dbd (fL_between xs Ln N31 v32 1 5) fun N37 v38 => dbd (fX7_delay_O N37 x3 v38) fun N43 v44 => dbd (fL_cell_X xs Ln N43 (dW (10 + x3))) fun N49 v50 => dbd (fL_between xs Ln N49 v50 60 300) fun N55 v56 => dbd (fX7_bid_O N55 x3 v56) fun N61 v62 => fL_ring_OX_b20 xs Ln n N61 x2 (dW (x3 + 1)) else dbd (fL_cell_X xs Ln N 1) fun N73 v74 => dbd (fL_between xs Ln N73 v74 1 20) fun N79 v80 => dbd (fX7_set_Oc0 N79 v80) fun N85 v86 => fL_ring_OX_b90 xs Ln 1000 N85 x2 0)
theorem qL_ring_OX_b20 (rLn : dR (Ln : Int)) : ∀ (n : Nat) {Nl : List (Nat × Value)} {N : mMem} {x2 : Int} {x3 : Int} {z : dZ}, dS N → dR x2 → dR x3 → mLk Nl 0 = some (.ref 0) → mLk Nl 1 = some (.ref 1000000) → mLk Nl 2 = some (.int (dI x2)) → mLk Nl 3 = some (.int (dI x3)) → fL_ring_OX_b20 xs Ln n N x2 x3 = some z → dQ xs Ln 1 7 281 94 (20, Nl, [], N) z := fun n => by
  induction n with
  | zero =>
    intro Nl N x2 x3 z hS rx2 rx3 l0 l1 l2 l3 h
    cases h
  | succ n ih =>
    intro Nl N x2 x3 z hS rx2 rx3 l0 l1 l2 l3 h
    rw [fL_ring_OX_b20] at h
    refine dq_iload e_94_20 l3 ?_
    refine dq_iload e_94_21 l2 ?_
    by_cases c30 : x3 < x2
    · rw [if_pos c30] at h
      refine dq_icF e_94_22 rx3 rx2 (dnf c30) ?_
      refine dq_aload e_94_25 l0 ?_
      refine dq_iload e_94_26 l3 ?_
      refine dq_aload e_94_27 l1 ?_
      refine dq_iconst e_94_28 ?_
      refine dq_iload e_94_29 l3 ?_
      refine dq_iadd (e := dW (2 + x3)) e_94_30 rfl ?_
      obtain ⟨N31, v32, c33, h⟩ := dbd_inv h
      have q34 := qL_cell_X (xs := xs) (Ln := Ln) rLn hS (dW_R _) c33
      have S35 : dS N31 := q34.2.1
      refine dq_callsi (as := [.ref 1000000, .int (dI (dW (2 + x3)))]) (S := [.int (dI x3), .ref 0]) (nx := 34) e_94_31 rfl rfl rfl rfl rfl rfl rfl q34 rfl ?_
      have r36 : dR v32 := q34.2.2
      refine dq_iconst e_94_34 ?_
      refine dq_iconst e_94_35 ?_
      obtain ⟨N37, v38, c39, h⟩ := dbd_inv h
      have q40 := qL_between (xs := xs) (Ln := Ln) rLn S35 r36 (⟨by decide, by decide⟩) (⟨by decide, by decide⟩) c39
      have S41 : dS N37 := q40.2.1
      refine dq_callsi (as := [.int (dI v32), .int (dI 1), .int (dI 5)]) (S := [.int (dI x3), .ref 0]) (nx := 39) e_94_36 rfl rfl rfl rfl rfl rfl rfl q40 rfl ?_
      have r42 : dR v38 := q40.2.2
      obtain ⟨N43, v44, c45, h⟩ := dbd_inv h
      have q46 := qX7_delay_O (xs := xs) (Ln := Ln) S41 rx3 r42 c45
      have S47 : dS N43 := q46.2.1
      refine dq_calli (as := [.int (dI x3), .int (dI v38)]) (S := []) (nx := 42) e_94_39 rfl rfl rfl S41 ak_0_7 rfl rfl rfl rfl q46 rfl ?_
      have r48 : dR v44 := q46.2.2
      refine dq_pop e_94_42 rfl ?_
      refine dq_aload e_94_43 l0 ?_
      refine dq_iload e_94_44 l3 ?_
      refine dq_aload e_94_45 l1 ?_
      refine dq_iconst e_94_46 ?_
      refine dq_iload e_94_48 l3 ?_
      refine dq_iadd (e := dW (10 + x3)) e_94_49 rfl ?_
      obtain ⟨N49, v50, c51, h⟩ := dbd_inv h
      have q52 := qL_cell_X (xs := xs) (Ln := Ln) rLn S47 (dW_R _) c51
      have S53 : dS N49 := q52.2.1
      refine dq_callsi (as := [.ref 1000000, .int (dI (dW (10 + x3)))]) (S := [.int (dI x3), .ref 0]) (nx := 53) e_94_50 rfl rfl rfl rfl rfl rfl rfl q52 rfl ?_
      have r54 : dR v50 := q52.2.2
      refine dq_iconst e_94_53 ?_
      refine dq_iconst e_94_55 ?_
      obtain ⟨N55, v56, c57, h⟩ := dbd_inv h
      have q58 := qL_between (xs := xs) (Ln := Ln) rLn S53 r54 (⟨by decide, by decide⟩) (⟨by decide, by decide⟩) c57
      have S59 : dS N55 := q58.2.1
      refine dq_callsi (as := [.int (dI v50), .int (dI 60), .int (dI 300)]) (S := [.int (dI x3), .ref 0]) (nx := 61) e_94_58 rfl rfl rfl rfl rfl rfl rfl q58 rfl ?_
      have r60 : dR v56 := q58.2.2
      obtain ⟨N61, v62, c63, h⟩ := dbd_inv h
      have q64 := qX7_bid_O (xs := xs) (Ln := Ln) S59 rx3 r60 c63
      have S65 : dS N61 := q64.2.1
      refine dq_calli (as := [.int (dI x3), .int (dI v56)]) (S := []) (nx := 64) e_94_61 rfl rfl rfl S59 ak_0_7 rfl rfl rfl rfl q64 rfl ?_
      have r66 : dR v62 := q64.2.2
      refine dq_pop e_94_64 rfl ?_
      refine dq_iinc (x := x3) (e := dW (x3 + 1)) e_94_65 l3 rfl rfl (fun K67 m68 mm69 => ?_)
      have m70 := mm69 0 _ (by decide) rfl l0
      have m71 := mm69 1 _ (by decide) rfl l1
      have m72 := mm69 2 _ (by decide) rfl l2
      refine dq_goto e_94_68 ?_
      exact ih S65 rx2 (dW_R _) m70 m71 m72 m68 h
    · rw [if_neg c30] at h
      refine dq_icT e_94_22 rx3 rx2 (dnt c30) ?_
      refine dq_aload e_94_71 l0 ?_
      refine dq_iconst e_94_72 ?_
      refine dq_aload e_94_73 l1 ?_
      refine dq_iconst e_94_74 ?_
      obtain ⟨N73, v74, c75, h⟩ := dbd_inv h
      have q76 := qL_cell_X (xs := xs) (Ln := Ln) rLn hS (⟨by decide, by decide⟩) c75
      have S77 : dS N73 := q76.2.1
      refine dq_callsi (as := [.ref 1000000, .int (dI 1)]) (S := [.int (dI 0), .ref 0]) (nx := 78) e_94_75 rfl rfl rfl rfl rfl rfl rfl q76 rfl ?_
      have r78 : dR v74 := q76.2.2
      refine dq_iconst e_94_78 ?_
      refine dq_iconst e_94_79 ?_
      obtain ⟨N79, v80, c81, h⟩ := dbd_inv h
      have q82 := qL_between (xs := xs) (Ln := Ln) rLn S77 r78 (⟨by decide, by decide⟩) (⟨by decide, by decide⟩) c81
      have S83 : dS N79 := q82.2.1
      refine dq_callsi (as := [.int (dI v74), .int (dI 1), .int (dI 20)]) (S := [.int (dI 0), .ref 0]) (nx := 84) e_94_81 rfl rfl rfl rfl rfl rfl rfl q82 rfl ?_
      have r84 : dR v80 := q82.2.2
      obtain ⟨N85, v86, c87, h⟩ := dbd_inv h
      have q88 := qX7_set_Oc0 (xs := xs) (Ln := Ln) S83 r84 c87
      have S89 : dS N85 := q88.2.1
      refine dq_calli (as := [.int (dI 0), .int (dI v80)]) (S := []) (nx := 87) e_94_84 rfl rfl rfl S83 ak_0_7 rfl rfl rfl rfl q88 rfl ?_
      have r90 : dR v86 := q88.2.2
      refine dq_pop e_94_87 rfl ?_
      refine dq_iconst e_94_88 ?_
      refine dq_istore e_94_89 rfl (fun K91 m92 mm93 => ?_)
      have m94 := mm93 0 _ (by decide) rfl l0
      have m95 := mm93 1 _ (by decide) rfl l1
      have m96 := mm93 2 _ (by decide) rfl l2
      exact qL_ring_OX_b90 rLn _ S89 rx2 (⟨by decide, by decide⟩) m94 m95 m96 m92 h
noncomputable def fL_ring_OX (xs : Nat → Int32) (Ln : Nat) (N : mMem) : Option dZ := dbd (fL_cell_X xs Ln N 0) fun N1 v2 => dbd (fL_between xs Ln N1 v2 2 8) fun N7 v8 => dbd (fX7_begin_O xs Ln N7 v8) fun N18 v19 => fL_ring_OX_b20 xs Ln 1000 N18 v8 0
theorem qL_ring_OX (rLn : dR (Ln : Int)) {N : mMem} {z : dZ} (hS : dS N) (h : fL_ring_OX xs Ln N = some z) : dQ xs Ln 1 7 281 94 (0, lv_args 0 [.ref 0, .ref 1000000], [], N) z := by
  unfold fL_ring_OX at h
  have l0 : mLk (lv_args 0 [.ref 0, .ref 1000000]) 0 = some (.ref 0) := rfl
  have l1 : mLk (lv_args 0 [.ref 0, .ref 1000000]) 1 = some (.ref 1000000) := rfl
  generalize lv_args 0 [.ref 0, .ref 1000000] = Nl at l0 l1 ⊢
  refine dq_aload e_94_0 l1 ?_
  refine dq_iconst e_94_1 ?_
  obtain ⟨N1, v2, c3, h⟩ := dbd_inv h
  have q4 := qL_cell_X (xs := xs) (Ln := Ln) rLn hS (⟨by decide, by decide⟩) c3
  have S5 : dS N1 := q4.2.1
  refine dq_callsi (as := [.ref 1000000, .int (dI 0)]) (S := []) (nx := 5) e_94_2 rfl rfl rfl rfl rfl rfl rfl q4 rfl ?_
  have r6 : dR v2 := q4.2.2
  refine dq_iconst e_94_5 ?_
  refine dq_iconst e_94_6 ?_
  obtain ⟨N7, v8, c9, h⟩ := dbd_inv h
  have q10 := qL_between (xs := xs) (Ln := Ln) rLn S5 r6 (⟨by decide, by decide⟩) (⟨by decide, by decide⟩) c9
  have S11 : dS N7 := q10.2.1
  refine dq_callsi (as := [.int (dI v2), .int (dI 2), .int (dI 8)]) (S := []) (nx := 11) e_94_8 rfl rfl rfl rfl rfl rfl rfl q10 rfl ?_
  have r12 : dR v8 := q10.2.2
  refine dq_istore e_94_11 rfl (fun K13 m14 mm15 => ?_)
  have m16 := mm15 0 _ (by decide) rfl l0
  have m17 := mm15 1 _ (by decide) rfl l1
  refine dq_aload e_94_12 m16 ?_
  refine dq_iload e_94_13 m14 ?_
  obtain ⟨N18, v19, c20, h⟩ := dbd_inv h
  have q21 := qX7_begin_O (xs := xs) (Ln := Ln)  S11 r12 c20
  have S22 : dS N18 := q21.2.1
  refine dq_calli (as := [.int (dI v8)]) (S := []) (nx := 17) e_94_14 rfl rfl rfl S11 ak_0_7 rfl rfl rfl rfl q21 rfl ?_
  have r23 : dR v19 := q21.2.2
  refine dq_pop e_94_17 rfl ?_
  refine dq_iconst e_94_18 ?_
  refine dq_istore e_94_19 rfl (fun K24 m25 mm26 => ?_)
  have m27 := mm26 0 _ (by decide) rfl m16
  have m28 := mm26 1 _ (by decide) rfl m17
  have m29 := mm26 2 _ (by decide) rfl m14
  exact qL_ring_OX_b20 rLn _ S22 r12 (⟨by decide, by decide⟩) m27 m28 m29 m25 h
noncomputable def fX7_look_Oc10_b20 (N : mMem) : Option dZ := dbd (fX3_allShares_R N) fun N1 v2 => some (N1, v2)
theorem qX7_look_Oc10_b20 {Nl : List (Nat × Value)} {N : mMem} {z : dZ} (hS : dS N) (l0 : mLk Nl 0 = some (.ref 0)) (l1 : mLk Nl 1 = some (.int (dI 10))) (h : fX7_look_Oc10_b20 N = some z) : dQ xs Ln 1 1 22 90 (20, Nl, [], N) z := by
  unfold fX7_look_Oc10_b20 at h
  refine dq_iload e_90_20 l1 ?_
  refine dq_tsI (c := 10) (q := 140) e_90_21 (⟨by decide, by decide⟩) rfl (by decide +kernel) rfl (by decide +kernel) ?_
  refine dq_aload e_90_140 l0 ?_
  refine dq_getR e_90_141 hS ac_0_7_0_2 ?_
  obtain ⟨N1, v2, c3, h⟩ := dbd_inv h
  have q4 := qX3_allShares_R (xs := xs) (Ln := Ln) hS c3
  have S5 : dS N1 := q4.2.1
  refine dq_calli (as := []) (S := []) (nx := 147) e_90_144 rfl rfl rfl hS ak_1_3 rfl rfl rfl rfl q4 rfl ?_
  have r6 : dR v2 := q4.2.2
  cases h
  exact dq_reti (ty := .int) e_90_147 rfl rfl S5 r6
noncomputable def fX7_look_Oc10 (N : mMem) : Option dZ := fX7_look_Oc10_b20 N
theorem qX7_look_Oc10 {N : mMem} {z : dZ} (hS : dS N) (h : fX7_look_Oc10 N = some z) : dQ xs Ln 1 1 22 90 (0, lv_args 0 [.ref 0, .int (dI 10)], [], N) z := by
  unfold fX7_look_Oc10 at h
  have l0 : mLk (lv_args 0 [.ref 0, .int (dI 10)]) 0 = some (.ref 0) := rfl
  have l1 : mLk (lv_args 0 [.ref 0, .int (dI 10)]) 1 = some (.int (dI 10)) := rfl
  generalize lv_args 0 [.ref 0, .int (dI 10)] = Nl at l0 l1 ⊢
  refine dq_iload e_90_0 l1 ?_
  refine dq_ifF e_90_1 (⟨by decide, by decide⟩) (by decide +kernel) ?_
  refine dq_iload e_90_4 l1 ?_
  refine dq_iconst e_90_5 ?_
  refine dq_icT e_90_7 (⟨by decide, by decide⟩) (⟨by decide, by decide⟩) (by decide +kernel) ?_
  exact qX7_look_Oc10_b20 hS l0 l1 h
noncomputable def fX7_look_Oc8_b20 (N : mMem) : Option dZ := dbd (fX3_latency_R N) fun N1 v2 => some (N1, v2)
theorem qX7_look_Oc8_b20 {Nl : List (Nat × Value)} {N : mMem} {z : dZ} (hS : dS N) (l0 : mLk Nl 0 = some (.ref 0)) (l1 : mLk Nl 1 = some (.int (dI 8))) (h : fX7_look_Oc8_b20 N = some z) : dQ xs Ln 1 1 22 90 (20, Nl, [], N) z := by
  unfold fX7_look_Oc8_b20 at h
  refine dq_iload e_90_20 l1 ?_
  refine dq_tsI (c := 8) (q := 124) e_90_21 (⟨by decide, by decide⟩) rfl (by decide +kernel) rfl (by decide +kernel) ?_
  refine dq_aload e_90_124 l0 ?_
  refine dq_getR e_90_125 hS ac_0_7_0_2 ?_
  obtain ⟨N1, v2, c3, h⟩ := dbd_inv h
  have q4 := qX3_latency_R (xs := xs) (Ln := Ln) hS c3
  have S5 : dS N1 := q4.2.1
  refine dq_calli (as := []) (S := []) (nx := 131) e_90_128 rfl rfl rfl hS ak_1_3 rfl rfl rfl rfl q4 rfl ?_
  have r6 : dR v2 := q4.2.2
  cases h
  exact dq_reti (ty := .int) e_90_131 rfl rfl S5 r6
noncomputable def fX7_look_Oc8 (N : mMem) : Option dZ := fX7_look_Oc8_b20 N
theorem qX7_look_Oc8 {N : mMem} {z : dZ} (hS : dS N) (h : fX7_look_Oc8 N = some z) : dQ xs Ln 1 1 22 90 (0, lv_args 0 [.ref 0, .int (dI 8)], [], N) z := by
  unfold fX7_look_Oc8 at h
  have l0 : mLk (lv_args 0 [.ref 0, .int (dI 8)]) 0 = some (.ref 0) := rfl
  have l1 : mLk (lv_args 0 [.ref 0, .int (dI 8)]) 1 = some (.int (dI 8)) := rfl
  generalize lv_args 0 [.ref 0, .int (dI 8)] = Nl at l0 l1 ⊢
  refine dq_iload e_90_0 l1 ?_
  refine dq_ifF e_90_1 (⟨by decide, by decide⟩) (by decide +kernel) ?_
  refine dq_iload e_90_4 l1 ?_
  refine dq_iconst e_90_5 ?_
  refine dq_icT e_90_7 (⟨by decide, by decide⟩) (⟨by decide, by decide⟩) (by decide +kernel) ?_
  exact qX7_look_Oc8_b20 hS l0 l1 h
noncomputable def fX7_look_Oc0 (N : mMem) : Option dZ := some (N, dG N 4096)
theorem qX7_look_Oc0 {N : mMem} {z : dZ} (hS : dS N) (h : fX7_look_Oc0 N = some z) : dQ xs Ln 1 0 0 90 (0, lv_args 0 [.ref 0, .int (dI 0)], [], N) z := by
  unfold fX7_look_Oc0 at h
  have l0 : mLk (lv_args 0 [.ref 0, .int (dI 0)]) 0 = some (.ref 0) := rfl
  have l1 : mLk (lv_args 0 [.ref 0, .int (dI 0)]) 1 = some (.int (dI 0)) := rfl
  generalize lv_args 0 [.ref 0, .int (dI 0)] = Nl at l0 l1 ⊢
  refine dq_iload e_90_0 l1 ?_
  refine dq_ifF e_90_1 (⟨by decide, by decide⟩) (by decide +kernel) ?_
  refine dq_iload e_90_4 l1 ?_
  refine dq_iconst e_90_5 ?_
  refine dq_icF e_90_7 (⟨by decide, by decide⟩) (⟨by decide, by decide⟩) (by decide +kernel) ?_
  refine dq_aload e_90_10 l0 ?_
  refine dq_getR e_90_11 hS ac_0_7_0_2 ?_
  refine dq_getR e_90_14 hS ac_1_3_4_2 ?_
  refine dq_iload e_90_17 l1 ?_
  refine dq_ial (key := 4096) e_90_18 hS aa_2 (⟨by decide, by decide⟩) (by decide) (by decide) (by show 2 * 2048 + 0 = 4096; omega) ?_
  cases h
  exact dq_reti (ty := .int) e_90_19 rfl rfl hS (dG_R _ _)
noncomputable def fX7_look_Oc9_b20 (N : mMem) : Option dZ := dbd (fX3_floor_R N) fun N1 v2 => some (N1, v2)
theorem qX7_look_Oc9_b20 {Nl : List (Nat × Value)} {N : mMem} {z : dZ} (hS : dS N) (l0 : mLk Nl 0 = some (.ref 0)) (l1 : mLk Nl 1 = some (.int (dI 9))) (h : fX7_look_Oc9_b20 N = some z) : dQ xs Ln 1 2 46 90 (20, Nl, [], N) z := by
  unfold fX7_look_Oc9_b20 at h
  refine dq_iload e_90_20 l1 ?_
  refine dq_tsI (c := 9) (q := 132) e_90_21 (⟨by decide, by decide⟩) rfl (by decide +kernel) rfl (by decide +kernel) ?_
  refine dq_aload e_90_132 l0 ?_
  refine dq_getR e_90_133 hS ac_0_7_0_2 ?_
  obtain ⟨N1, v2, c3, h⟩ := dbd_inv h
  have q4 := qX3_floor_R (xs := xs) (Ln := Ln) hS c3
  have S5 : dS N1 := q4.2.1
  refine dq_calli (as := []) (S := []) (nx := 139) e_90_136 rfl rfl rfl hS ak_1_3 rfl rfl rfl rfl q4 rfl ?_
  have r6 : dR v2 := q4.2.2
  cases h
  exact dq_reti (ty := .int) e_90_139 rfl rfl S5 r6
noncomputable def fX7_look_Oc9 (N : mMem) : Option dZ := fX7_look_Oc9_b20 N
theorem qX7_look_Oc9 {N : mMem} {z : dZ} (hS : dS N) (h : fX7_look_Oc9 N = some z) : dQ xs Ln 1 2 46 90 (0, lv_args 0 [.ref 0, .int (dI 9)], [], N) z := by
  unfold fX7_look_Oc9 at h
  have l0 : mLk (lv_args 0 [.ref 0, .int (dI 9)]) 0 = some (.ref 0) := rfl
  have l1 : mLk (lv_args 0 [.ref 0, .int (dI 9)]) 1 = some (.int (dI 9)) := rfl
  generalize lv_args 0 [.ref 0, .int (dI 9)] = Nl at l0 l1 ⊢
  refine dq_iload e_90_0 l1 ?_
  refine dq_ifF e_90_1 (⟨by decide, by decide⟩) (by decide +kernel) ?_
  refine dq_iload e_90_4 l1 ?_
  refine dq_iconst e_90_5 ?_
  refine dq_icT e_90_7 (⟨by decide, by decide⟩) (⟨by decide, by decide⟩) (by decide +kernel) ?_
  exact qX7_look_Oc9_b20 hS l0 l1 h
noncomputable def fX3_draw_R (N : mMem) (x1 : Int) : Option dZ := (if 0 < x1 then dlt (dP N 2050 (dW ((dW (1664525 * (dG N 2050))) + 1013904223))) fun N3 => dgd ((0 : Int) ≤ dUsh (dG N3 2050) 8 ∧ (0 : Int) < x1) <| some (N3, (dUsh (dG N3 2050) 8) % x1) else some (dP N 2050 (dW ((dW (1664525 * (dG N 2050))) + 1013904223)), 0))
theorem qX3_draw_R {N : mMem} {x1 : Int} {z : dZ} (hS : dS N) (rx1 : dR x1) (h : fX3_draw_R N x1 = some z) : dQ xs Ln 1 0 0 32 (0, lv_args 0 [.ref 1, .int (dI x1)], [], N) z := by
  unfold fX3_draw_R at h
  have l0 : mLk (lv_args 0 [.ref 1, .int (dI x1)]) 0 = some (.ref 1) := rfl
  have l1 : mLk (lv_args 0 [.ref 1, .int (dI x1)]) 1 = some (.int (dI x1)) := rfl
  generalize lv_args 0 [.ref 1, .int (dI x1)] = Nl at l0 l1 ⊢
  refine dq_aload e_32_0 l0 ?_
  refine dq_iconst e_32_1 ?_
  refine dq_aload e_32_3 l0 ?_
  refine dq_getI (key := 2050) e_32_4 hS ac_1_3_2_0 (by omega) ?_
  refine dq_imul (e := dW (1664525 * (dG N 2050))) e_32_7 rfl ?_
  refine dq_iconst e_32_8 ?_
  refine dq_iadd (e := dW ((dW (1664525 * (dG N 2050))) + 1013904223)) e_32_10 rfl ?_
  have S1 := dS_P (v := dW ((dW (1664525 * (dG N 2050))) + 1013904223)) hS ac_1_3_2_0 (show 1 * 2048 + 2 = 2050 by omega)
  refine dq_put (key := 2050) e_32_11 hS ac_1_3_2_0 rfl (by omega) ?_
  refine dq_iload e_32_14 l1 ?_
  by_cases c2 : 0 < x1
  · rw [if_pos c2] at h
    refine dq_ifF e_32_15 rx1 (dnf c2) ?_
    refine dq_aload e_32_18 l0 ?_
    refine dq_let h S1 (fun N3 S4 h => ?_)
    refine dq_getI (key := 2050) e_32_19 S4 ac_1_3_2_0 (by omega) ?_
    refine dq_iconst e_32_22 ?_
    refine dq_iushr e_32_24 ?_
    refine dq_iload e_32_25 l1 ?_
    obtain ⟨⟨g5, g6⟩, h⟩ := dgd_inv h
    have r7 : dR ((dUsh (dG N3 2050) 8) % x1) := ⟨by have := Int.emod_nonneg (dUsh (dG N3 2050) 8) (show x1 ≠ (0 : Int) by omega); omega, by have := Int.emod_lt_of_pos (dUsh (dG N3 2050) 8) g6; have := (show dR x1 from rx1).2; omega⟩
    refine dq_irem e_32_26 (dUsh_R _ _) rx1 g5 g6 rfl ?_
    refine dq_goto e_32_27 ?_
    cases h
    exact dq_reti (ty := .int) e_32_31 rfl rfl S4 r7
  · rw [if_neg c2] at h
    refine dq_ifT e_32_15 rx1 (dnt c2) ?_
    refine dq_iconst e_32_30 ?_
    cases h
    exact dq_reti (ty := .int) e_32_31 rfl rfl S1 (⟨by decide, by decide⟩)
noncomputable def fX4_isFull_L (N : mMem) (s : Nat) : Option dZ := (if dG N (67587 + 26624 * s) < 8 then some (N, 0) else some (N, 1))
theorem qX4_isFull_L {N : mMem} {s : Nat} {z : dZ} (hS : dS N) (hs : s < 8) (h : fX4_isFull_L N s = some z) : dQ xs Ln 1 0 0 58 (0, lv_args 0 [.ref (33 + 13 * s)], [], N) z := by
  unfold fX4_isFull_L at h
  have l0 : mLk (lv_args 0 [.ref (33 + 13 * s)]) 0 = some (.ref (33 + 13 * s)) := rfl
  generalize lv_args 0 [.ref (33 + 13 * s)] = Nl at l0 ⊢
  refine dq_aload e_58_0 l0 ?_
  refine dq_getI (key := (67587 + 26624 * s)) e_58_1 hS (ac_33s_4_3_0 s hs) (by omega) ?_
  refine dq_aload e_58_4 l0 ?_
  refine dq_getC (e := 8) e_58_5 hS (ac_33s_4_0_1 s hs) rfl ?_
  by_cases c1 : dG N (67587 + 26624 * s) < 8
  · rw [if_pos c1] at h
    refine dq_icT e_58_8 (dG_R _ _) (⟨by decide, by decide⟩) (decide_eq_true c1) ?_
    refine dq_iconst e_58_15 ?_
    cases h
    exact dq_reti (ty := .boolean) e_58_16 rfl (by decide +kernel) hS (⟨by decide, by decide⟩)
  · rw [if_neg c1] at h
    refine dq_icF e_58_8 (dG_R _ _) (⟨by decide, by decide⟩) (decide_eq_false c1) ?_
    refine dq_iconst e_58_11 ?_
    refine dq_goto e_58_12 ?_
    cases h
    exact dq_reti (ty := .boolean) e_58_16 rfl (by decide +kernel) hS (⟨by decide, by decide⟩)
end DQG1

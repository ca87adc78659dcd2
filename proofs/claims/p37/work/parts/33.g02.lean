/-! ===== functions over memory, and that the bodies run so; written by wip/dc ===== -/
section DQG2
variable {xs : Nat → Int32} {Ln : Nat}
noncomputable def fX3_canFrame_R_b67 (N : mMem) : Option dZ := some (N, 0)
theorem qX3_canFrame_R_b67 {Nl : List (Nat × Value)} {N : mMem} {z : dZ} (hS : dS N) (h : fX3_canFrame_R_b67 N = some z) : dQ xs Ln 1 1 21 33 (67, Nl, [], N) z := by
  unfold fX3_canFrame_R_b67 at h
  refine dq_iconst e_33_67 ?_
  cases h
  exact dq_reti (ty := .boolean) e_33_68 rfl (by decide +kernel) hS (⟨by decide, by decide⟩)
noncomputable def fX3_canFrame_R (N : mMem) (x1 : Int) (x2 : Int) (x3 : Int) (x4 : Int) : Option dZ := dbd (fX3_has_R N x1) fun N1 v2 => (if v2 = 0 then fX3_canFrame_R_b67 N1 else dbd (fX3_has_R N1 x2) fun N8 v9 => (if v9 = 0 then fX3_canFrame_R_b67 N8 else (if x1 = x2 then fX3_canFrame_R_b67 N8 else (if x3 < 1 then fX3_canFrame_R_b67 N8 else (if 3 < x3 then fX3_canFrame_R_b67 N8 else (if x4 < 1 then fX3_canFrame_R_b67 N8 else (if dG N8 4096 < x4 then fX3_canFrame_R_b67 N8 else dgd (0 ≤ x1 ∧ x1 < 8) <| dln (x1).toNat fun u21 => dbd (fX4_isFull_L N8 u21) fun N22 v23 => (if v23 = 0 then some (N22, 1) else fX3_canFrame_R_b67 N22))))))))
theorem qX3_canFrame_R {N : mMem} {x1 : Int} {x2 : Int} {x3 : Int} {x4 : Int} {z : dZ} (hS : dS N) (rx1 : dR x1) (rx2 : dR x2) (rx3 : dR x3) (rx4 : dR x4) (h : fX3_canFrame_R N x1 x2 x3 x4 = some z) : dQ xs Ln 1 1 21 33 (0, lv_args 0 [.ref 1, .int (dI x1), .int (dI x2), .int (dI x3), .int (dI x4)], [], N) z := by
  unfold fX3_canFrame_R at h
  have l0 : mLk (lv_args 0 [.ref 1, .int (dI x1), .int (dI x2), .int (dI x3), .int (dI x4)]) 0 = some (.ref 1) := rfl
  have l1 : mLk (lv_args 0 [.ref 1, .int (dI x1), .int (dI x2), .int (dI x3), .int (dI x4)]) 1 = some (.int (dI x1)) := rfl
  have l2 : mLk (lv_args 0 [.ref 1, .int (dI x1), .int (dI x2), .int (dI x3), .int (dI x4)]) 2 = some (.int (dI x2)) := rfl
  have l3 : mLk (lv_args 0 [.ref 1, .int (dI x1), .int (dI x2), .int (dI x3), .int (dI x4)]) 3 = some (.int (dI x3)) := rfl
  have l4 : mLk (lv_args 0 [.ref 1, .int (dI x1), .int (dI x2), .int (dI x3), .int (dI x4)]) 4 = some (.int (dI x4)) := rfl
  generalize lv_args 0 [.ref 1, .int (dI x1), .int (dI x2), .int (dI x3), .int (dI x4)] = Nl at l0 l1 l2 l3 l4 ⊢
  refine dq_aload e_33_0 l0 ?_
  refine dq_iload e_33_1 l1 ?_
  obtain ⟨N1, v2, c3, h⟩ := dbd_inv h
  have q4 := qX3_has_R (xs := xs) (Ln := Ln) hS rx1 c3
  have S5 : dS N1 := q4.2.1
  refine dq_calli (as := [.int (dI x1)]) (S := []) (nx := 5) e_33_2 rfl rfl rfl hS ak_1_3 rfl rfl rfl rfl q4 rfl ?_
  have r6 : dR v2 := q4.2.2
  by_cases c7 : v2 = 0
  · rw [if_pos c7] at h
    refine dq_ifT e_33_5 r6 (decide_eq_true c7) ?_
    exact qX3_canFrame_R_b67 S5 h
  · rw [if_neg c7] at h
    refine dq_ifF e_33_5 r6 (decide_eq_false c7) ?_
    refine dq_aload e_33_8 l0 ?_
    refine dq_iload e_33_9 l2 ?_
    obtain ⟨N8, v9, c10, h⟩ := dbd_inv h
    have q11 := qX3_has_R (xs := xs) (Ln := Ln) S5 rx2 c10
    have S12 : dS N8 := q11.2.1
    refine dq_calli (as := [.int (dI x2)]) (S := []) (nx := 13) e_33_10 rfl rfl rfl S5 ak_1_3 rfl rfl rfl rfl q11 rfl ?_
    have r13 : dR v9 := q11.2.2
    by_cases c14 : v9 = 0
    · rw [if_pos c14] at h
      refine dq_ifT e_33_13 r13 (decide_eq_true c14) ?_
      exact qX3_canFrame_R_b67 S12 h
    · rw [if_neg c14] at h
      refine dq_ifF e_33_13 r13 (decide_eq_false c14) ?_
      refine dq_iload e_33_16 l1 ?_
      refine dq_iload e_33_17 l2 ?_
      by_cases c15 : x1 = x2
      · rw [if_pos c15] at h
        refine dq_icT e_33_18 rx1 rx2 (decide_eq_true c15) ?_
        exact qX3_canFrame_R_b67 S12 h
      · rw [if_neg c15] at h
        refine dq_icF e_33_18 rx1 rx2 (decide_eq_false c15) ?_
        refine dq_iload e_33_21 l3 ?_
        refine dq_iconst e_33_22 ?_
        by_cases c16 : x3 < 1
        · rw [if_pos c16] at h
          refine dq_icT e_33_23 rx3 (⟨by decide, by decide⟩) (decide_eq_true c16) ?_
          exact qX3_canFrame_R_b67 S12 h
        · rw [if_neg c16] at h
          refine dq_icF e_33_23 rx3 (⟨by decide, by decide⟩) (decide_eq_false c16) ?_
          refine dq_iload e_33_26 l3 ?_
          refine dq_iconst e_33_27 ?_
          by_cases c17 : 3 < x3
          · rw [if_pos c17] at h
            refine dq_icT e_33_28 rx3 (⟨by decide, by decide⟩) (decide_eq_true c17) ?_
            exact qX3_canFrame_R_b67 S12 h
          · rw [if_neg c17] at h
            refine dq_icF e_33_28 rx3 (⟨by decide, by decide⟩) (decide_eq_false c17) ?_
            refine dq_iload e_33_31 l4 ?_
            refine dq_iconst e_33_33 ?_
            by_cases c18 : x4 < 1
            · rw [if_pos c18] at h
              refine dq_icT e_33_34 rx4 (⟨by decide, by decide⟩) (decide_eq_true c18) ?_
              exact qX3_canFrame_R_b67 S12 h
            · rw [if_neg c18] at h
              refine dq_icF e_33_34 rx4 (⟨by decide, by decide⟩) (decide_eq_false c18) ?_
              refine dq_iload e_33_37 l4 ?_
              refine dq_aload e_33_39 l0 ?_
              refine dq_getR e_33_40 S12 ac_1_3_4_2 ?_
              refine dq_iconst e_33_43 ?_
              refine dq_ial (key := 4096) e_33_44 S12 aa_2 (⟨by decide, by decide⟩) (by decide) (by decide) (by show 2 * 2048 + 0 = 4096; omega) ?_
              by_cases c19 : dG N8 4096 < x4
              · rw [if_pos c19] at h
                refine dq_icT e_33_45 rx4 (dG_R _ _) (decide_eq_true c19) ?_
                exact qX3_canFrame_R_b67 S12 h
              · rw [if_neg c19] at h
                refine dq_icF e_33_45 rx4 (dG_R _ _) (decide_eq_false c19) ?_
                refine dq_aload e_33_48 l0 ?_
                refine dq_getR e_33_49 S12 ac_1_3_6_2 ?_
                refine dq_iload e_33_52 l1 ?_
                obtain ⟨g20, h⟩ := dgd_inv h
                refine dq_aals h e_33_53 S12 rx1 g20.1 g20.2 (fun u21 hu21 ku21 h => ?_)
                refine dq_getR e_33_54 S12 (ac_28s_5_17_2 u21 hu21) ?_
                obtain ⟨N22, v23, c24, h⟩ := dbd_inv h
                have q25 := qX4_isFull_L (xs := xs) (Ln := Ln) S12 hu21 c24
                have S26 : dS N22 := q25.2.1
                refine dq_calli (as := []) (S := []) (nx := 60) e_33_57 rfl rfl rfl S12 (ak_33s_4 u21 hu21) rfl rfl rfl rfl q25 rfl ?_
                have r27 : dR v23 := q25.2.2
                by_cases c28 : v23 = 0
                · rw [if_pos c28] at h
                  refine dq_ifF e_33_60 r27 (dnf c28) ?_
                  refine dq_iconst e_33_63 ?_
                  refine dq_goto e_33_64 ?_
                  cases h
                  exact dq_reti (ty := .boolean) e_33_68 rfl (by decide +kernel) S26 (⟨by decide, by decide⟩)
                · rw [if_neg c28] at h
                  refine dq_ifT e_33_60 r27 (dnt c28) ?_
                  exact qX3_canFrame_R_b67 S26 h
noncomputable def fX4_opn_L (N : mMem) (s : Nat) : Option dZ := (if dG N (67587 + 26624 * s) < 8 then dlt (dP N (67587 + 26624 * s) (dW ((dG N (67587 + 26624 * s)) + 1))) fun N3 => some (N3, dW ((dG N3 (67587 + 26624 * s)) - 1)) else some (N, (-1)))
theorem qX4_opn_L {N : mMem} {s : Nat} {z : dZ} (hS : dS N) (hs : s < 8) (h : fX4_opn_L N s = some z) : dQ xs Ln 1 0 0 59 (0, lv_args 0 [.ref (33 + 13 * s)], [], N) z := by
  unfold fX4_opn_L at h
  have l0 : mLk (lv_args 0 [.ref (33 + 13 * s)]) 0 = some (.ref (33 + 13 * s)) := rfl
  generalize lv_args 0 [.ref (33 + 13 * s)] = Nl at l0 ⊢
  refine dq_aload e_59_0 l0 ?_
  refine dq_getI (key := (67587 + 26624 * s)) e_59_1 hS (ac_33s_4_3_0 s hs) (by omega) ?_
  refine dq_aload e_59_4 l0 ?_
  refine dq_getC (e := 8) e_59_5 hS (ac_33s_4_0_1 s hs) rfl ?_
  by_cases c1 : dG N (67587 + 26624 * s) < 8
  · rw [if_pos c1] at h
    refine dq_icT e_59_8 (dG_R _ _) (⟨by decide, by decide⟩) (decide_eq_true c1) ?_
    refine dq_aload e_59_13 l0 ?_
    refine dq_dup e_59_14 rfl ?_
    refine dq_getI (key := (67587 + 26624 * s)) e_59_15 hS (ac_33s_4_3_0 s hs) (by omega) ?_
    refine dq_iconst e_59_18 ?_
    refine dq_iadd (e := dW ((dG N (67587 + 26624 * s)) + 1)) e_59_19 rfl ?_
    have S2 := dS_P (v := dW ((dG N (67587 + 26624 * s)) + 1)) hS (ac_33s_4_3_0 s hs) (show (33 + 13 * s) * 2048 + 3 = (67587 + 26624 * s) by omega)
    refine dq_put (key := (67587 + 26624 * s)) e_59_20 hS (ac_33s_4_3_0 s hs) rfl (by omega) ?_
    refine dq_aload e_59_23 l0 ?_
    refine dq_let h S2 (fun N3 S4 h => ?_)
    refine dq_getI (key := (67587 + 26624 * s)) e_59_24 S4 (ac_33s_4_3_0 s hs) (by omega) ?_
    refine dq_iconst e_59_27 ?_
    refine dq_isub (e := dW ((dG N3 (67587 + 26624 * s)) - 1)) e_59_28 rfl ?_
    cases h
    exact dq_reti (ty := .int) e_59_29 rfl rfl S4 (dW_R _)
  · rw [if_neg c1] at h
    refine dq_icF e_59_8 (dG_R _ _) (⟨by decide, by decide⟩) (decide_eq_false c1) ?_
    refine dq_iconst e_59_11 ?_
    cases h
    exact dq_reti (ty := .int) e_59_12 rfl rfl hS (⟨by decide, by decide⟩)
noncomputable def fX4_put_Lc0 (N : mMem) (s : Nat) (x1 : Int) (x3 : Int) : Option dZ := (if x1 < 0 then some (N, 0) else (if x1 < dG N (67587 + 26624 * s) then dgd (0 ≤ x1 ∧ x1 < 8) <| some (dP N (71680 + 26624 * s + (x1).toNat) x3, 0) else some (N, 0)))
theorem qX4_put_Lc0 {N : mMem} {s : Nat} {x1 : Int} {x3 : Int} {z : dZ} (hS : dS N) (hs : s < 8) (rx1 : dR x1) (rx3 : dR x3) (h : fX4_put_Lc0 N s x1 x3 = some z) : dQ xs Ln 0 0 0 60 (0, lv_args 0 [.ref (33 + 13 * s), .int (dI x1), .int (dI 0), .int (dI x3)], [], N) z := by
  unfold fX4_put_Lc0 at h
  have l0 : mLk (lv_args 0 [.ref (33 + 13 * s), .int (dI x1), .int (dI 0), .int (dI x3)]) 0 = some (.ref (33 + 13 * s)) := rfl
  have l1 : mLk (lv_args 0 [.ref (33 + 13 * s), .int (dI x1), .int (dI 0), .int (dI x3)]) 1 = some (.int (dI x1)) := rfl
  have l2 : mLk (lv_args 0 [.ref (33 + 13 * s), .int (dI x1), .int (dI 0), .int (dI x3)]) 2 = some (.int (dI 0)) := rfl
  have l3 : mLk (lv_args 0 [.ref (33 + 13 * s), .int (dI x1), .int (dI 0), .int (dI x3)]) 3 = some (.int (dI x3)) := rfl
  generalize lv_args 0 [.ref (33 + 13 * s), .int (dI x1), .int (dI 0), .int (dI x3)] = Nl at l0 l1 l2 l3 ⊢
  refine dq_iload e_60_0 l1 ?_
  by_cases c1 : x1 < 0
  · rw [if_pos c1] at h
    refine dq_ifT e_60_1 rx1 (decide_eq_true c1) ?_
    cases h
    exact dq_retv e_60_33 rfl hS
  · rw [if_neg c1] at h
    refine dq_ifF e_60_1 rx1 (decide_eq_false c1) ?_
    refine dq_iload e_60_4 l1 ?_
    refine dq_aload e_60_5 l0 ?_
    refine dq_getI (key := (67587 + 26624 * s)) e_60_6 hS (ac_33s_4_3_0 s hs) (by omega) ?_
    by_cases c2 : x1 < dG N (67587 + 26624 * s)
    · rw [if_pos c2] at h
      refine dq_icF e_60_9 rx1 (dG_R _ _) (dnf c2) ?_
      refine dq_iload e_60_12 l2 ?_
      refine dq_ifF e_60_13 (⟨by decide, by decide⟩) (by decide +kernel) ?_
      refine dq_iload e_60_16 l2 ?_
      refine dq_aload e_60_17 l0 ?_
      refine dq_getC (e := 5) e_60_18 hS (ac_33s_4_1_1 s hs) rfl ?_
      refine dq_icF e_60_21 (⟨by decide, by decide⟩) (⟨by decide, by decide⟩) (by decide +kernel) ?_
      refine dq_aload e_60_24 l0 ?_
      refine dq_getR e_60_25 hS (ac_33s_4_2_2 s hs) ?_
      refine dq_iload e_60_28 l2 ?_
      refine dq_aal (n := 0) e_60_29 hS ⟨by decide, by decide⟩ (by decide) rfl (ac_34s_101_0_2 s hs) rfl ?_
      refine dq_iload e_60_30 l1 ?_
      refine dq_iload e_60_31 l3 ?_
      obtain ⟨g3, h⟩ := dgd_inv h
      have S4 := dS_A (v := x3) (k := (x1 : Int).toNat) (key := (71680 + 26624 * s + (x1).toNat)) hS (aa_35s s hs) (by have := g3.1; have := g3.2; omega) (by omega)
      refine dq_ias (key := (71680 + 26624 * s + (x1).toNat)) e_60_32 hS (aa_35s s hs) rx1 g3.1 g3.2 (by omega) ?_
      cases h
      exact dq_retv e_60_33 rfl S4
    · rw [if_neg c2] at h
      refine dq_icT e_60_9 rx1 (dG_R _ _) (dnt c2) ?_
      cases h
      exact dq_retv e_60_33 rfl hS
noncomputable def fX4_put_Lc1 (N : mMem) (s : Nat) (x1 : Int) (x3 : Int) : Option dZ := (if x1 < 0 then some (N, 0) else (if x1 < dG N (67587 + 26624 * s) then dgd (0 ≤ x1 ∧ x1 < 8) <| some (dP N (73728 + 26624 * s + (x1).toNat) x3, 0) else some (N, 0)))
theorem qX4_put_Lc1 {N : mMem} {s : Nat} {x1 : Int} {x3 : Int} {z : dZ} (hS : dS N) (hs : s < 8) (rx1 : dR x1) (rx3 : dR x3) (h : fX4_put_Lc1 N s x1 x3 = some z) : dQ xs Ln 0 0 0 60 (0, lv_args 0 [.ref (33 + 13 * s), .int (dI x1), .int (dI 1), .int (dI x3)], [], N) z := by
  unfold fX4_put_Lc1 at h
  have l0 : mLk (lv_args 0 [.ref (33 + 13 * s), .int (dI x1), .int (dI 1), .int (dI x3)]) 0 = some (.ref (33 + 13 * s)) := rfl
  have l1 : mLk (lv_args 0 [.ref (33 + 13 * s), .int (dI x1), .int (dI 1), .int (dI x3)]) 1 = some (.int (dI x1)) := rfl
  have l2 : mLk (lv_args 0 [.ref (33 + 13 * s), .int (dI x1), .int (dI 1), .int (dI x3)]) 2 = some (.int (dI 1)) := rfl
  have l3 : mLk (lv_args 0 [.ref (33 + 13 * s), .int (dI x1), .int (dI 1), .int (dI x3)]) 3 = some (.int (dI x3)) := rfl
  generalize lv_args 0 [.ref (33 + 13 * s), .int (dI x1), .int (dI 1), .int (dI x3)] = Nl at l0 l1 l2 l3 ⊢
  refine dq_iload e_60_0 l1 ?_
  by_cases c1 : x1 < 0
  · rw [if_pos c1] at h
    refine dq_ifT e_60_1 rx1 (decide_eq_true c1) ?_
    cases h
    exact dq_retv e_60_33 rfl hS
  · rw [if_neg c1] at h
    refine dq_ifF e_60_1 rx1 (decide_eq_false c1) ?_
    refine dq_iload e_60_4 l1 ?_
    refine dq_aload e_60_5 l0 ?_
    refine dq_getI (key := (67587 + 26624 * s)) e_60_6 hS (ac_33s_4_3_0 s hs) (by omega) ?_
    by_cases c2 : x1 < dG N (67587 + 26624 * s)
    · rw [if_pos c2] at h
      refine dq_icF e_60_9 rx1 (dG_R _ _) (dnf c2) ?_
      refine dq_iload e_60_12 l2 ?_
      refine dq_ifF e_60_13 (⟨by decide, by decide⟩) (by decide +kernel) ?_
      refine dq_iload e_60_16 l2 ?_
      refine dq_aload e_60_17 l0 ?_
      refine dq_getC (e := 5) e_60_18 hS (ac_33s_4_1_1 s hs) rfl ?_
      refine dq_icF e_60_21 (⟨by decide, by decide⟩) (⟨by decide, by decide⟩) (by decide +kernel) ?_
      refine dq_aload e_60_24 l0 ?_
      refine dq_getR e_60_25 hS (ac_33s_4_2_2 s hs) ?_
      refine dq_iload e_60_28 l2 ?_
      refine dq_aal (n := 1) e_60_29 hS ⟨by decide, by decide⟩ (by decide) rfl (ac_34s_101_1_2 s hs) rfl ?_
      refine dq_iload e_60_30 l1 ?_
      refine dq_iload e_60_31 l3 ?_
      obtain ⟨g3, h⟩ := dgd_inv h
      have S4 := dS_A (v := x3) (k := (x1 : Int).toNat) (key := (73728 + 26624 * s + (x1).toNat)) hS (aa_36s s hs) (by have := g3.1; have := g3.2; omega) (by omega)
      refine dq_ias (key := (73728 + 26624 * s + (x1).toNat)) e_60_32 hS (aa_36s s hs) rx1 g3.1 g3.2 (by omega) ?_
      cases h
      exact dq_retv e_60_33 rfl S4
    · rw [if_neg c2] at h
      refine dq_icT e_60_9 rx1 (dG_R _ _) (dnt c2) ?_
      cases h
      exact dq_retv e_60_33 rfl hS
noncomputable def fX4_put_Lc2 (N : mMem) (s : Nat) (x1 : Int) (x3 : Int) : Option dZ := (if x1 < 0 then some (N, 0) else (if x1 < dG N (67587 + 26624 * s) then dgd (0 ≤ x1 ∧ x1 < 8) <| some (dP N (75776 + 26624 * s + (x1).toNat) x3, 0) else some (N, 0)))
theorem qX4_put_Lc2 {N : mMem} {s : Nat} {x1 : Int} {x3 : Int} {z : dZ} (hS : dS N) (hs : s < 8) (rx1 : dR x1) (rx3 : dR x3) (h : fX4_put_Lc2 N s x1 x3 = some z) : dQ xs Ln 0 0 0 60 (0, lv_args 0 [.ref (33 + 13 * s), .int (dI x1), .int (dI 2), .int (dI x3)], [], N) z := by
  unfold fX4_put_Lc2 at h
  have l0 : mLk (lv_args 0 [.ref (33 + 13 * s), .int (dI x1), .int (dI 2), .int (dI x3)]) 0 = some (.ref (33 + 13 * s)) := rfl
  have l1 : mLk (lv_args 0 [.ref (33 + 13 * s), .int (dI x1), .int (dI 2), .int (dI x3)]) 1 = some (.int (dI x1)) := rfl
  have l2 : mLk (lv_args 0 [.ref (33 + 13 * s), .int (dI x1), .int (dI 2), .int (dI x3)]) 2 = some (.int (dI 2)) := rfl
  have l3 : mLk (lv_args 0 [.ref (33 + 13 * s), .int (dI x1), .int (dI 2), .int (dI x3)]) 3 = some (.int (dI x3)) := rfl
  generalize lv_args 0 [.ref (33 + 13 * s), .int (dI x1), .int (dI 2), .int (dI x3)] = Nl at l0 l1 l2 l3 ⊢
  refine dq_iload e_60_0 l1 ?_
  by_cases c1 : x1 < 0
  · rw [if_pos c1] at h
    refine dq_ifT e_60_1 rx1 (decide_eq_true c1) ?_
    cases h
    exact dq_retv e_60_33 rfl hS
  · rw [if_neg c1] at h
    refine dq_ifF e_60_1 rx1 (decide_eq_false c1) ?_
    refine dq_iload e_60_4 l1 ?_
    refine dq_aload e_60_5 l0 ?_
    refine dq_getI (key := (67587 + 26624 * s)) e_60_6 hS (ac_33s_4_3_0 s hs) (by omega) ?_
    by_cases c2 : x1 < dG N (67587 + 26624 * s)
    · rw [if_pos c2] at h
      refine dq_icF e_60_9 rx1 (dG_R _ _) (dnf c2) ?_
      refine dq_iload e_60_12 l2 ?_
      refine dq_ifF e_60_13 (⟨by decide, by decide⟩) (by decide +kernel) ?_
      refine dq_iload e_60_16 l2 ?_
      refine dq_aload e_60_17 l0 ?_
      refine dq_getC (e := 5) e_60_18 hS (ac_33s_4_1_1 s hs) rfl ?_
      refine dq_icF e_60_21 (⟨by decide, by decide⟩) (⟨by decide, by decide⟩) (by decide +kernel) ?_
      refine dq_aload e_60_24 l0 ?_
      refine dq_getR e_60_25 hS (ac_33s_4_2_2 s hs) ?_
      refine dq_iload e_60_28 l2 ?_
      refine dq_aal (n := 2) e_60_29 hS ⟨by decide, by decide⟩ (by decide) rfl (ac_34s_101_2_2 s hs) rfl ?_
      refine dq_iload e_60_30 l1 ?_
      refine dq_iload e_60_31 l3 ?_
      obtain ⟨g3, h⟩ := dgd_inv h
      have S4 := dS_A (v := x3) (k := (x1 : Int).toNat) (key := (75776 + 26624 * s + (x1).toNat)) hS (aa_37s s hs) (by have := g3.1; have := g3.2; omega) (by omega)
      refine dq_ias (key := (75776 + 26624 * s + (x1).toNat)) e_60_32 hS (aa_37s s hs) rx1 g3.1 g3.2 (by omega) ?_
      cases h
      exact dq_retv e_60_33 rfl S4
    · rw [if_neg c2] at h
      refine dq_icT e_60_9 rx1 (dG_R _ _) (dnt c2) ?_
      cases h
      exact dq_retv e_60_33 rfl hS
noncomputable def fX4_put_Lc3 (N : mMem) (s : Nat) (x1 : Int) (x3 : Int) : Option dZ := (if x1 < 0 then some (N, 0) else (if x1 < dG N (67587 + 26624 * s) then dgd (0 ≤ x1 ∧ x1 < 8) <| some (dP N (77824 + 26624 * s + (x1).toNat) x3, 0) else some (N, 0)))
theorem qX4_put_Lc3 {N : mMem} {s : Nat} {x1 : Int} {x3 : Int} {z : dZ} (hS : dS N) (hs : s < 8) (rx1 : dR x1) (rx3 : dR x3) (h : fX4_put_Lc3 N s x1 x3 = some z) : dQ xs Ln 0 0 0 60 (0, lv_args 0 [.ref (33 + 13 * s), .int (dI x1), .int (dI 3), .int (dI x3)], [], N) z := by
  unfold fX4_put_Lc3 at h
  have l0 : mLk (lv_args 0 [.ref (33 + 13 * s), .int (dI x1), .int (dI 3), .int (dI x3)]) 0 = some (.ref (33 + 13 * s)) := rfl
  have l1 : mLk (lv_args 0 [.ref (33 + 13 * s), .int (dI x1), .int (dI 3), .int (dI x3)]) 1 = some (.int (dI x1)) := rfl
  have l2 : mLk (lv_args 0 [.ref (33 + 13 * s), .int (dI x1), .int (dI 3), .int (dI x3)]) 2 = some (.int (dI 3)) := rfl
  have l3 : mLk (lv_args 0 [.ref (33 + 13 * s), .int (dI x1), .int (dI 3), .int (dI x3)]) 3 = some (.int (dI x3)) := rfl
  generalize lv_args 0 [.ref (33 + 13 * s), .int (dI x1), .int (dI 3), .int (dI x3)] = Nl at l0 l1 l2 l3 ⊢
  refine dq_iload e_60_0 l1 ?_
  by_cases c1 : x1 < 0
  · rw [if_pos c1] at h
    refine dq_ifT e_60_1 rx1 (decide_eq_true c1) ?_
    cases h
    exact dq_retv e_60_33 rfl hS
  · rw [if_neg c1] at h
    refine dq_ifF e_60_1 rx1 (decide_eq_false c1) ?_
    refine dq_iload e_60_4 l1 ?_
    refine dq_aload e_60_5 l0 ?_
    refine dq_getI (key := (67587 + 26624 * s)) e_60_6 hS (ac_33s_4_3_0 s hs) (by omega) ?_
    by_cases c2 : x1 < dG N (67587 + 26624 * s)
    · rw [if_pos c2] at h
      refine dq_icF e_60_9 rx1 (dG_R _ _) (dnf c2) ?_
      refine dq_iload e_60_12 l2 ?_
      refine dq_ifF e_60_13 (⟨by decide, by decide⟩) (by decide +kernel) ?_
      refine dq_iload e_60_16 l2 ?_
      refine dq_aload e_60_17 l0 ?_
      refine dq_getC (e := 5) e_60_18 hS (ac_33s_4_1_1 s hs) rfl ?_
      refine dq_icF e_60_21 (⟨by decide, by decide⟩) (⟨by decide, by decide⟩) (by decide +kernel) ?_
      refine dq_aload e_60_24 l0 ?_
      refine dq_getR e_60_25 hS (ac_33s_4_2_2 s hs) ?_
      refine dq_iload e_60_28 l2 ?_
      refine dq_aal (n := 3) e_60_29 hS ⟨by decide, by decide⟩ (by decide) rfl (ac_34s_101_3_2 s hs) rfl ?_
      refine dq_iload e_60_30 l1 ?_
      refine dq_iload e_60_31 l3 ?_
      obtain ⟨g3, h⟩ := dgd_inv h
      have S4 := dS_A (v := x3) (k := (x1 : Int).toNat) (key := (77824 + 26624 * s + (x1).toNat)) hS (aa_38s s hs) (by have := g3.1; have := g3.2; omega) (by omega)
      refine dq_ias (key := (77824 + 26624 * s + (x1).toNat)) e_60_32 hS (aa_38s s hs) rx1 g3.1 g3.2 (by omega) ?_
      cases h
      exact dq_retv e_60_33 rfl S4
    · rw [if_neg c2] at h
      refine dq_icT e_60_9 rx1 (dG_R _ _) (dnt c2) ?_
      cases h
      exact dq_retv e_60_33 rfl hS
noncomputable def fX4_put_Lc4 (N : mMem) (s : Nat) (x1 : Int) (x3 : Int) : Option dZ := (if x1 < 0 then some (N, 0) else (if x1 < dG N (67587 + 26624 * s) then dgd (0 ≤ x1 ∧ x1 < 8) <| some (dP N (79872 + 26624 * s + (x1).toNat) x3, 0) else some (N, 0)))
theorem qX4_put_Lc4 {N : mMem} {s : Nat} {x1 : Int} {x3 : Int} {z : dZ} (hS : dS N) (hs : s < 8) (rx1 : dR x1) (rx3 : dR x3) (h : fX4_put_Lc4 N s x1 x3 = some z) : dQ xs Ln 0 0 0 60 (0, lv_args 0 [.ref (33 + 13 * s), .int (dI x1), .int (dI 4), .int (dI x3)], [], N) z := by
  unfold fX4_put_Lc4 at h
  have l0 : mLk (lv_args 0 [.ref (33 + 13 * s), .int (dI x1), .int (dI 4), .int (dI x3)]) 0 = some (.ref (33 + 13 * s)) := rfl
  have l1 : mLk (lv_args 0 [.ref (33 + 13 * s), .int (dI x1), .int (dI 4), .int (dI x3)]) 1 = some (.int (dI x1)) := rfl
  have l2 : mLk (lv_args 0 [.ref (33 + 13 * s), .int (dI x1), .int (dI 4), .int (dI x3)]) 2 = some (.int (dI 4)) := rfl
  have l3 : mLk (lv_args 0 [.ref (33 + 13 * s), .int (dI x1), .int (dI 4), .int (dI x3)]) 3 = some (.int (dI x3)) := rfl
  generalize lv_args 0 [.ref (33 + 13 * s), .int (dI x1), .int (dI 4), .int (dI x3)] = Nl at l0 l1 l2 l3 ⊢
  refine dq_iload e_60_0 l1 ?_
  by_cases c1 : x1 < 0
  · rw [if_pos c1] at h
    refine dq_ifT e_60_1 rx1 (decide_eq_true c1) ?_
    cases h
    exact dq_retv e_60_33 rfl hS
  · rw [if_neg c1] at h
    refine dq_ifF e_60_1 rx1 (decide_eq_false c1) ?_
    refine dq_iload e_60_4 l1 ?_
    refine dq_aload e_60_5 l0 ?_
    refine dq_getI (key := (67587 + 26624 * s)) e_60_6 hS (ac_33s_4_3_0 s hs) (by omega) ?_
    by_cases c2 : x1 < dG N (67587 + 26624 * s)
    · rw [if_pos c2] at h
      refine dq_icF e_60_9 rx1 (dG_R _ _) (dnf c2) ?_
      refine dq_iload e_60_12 l2 ?_
      refine dq_ifF e_60_13 (⟨by decide, by decide⟩) (by decide +kernel) ?_
      refine dq_iload e_60_16 l2 ?_
      refine dq_aload e_60_17 l0 ?_
      refine dq_getC (e := 5) e_60_18 hS (ac_33s_4_1_1 s hs) rfl ?_
      refine dq_icF e_60_21 (⟨by decide, by decide⟩) (⟨by decide, by decide⟩) (by decide +kernel) ?_
      refine dq_aload e_60_24 l0 ?_
      refine dq_getR e_60_25 hS (ac_33s_4_2_2 s hs) ?_
      refine dq_iload e_60_28 l2 ?_
      refine dq_aal (n := 4) e_60_29 hS ⟨by decide, by decide⟩ (by decide) rfl (ac_34s_101_4_2 s hs) rfl ?_
      refine dq_iload e_60_30 l1 ?_
      refine dq_iload e_60_31 l3 ?_
      obtain ⟨g3, h⟩ := dgd_inv h
      have S4 := dS_A (v := x3) (k := (x1 : Int).toNat) (key := (79872 + 26624 * s + (x1).toNat)) hS (aa_39s s hs) (by have := g3.1; have := g3.2; omega) (by omega)
      refine dq_ias (key := (79872 + 26624 * s + (x1).toNat)) e_60_32 hS (aa_39s s hs) rx1 g3.1 g3.2 (by omega) ?_
      cases h
      exact dq_retv e_60_33 rfl S4
    · rw [if_neg c2] at h
      refine dq_icT e_60_9 rx1 (dG_R _ _) (dnt c2) ?_
      cases h
      exact dq_retv e_60_33 rfl hS
noncomputable def fX3_queue_R (N : mMem) (x1 : Int) (x2 : Int) (x3 : Int) (x4 : Int) : Option dZ := dgd (0 ≤ x1 ∧ x1 < 8) <| dln (x1).toNat fun u2 => dbd (fX4_opn_L N u2) fun N10 v11 => dbd (fX4_put_Lc0 N10 u2 v11 x2) fun N24 v25 => dbd (fX4_put_Lc1 N24 u2 v11 x3) fun N29 v30 => dbd (fX4_put_Lc2 N29 u2 v11 x4) fun N34 v35 => dbd (fX4_put_Lc3 N34 u2 v11 (dG N34 2049)) fun N39 v40 => dbd (fX4_put_Lc4 N39 u2 v11 0) fun N44 v45 => some (N44, v11)
theorem qX3_queue_R {N : mMem} {x1 : Int} {x2 : Int} {x3 : Int} {x4 : Int} {z : dZ} (hS : dS N) (rx1 : dR x1) (rx2 : dR x2) (rx3 : dR x3) (rx4 : dR x4) (h : fX3_queue_R N x1 x2 x3 x4 = some z) : dQ xs Ln 1 1 23 34 (0, lv_args 0 [.ref 1, .int (dI x1), .int (dI x2), .int (dI x3), .int (dI x4)], [], N) z := by
  unfold fX3_queue_R at h
  have l0 : mLk (lv_args 0 [.ref 1, .int (dI x1), .int (dI x2), .int (dI x3), .int (dI x4)]) 0 = some (.ref 1) := rfl
  have l1 : mLk (lv_args 0 [.ref 1, .int (dI x1), .int (dI x2), .int (dI x3), .int (dI x4)]) 1 = some (.int (dI x1)) := rfl
  have l2 : mLk (lv_args 0 [.ref 1, .int (dI x1), .int (dI x2), .int (dI x3), .int (dI x4)]) 2 = some (.int (dI x2)) := rfl
  have l3 : mLk (lv_args 0 [.ref 1, .int (dI x1), .int (dI x2), .int (dI x3), .int (dI x4)]) 3 = some (.int (dI x3)) := rfl
  have l4 : mLk (lv_args 0 [.ref 1, .int (dI x1), .int (dI x2), .int (dI x3), .int (dI x4)]) 4 = some (.int (dI x4)) := rfl
  generalize lv_args 0 [.ref 1, .int (dI x1), .int (dI x2), .int (dI x3), .int (dI x4)] = Nl at l0 l1 l2 l3 l4 ⊢
  refine dq_aload e_34_0 l0 ?_
  refine dq_getR e_34_1 hS ac_1_3_6_2 ?_
  refine dq_iload e_34_4 l1 ?_
  obtain ⟨g1, h⟩ := dgd_inv h
  refine dq_aals h e_34_5 hS rx1 g1.1 g1.2 (fun u2 hu2 ku2 h => ?_)
  refine dq_getR e_34_6 hS (ac_28s_5_17_2 u2 hu2) ?_
  refine dq_astore e_34_9 rfl (fun K3 m4 mm5 => ?_)
  have m6 := mm5 0 _ (by decide) rfl l0
  have m7 := mm5 2 _ (by decide) rfl l2
  have m8 := mm5 3 _ (by decide) rfl l3
  have m9 := mm5 4 _ (by decide) rfl l4
  refine dq_aload e_34_11 m4 ?_
  obtain ⟨N10, v11, c12, h⟩ := dbd_inv h
  have q13 := qX4_opn_L (xs := xs) (Ln := Ln) hS hu2 c12
  have S14 : dS N10 := q13.2.1
  refine dq_calli (as := []) (S := []) (nx := 16) e_34_13 rfl rfl rfl hS (ak_33s_4 u2 hu2) rfl rfl rfl rfl q13 rfl ?_
  have r15 : dR v11 := q13.2.2
  refine dq_istore e_34_16 rfl (fun K16 m17 mm18 => ?_)
  have m19 := mm18 0 _ (by decide) rfl m6
  have m20 := mm18 2 _ (by decide) rfl m7
  have m21 := mm18 3 _ (by decide) rfl m8
  have m22 := mm18 4 _ (by decide) rfl m9
  have m23 := mm18 5 _ (by decide) rfl m4
  refine dq_aload e_34_18 m23 ?_
  refine dq_iload e_34_20 m17 ?_
  refine dq_iconst e_34_22 ?_
  refine dq_iload e_34_23 m20 ?_
  obtain ⟨N24, v25, c26, h⟩ := dbd_inv h
  have q27 := qX4_put_Lc0 (xs := xs) (Ln := Ln) S14 hu2 r15 rx2 c26
  have S28 : dS N24 := q27.2.1
  refine dq_callv (as := [.int (dI v11), .int (dI 0), .int (dI x2)]) (S := []) (nx := 27) e_34_24 rfl rfl rfl S14 (ak_33s_4 u2 hu2) rfl rfl rfl rfl q27 rfl ?_
  refine dq_aload e_34_27 m23 ?_
  refine dq_iload e_34_29 m17 ?_
  refine dq_iconst e_34_31 ?_
  refine dq_iload e_34_32 m21 ?_
  obtain ⟨N29, v30, c31, h⟩ := dbd_inv h
  have q32 := qX4_put_Lc1 (xs := xs) (Ln := Ln) S28 hu2 r15 rx3 c31
  have S33 : dS N29 := q32.2.1
  refine dq_callv (as := [.int (dI v11), .int (dI 1), .int (dI x3)]) (S := []) (nx := 36) e_34_33 rfl rfl rfl S28 (ak_33s_4 u2 hu2) rfl rfl rfl rfl q32 rfl ?_
  refine dq_aload e_34_36 m23 ?_
  refine dq_iload e_34_38 m17 ?_
  refine dq_iconst e_34_40 ?_
  refine dq_iload e_34_41 m22 ?_
  obtain ⟨N34, v35, c36, h⟩ := dbd_inv h
  have q37 := qX4_put_Lc2 (xs := xs) (Ln := Ln) S33 hu2 r15 rx4 c36
  have S38 : dS N34 := q37.2.1
  refine dq_callv (as := [.int (dI v11), .int (dI 2), .int (dI x4)]) (S := []) (nx := 46) e_34_43 rfl rfl rfl S33 (ak_33s_4 u2 hu2) rfl rfl rfl rfl q37 rfl ?_
  refine dq_aload e_34_46 m23 ?_
  refine dq_iload e_34_48 m17 ?_
  refine dq_iconst e_34_50 ?_
  refine dq_aload e_34_51 m19 ?_
  refine dq_getI (key := 2049) e_34_52 S38 ac_1_3_1_0 (by omega) ?_
  obtain ⟨N39, v40, c41, h⟩ := dbd_inv h
  have q42 := qX4_put_Lc3 (xs := xs) (Ln := Ln) S38 hu2 r15 (dG_R _ _) c41
  have S43 : dS N39 := q42.2.1
  refine dq_callv (as := [.int (dI v11), .int (dI 3), .int (dI (dG N34 2049))]) (S := []) (nx := 58) e_34_55 rfl rfl rfl S38 (ak_33s_4 u2 hu2) rfl rfl rfl rfl q42 rfl ?_
  refine dq_aload e_34_58 m23 ?_
  refine dq_iload e_34_60 m17 ?_
  refine dq_iconst e_34_62 ?_
  refine dq_iconst e_34_63 ?_
  obtain ⟨N44, v45, c46, h⟩ := dbd_inv h
  have q47 := qX4_put_Lc4 (xs := xs) (Ln := Ln) S43 hu2 r15 (⟨by decide, by decide⟩) c46
  have S48 : dS N44 := q47.2.1
  refine dq_callv (as := [.int (dI v11), .int (dI 4), .int (dI 0)]) (S := []) (nx := 67) e_34_64 rfl rfl rfl S43 (ak_33s_4 u2 hu2) rfl rfl rfl rfl q47 rfl ?_
  refine dq_iload e_34_67 m17 ?_
  cases h
  exact dq_reti (ty := .int) e_34_69 rfl rfl S48 r15
noncomputable def fX7_storm_O_b11 (N : mMem) : Option dZ := some (N, (-1))
theorem qX7_storm_O_b11 {Nl : List (Nat × Value)} {N : mMem} {z : dZ} (hS : dS N) (h : fX7_storm_O_b11 N = some z) : dQ xs Ln 1 2 49 83 (11, Nl, [], N) z := by
  unfold fX7_storm_O_b11 at h
  refine dq_iconst e_83_11 ?_
  cases h
  exact dq_reti (ty := .int) e_83_12 rfl rfl hS (⟨by decide, by decide⟩)
noncomputable def fX7_storm_O_b143 (k : mMem → Int → Int → Int → Option dZ) (N : mMem) (x1 : Int) (x2 : Int) (x3 : Int) : Option dZ := k N x1 x2 (dW (x3 + 1))
theorem qX7_storm_O_b143 {k : mMem → Int → Int → Int → Option dZ} (hk : ∀ {Nl : List (Nat × Value)} {N : mMem} {x1 : Int} {x2 : Int} {x3 : Int} {z : dZ}, dS N → dR x1 → dR x2 → dR x3 → mLk Nl 0 = some (.ref 0) → mLk Nl 1 = some (.int (dI x1)) → mLk Nl 2 = some (.int (dI x2)) → mLk Nl 3 = some (.int (dI x3)) → k N x1 x2 x3 = some z → dQ xs Ln 1 2 49 83 (17, Nl, [], N) z) {Nl : List (Nat × Value)} {N : mMem} {x1 : Int} {x2 : Int} {x3 : Int} {z : dZ} (hS : dS N) (rx1 : dR x1) (rx2 : dR x2) (rx3 : dR x3) (l0 : mLk Nl 0 = some (.ref 0)) (l1 : mLk Nl 1 = some (.int (dI x1))) (l2 : mLk Nl 2 = some (.int (dI x2))) (l3 : mLk Nl 3 = some (.int (dI x3))) (h : fX7_storm_O_b143 k N x1 x2 x3 = some z) : dQ xs Ln 1 2 49 83 (143, Nl, [], N) z := by
  unfold fX7_storm_O_b143 at h
  refine dq_iinc (x := x3) (e := dW (x3 + 1)) e_83_143 l3 rfl rfl (fun K89 m90 mm91 => ?_)
  have m92 := mm91 0 _ (by decide) rfl l0
  have m93 := mm91 1 _ (by decide) rfl l1
  have m94 := mm91 2 _ (by decide) rfl l2
  refine dq_goto e_83_146 ?_
  exact hk hS rx1 rx2 (dW_R _) m92 m93 m94 m90 h
noncomputable def fX7_storm_O_b72 (k : mMem → Int → Int → Int → Option dZ) (N : mMem) (x1 : Int) (x2 : Int) (x3 : Int) (x4 : Int) (y0 : Int) : Option dZ := dbd (fX3_draw_R N 3) fun N51 v52 => dbd (fX3_draw_R N51 (dG N51 4096)) fun N66 v67 => dbd (fX3_canFrame_R N66 x4 y0 (dW (v52 + 1)) (dW (v67 + 1))) fun N82 v83 => (if v83 = 0 then fX7_storm_O_b143 k N82 x1 x2 x3 else dbd (fX3_queue_R N82 x4 y0 (dW (v52 + 1)) (dW (v67 + 1))) fun N95 v96 => fX7_storm_O_b143 k N95 x1 (dW (x2 + 1)) x3)
theorem qX7_storm_O_b72 {k : mMem → Int → Int → Int → Option dZ} (hk : ∀ {Nl : List (Nat × Value)} {N : mMem} {x1 : Int} {x2 : Int} {x3 : Int} {z : dZ}, dS N → dR x1 → dR x2 → dR x3 → mLk Nl 0 = some (.ref 0) → mLk Nl 1 = some (.int (dI x1)) → mLk Nl 2 = some (.int (dI x2)) → mLk Nl 3 = some (.int (dI x3)) → k N x1 x2 x3 = some z → dQ xs Ln 1 2 49 83 (17, Nl, [], N) z) {Nl : List (Nat × Value)} {N : mMem} {x1 : Int} {x2 : Int} {x3 : Int} {x4 : Int} {y0 : Int} {z : dZ} (hS : dS N) (rx1 : dR x1) (rx2 : dR x2) (rx3 : dR x3) (rx4 : dR x4) (ry0 : dR y0) (l0 : mLk Nl 0 = some (.ref 0)) (l1 : mLk Nl 1 = some (.int (dI x1))) (l2 : mLk Nl 2 = some (.int (dI x2))) (l3 : mLk Nl 3 = some (.int (dI x3))) (l4 : mLk Nl 4 = some (.int (dI x4))) (h : fX7_storm_O_b72 k N x1 x2 x3 x4 y0 = some z) : dQ xs Ln 1 2 49 83 (72, Nl, [.int (dI y0)], N) z := by
  unfold fX7_storm_O_b72 at h
  refine dq_istore e_83_72 rfl (fun K43 m44 mm45 => ?_)
  have m46 := mm45 0 _ (by decide) rfl l0
  have m47 := mm45 1 _ (by decide) rfl l1
  have m48 := mm45 2 _ (by decide) rfl l2
  have m49 := mm45 3 _ (by decide) rfl l3
  have m50 := mm45 4 _ (by decide) rfl l4
  refine dq_aload e_83_74 m46 ?_
  refine dq_getR e_83_75 hS ac_0_7_0_2 ?_
  refine dq_iconst e_83_78 ?_
  obtain ⟨N51, v52, c53, h⟩ := dbd_inv h
  have q54 := qX3_draw_R (xs := xs) (Ln := Ln) hS (⟨by decide, by decide⟩) c53
  have S55 : dS N51 := q54.2.1
  refine dq_calli (as := [.int (dI 3)]) (S := []) (nx := 82) e_83_79 rfl rfl rfl hS ak_1_3 rfl rfl rfl rfl q54 rfl ?_
  have r56 : dR v52 := q54.2.2
  refine dq_iconst e_83_82 ?_
  refine dq_iadd (e := dW (v52 + 1)) e_83_83 rfl ?_
  refine dq_istore e_83_84 rfl (fun K57 m58 mm59 => ?_)
  have m60 := mm59 0 _ (by decide) rfl m46
  have m61 := mm59 1 _ (by decide) rfl m47
  have m62 := mm59 2 _ (by decide) rfl m48
  have m63 := mm59 3 _ (by decide) rfl m49
  have m64 := mm59 4 _ (by decide) rfl m50
  have m65 := mm59 6 _ (by decide) rfl m44
  refine dq_aload e_83_86 m60 ?_
  refine dq_getR e_83_87 S55 ac_0_7_0_2 ?_
  refine dq_aload e_83_90 m60 ?_
  refine dq_getR e_83_91 S55 ac_0_7_0_2 ?_
  refine dq_getR e_83_94 S55 ac_1_3_4_2 ?_
  refine dq_iconst e_83_97 ?_
  refine dq_ial (key := 4096) e_83_98 S55 aa_2 (⟨by decide, by decide⟩) (by decide) (by decide) (by show 2 * 2048 + 0 = 4096; omega) ?_
  obtain ⟨N66, v67, c68, h⟩ := dbd_inv h
  have q69 := qX3_draw_R (xs := xs) (Ln := Ln) S55 (dG_R _ _) c68
  have S70 : dS N66 := q69.2.1
  refine dq_calli (as := [.int (dI (dG N51 4096))]) (S := []) (nx := 102) e_83_99 rfl rfl rfl S55 ak_1_3 rfl rfl rfl rfl q69 rfl ?_
  have r71 : dR v67 := q69.2.2
  refine dq_iconst e_83_102 ?_
  refine dq_iadd (e := dW (v67 + 1)) e_83_103 rfl ?_
  refine dq_istore e_83_104 rfl (fun K72 m73 mm74 => ?_)
  have m75 := mm74 0 _ (by decide) rfl m60
  have m76 := mm74 1 _ (by decide) rfl m61
  have m77 := mm74 2 _ (by decide) rfl m62
  have m78 := mm74 3 _ (by decide) rfl m63
  have m79 := mm74 4 _ (by decide) rfl m64
  have m80 := mm74 6 _ (by decide) rfl m65
  have m81 := mm74 7 _ (by decide) rfl m58
  refine dq_aload e_83_106 m75 ?_
  refine dq_getR e_83_107 S70 ac_0_7_0_2 ?_
  refine dq_iload e_83_110 m79 ?_
  refine dq_iload e_83_112 m80 ?_
  refine dq_iload e_83_114 m81 ?_
  refine dq_iload e_83_116 m73 ?_
  obtain ⟨N82, v83, c84, h⟩ := dbd_inv h
  have q85 := qX3_canFrame_R (xs := xs) (Ln := Ln) S70 rx4 ry0 (dW_R _) (dW_R _) c84
  have S86 : dS N82 := q85.2.1
  refine dq_calli (as := [.int (dI x4), .int (dI y0), .int (dI (dW (v52 + 1))), .int (dI (dW (v67 + 1)))]) (S := []) (nx := 121) e_83_118 rfl rfl rfl S70 ak_1_3 rfl rfl rfl rfl q85 rfl ?_
  have r87 : dR v83 := q85.2.2
  by_cases c88 : v83 = 0
  · rw [if_pos c88] at h
    refine dq_ifT e_83_121 r87 (decide_eq_true c88) ?_
    exact qX7_storm_O_b143 hk S86 rx1 rx2 rx3 m75 m76 m77 m78 h
  · rw [if_neg c88] at h
    refine dq_ifF e_83_121 r87 (decide_eq_false c88) ?_
    refine dq_aload e_83_124 m75 ?_
    refine dq_getR e_83_125 S86 ac_0_7_0_2 ?_
    refine dq_iload e_83_128 m79 ?_
    refine dq_iload e_83_130 m80 ?_
    refine dq_iload e_83_132 m81 ?_
    refine dq_iload e_83_134 m73 ?_
    obtain ⟨N95, v96, c97, h⟩ := dbd_inv h
    have q98 := qX3_queue_R (xs := xs) (Ln := Ln) S86 rx4 ry0 (dW_R _) (dW_R _) c97
    have S99 : dS N95 := q98.2.1
    refine dq_calli (as := [.int (dI x4), .int (dI y0), .int (dI (dW (v52 + 1))), .int (dI (dW (v67 + 1)))]) (S := []) (nx := 139) e_83_136 rfl rfl rfl S86 ak_1_3 rfl rfl rfl rfl q98 rfl ?_
    have r100 : dR v96 := q98.2.2
    refine dq_pop e_83_139 rfl ?_
    refine dq_iinc (x := x2) (e := dW (x2 + 1)) e_83_140 m77 rfl rfl (fun K101 m102 mm103 => ?_)
    have m104 := mm103 0 _ (by decide) rfl m75
    have m105 := mm103 1 _ (by decide) rfl m76
    have m106 := mm103 3 _ (by decide) rfl m78
    exact qX7_storm_O_b143 hk S99 rx1 (dW_R _) rx3 m104 m105 m102 m106 h
noncomputable def fX7_storm_O_b17 : Nat → mMem → Int → Int → Int → Option dZ
  | 0, _, _, _, _ => none
  | n + 1, N, x1, x2, x3 => (if x3 < x1 then dbd (fX3_draw_R N (dG N 2048)) fun N15 v16 => dbd (fX3_draw_R N15 (dW ((dG N15 2048) - 1))) fun N28 v29 => (if v29 < v16 then fX7_storm_O_b72 (fX7_storm_O_b17 n) N28 x1 x2 x3 v16 v29 else fX7_storm_O_b72 (fX7_storm_O_b17 n) N28 x1 x2 x3 v16 (dW (v29 + 1))) else some (N, x2))
theorem qX7_storm_O_b17 : ∀ (n : Nat) {Nl : List (Nat × Value)} {N : mMem} {x1 : Int} {x2 : Int} {x3 : Int} {z : dZ}, dS N → dR x1 → dR x2 → dR x3 → mLk Nl 0 = some (.ref 0) → mLk Nl 1 = some (.int (dI x1)) → mLk Nl 2 = some (.int (dI x2)) → mLk Nl 3 = some (.int (dI x3)) → fX7_storm_O_b17 n N x1 x2 x3 = some z → dQ xs Ln 1 2 49 83 (17, Nl, [], N) z := fun n => by
  induction n with
  | zero =>
    intro Nl N x1 x2 x3 z hS rx1 rx2 rx3 l0 l1 l2 l3 h
    cases h
  | succ n ih =>
    intro Nl N x1 x2 x3 z hS rx1 rx2 rx3 l0 l1 l2 l3 h
    rw [fX7_storm_O_b17] at h
    refine dq_iload e_83_17 l3 ?_
    refine dq_iload e_83_18 l1 ?_
    by_cases c14 : x3 < x1
    · rw [if_pos c14] at h
      refine dq_icF e_83_19 rx3 rx1 (dnf c14) ?_
      refine dq_aload e_83_22 l0 ?_
      refine dq_getR e_83_23 hS ac_0_7_0_2 ?_
      refine dq_aload e_83_26 l0 ?_
      refine dq_getR e_83_27 hS ac_0_7_0_2 ?_
      refine dq_getI (key := 2048) e_83_30 hS ac_1_3_0_0 (by omega) ?_
      obtain ⟨N15, v16, c17, h⟩ := dbd_inv h
      have q18 := qX3_draw_R (xs := xs) (Ln := Ln) hS (dG_R _ _) c17
      have S19 : dS N15 := q18.2.1
      refine dq_calli (as := [.int (dI (dG N 2048))]) (S := []) (nx := 36) e_83_33 rfl rfl rfl hS ak_1_3 rfl rfl rfl rfl q18 rfl ?_
      have r20 : dR v16 := q18.2.2
      refine dq_istore e_83_36 rfl (fun K21 m22 mm23 => ?_)
      have m24 := mm23 0 _ (by decide) rfl l0
      have m25 := mm23 1 _ (by decide) rfl l1
      have m26 := mm23 2 _ (by decide) rfl l2
      have m27 := mm23 3 _ (by decide) rfl l3
      refine dq_aload e_83_38 m24 ?_
      refine dq_getR e_83_39 S19 ac_0_7_0_2 ?_
      refine dq_aload e_83_42 m24 ?_
      refine dq_getR e_83_43 S19 ac_0_7_0_2 ?_
      refine dq_getI (key := 2048) e_83_46 S19 ac_1_3_0_0 (by omega) ?_
      refine dq_iconst e_83_49 ?_
      refine dq_isub (e := dW ((dG N15 2048) - 1)) e_83_50 rfl ?_
      obtain ⟨N28, v29, c30, h⟩ := dbd_inv h
      have q31 := qX3_draw_R (xs := xs) (Ln := Ln) S19 (dW_R _) c30
      have S32 : dS N28 := q31.2.1
      refine dq_calli (as := [.int (dI (dW ((dG N15 2048) - 1)))]) (S := []) (nx := 54) e_83_51 rfl rfl rfl S19 ak_1_3 rfl rfl rfl rfl q31 rfl ?_
      have r33 : dR v29 := q31.2.2
      refine dq_istore e_83_54 rfl (fun K34 m35 mm36 => ?_)
      have m37 := mm36 0 _ (by decide) rfl m24
      have m38 := mm36 1 _ (by decide) rfl m25
      have m39 := mm36 2 _ (by decide) rfl m26
      have m40 := mm36 3 _ (by decide) rfl m27
      have m41 := mm36 4 _ (by decide) rfl m22
      refine dq_iload e_83_56 m35 ?_
      refine dq_iload e_83_58 m41 ?_
      by_cases c42 : v29 < v16
      · rw [if_pos c42] at h
        refine dq_icF e_83_60 r33 r20 (dnf c42) ?_
        refine dq_iload e_83_63 m35 ?_
        refine dq_goto e_83_65 ?_
        exact qX7_storm_O_b72 ih S32 rx1 rx2 rx3 r20 r33 m37 m38 m39 m40 m41 h
      · rw [if_neg c42] at h
        refine dq_icT e_83_60 r33 r20 (dnt c42) ?_
        refine dq_iload e_83_68 m35 ?_
        refine dq_iconst e_83_70 ?_
        refine dq_iadd (e := dW (v29 + 1)) e_83_71 rfl ?_
        exact qX7_storm_O_b72 ih S32 rx1 rx2 rx3 r20 (dW_R _) m37 m38 m39 m40 m41 h
    · rw [if_neg c14] at h
      refine dq_icT e_83_19 rx3 rx1 (dnt c14) ?_
      refine dq_iload e_83_149 l2 ?_
      cases h
      exact dq_reti (ty := .int) e_83_150 rfl rfl hS rx2
noncomputable def fX7_storm_O (N : mMem) (x1 : Int) : Option dZ := (if x1 < 1 then fX7_storm_O_b11 N else (if 30 < x1 then fX7_storm_O_b11 N else fX7_storm_O_b17 1000 N x1 0 0))
theorem qX7_storm_O {N : mMem} {x1 : Int} {z : dZ} (hS : dS N) (rx1 : dR x1) (h : fX7_storm_O N x1 = some z) : dQ xs Ln 1 2 49 83 (0, lv_args 0 [.ref 0, .int (dI x1)], [], N) z := by
  unfold fX7_storm_O at h
  have l0 : mLk (lv_args 0 [.ref 0, .int (dI x1)]) 0 = some (.ref 0) := rfl
  have l1 : mLk (lv_args 0 [.ref 0, .int (dI x1)]) 1 = some (.int (dI x1)) := rfl
  generalize lv_args 0 [.ref 0, .int (dI x1)] = Nl at l0 l1 ⊢
  refine dq_iload e_83_0 l1 ?_
  refine dq_iconst e_83_1 ?_
  by_cases c1 : x1 < 1
  · rw [if_pos c1] at h
    refine dq_icT e_83_2 rx1 (⟨by decide, by decide⟩) (decide_eq_true c1) ?_
    exact qX7_storm_O_b11 hS h
  · rw [if_neg c1] at h
    refine dq_icF e_83_2 rx1 (⟨by decide, by decide⟩) (decide_eq_false c1) ?_
    refine dq_iload e_83_5 l1 ?_
    refine dq_iconst e_83_6 ?_
    by_cases c2 : 30 < x1
    · rw [if_pos c2] at h
      refine dq_icF e_83_8 rx1 (⟨by decide, by decide⟩) (dnf c2) ?_
      exact qX7_storm_O_b11 hS h
    · rw [if_neg c2] at h
      refine dq_icT e_83_8 rx1 (⟨by decide, by decide⟩) (dnt c2) ?_
      refine dq_iconst e_83_13 ?_
      refine dq_istore e_83_14 rfl (fun K3 m4 mm5 => ?_)
      have m6 := mm5 0 _ (by decide) rfl l0
      have m7 := mm5 1 _ (by decide) rfl l1
      refine dq_iconst e_83_15 ?_
      refine dq_istore e_83_16 rfl (fun K8 m9 mm10 => ?_)
      have m11 := mm10 0 _ (by decide) rfl m6
      have m12 := mm10 1 _ (by decide) rfl m7
      have m13 := mm10 2 _ (by decide) rfl m4
      exact qX7_storm_O_b17 _ hS rx1 (⟨by decide, by decide⟩) (⟨by decide, by decide⟩) m11 m12 m13 m9 h
noncomputable def fX1_drop_H (N : mMem) (s : Nat) : Option dZ := some (dP (dP (dP (dP (dP N (65536 + 26624 * s) 0) (65537 + 26624 * s) 0) (65538 + 26624 * s) 0) (65539 + 26624 * s) 0) (65540 + 26624 * s) 0, 0)
theorem qX1_drop_H {N : mMem} {s : Nat} {z : dZ} (hS : dS N) (hs : s < 8) (h : fX1_drop_H N s = some z) : dQ xs Ln 0 0 0 9 (0, lv_args 0 [.ref (32 + 13 * s)], [], N) z := by
  unfold fX1_drop_H at h
  have l0 : mLk (lv_args 0 [.ref (32 + 13 * s)]) 0 = some (.ref (32 + 13 * s)) := rfl
  generalize lv_args 0 [.ref (32 + 13 * s)] = Nl at l0 ⊢
  refine dq_aload e_9_0 l0 ?_
  refine dq_iconst e_9_1 ?_
  have S1 := dS_P (v := 0) hS (ac_32s_1_0_0 s hs) (show (32 + 13 * s) * 2048 + 0 = (65536 + 26624 * s) by omega)
  refine dq_put (key := (65536 + 26624 * s)) e_9_2 hS (ac_32s_1_0_0 s hs) (by decide +kernel) (by omega) ?_
  refine dq_aload e_9_5 l0 ?_
  refine dq_iconst e_9_6 ?_
  have S2 := dS_P (v := 0) S1 (ac_32s_1_1_0 s hs) (show (32 + 13 * s) * 2048 + 1 = (65537 + 26624 * s) by omega)
  refine dq_put (key := (65537 + 26624 * s)) e_9_7 S1 (ac_32s_1_1_0 s hs) rfl (by omega) ?_
  refine dq_aload e_9_10 l0 ?_
  refine dq_iconst e_9_11 ?_
  have S3 := dS_P (v := 0) S2 (ac_32s_1_2_0 s hs) (show (32 + 13 * s) * 2048 + 2 = (65538 + 26624 * s) by omega)
  refine dq_put (key := (65538 + 26624 * s)) e_9_12 S2 (ac_32s_1_2_0 s hs) rfl (by omega) ?_
  refine dq_aload e_9_15 l0 ?_
  refine dq_iconst e_9_16 ?_
  have S4 := dS_P (v := 0) S3 (ac_32s_1_3_0 s hs) (show (32 + 13 * s) * 2048 + 3 = (65539 + 26624 * s) by omega)
  refine dq_put (key := (65539 + 26624 * s)) e_9_17 S3 (ac_32s_1_3_0 s hs) rfl (by omega) ?_
  refine dq_aload e_9_20 l0 ?_
  refine dq_iconst e_9_21 ?_
  have S5 := dS_P (v := 0) S4 (ac_32s_1_4_0 s hs) (show (32 + 13 * s) * 2048 + 4 = (65540 + 26624 * s) by omega)
  refine dq_put (key := (65540 + 26624 * s)) e_9_22 S4 (ac_32s_1_4_0 s hs) rfl (by omega) ?_
  cases h
  exact dq_retv e_9_25 rfl S5
noncomputable def fX0_become_E (N : mMem) (s : Nat) (x1 : Int) (x2 : Int) (x3 : Int) : Option dZ := some (dP (dP (dP N (61440 + 26624 * s) x1) (61441 + 26624 * s) x2) (61442 + 26624 * s) x3, 0)
theorem qX0_become_E {N : mMem} {s : Nat} {x1 : Int} {x2 : Int} {x3 : Int} {z : dZ} (hS : dS N) (hs : s < 8) (rx1 : dR x1) (rx2 : dR x2) (rx3 : dR x3) (h : fX0_become_E N s x1 x2 x3 = some z) : dQ xs Ln 0 0 0 1 (0, lv_args 0 [.ref (30 + 13 * s), .int (dI x1), .int (dI x2), .int (dI x3)], [], N) z := by
  unfold fX0_become_E at h
  have l0 : mLk (lv_args 0 [.ref (30 + 13 * s), .int (dI x1), .int (dI x2), .int (dI x3)]) 0 = some (.ref (30 + 13 * s)) := rfl
  have l1 : mLk (lv_args 0 [.ref (30 + 13 * s), .int (dI x1), .int (dI x2), .int (dI x3)]) 1 = some (.int (dI x1)) := rfl
  have l2 : mLk (lv_args 0 [.ref (30 + 13 * s), .int (dI x1), .int (dI x2), .int (dI x3)]) 2 = some (.int (dI x2)) := rfl
  have l3 : mLk (lv_args 0 [.ref (30 + 13 * s), .int (dI x1), .int (dI x2), .int (dI x3)]) 3 = some (.int (dI x3)) := rfl
  generalize lv_args 0 [.ref (30 + 13 * s), .int (dI x1), .int (dI x2), .int (dI x3)] = Nl at l0 l1 l2 l3 ⊢
  refine dq_aload e_1_0 l0 ?_
  refine dq_iload e_1_1 l1 ?_
  have S1 := dS_P (v := x1) hS (ac_30s_0_0_0 s hs) (show (30 + 13 * s) * 2048 + 0 = (61440 + 26624 * s) by omega)
  refine dq_put (key := (61440 + 26624 * s)) e_1_2 hS (ac_30s_0_0_0 s hs) rfl (by omega) ?_
  refine dq_aload e_1_5 l0 ?_
  refine dq_iload e_1_6 l2 ?_
  have S2 := dS_P (v := x2) S1 (ac_30s_0_1_0 s hs) (show (30 + 13 * s) * 2048 + 1 = (61441 + 26624 * s) by omega)
  refine dq_put (key := (61441 + 26624 * s)) e_1_7 S1 (ac_30s_0_1_0 s hs) rfl (by omega) ?_
  refine dq_aload e_1_10 l0 ?_
  refine dq_iload e_1_11 l3 ?_
  have S3 := dS_P (v := x3) S2 (ac_30s_0_2_0 s hs) (show (30 + 13 * s) * 2048 + 2 = (61442 + 26624 * s) by omega)
  refine dq_put (key := (61442 + 26624 * s)) e_1_12 S2 (ac_30s_0_2_0 s hs) rfl (by omega) ?_
  cases h
  exact dq_retv e_1_15 rfl S3
noncomputable def fX2_opn_G (N : mMem) : Option dZ := some (dP N 26627 (dW ((dG N 26627) + 1)), 0)
theorem qX2_opn_G {N : mMem} {z : dZ} (hS : dS N) (h : fX2_opn_G N = some z) : dQ xs Ln 0 0 0 14 (0, lv_args 0 [.ref 13], [], N) z := by
  unfold fX2_opn_G at h
  have l0 : mLk (lv_args 0 [.ref 13]) 0 = some (.ref 13) := rfl
  generalize lv_args 0 [.ref 13] = Nl at l0 ⊢
  refine dq_aload e_14_0 l0 ?_
  refine dq_dup e_14_1 rfl ?_
  refine dq_getI (key := 26627) e_14_2 hS ac_13_2_3_0 (by omega) ?_
  refine dq_iconst e_14_5 ?_
  refine dq_iadd (e := dW ((dG N 26627) + 1)) e_14_6 rfl ?_
  have S1 := dS_P (v := dW ((dG N 26627) + 1)) hS ac_13_2_3_0 (show 13 * 2048 + 3 = 26627 by omega)
  refine dq_put (key := 26627) e_14_7 hS ac_13_2_3_0 rfl (by omega) ?_
  cases h
  exact dq_retv e_14_10 rfl S1
noncomputable def fX2_put_Gc0 (N : mMem) (x2 : Int) : Option dZ := (if 0 < dG N 26627 then dgd ((0 : Int) ≤ dW ((dG N 26627) - 1) ∧ (0 : Int) < 60) <| dgd (0 ≤ (dW ((dG N 26627) - 1)) % 60 ∧ (dW ((dG N 26627) - 1)) % 60 < 60) <| some (dP N (30720 + ((dW ((dG N 26627) - 1)) % 60).toNat) x2, 0) else some (N, 0))
theorem qX2_put_Gc0 {N : mMem} {x2 : Int} {z : dZ} (hS : dS N) (rx2 : dR x2) (h : fX2_put_Gc0 N x2 = some z) : dQ xs Ln 0 0 0 15 (0, lv_args 0 [.ref 13, .int (dI 0), .int (dI x2)], [], N) z := by
  unfold fX2_put_Gc0 at h
  have l0 : mLk (lv_args 0 [.ref 13, .int (dI 0), .int (dI x2)]) 0 = some (.ref 13) := rfl
  have l1 : mLk (lv_args 0 [.ref 13, .int (dI 0), .int (dI x2)]) 1 = some (.int (dI 0)) := rfl
  have l2 : mLk (lv_args 0 [.ref 13, .int (dI 0), .int (dI x2)]) 2 = some (.int (dI x2)) := rfl
  generalize lv_args 0 [.ref 13, .int (dI 0), .int (dI x2)] = Nl at l0 l1 l2 ⊢
  refine dq_aload e_15_0 l0 ?_
  refine dq_getI (key := 26627) e_15_1 hS ac_13_2_3_0 (by omega) ?_
  by_cases c1 : 0 < dG N 26627
  · rw [if_pos c1] at h
    refine dq_ifF e_15_4 (dG_R _ _) (dnf c1) ?_
    refine dq_aload e_15_7 l0 ?_
    refine dq_getC (e := 60) e_15_8 hS ac_13_2_0_1 rfl ?_
    refine dq_ifF e_15_11 (⟨by decide, by decide⟩) (by decide +kernel) ?_
    refine dq_iload e_15_14 l1 ?_
    refine dq_ifF e_15_15 (⟨by decide, by decide⟩) (by decide +kernel) ?_
    refine dq_iload e_15_18 l1 ?_
    refine dq_aload e_15_19 l0 ?_
    refine dq_getC (e := 4) e_15_20 hS ac_13_2_1_1 rfl ?_
    refine dq_icF e_15_23 (⟨by decide, by decide⟩) (⟨by decide, by decide⟩) (by decide +kernel) ?_
    refine dq_aload e_15_26 l0 ?_
    refine dq_getR e_15_27 hS ac_13_2_2_2 ?_
    refine dq_iload e_15_30 l1 ?_
    refine dq_aal (n := 0) e_15_31 hS ⟨by decide, by decide⟩ (by decide) rfl ac_14_101_0_2 rfl ?_
    refine dq_aload e_15_32 l0 ?_
    refine dq_getI (key := 26627) e_15_33 hS ac_13_2_3_0 (by omega) ?_
    refine dq_iconst e_15_36 ?_
    refine dq_isub (e := dW ((dG N 26627) - 1)) e_15_37 rfl ?_
    refine dq_aload e_15_38 l0 ?_
    refine dq_getC (e := 60) e_15_39 hS ac_13_2_0_1 rfl ?_
    obtain ⟨⟨g2, g3⟩, h⟩ := dgd_inv h
    have r4 : dR ((dW ((dG N 26627) - 1)) % 60) := ⟨by have := Int.emod_nonneg (dW ((dG N 26627) - 1)) (show 60 ≠ (0 : Int) by omega); omega, by have := Int.emod_lt_of_pos (dW ((dG N 26627) - 1)) g3; have := (show dR 60 from ⟨by decide, by decide⟩).2; omega⟩
    refine dq_irem e_15_42 (dW_R _) (⟨by decide, by decide⟩) g2 g3 rfl ?_
    refine dq_iload e_15_43 l2 ?_
    obtain ⟨g5, h⟩ := dgd_inv h
    have S6 := dS_A (v := x2) (k := ((dW ((dG N 26627) - 1)) % 60 : Int).toNat) (key := (30720 + ((dW ((dG N 26627) - 1)) % 60).toNat)) hS aa_15 (by have := g5.1; have := g5.2; omega) (by omega)
    refine dq_ias (key := (30720 + ((dW ((dG N 26627) - 1)) % 60).toNat)) e_15_44 hS aa_15 r4 g5.1 g5.2 (by omega) ?_
    cases h
    exact dq_retv e_15_45 rfl S6
  · rw [if_neg c1] at h
    refine dq_ifT e_15_4 (dG_R _ _) (dnt c1) ?_
    cases h
    exact dq_retv e_15_45 rfl hS
noncomputable def fX2_put_Gc1 (N : mMem) (x2 : Int) : Option dZ := (if 0 < dG N 26627 then dgd ((0 : Int) ≤ dW ((dG N 26627) - 1) ∧ (0 : Int) < 60) <| dgd (0 ≤ (dW ((dG N 26627) - 1)) % 60 ∧ (dW ((dG N 26627) - 1)) % 60 < 60) <| some (dP N (32768 + ((dW ((dG N 26627) - 1)) % 60).toNat) x2, 0) else some (N, 0))
theorem qX2_put_Gc1 {N : mMem} {x2 : Int} {z : dZ} (hS : dS N) (rx2 : dR x2) (h : fX2_put_Gc1 N x2 = some z) : dQ xs Ln 0 0 0 15 (0, lv_args 0 [.ref 13, .int (dI 1), .int (dI x2)], [], N) z := by
  unfold fX2_put_Gc1 at h
  have l0 : mLk (lv_args 0 [.ref 13, .int (dI 1), .int (dI x2)]) 0 = some (.ref 13) := rfl
  have l1 : mLk (lv_args 0 [.ref 13, .int (dI 1), .int (dI x2)]) 1 = some (.int (dI 1)) := rfl
  have l2 : mLk (lv_args 0 [.ref 13, .int (dI 1), .int (dI x2)]) 2 = some (.int (dI x2)) := rfl
  generalize lv_args 0 [.ref 13, .int (dI 1), .int (dI x2)] = Nl at l0 l1 l2 ⊢
  refine dq_aload e_15_0 l0 ?_
  refine dq_getI (key := 26627) e_15_1 hS ac_13_2_3_0 (by omega) ?_
  by_cases c1 : 0 < dG N 26627
  · rw [if_pos c1] at h
    refine dq_ifF e_15_4 (dG_R _ _) (dnf c1) ?_
    refine dq_aload e_15_7 l0 ?_
    refine dq_getC (e := 60) e_15_8 hS ac_13_2_0_1 rfl ?_
    refine dq_ifF e_15_11 (⟨by decide, by decide⟩) (by decide +kernel) ?_
    refine dq_iload e_15_14 l1 ?_
    refine dq_ifF e_15_15 (⟨by decide, by decide⟩) (by decide +kernel) ?_
    refine dq_iload e_15_18 l1 ?_
    refine dq_aload e_15_19 l0 ?_
    refine dq_getC (e := 4) e_15_20 hS ac_13_2_1_1 rfl ?_
    refine dq_icF e_15_23 (⟨by decide, by decide⟩) (⟨by decide, by decide⟩) (by decide +kernel) ?_
    refine dq_aload e_15_26 l0 ?_
    refine dq_getR e_15_27 hS ac_13_2_2_2 ?_
    refine dq_iload e_15_30 l1 ?_
    refine dq_aal (n := 1) e_15_31 hS ⟨by decide, by decide⟩ (by decide) rfl ac_14_101_1_2 rfl ?_
    refine dq_aload e_15_32 l0 ?_
    refine dq_getI (key := 26627) e_15_33 hS ac_13_2_3_0 (by omega) ?_
    refine dq_iconst e_15_36 ?_
    refine dq_isub (e := dW ((dG N 26627) - 1)) e_15_37 rfl ?_
    refine dq_aload e_15_38 l0 ?_
    refine dq_getC (e := 60) e_15_39 hS ac_13_2_0_1 rfl ?_
    obtain ⟨⟨g2, g3⟩, h⟩ := dgd_inv h
    have r4 : dR ((dW ((dG N 26627) - 1)) % 60) := ⟨by have := Int.emod_nonneg (dW ((dG N 26627) - 1)) (show 60 ≠ (0 : Int) by omega); omega, by have := Int.emod_lt_of_pos (dW ((dG N 26627) - 1)) g3; have := (show dR 60 from ⟨by decide, by decide⟩).2; omega⟩
    refine dq_irem e_15_42 (dW_R _) (⟨by decide, by decide⟩) g2 g3 rfl ?_
    refine dq_iload e_15_43 l2 ?_
    obtain ⟨g5, h⟩ := dgd_inv h
    have S6 := dS_A (v := x2) (k := ((dW ((dG N 26627) - 1)) % 60 : Int).toNat) (key := (32768 + ((dW ((dG N 26627) - 1)) % 60).toNat)) hS aa_16 (by have := g5.1; have := g5.2; omega) (by omega)
    refine dq_ias (key := (32768 + ((dW ((dG N 26627) - 1)) % 60).toNat)) e_15_44 hS aa_16 r4 g5.1 g5.2 (by omega) ?_
    cases h
    exact dq_retv e_15_45 rfl S6
  · rw [if_neg c1] at h
    refine dq_ifT e_15_4 (dG_R _ _) (dnt c1) ?_
    cases h
    exact dq_retv e_15_45 rfl hS
noncomputable def fX2_put_Gc2 (N : mMem) (x2 : Int) : Option dZ := (if 0 < dG N 26627 then dgd ((0 : Int) ≤ dW ((dG N 26627) - 1) ∧ (0 : Int) < 60) <| dgd (0 ≤ (dW ((dG N 26627) - 1)) % 60 ∧ (dW ((dG N 26627) - 1)) % 60 < 60) <| some (dP N (34816 + ((dW ((dG N 26627) - 1)) % 60).toNat) x2, 0) else some (N, 0))
theorem qX2_put_Gc2 {N : mMem} {x2 : Int} {z : dZ} (hS : dS N) (rx2 : dR x2) (h : fX2_put_Gc2 N x2 = some z) : dQ xs Ln 0 0 0 15 (0, lv_args 0 [.ref 13, .int (dI 2), .int (dI x2)], [], N) z := by
  unfold fX2_put_Gc2 at h
  have l0 : mLk (lv_args 0 [.ref 13, .int (dI 2), .int (dI x2)]) 0 = some (.ref 13) := rfl
  have l1 : mLk (lv_args 0 [.ref 13, .int (dI 2), .int (dI x2)]) 1 = some (.int (dI 2)) := rfl
  have l2 : mLk (lv_args 0 [.ref 13, .int (dI 2), .int (dI x2)]) 2 = some (.int (dI x2)) := rfl
  generalize lv_args 0 [.ref 13, .int (dI 2), .int (dI x2)] = Nl at l0 l1 l2 ⊢
  refine dq_aload e_15_0 l0 ?_
  refine dq_getI (key := 26627) e_15_1 hS ac_13_2_3_0 (by omega) ?_
  by_cases c1 : 0 < dG N 26627
  · rw [if_pos c1] at h
    refine dq_ifF e_15_4 (dG_R _ _) (dnf c1) ?_
    refine dq_aload e_15_7 l0 ?_
    refine dq_getC (e := 60) e_15_8 hS ac_13_2_0_1 rfl ?_
    refine dq_ifF e_15_11 (⟨by decide, by decide⟩) (by decide +kernel) ?_
    refine dq_iload e_15_14 l1 ?_
    refine dq_ifF e_15_15 (⟨by decide, by decide⟩) (by decide +kernel) ?_
    refine dq_iload e_15_18 l1 ?_
    refine dq_aload e_15_19 l0 ?_
    refine dq_getC (e := 4) e_15_20 hS ac_13_2_1_1 rfl ?_
    refine dq_icF e_15_23 (⟨by decide, by decide⟩) (⟨by decide, by decide⟩) (by decide +kernel) ?_
    refine dq_aload e_15_26 l0 ?_
    refine dq_getR e_15_27 hS ac_13_2_2_2 ?_
    refine dq_iload e_15_30 l1 ?_
    refine dq_aal (n := 2) e_15_31 hS ⟨by decide, by decide⟩ (by decide) rfl ac_14_101_2_2 rfl ?_
    refine dq_aload e_15_32 l0 ?_
    refine dq_getI (key := 26627) e_15_33 hS ac_13_2_3_0 (by omega) ?_
    refine dq_iconst e_15_36 ?_
    refine dq_isub (e := dW ((dG N 26627) - 1)) e_15_37 rfl ?_
    refine dq_aload e_15_38 l0 ?_
    refine dq_getC (e := 60) e_15_39 hS ac_13_2_0_1 rfl ?_
    obtain ⟨⟨g2, g3⟩, h⟩ := dgd_inv h
    have r4 : dR ((dW ((dG N 26627) - 1)) % 60) := ⟨by have := Int.emod_nonneg (dW ((dG N 26627) - 1)) (show 60 ≠ (0 : Int) by omega); omega, by have := Int.emod_lt_of_pos (dW ((dG N 26627) - 1)) g3; have := (show dR 60 from ⟨by decide, by decide⟩).2; omega⟩
    refine dq_irem e_15_42 (dW_R _) (⟨by decide, by decide⟩) g2 g3 rfl ?_
    refine dq_iload e_15_43 l2 ?_
    obtain ⟨g5, h⟩ := dgd_inv h
    have S6 := dS_A (v := x2) (k := ((dW ((dG N 26627) - 1)) % 60 : Int).toNat) (key := (34816 + ((dW ((dG N 26627) - 1)) % 60).toNat)) hS aa_17 (by have := g5.1; have := g5.2; omega) (by omega)
    refine dq_ias (key := (34816 + ((dW ((dG N 26627) - 1)) % 60).toNat)) e_15_44 hS aa_17 r4 g5.1 g5.2 (by omega) ?_
    cases h
    exact dq_retv e_15_45 rfl S6
  · rw [if_neg c1] at h
    refine dq_ifT e_15_4 (dG_R _ _) (dnt c1) ?_
    cases h
    exact dq_retv e_15_45 rfl hS
noncomputable def fX2_put_Gc3 (N : mMem) (x2 : Int) : Option dZ := (if 0 < dG N 26627 then dgd ((0 : Int) ≤ dW ((dG N 26627) - 1) ∧ (0 : Int) < 60) <| dgd (0 ≤ (dW ((dG N 26627) - 1)) % 60 ∧ (dW ((dG N 26627) - 1)) % 60 < 60) <| some (dP N (36864 + ((dW ((dG N 26627) - 1)) % 60).toNat) x2, 0) else some (N, 0))
theorem qX2_put_Gc3 {N : mMem} {x2 : Int} {z : dZ} (hS : dS N) (rx2 : dR x2) (h : fX2_put_Gc3 N x2 = some z) : dQ xs Ln 0 0 0 15 (0, lv_args 0 [.ref 13, .int (dI 3), .int (dI x2)], [], N) z := by
  unfold fX2_put_Gc3 at h
  have l0 : mLk (lv_args 0 [.ref 13, .int (dI 3), .int (dI x2)]) 0 = some (.ref 13) := rfl
  have l1 : mLk (lv_args 0 [.ref 13, .int (dI 3), .int (dI x2)]) 1 = some (.int (dI 3)) := rfl
  have l2 : mLk (lv_args 0 [.ref 13, .int (dI 3), .int (dI x2)]) 2 = some (.int (dI x2)) := rfl
  generalize lv_args 0 [.ref 13, .int (dI 3), .int (dI x2)] = Nl at l0 l1 l2 ⊢
  refine dq_aload e_15_0 l0 ?_
  refine dq_getI (key := 26627) e_15_1 hS ac_13_2_3_0 (by omega) ?_
  by_cases c1 : 0 < dG N 26627
  · rw [if_pos c1] at h
    refine dq_ifF e_15_4 (dG_R _ _) (dnf c1) ?_
    refine dq_aload e_15_7 l0 ?_
    refine dq_getC (e := 60) e_15_8 hS ac_13_2_0_1 rfl ?_
    refine dq_ifF e_15_11 (⟨by decide, by decide⟩) (by decide +kernel) ?_
    refine dq_iload e_15_14 l1 ?_
    refine dq_ifF e_15_15 (⟨by decide, by decide⟩) (by decide +kernel) ?_
    refine dq_iload e_15_18 l1 ?_
    refine dq_aload e_15_19 l0 ?_
    refine dq_getC (e := 4) e_15_20 hS ac_13_2_1_1 rfl ?_
    refine dq_icF e_15_23 (⟨by decide, by decide⟩) (⟨by decide, by decide⟩) (by decide +kernel) ?_
    refine dq_aload e_15_26 l0 ?_
    refine dq_getR e_15_27 hS ac_13_2_2_2 ?_
    refine dq_iload e_15_30 l1 ?_
    refine dq_aal (n := 3) e_15_31 hS ⟨by decide, by decide⟩ (by decide) rfl ac_14_101_3_2 rfl ?_
    refine dq_aload e_15_32 l0 ?_
    refine dq_getI (key := 26627) e_15_33 hS ac_13_2_3_0 (by omega) ?_
    refine dq_iconst e_15_36 ?_
    refine dq_isub (e := dW ((dG N 26627) - 1)) e_15_37 rfl ?_
    refine dq_aload e_15_38 l0 ?_
    refine dq_getC (e := 60) e_15_39 hS ac_13_2_0_1 rfl ?_
    obtain ⟨⟨g2, g3⟩, h⟩ := dgd_inv h
    have r4 : dR ((dW ((dG N 26627) - 1)) % 60) := ⟨by have := Int.emod_nonneg (dW ((dG N 26627) - 1)) (show 60 ≠ (0 : Int) by omega); omega, by have := Int.emod_lt_of_pos (dW ((dG N 26627) - 1)) g3; have := (show dR 60 from ⟨by decide, by decide⟩).2; omega⟩
    refine dq_irem e_15_42 (dW_R _) (⟨by decide, by decide⟩) g2 g3 rfl ?_
    refine dq_iload e_15_43 l2 ?_
    obtain ⟨g5, h⟩ := dgd_inv h
    have S6 := dS_A (v := x2) (k := ((dW ((dG N 26627) - 1)) % 60 : Int).toNat) (key := (36864 + ((dW ((dG N 26627) - 1)) % 60).toNat)) hS aa_18 (by have := g5.1; have := g5.2; omega) (by omega)
    refine dq_ias (key := (36864 + ((dW ((dG N 26627) - 1)) % 60).toNat)) e_15_44 hS aa_18 r4 g5.1 g5.2 (by omega) ?_
    cases h
    exact dq_retv e_15_45 rfl S6
  · rw [if_neg c1] at h
    refine dq_ifT e_15_4 (dG_R _ _) (dnt c1) ?_
    cases h
    exact dq_retv e_15_45 rfl hS
noncomputable def fX3_note_Rc0 (N : mMem) (x2 : Int) (x3 : Int) : Option dZ := dbd (fX2_opn_G N) fun N1 v2 => dbd (fX2_put_Gc0 N1 (dG N1 2049)) fun N6 v7 => dbd (fX2_put_Gc1 N6 0) fun N11 v12 => dbd (fX2_put_Gc2 N11 x2) fun N16 v17 => dbd (fX2_put_Gc3 N16 x3) fun N21 v22 => some (N21, 0)
theorem qX3_note_Rc0 {N : mMem} {x2 : Int} {x3 : Int} {z : dZ} (hS : dS N) (rx2 : dR x2) (rx3 : dR x3) (h : fX3_note_Rc0 N x2 x3 = some z) : dQ xs Ln 0 1 22 35 (0, lv_args 0 [.ref 1, .int (dI 0), .int (dI x2), .int (dI x3)], [], N) z := by
  unfold fX3_note_Rc0 at h
  have l0 : mLk (lv_args 0 [.ref 1, .int (dI 0), .int (dI x2), .int (dI x3)]) 0 = some (.ref 1) := rfl
  have l1 : mLk (lv_args 0 [.ref 1, .int (dI 0), .int (dI x2), .int (dI x3)]) 1 = some (.int (dI 0)) := rfl
  have l2 : mLk (lv_args 0 [.ref 1, .int (dI 0), .int (dI x2), .int (dI x3)]) 2 = some (.int (dI x2)) := rfl
  have l3 : mLk (lv_args 0 [.ref 1, .int (dI 0), .int (dI x2), .int (dI x3)]) 3 = some (.int (dI x3)) := rfl
  generalize lv_args 0 [.ref 1, .int (dI 0), .int (dI x2), .int (dI x3)] = Nl at l0 l1 l2 l3 ⊢
  refine dq_aload e_35_0 l0 ?_
  refine dq_getR e_35_1 hS ac_1_3_8_2 ?_
  obtain ⟨N1, v2, c3, h⟩ := dbd_inv h
  have q4 := qX2_opn_G (xs := xs) (Ln := Ln) hS c3
  have S5 : dS N1 := q4.2.1
  refine dq_callv (as := []) (S := []) (nx := 7) e_35_4 rfl rfl rfl hS ak_13_2 rfl rfl rfl rfl q4 rfl ?_
  refine dq_aload e_35_7 l0 ?_
  refine dq_getR e_35_8 S5 ac_1_3_8_2 ?_
  refine dq_iconst e_35_11 ?_
  refine dq_aload e_35_12 l0 ?_
  refine dq_getI (key := 2049) e_35_13 S5 ac_1_3_1_0 (by omega) ?_
  obtain ⟨N6, v7, c8, h⟩ := dbd_inv h
  have q9 := qX2_put_Gc0 (xs := xs) (Ln := Ln) S5 (dG_R _ _) c8
  have S10 : dS N6 := q9.2.1
  refine dq_callv (as := [.int (dI 0), .int (dI (dG N1 2049))]) (S := []) (nx := 19) e_35_16 rfl rfl rfl S5 ak_13_2 rfl rfl rfl rfl q9 rfl ?_
  refine dq_aload e_35_19 l0 ?_
  refine dq_getR e_35_20 S10 ac_1_3_8_2 ?_
  refine dq_iconst e_35_23 ?_
  refine dq_iload e_35_24 l1 ?_
  obtain ⟨N11, v12, c13, h⟩ := dbd_inv h
  have q14 := qX2_put_Gc1 (xs := xs) (Ln := Ln) S10 (⟨by decide, by decide⟩) c13
  have S15 : dS N11 := q14.2.1
  refine dq_callv (as := [.int (dI 1), .int (dI 0)]) (S := []) (nx := 28) e_35_25 rfl rfl rfl S10 ak_13_2 rfl rfl rfl rfl q14 rfl ?_
  refine dq_aload e_35_28 l0 ?_
  refine dq_getR e_35_29 S15 ac_1_3_8_2 ?_
  refine dq_iconst e_35_32 ?_
  refine dq_iload e_35_33 l2 ?_
  obtain ⟨N16, v17, c18, h⟩ := dbd_inv h
  have q19 := qX2_put_Gc2 (xs := xs) (Ln := Ln) S15 rx2 c18
  have S20 : dS N16 := q19.2.1
  refine dq_callv (as := [.int (dI 2), .int (dI x2)]) (S := []) (nx := 37) e_35_34 rfl rfl rfl S15 ak_13_2 rfl rfl rfl rfl q19 rfl ?_
  refine dq_aload e_35_37 l0 ?_
  refine dq_getR e_35_38 S20 ac_1_3_8_2 ?_
  refine dq_iconst e_35_41 ?_
  refine dq_iload e_35_42 l3 ?_
  obtain ⟨N21, v22, c23, h⟩ := dbd_inv h
  have q24 := qX2_put_Gc3 (xs := xs) (Ln := Ln) S20 rx3 c23
  have S25 : dS N21 := q24.2.1
  refine dq_callv (as := [.int (dI 3), .int (dI x3)]) (S := []) (nx := 46) e_35_43 rfl rfl rfl S20 ak_13_2 rfl rfl rfl rfl q24 rfl ?_
  cases h
  exact dq_retv e_35_46 rfl S25
noncomputable def fX3_isCut_R (N : mMem) (x1 : Int) : Option dZ := (if dAnd (dG N 2051) (dShl 1 x1) = 0 then some (N, 0) else some (N, 1))
theorem qX3_isCut_R {N : mMem} {x1 : Int} {z : dZ} (hS : dS N) (rx1 : dR x1) (h : fX3_isCut_R N x1 = some z) : dQ xs Ln 1 0 0 21 (0, lv_args 0 [.ref 1, .int (dI x1)], [], N) z := by
  unfold fX3_isCut_R at h
  have l0 : mLk (lv_args 0 [.ref 1, .int (dI x1)]) 0 = some (.ref 1) := rfl
  have l1 : mLk (lv_args 0 [.ref 1, .int (dI x1)]) 1 = some (.int (dI x1)) := rfl
  generalize lv_args 0 [.ref 1, .int (dI x1)] = Nl at l0 l1 ⊢
  refine dq_aload e_21_0 l0 ?_
  refine dq_getI (key := 2051) e_21_1 hS ac_1_3_3_0 (by omega) ?_
  refine dq_iconst e_21_4 ?_
  refine dq_iload e_21_5 l1 ?_
  refine dq_ishl e_21_6 ?_
  refine dq_iand e_21_7 ?_
  by_cases c1 : dAnd (dG N 2051) (dShl 1 x1) = 0
  · rw [if_pos c1] at h
    refine dq_ifT e_21_8 (dAnd_R _ _) (decide_eq_true c1) ?_
    refine dq_iconst e_21_15 ?_
    cases h
    exact dq_reti (ty := .boolean) e_21_16 rfl (by decide +kernel) hS (⟨by decide, by decide⟩)
  · rw [if_neg c1] at h
    refine dq_ifF e_21_8 (dAnd_R _ _) (decide_eq_false c1) ?_
    refine dq_iconst e_21_11 ?_
    refine dq_goto e_21_12 ?_
    cases h
    exact dq_reti (ty := .boolean) e_21_16 rfl (by decide +kernel) hS (⟨by decide, by decide⟩)
noncomputable def fX4_isFull_P (N : mMem) : Option dZ := (if dG N 10243 < 100 then some (N, 0) else some (N, 1))
theorem qX4_isFull_P {N : mMem} {z : dZ} (hS : dS N) (h : fX4_isFull_P N = some z) : dQ xs Ln 1 0 0 58 (0, lv_args 0 [.ref 5], [], N) z := by
  unfold fX4_isFull_P at h
  have l0 : mLk (lv_args 0 [.ref 5]) 0 = some (.ref 5) := rfl
  generalize lv_args 0 [.ref 5] = Nl at l0 ⊢
  refine dq_aload e_58_0 l0 ?_
  refine dq_getI (key := 10243) e_58_1 hS ac_5_4_3_0 (by omega) ?_
  refine dq_aload e_58_4 l0 ?_
  refine dq_getC (e := 100) e_58_5 hS ac_5_4_0_1 rfl ?_
  by_cases c1 : dG N 10243 < 100
  · rw [if_pos c1] at h
    refine dq_icT e_58_8 (dG_R _ _) (⟨by decide, by decide⟩) (decide_eq_true c1) ?_
    refine dq_iconst e_58_15 ?_
    cases h
    exact dq_reti (ty := .boolean) e_58_16 rfl (by decide +kernel) hS (⟨by decide, by decide⟩)
  · rw [if_neg c1] at h
    refine dq_icF e_58_8 (dG_R _ _) (⟨by decide, by decide⟩) (decide_eq_false c1) ?_
    refine dq_iconst e_58_11 ?_
    refine dq_goto e_58_12 ?_
    cases h
    exact dq_reti (ty := .boolean) e_58_16 rfl (by decide +kernel) hS (⟨by decide, by decide⟩)
noncomputable def fX4_opn_P (N : mMem) : Option dZ := (if dG N 10243 < 100 then dlt (dP N 10243 (dW ((dG N 10243) + 1))) fun N3 => some (N3, dW ((dG N3 10243) - 1)) else some (N, (-1)))
theorem qX4_opn_P {N : mMem} {z : dZ} (hS : dS N) (h : fX4_opn_P N = some z) : dQ xs Ln 1 0 0 59 (0, lv_args 0 [.ref 5], [], N) z := by
  unfold fX4_opn_P at h
  have l0 : mLk (lv_args 0 [.ref 5]) 0 = some (.ref 5) := rfl
  generalize lv_args 0 [.ref 5] = Nl at l0 ⊢
  refine dq_aload e_59_0 l0 ?_
  refine dq_getI (key := 10243) e_59_1 hS ac_5_4_3_0 (by omega) ?_
  refine dq_aload e_59_4 l0 ?_
  refine dq_getC (e := 100) e_59_5 hS ac_5_4_0_1 rfl ?_
  by_cases c1 : dG N 10243 < 100
  · rw [if_pos c1] at h
    refine dq_icT e_59_8 (dG_R _ _) (⟨by decide, by decide⟩) (decide_eq_true c1) ?_
    refine dq_aload e_59_13 l0 ?_
    refine dq_dup e_59_14 rfl ?_
    refine dq_getI (key := 10243) e_59_15 hS ac_5_4_3_0 (by omega) ?_
    refine dq_iconst e_59_18 ?_
    refine dq_iadd (e := dW ((dG N 10243) + 1)) e_59_19 rfl ?_
    have S2 := dS_P (v := dW ((dG N 10243) + 1)) hS ac_5_4_3_0 (show 5 * 2048 + 3 = 10243 by omega)
    refine dq_put (key := 10243) e_59_20 hS ac_5_4_3_0 rfl (by omega) ?_
    refine dq_aload e_59_23 l0 ?_
    refine dq_let h S2 (fun N3 S4 h => ?_)
    refine dq_getI (key := 10243) e_59_24 S4 ac_5_4_3_0 (by omega) ?_
    refine dq_iconst e_59_27 ?_
    refine dq_isub (e := dW ((dG N3 10243) - 1)) e_59_28 rfl ?_
    cases h
    exact dq_reti (ty := .int) e_59_29 rfl rfl S4 (dW_R _)
  · rw [if_neg c1] at h
    refine dq_icF e_59_8 (dG_R _ _) (⟨by decide, by decide⟩) (decide_eq_false c1) ?_
    refine dq_iconst e_59_11 ?_
    cases h
    exact dq_reti (ty := .int) e_59_12 rfl rfl hS (⟨by decide, by decide⟩)
noncomputable def fX4_put_Pc0 (N : mMem) (x1 : Int) (x3 : Int) : Option dZ := (if x1 < 0 then some (N, 0) else (if x1 < dG N 10243 then dgd (0 ≤ x1 ∧ x1 < 100) <| some (dP N (14336 + (x1).toNat) x3, 0) else some (N, 0)))
theorem qX4_put_Pc0 {N : mMem} {x1 : Int} {x3 : Int} {z : dZ} (hS : dS N) (rx1 : dR x1) (rx3 : dR x3) (h : fX4_put_Pc0 N x1 x3 = some z) : dQ xs Ln 0 0 0 60 (0, lv_args 0 [.ref 5, .int (dI x1), .int (dI 0), .int (dI x3)], [], N) z := by
  unfold fX4_put_Pc0 at h
  have l0 : mLk (lv_args 0 [.ref 5, .int (dI x1), .int (dI 0), .int (dI x3)]) 0 = some (.ref 5) := rfl
  have l1 : mLk (lv_args 0 [.ref 5, .int (dI x1), .int (dI 0), .int (dI x3)]) 1 = some (.int (dI x1)) := rfl
  have l2 : mLk (lv_args 0 [.ref 5, .int (dI x1), .int (dI 0), .int (dI x3)]) 2 = some (.int (dI 0)) := rfl
  have l3 : mLk (lv_args 0 [.ref 5, .int (dI x1), .int (dI 0), .int (dI x3)]) 3 = some (.int (dI x3)) := rfl
  generalize lv_args 0 [.ref 5, .int (dI x1), .int (dI 0), .int (dI x3)] = Nl at l0 l1 l2 l3 ⊢
  refine dq_iload e_60_0 l1 ?_
  by_cases c1 : x1 < 0
  · rw [if_pos c1] at h
    refine dq_ifT e_60_1 rx1 (decide_eq_true c1) ?_
    cases h
    exact dq_retv e_60_33 rfl hS
  · rw [if_neg c1] at h
    refine dq_ifF e_60_1 rx1 (decide_eq_false c1) ?_
    refine dq_iload e_60_4 l1 ?_
    refine dq_aload e_60_5 l0 ?_
    refine dq_getI (key := 10243) e_60_6 hS ac_5_4_3_0 (by omega) ?_
    by_cases c2 : x1 < dG N 10243
    · rw [if_pos c2] at h
      refine dq_icF e_60_9 rx1 (dG_R _ _) (dnf c2) ?_
      refine dq_iload e_60_12 l2 ?_
      refine dq_ifF e_60_13 (⟨by decide, by decide⟩) (by decide +kernel) ?_
      refine dq_iload e_60_16 l2 ?_
      refine dq_aload e_60_17 l0 ?_
      refine dq_getC (e := 6) e_60_18 hS ac_5_4_1_1 rfl ?_
      refine dq_icF e_60_21 (⟨by decide, by decide⟩) (⟨by decide, by decide⟩) (by decide +kernel) ?_
      refine dq_aload e_60_24 l0 ?_
      refine dq_getR e_60_25 hS ac_5_4_2_2 ?_
      refine dq_iload e_60_28 l2 ?_
      refine dq_aal (n := 0) e_60_29 hS ⟨by decide, by decide⟩ (by decide) rfl ac_6_101_0_2 rfl ?_
      refine dq_iload e_60_30 l1 ?_
      refine dq_iload e_60_31 l3 ?_
      obtain ⟨g3, h⟩ := dgd_inv h
      have S4 := dS_A (v := x3) (k := (x1 : Int).toNat) (key := (14336 + (x1).toNat)) hS aa_7 (by have := g3.1; have := g3.2; omega) (by omega)
      refine dq_ias (key := (14336 + (x1).toNat)) e_60_32 hS aa_7 rx1 g3.1 g3.2 (by omega) ?_
      cases h
      exact dq_retv e_60_33 rfl S4
    · rw [if_neg c2] at h
      refine dq_icT e_60_9 rx1 (dG_R _ _) (dnt c2) ?_
      cases h
      exact dq_retv e_60_33 rfl hS
end DQG2

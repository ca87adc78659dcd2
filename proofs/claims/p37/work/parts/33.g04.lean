/-! ===== functions over memory, and that the bodies run so; written by wip/dc ===== -/
section DQG4
variable {xs : Nat → Int32} {Ln : Nat}
noncomputable def fX4_remove_P_b15_2 (N : mMem) (x1 : Int) : Option dZ := dgd ((0 : Int) ≤ dW (x1 + 1) ∧ (0 : Int) ≤ x1 ∧ (0 : Int) ≤ dW ((dW ((dG N 10243) - 1)) - x1) ∧ dW (x1 + 1) + dW ((dW ((dG N 10243) - 1)) - x1) ≤ 100 ∧ x1 + dW ((dW ((dG N 10243) - 1)) - x1) ≤ 100) <| fX4_remove_P_b15_3 (dCp N 8 (dW (x1 + 1)).toNat 8 (x1).toNat (dW ((dW ((dG N 10243) - 1)) - x1)).toNat) x1
theorem qX4_remove_P_b15_2 {Nl : List (Nat × Value)} {N : mMem} {x1 : Int} {z : dZ} (hS : dS N) (rx1 : dR x1) (l0 : mLk Nl 0 = some (.ref 5)) (l1 : mLk Nl 1 = some (.int (dI x1))) (l2 : mLk Nl 2 = some (.int (dI 1))) (h : fX4_remove_P_b15_2 N x1 = some z) : dQ xs Ln 0 1 18 62 (15, Nl, [], N) z := by
  unfold fX4_remove_P_b15_2 at h
  refine dq_iload e_62_15 l2 ?_
  refine dq_aload e_62_16 l0 ?_
  refine dq_getC (e := 6) e_62_17 hS ac_5_4_1_1 rfl ?_
  refine dq_icF e_62_20 (⟨by decide, by decide⟩) (⟨by decide, by decide⟩) (by decide +kernel) ?_
  refine dq_aload e_62_23 l0 ?_
  refine dq_getR e_62_24 hS ac_5_4_2_2 ?_
  refine dq_iload e_62_27 l2 ?_
  refine dq_aal (n := 1) e_62_28 hS ⟨by decide, by decide⟩ (by decide) rfl ac_6_101_1_2 rfl ?_
  refine dq_iload e_62_29 l1 ?_
  refine dq_iconst e_62_30 ?_
  refine dq_iadd (e := dW (x1 + 1)) e_62_31 rfl ?_
  refine dq_aload e_62_32 l0 ?_
  refine dq_getR e_62_33 hS ac_5_4_2_2 ?_
  refine dq_iload e_62_36 l2 ?_
  refine dq_aal (n := 1) e_62_37 hS ⟨by decide, by decide⟩ (by decide) rfl ac_6_101_1_2 rfl ?_
  refine dq_iload e_62_38 l1 ?_
  refine dq_aload e_62_39 l0 ?_
  refine dq_getI (key := 10243) e_62_40 hS ac_5_4_3_0 (by omega) ?_
  refine dq_iconst e_62_43 ?_
  refine dq_isub (e := dW ((dG N 10243) - 1)) e_62_44 rfl ?_
  refine dq_iload e_62_45 l1 ?_
  refine dq_isub (e := dW ((dW ((dG N 10243) - 1)) - x1)) e_62_46 rfl ?_
  obtain ⟨g15, h⟩ := dgd_inv h
  have S16 : dS (dCp N 8 (dW (x1 + 1)).toNat 8 (x1).toNat (dW ((dW ((dG N 10243) - 1)) - x1)).toNat) := dS_cp hS aa_8 (by omega)
  refine dq_acp e_62_47 hS aa_8 aa_8 rfl rfl (dW_R _) rx1 (dW_R _) g15.1 g15.2.1 g15.2.2.1 g15.2.2.2.1 g15.2.2.2.2 ?_
  refine dq_iinc (x := 1) (e := 2) e_62_50 l2 rfl (by decide +kernel) (fun K17 m18 mm19 => ?_)
  have m20 := mm19 0 _ (by decide) rfl l0
  have m21 := mm19 1 _ (by decide) rfl l1
  refine dq_goto e_62_53 ?_
  exact qX4_remove_P_b15_3 S16 rx1 m20 m21 m18 h
noncomputable def fX4_remove_P_b15 (N : mMem) (x1 : Int) : Option dZ := dgd ((0 : Int) ≤ dW (x1 + 1) ∧ (0 : Int) ≤ x1 ∧ (0 : Int) ≤ dW ((dW ((dG N 10243) - 1)) - x1) ∧ dW (x1 + 1) + dW ((dW ((dG N 10243) - 1)) - x1) ≤ 100 ∧ x1 + dW ((dW ((dG N 10243) - 1)) - x1) ≤ 100) <| fX4_remove_P_b15_2 (dCp N 7 (dW (x1 + 1)).toNat 7 (x1).toNat (dW ((dW ((dG N 10243) - 1)) - x1)).toNat) x1
theorem qX4_remove_P_b15 {Nl : List (Nat × Value)} {N : mMem} {x1 : Int} {z : dZ} (hS : dS N) (rx1 : dR x1) (l0 : mLk Nl 0 = some (.ref 5)) (l1 : mLk Nl 1 = some (.int (dI x1))) (l2 : mLk Nl 2 = some (.int (dI 0))) (h : fX4_remove_P_b15 N x1 = some z) : dQ xs Ln 0 1 18 62 (15, Nl, [], N) z := by
  unfold fX4_remove_P_b15 at h
  refine dq_iload e_62_15 l2 ?_
  refine dq_aload e_62_16 l0 ?_
  refine dq_getC (e := 6) e_62_17 hS ac_5_4_1_1 rfl ?_
  refine dq_icF e_62_20 (⟨by decide, by decide⟩) (⟨by decide, by decide⟩) (by decide +kernel) ?_
  refine dq_aload e_62_23 l0 ?_
  refine dq_getR e_62_24 hS ac_5_4_2_2 ?_
  refine dq_iload e_62_27 l2 ?_
  refine dq_aal (n := 0) e_62_28 hS ⟨by decide, by decide⟩ (by decide) rfl ac_6_101_0_2 rfl ?_
  refine dq_iload e_62_29 l1 ?_
  refine dq_iconst e_62_30 ?_
  refine dq_iadd (e := dW (x1 + 1)) e_62_31 rfl ?_
  refine dq_aload e_62_32 l0 ?_
  refine dq_getR e_62_33 hS ac_5_4_2_2 ?_
  refine dq_iload e_62_36 l2 ?_
  refine dq_aal (n := 0) e_62_37 hS ⟨by decide, by decide⟩ (by decide) rfl ac_6_101_0_2 rfl ?_
  refine dq_iload e_62_38 l1 ?_
  refine dq_aload e_62_39 l0 ?_
  refine dq_getI (key := 10243) e_62_40 hS ac_5_4_3_0 (by omega) ?_
  refine dq_iconst e_62_43 ?_
  refine dq_isub (e := dW ((dG N 10243) - 1)) e_62_44 rfl ?_
  refine dq_iload e_62_45 l1 ?_
  refine dq_isub (e := dW ((dW ((dG N 10243) - 1)) - x1)) e_62_46 rfl ?_
  obtain ⟨g8, h⟩ := dgd_inv h
  have S9 : dS (dCp N 7 (dW (x1 + 1)).toNat 7 (x1).toNat (dW ((dW ((dG N 10243) - 1)) - x1)).toNat) := dS_cp hS aa_7 (by omega)
  refine dq_acp e_62_47 hS aa_7 aa_7 rfl rfl (dW_R _) rx1 (dW_R _) g8.1 g8.2.1 g8.2.2.1 g8.2.2.2.1 g8.2.2.2.2 ?_
  refine dq_iinc (x := 0) (e := 1) e_62_50 l2 rfl (by decide +kernel) (fun K10 m11 mm12 => ?_)
  have m13 := mm12 0 _ (by decide) rfl l0
  have m14 := mm12 1 _ (by decide) rfl l1
  refine dq_goto e_62_53 ?_
  exact qX4_remove_P_b15_2 S9 rx1 m13 m14 m11 h
noncomputable def fX4_remove_P (N : mMem) (x1 : Int) : Option dZ := (if x1 < 0 then some (N, 0) else (if x1 < dG N 10243 then fX4_remove_P_b15 N x1 else some (N, 0)))
theorem qX4_remove_P {N : mMem} {x1 : Int} {z : dZ} (hS : dS N) (rx1 : dR x1) (h : fX4_remove_P N x1 = some z) : dQ xs Ln 0 1 18 62 (0, lv_args 0 [.ref 5, .int (dI x1)], [], N) z := by
  unfold fX4_remove_P at h
  have l0 : mLk (lv_args 0 [.ref 5, .int (dI x1)]) 0 = some (.ref 5) := rfl
  have l1 : mLk (lv_args 0 [.ref 5, .int (dI x1)]) 1 = some (.int (dI x1)) := rfl
  generalize lv_args 0 [.ref 5, .int (dI x1)] = Nl at l0 l1 ⊢
  refine dq_iload e_62_0 l1 ?_
  by_cases c1 : x1 < 0
  · rw [if_pos c1] at h
    refine dq_ifT e_62_1 rx1 (decide_eq_true c1) ?_
    cases h
    exact dq_retv e_62_12 rfl hS
  · rw [if_neg c1] at h
    refine dq_ifF e_62_1 rx1 (decide_eq_false c1) ?_
    refine dq_iload e_62_4 l1 ?_
    refine dq_aload e_62_5 l0 ?_
    refine dq_getI (key := 10243) e_62_6 hS ac_5_4_3_0 (by omega) ?_
    by_cases c2 : x1 < dG N 10243
    · rw [if_pos c2] at h
      refine dq_icT e_62_9 rx1 (dG_R _ _) (decide_eq_true c2) ?_
      refine dq_iconst e_62_13 ?_
      refine dq_istore e_62_14 rfl (fun K3 m4 mm5 => ?_)
      have m6 := mm5 0 _ (by decide) rfl l0
      have m7 := mm5 1 _ (by decide) rfl l1
      exact qX4_remove_P_b15 hS rx1 m6 m7 m4 h
    · rw [if_neg c2] at h
      refine dq_icF e_62_9 rx1 (dG_R _ _) (decide_eq_false c2) ?_
      cases h
      exact dq_retv e_62_12 rfl hS
noncomputable def fX3_after_R (N : mMem) (x1 : Int) : Option dZ := (if dW (x1 + 1) < dG N 2048 then some (N, dW (x1 + 1)) else some (N, 0))
theorem qX3_after_R {N : mMem} {x1 : Int} {z : dZ} (hS : dS N) (rx1 : dR x1) (h : fX3_after_R N x1 = some z) : dQ xs Ln 1 0 0 19 (0, lv_args 0 [.ref 1, .int (dI x1)], [], N) z := by
  unfold fX3_after_R at h
  have l0 : mLk (lv_args 0 [.ref 1, .int (dI x1)]) 0 = some (.ref 1) := rfl
  have l1 : mLk (lv_args 0 [.ref 1, .int (dI x1)]) 1 = some (.int (dI x1)) := rfl
  generalize lv_args 0 [.ref 1, .int (dI x1)] = Nl at l0 l1 ⊢
  refine dq_iload e_19_0 l1 ?_
  refine dq_iconst e_19_1 ?_
  refine dq_iadd (e := dW (x1 + 1)) e_19_2 rfl ?_
  refine dq_aload e_19_3 l0 ?_
  refine dq_getI (key := 2048) e_19_4 hS ac_1_3_0_0 (by omega) ?_
  by_cases c1 : dW (x1 + 1) < dG N 2048
  · rw [if_pos c1] at h
    refine dq_icF e_19_7 (dW_R _) (dG_R _ _) (dnf c1) ?_
    refine dq_iload e_19_10 l1 ?_
    refine dq_iconst e_19_11 ?_
    refine dq_iadd (e := dW (x1 + 1)) e_19_12 rfl ?_
    refine dq_goto e_19_13 ?_
    cases h
    exact dq_reti (ty := .int) e_19_17 rfl rfl hS (dW_R _)
  · rw [if_neg c1] at h
    refine dq_icT e_19_7 (dW_R _) (dG_R _ _) (dnt c1) ?_
    refine dq_iconst e_19_16 ?_
    cases h
    exact dq_reti (ty := .int) e_19_17 rfl rfl hS (⟨by decide, by decide⟩)
noncomputable def fX0_isSame_CE_b37 (N : mMem) : Option dZ := some (N, 0)
theorem qX0_isSame_CE_b37 {Nl : List (Nat × Value)} {N : mMem} {z : dZ} (hS : dS N) (h : fX0_isSame_CE_b37 N = some z) : dQ xs Ln 1 0 0 3 (37, Nl, [], N) z := by
  unfold fX0_isSame_CE_b37 at h
  refine dq_iconst e_3_37 ?_
  cases h
  exact dq_reti (ty := .boolean) e_3_38 rfl (by decide +kernel) hS (⟨by decide, by decide⟩)
noncomputable def fX0_isSame_CE (N : mMem) (s : Nat) : Option dZ := (if dG N 55296 = dG N (61440 + 26624 * s) then (if dG N 55297 = dG N (61441 + 26624 * s) then (if dG N 55298 = dG N (61442 + 26624 * s) then some (N, 1) else fX0_isSame_CE_b37 N) else fX0_isSame_CE_b37 N) else fX0_isSame_CE_b37 N)
theorem qX0_isSame_CE {N : mMem} {s : Nat} {z : dZ} (hS : dS N) (hs : s < 8) (h : fX0_isSame_CE N s = some z) : dQ xs Ln 1 0 0 3 (0, lv_args 0 [.ref 27, .ref (30 + 13 * s)], [], N) z := by
  unfold fX0_isSame_CE at h
  have l0 : mLk (lv_args 0 [.ref 27, .ref (30 + 13 * s)]) 0 = some (.ref 27) := rfl
  have l1 : mLk (lv_args 0 [.ref 27, .ref (30 + 13 * s)]) 1 = some (.ref (30 + 13 * s)) := rfl
  generalize lv_args 0 [.ref 27, .ref (30 + 13 * s)] = Nl at l0 l1 ⊢
  refine dq_aload e_3_0 l0 ?_
  refine dq_getI (key := 55296) e_3_1 hS ac_27_0_0_0 (by omega) ?_
  refine dq_aload e_3_4 l1 ?_
  refine dq_getI (key := (61440 + 26624 * s)) e_3_5 hS (ac_30s_0_0_0 s hs) (by omega) ?_
  by_cases c1 : dG N 55296 = dG N (61440 + 26624 * s)
  · rw [if_pos c1] at h
    refine dq_icF e_3_8 (dG_R _ _) (dG_R _ _) (dnf c1) ?_
    refine dq_aload e_3_11 l0 ?_
    refine dq_getI (key := 55297) e_3_12 hS ac_27_0_1_0 (by omega) ?_
    refine dq_aload e_3_15 l1 ?_
    refine dq_getI (key := (61441 + 26624 * s)) e_3_16 hS (ac_30s_0_1_0 s hs) (by omega) ?_
    by_cases c2 : dG N 55297 = dG N (61441 + 26624 * s)
    · rw [if_pos c2] at h
      refine dq_icF e_3_19 (dG_R _ _) (dG_R _ _) (dnf c2) ?_
      refine dq_aload e_3_22 l0 ?_
      refine dq_getI (key := 55298) e_3_23 hS ac_27_0_2_0 (by omega) ?_
      refine dq_aload e_3_26 l1 ?_
      refine dq_getI (key := (61442 + 26624 * s)) e_3_27 hS (ac_30s_0_2_0 s hs) (by omega) ?_
      by_cases c3 : dG N 55298 = dG N (61442 + 26624 * s)
      · rw [if_pos c3] at h
        refine dq_icF e_3_30 (dG_R _ _) (dG_R _ _) (dnf c3) ?_
        refine dq_iconst e_3_33 ?_
        refine dq_goto e_3_34 ?_
        cases h
        exact dq_reti (ty := .boolean) e_3_38 rfl (by decide +kernel) hS (⟨by decide, by decide⟩)
      · rw [if_neg c3] at h
        refine dq_icT e_3_30 (dG_R _ _) (dG_R _ _) (dnt c3) ?_
        exact qX0_isSame_CE_b37 hS h
    · rw [if_neg c2] at h
      refine dq_icT e_3_19 (dG_R _ _) (dG_R _ _) (dnt c2) ?_
      exact qX0_isSame_CE_b37 hS h
  · rw [if_neg c1] at h
    refine dq_icT e_3_8 (dG_R _ _) (dG_R _ _) (dnt c1) ?_
    exact qX0_isSame_CE_b37 hS h
noncomputable def fX0_isBetter_CE_b33 (N : mMem) : Option dZ := some (N, 1)
theorem qX0_isBetter_CE_b33 {Nl : List (Nat × Value)} {N : mMem} {z : dZ} (hS : dS N) (h : fX0_isBetter_CE_b33 N = some z) : dQ xs Ln 1 0 0 4 (33, Nl, [], N) z := by
  unfold fX0_isBetter_CE_b33 at h
  refine dq_iconst e_4_33 ?_
  refine dq_goto e_4_34 ?_
  cases h
  exact dq_reti (ty := .boolean) e_4_38 rfl (by decide +kernel) hS (⟨by decide, by decide⟩)
noncomputable def fX0_isBetter_CE_b37 (N : mMem) : Option dZ := some (N, 0)
theorem qX0_isBetter_CE_b37 {Nl : List (Nat × Value)} {N : mMem} {z : dZ} (hS : dS N) (h : fX0_isBetter_CE_b37 N = some z) : dQ xs Ln 1 0 0 4 (37, Nl, [], N) z := by
  unfold fX0_isBetter_CE_b37 at h
  refine dq_iconst e_4_37 ?_
  cases h
  exact dq_reti (ty := .boolean) e_4_38 rfl (by decide +kernel) hS (⟨by decide, by decide⟩)
noncomputable def fX0_isBetter_CE (N : mMem) (s : Nat) : Option dZ := (if dG N 55296 < dG N (61440 + 26624 * s) then fX0_isBetter_CE_b33 N else (if dG N 55296 = dG N (61440 + 26624 * s) then (if dG N 55297 < dG N (61441 + 26624 * s) then fX0_isBetter_CE_b33 N else fX0_isBetter_CE_b37 N) else fX0_isBetter_CE_b37 N))
theorem qX0_isBetter_CE {N : mMem} {s : Nat} {z : dZ} (hS : dS N) (hs : s < 8) (h : fX0_isBetter_CE N s = some z) : dQ xs Ln 1 0 0 4 (0, lv_args 0 [.ref 27, .ref (30 + 13 * s)], [], N) z := by
  unfold fX0_isBetter_CE at h
  have l0 : mLk (lv_args 0 [.ref 27, .ref (30 + 13 * s)]) 0 = some (.ref 27) := rfl
  have l1 : mLk (lv_args 0 [.ref 27, .ref (30 + 13 * s)]) 1 = some (.ref (30 + 13 * s)) := rfl
  generalize lv_args 0 [.ref 27, .ref (30 + 13 * s)] = Nl at l0 l1 ⊢
  refine dq_aload e_4_0 l0 ?_
  refine dq_getI (key := 55296) e_4_1 hS ac_27_0_0_0 (by omega) ?_
  refine dq_aload e_4_4 l1 ?_
  refine dq_getI (key := (61440 + 26624 * s)) e_4_5 hS (ac_30s_0_0_0 s hs) (by omega) ?_
  by_cases c1 : dG N 55296 < dG N (61440 + 26624 * s)
  · rw [if_pos c1] at h
    refine dq_icT e_4_8 (dG_R _ _) (dG_R _ _) (decide_eq_true c1) ?_
    exact qX0_isBetter_CE_b33 hS h
  · rw [if_neg c1] at h
    refine dq_icF e_4_8 (dG_R _ _) (dG_R _ _) (decide_eq_false c1) ?_
    refine dq_aload e_4_11 l0 ?_
    refine dq_getI (key := 55296) e_4_12 hS ac_27_0_0_0 (by omega) ?_
    refine dq_aload e_4_15 l1 ?_
    refine dq_getI (key := (61440 + 26624 * s)) e_4_16 hS (ac_30s_0_0_0 s hs) (by omega) ?_
    by_cases c2 : dG N 55296 = dG N (61440 + 26624 * s)
    · rw [if_pos c2] at h
      refine dq_icF e_4_19 (dG_R _ _) (dG_R _ _) (dnf c2) ?_
      refine dq_aload e_4_22 l0 ?_
      refine dq_getI (key := 55297) e_4_23 hS ac_27_0_1_0 (by omega) ?_
      refine dq_aload e_4_26 l1 ?_
      refine dq_getI (key := (61441 + 26624 * s)) e_4_27 hS (ac_30s_0_1_0 s hs) (by omega) ?_
      by_cases c3 : dG N 55297 < dG N (61441 + 26624 * s)
      · rw [if_pos c3] at h
        refine dq_icF e_4_30 (dG_R _ _) (dG_R _ _) (dnf c3) ?_
        exact qX0_isBetter_CE_b33 hS h
      · rw [if_neg c3] at h
        refine dq_icT e_4_30 (dG_R _ _) (dG_R _ _) (dnt c3) ?_
        exact qX0_isBetter_CE_b37 hS h
    · rw [if_neg c2] at h
      refine dq_icT e_4_19 (dG_R _ _) (dG_R _ _) (dnt c2) ?_
      exact qX0_isBetter_CE_b37 hS h
noncomputable def fX0_become__EC (N : mMem) (s : Nat) : Option dZ := dlt (dP N (61440 + 26624 * s) (dG N 55296)) fun N2 => dlt (dP N2 (61441 + 26624 * s) (dG N2 55297)) fun N5 => some (dP N5 (61442 + 26624 * s) (dG N5 55298), 0)
theorem qX0_become__EC {N : mMem} {s : Nat} {z : dZ} (hS : dS N) (hs : s < 8) (h : fX0_become__EC N s = some z) : dQ xs Ln 0 0 0 2 (0, lv_args 0 [.ref (30 + 13 * s), .ref 27], [], N) z := by
  unfold fX0_become__EC at h
  have l0 : mLk (lv_args 0 [.ref (30 + 13 * s), .ref 27]) 0 = some (.ref (30 + 13 * s)) := rfl
  have l1 : mLk (lv_args 0 [.ref (30 + 13 * s), .ref 27]) 1 = some (.ref 27) := rfl
  generalize lv_args 0 [.ref (30 + 13 * s), .ref 27] = Nl at l0 l1 ⊢
  refine dq_aload e_2_0 l0 ?_
  refine dq_aload e_2_1 l1 ?_
  refine dq_getI (key := 55296) e_2_2 hS ac_27_0_0_0 (by omega) ?_
  have S1 := dS_P (v := dG N 55296) hS (ac_30s_0_0_0 s hs) (show (30 + 13 * s) * 2048 + 0 = (61440 + 26624 * s) by omega)
  refine dq_put (key := (61440 + 26624 * s)) e_2_5 hS (ac_30s_0_0_0 s hs) rfl (by omega) ?_
  refine dq_aload e_2_8 l0 ?_
  refine dq_aload e_2_9 l1 ?_
  refine dq_let h S1 (fun N2 S3 h => ?_)
  refine dq_getI (key := 55297) e_2_10 S3 ac_27_0_1_0 (by omega) ?_
  have S4 := dS_P (v := dG N2 55297) S3 (ac_30s_0_1_0 s hs) (show (30 + 13 * s) * 2048 + 1 = (61441 + 26624 * s) by omega)
  refine dq_put (key := (61441 + 26624 * s)) e_2_13 S3 (ac_30s_0_1_0 s hs) rfl (by omega) ?_
  refine dq_aload e_2_16 l0 ?_
  refine dq_aload e_2_17 l1 ?_
  refine dq_let h S4 (fun N5 S6 h => ?_)
  refine dq_getI (key := 55298) e_2_18 S6 ac_27_0_2_0 (by omega) ?_
  have S7 := dS_P (v := dG N5 55298) S6 (ac_30s_0_2_0 s hs) (show (30 + 13 * s) * 2048 + 2 = (61442 + 26624 * s) by omega)
  refine dq_put (key := (61442 + 26624 * s)) e_2_21 S6 (ac_30s_0_2_0 s hs) rfl (by omega) ?_
  cases h
  exact dq_retv e_2_24 rfl S7
noncomputable def fX3_send_RC_b114 (k : mMem → Int → Int → Int → Int → Option dZ) (N : mMem) (x1 : Int) (x2 : Int) (x4 : Int) (x5 : Int) : Option dZ := k N x1 x2 x4 (dW (x5 + 1))
theorem qX3_send_RC_b114 {k : mMem → Int → Int → Int → Int → Option dZ} (hk : ∀ {Nl : List (Nat × Value)} {N : mMem} {x1 : Int} {x2 : Int} {x4 : Int} {x5 : Int} {z : dZ}, dS N → dR x1 → dR x2 → dR x4 → dR x5 → mLk Nl 0 = some (.ref 1) → mLk Nl 1 = some (.int (dI x1)) → mLk Nl 2 = some (.int (dI x2)) → mLk Nl 3 = some (.ref 27) → mLk Nl 4 = some (.int (dI x4)) → mLk Nl 5 = some (.int (dI x5)) → k N x1 x2 x4 x5 = some z → dQ xs Ln 0 1 23 36 (55, Nl, [], N) z) {Nl : List (Nat × Value)} {N : mMem} {x1 : Int} {x2 : Int} {x4 : Int} {x5 : Int} {z : dZ} (hS : dS N) (rx1 : dR x1) (rx2 : dR x2) (rx4 : dR x4) (rx5 : dR x5) (l0 : mLk Nl 0 = some (.ref 1)) (l1 : mLk Nl 1 = some (.int (dI x1))) (l2 : mLk Nl 2 = some (.int (dI x2))) (l3 : mLk Nl 3 = some (.ref 27)) (l4 : mLk Nl 4 = some (.int (dI x4))) (l5 : mLk Nl 5 = some (.int (dI x5))) (h : fX3_send_RC_b114 k N x1 x2 x4 x5 = some z) : dQ xs Ln 0 1 23 36 (114, Nl, [], N) z := by
  unfold fX3_send_RC_b114 at h
  refine dq_iinc (x := x5) (e := dW (x5 + 1)) e_36_114 l5 rfl rfl (fun K48 m49 mm50 => ?_)
  have m51 := mm50 0 _ (by decide) rfl l0
  have m52 := mm50 1 _ (by decide) rfl l1
  have m53 := mm50 2 _ (by decide) rfl l2
  have m54 := mm50 3 _ (by decide) rfl l3
  have m55 := mm50 4 _ (by decide) rfl l4
  refine dq_goto e_36_117 ?_
  exact hk hS rx1 rx2 rx4 (dW_R _) m51 m52 m53 m54 m55 m49 h
noncomputable def fX3_send_RC_b55 : Nat → mMem → Int → Int → Int → Int → Option dZ
  | 0, _, _, _, _, _ => none
  | n + 1, N, x1, x2, x4, x5 => (if x5 < dG N 10243 then dgd (0 ≤ x5 ∧ x5 < 100) <| (if dG N (16384 + (x5).toNat) = x1 then dgd (0 ≤ x5 ∧ x5 < 100) <| (if x4 < dG N (18432 + (x5).toNat) then dgd (0 ≤ x5 ∧ x5 < 100) <| fX3_send_RC_b114 (fX3_send_RC_b55 n) N x1 x2 (dG N (18432 + (x5).toNat)) x5 else fX3_send_RC_b114 (fX3_send_RC_b55 n) N x1 x2 x4 x5) else fX3_send_RC_b114 (fX3_send_RC_b55 n) N x1 x2 x4 x5) else dbd (fX4_opn_P N) fun N56 v57 => dbd (fX4_put_Pc0 N56 v57 x2) fun N70 v71 => dbd (fX4_put_Pc1 N70 v57 x1) fun N75 v76 => dbd (fX4_put_Pc2 N75 v57 x4) fun N80 v81 => dbd (fX4_put_Pc3 N80 v57 (dG N80 55297)) fun N85 v86 => dbd (fX4_put_Pc4 N85 v57 (dG N85 55296)) fun N90 v91 => dbd (fX4_put_Pc5 N90 v57 (dG N90 55298)) fun N95 v96 => some (N95, 0))
theorem qX3_send_RC_b55 : ∀ (n : Nat) {Nl : List (Nat × Value)} {N : mMem} {x1 : Int} {x2 : Int} {x4 : Int} {x5 : Int} {z : dZ}, dS N → dR x1 → dR x2 → dR x4 → dR x5 → mLk Nl 0 = some (.ref 1) → mLk Nl 1 = some (.int (dI x1)) → mLk Nl 2 = some (.int (dI x2)) → mLk Nl 3 = some (.ref 27) → mLk Nl 4 = some (.int (dI x4)) → mLk Nl 5 = some (.int (dI x5)) → fX3_send_RC_b55 n N x1 x2 x4 x5 = some z → dQ xs Ln 0 1 23 36 (55, Nl, [], N) z := fun n => by
  induction n with
  | zero =>
    intro Nl N x1 x2 x4 x5 z hS rx1 rx2 rx4 rx5 l0 l1 l2 l3 l4 l5 h
    cases h
  | succ n ih =>
    intro Nl N x1 x2 x4 x5 z hS rx1 rx2 rx4 rx5 l0 l1 l2 l3 l4 l5 h
    rw [fX3_send_RC_b55] at h
    refine dq_iload e_36_55 l5 ?_
    refine dq_aload e_36_57 l0 ?_
    refine dq_getR e_36_58 hS ac_1_3_7_2 ?_
    refine dq_getI (key := 10243) e_36_61 hS ac_5_4_3_0 (by omega) ?_
    by_cases c34 : x5 < dG N 10243
    · rw [if_pos c34] at h
      refine dq_icF e_36_64 rx5 (dG_R _ _) (dnf c34) ?_
      refine dq_aload e_36_67 l0 ?_
      refine dq_getR e_36_68 hS ac_1_3_7_2 ?_
      refine dq_getR e_36_71 hS ac_5_4_2_2 ?_
      refine dq_iconst e_36_74 ?_
      refine dq_aal (n := 1) e_36_75 hS ⟨by decide, by decide⟩ (by decide) rfl ac_6_101_1_2 rfl ?_
      refine dq_iload e_36_76 l5 ?_
      obtain ⟨g35, h⟩ := dgd_inv h
      refine dq_ial (key := (16384 + (x5).toNat)) e_36_78 hS aa_8 rx5 g35.1 g35.2 (by omega) ?_
      refine dq_iload e_36_79 l1 ?_
      by_cases c36 : dG N (16384 + (x5).toNat) = x1
      · rw [if_pos c36] at h
        refine dq_icF e_36_80 (dG_R _ _) rx1 (dnf c36) ?_
        refine dq_aload e_36_83 l0 ?_
        refine dq_getR e_36_84 hS ac_1_3_7_2 ?_
        refine dq_getR e_36_87 hS ac_5_4_2_2 ?_
        refine dq_iconst e_36_90 ?_
        refine dq_aal (n := 2) e_36_91 hS ⟨by decide, by decide⟩ (by decide) rfl ac_6_101_2_2 rfl ?_
        refine dq_iload e_36_92 l5 ?_
        obtain ⟨g37, h⟩ := dgd_inv h
        refine dq_ial (key := (18432 + (x5).toNat)) e_36_94 hS aa_9 rx5 g37.1 g37.2 (by omega) ?_
        refine dq_iload e_36_95 l4 ?_
        by_cases c38 : x4 < dG N (18432 + (x5).toNat)
        · rw [if_pos c38] at h
          refine dq_icF e_36_97 (dG_R _ _) rx4 (dnf c38) ?_
          refine dq_aload e_36_100 l0 ?_
          refine dq_getR e_36_101 hS ac_1_3_7_2 ?_
          refine dq_getR e_36_104 hS ac_5_4_2_2 ?_
          refine dq_iconst e_36_107 ?_
          refine dq_aal (n := 2) e_36_108 hS ⟨by decide, by decide⟩ (by decide) rfl ac_6_101_2_2 rfl ?_
          refine dq_iload e_36_109 l5 ?_
          obtain ⟨g39, h⟩ := dgd_inv h
          refine dq_ial (key := (18432 + (x5).toNat)) e_36_111 hS aa_9 rx5 g39.1 g39.2 (by omega) ?_
          refine dq_istore e_36_112 rfl (fun K40 m41 mm42 => ?_)
          have m43 := mm42 0 _ (by decide) rfl l0
          have m44 := mm42 1 _ (by decide) rfl l1
          have m45 := mm42 2 _ (by decide) rfl l2
          have m46 := mm42 3 _ (by decide) rfl l3
          have m47 := mm42 5 _ (by decide) rfl l5
          exact qX3_send_RC_b114 ih hS rx1 rx2 (dG_R _ _) rx5 m43 m44 m45 m46 m41 m47 h
        · rw [if_neg c38] at h
          refine dq_icT e_36_97 (dG_R _ _) rx4 (dnt c38) ?_
          exact qX3_send_RC_b114 ih hS rx1 rx2 rx4 rx5 l0 l1 l2 l3 l4 l5 h
      · rw [if_neg c36] at h
        refine dq_icT e_36_80 (dG_R _ _) rx1 (dnt c36) ?_
        exact qX3_send_RC_b114 ih hS rx1 rx2 rx4 rx5 l0 l1 l2 l3 l4 l5 h
    · rw [if_neg c34] at h
      refine dq_icT e_36_64 rx5 (dG_R _ _) (dnt c34) ?_
      refine dq_aload e_36_120 l0 ?_
      refine dq_getR e_36_121 hS ac_1_3_7_2 ?_
      obtain ⟨N56, v57, c58, h⟩ := dbd_inv h
      have q59 := qX4_opn_P (xs := xs) (Ln := Ln) hS c58
      have S60 : dS N56 := q59.2.1
      refine dq_calli (as := []) (S := []) (nx := 127) e_36_124 rfl rfl rfl hS ak_5_4 rfl rfl rfl rfl q59 rfl ?_
      have r61 : dR v57 := q59.2.2
      refine dq_istore e_36_127 rfl (fun K62 m63 mm64 => ?_)
      have m65 := mm64 0 _ (by decide) rfl l0
      have m66 := mm64 1 _ (by decide) rfl l1
      have m67 := mm64 2 _ (by decide) rfl l2
      have m68 := mm64 3 _ (by decide) rfl l3
      have m69 := mm64 4 _ (by decide) rfl l4
      refine dq_aload e_36_129 m65 ?_
      refine dq_getR e_36_130 S60 ac_1_3_7_2 ?_
      refine dq_iload e_36_133 m63 ?_
      refine dq_iconst e_36_135 ?_
      refine dq_iload e_36_136 m67 ?_
      obtain ⟨N70, v71, c72, h⟩ := dbd_inv h
      have q73 := qX4_put_Pc0 (xs := xs) (Ln := Ln) S60 r61 rx2 c72
      have S74 : dS N70 := q73.2.1
      refine dq_callv (as := [.int (dI v57), .int (dI 0), .int (dI x2)]) (S := []) (nx := 140) e_36_137 rfl rfl rfl S60 ak_5_4 rfl rfl rfl rfl q73 rfl ?_
      refine dq_aload e_36_140 m65 ?_
      refine dq_getR e_36_141 S74 ac_1_3_7_2 ?_
      refine dq_iload e_36_144 m63 ?_
      refine dq_iconst e_36_146 ?_
      refine dq_iload e_36_147 m66 ?_
      obtain ⟨N75, v76, c77, h⟩ := dbd_inv h
      have q78 := qX4_put_Pc1 (xs := xs) (Ln := Ln) S74 r61 rx1 c77
      have S79 : dS N75 := q78.2.1
      refine dq_callv (as := [.int (dI v57), .int (dI 1), .int (dI x1)]) (S := []) (nx := 151) e_36_148 rfl rfl rfl S74 ak_5_4 rfl rfl rfl rfl q78 rfl ?_
      refine dq_aload e_36_151 m65 ?_
      refine dq_getR e_36_152 S79 ac_1_3_7_2 ?_
      refine dq_iload e_36_155 m63 ?_
      refine dq_iconst e_36_157 ?_
      refine dq_iload e_36_158 m69 ?_
      obtain ⟨N80, v81, c82, h⟩ := dbd_inv h
      have q83 := qX4_put_Pc2 (xs := xs) (Ln := Ln) S79 r61 rx4 c82
      have S84 : dS N80 := q83.2.1
      refine dq_callv (as := [.int (dI v57), .int (dI 2), .int (dI x4)]) (S := []) (nx := 163) e_36_160 rfl rfl rfl S79 ak_5_4 rfl rfl rfl rfl q83 rfl ?_
      refine dq_aload e_36_163 m65 ?_
      refine dq_getR e_36_164 S84 ac_1_3_7_2 ?_
      refine dq_iload e_36_167 m63 ?_
      refine dq_iconst e_36_169 ?_
      refine dq_aload e_36_170 m68 ?_
      refine dq_getI (key := 55297) e_36_171 S84 ac_27_0_1_0 (by omega) ?_
      obtain ⟨N85, v86, c87, h⟩ := dbd_inv h
      have q88 := qX4_put_Pc3 (xs := xs) (Ln := Ln) S84 r61 (dG_R _ _) c87
      have S89 : dS N85 := q88.2.1
      refine dq_callv (as := [.int (dI v57), .int (dI 3), .int (dI (dG N80 55297))]) (S := []) (nx := 177) e_36_174 rfl rfl rfl S84 ak_5_4 rfl rfl rfl rfl q88 rfl ?_
      refine dq_aload e_36_177 m65 ?_
      refine dq_getR e_36_178 S89 ac_1_3_7_2 ?_
      refine dq_iload e_36_181 m63 ?_
      refine dq_iconst e_36_183 ?_
      refine dq_aload e_36_184 m68 ?_
      refine dq_getI (key := 55296) e_36_185 S89 ac_27_0_0_0 (by omega) ?_
      obtain ⟨N90, v91, c92, h⟩ := dbd_inv h
      have q93 := qX4_put_Pc4 (xs := xs) (Ln := Ln) S89 r61 (dG_R _ _) c92
      have S94 : dS N90 := q93.2.1
      refine dq_callv (as := [.int (dI v57), .int (dI 4), .int (dI (dG N85 55296))]) (S := []) (nx := 191) e_36_188 rfl rfl rfl S89 ak_5_4 rfl rfl rfl rfl q93 rfl ?_
      refine dq_aload e_36_191 m65 ?_
      refine dq_getR e_36_192 S94 ac_1_3_7_2 ?_
      refine dq_iload e_36_195 m63 ?_
      refine dq_iconst e_36_197 ?_
      refine dq_aload e_36_198 m68 ?_
      refine dq_getI (key := 55298) e_36_199 S94 ac_27_0_2_0 (by omega) ?_
      obtain ⟨N95, v96, c97, h⟩ := dbd_inv h
      have q98 := qX4_put_Pc5 (xs := xs) (Ln := Ln) S94 r61 (dG_R _ _) c97
      have S99 : dS N95 := q98.2.1
      refine dq_callv (as := [.int (dI v57), .int (dI 5), .int (dI (dG N90 55298))]) (S := []) (nx := 205) e_36_202 rfl rfl rfl S94 ak_5_4 rfl rfl rfl rfl q98 rfl ?_
      cases h
      exact dq_retv e_36_205 rfl S99
noncomputable def fX3_send_RC (N : mMem) (x1 : Int) (x2 : Int) : Option dZ := dlt (dP N 53248 (dW ((dG N 53248) + 1))) fun N2 => dbd (fX3_isCut_R N2 x1) fun N4 v5 => (if v5 = 0 then dbd (fX4_isFull_P N4) fun N11 v12 => (if v12 = 0 then dgd (0 ≤ x1 ∧ x1 < 8) <| fX3_send_RC_b55 1000 N11 x1 x2 (dW ((dG N11 2049) + (dG N11 (6144 + (x1).toNat)))) 0 else none) else none)
theorem qX3_send_RC {N : mMem} {x1 : Int} {x2 : Int} {z : dZ} (hS : dS N) (rx1 : dR x1) (rx2 : dR x2) (h : fX3_send_RC N x1 x2 = some z) : dQ xs Ln 0 1 23 36 (0, lv_args 0 [.ref 1, .int (dI x1), .int (dI x2), .ref 27], [], N) z := by
  unfold fX3_send_RC at h
  have l0 : mLk (lv_args 0 [.ref 1, .int (dI x1), .int (dI x2), .ref 27]) 0 = some (.ref 1) := rfl
  have l1 : mLk (lv_args 0 [.ref 1, .int (dI x1), .int (dI x2), .ref 27]) 1 = some (.int (dI x1)) := rfl
  have l2 : mLk (lv_args 0 [.ref 1, .int (dI x1), .int (dI x2), .ref 27]) 2 = some (.int (dI x2)) := rfl
  have l3 : mLk (lv_args 0 [.ref 1, .int (dI x1), .int (dI x2), .ref 27]) 3 = some (.ref 27) := rfl
  generalize lv_args 0 [.ref 1, .int (dI x1), .int (dI x2), .ref 27] = Nl at l0 l1 l2 l3 ⊢
  refine dq_aload e_36_0 l0 ?_
  refine dq_getR e_36_1 hS ac_1_3_10_2 ?_
  refine dq_iconst e_36_4 ?_
  refine dq_dup2 e_36_5 rfl rfl ?_
  refine dq_ial (key := 53248) e_36_6 hS aa_26 (⟨by decide, by decide⟩) (by decide) (by decide) (by show 26 * 2048 + 0 = 53248; omega) ?_
  refine dq_iconst e_36_7 ?_
  refine dq_iadd (e := dW ((dG N 53248) + 1)) e_36_8 rfl ?_
  have S1 := dS_A (v := dW ((dG N 53248) + 1)) (k := (0 : Int).toNat) (key := 53248) hS aa_26 (by decide) (by show 26 * 2048 + 0 = 53248; omega)
  refine dq_ias (key := 53248) e_36_9 hS aa_26 (⟨by decide, by decide⟩) (by decide) (by decide) (by show 26 * 2048 + 0 = 53248; omega) ?_
  refine dq_aload e_36_10 l0 ?_
  refine dq_iload e_36_11 l1 ?_
  refine dq_let h S1 (fun N2 S3 h => ?_)
  obtain ⟨N4, v5, c6, h⟩ := dbd_inv h
  have q7 := qX3_isCut_R (xs := xs) (Ln := Ln) S3 rx1 c6
  have S8 : dS N4 := q7.2.1
  refine dq_calli (as := [.int (dI x1)]) (S := []) (nx := 15) e_36_12 rfl rfl rfl S3 ak_1_3 rfl rfl rfl rfl q7 rfl ?_
  have r9 : dR v5 := q7.2.2
  by_cases c10 : v5 = 0
  · rw [if_pos c10] at h
    refine dq_ifF e_36_15 r9 (dnf c10) ?_
    refine dq_aload e_36_18 l0 ?_
    refine dq_getR e_36_19 S8 ac_1_3_7_2 ?_
    obtain ⟨N11, v12, c13, h⟩ := dbd_inv h
    have q14 := qX4_isFull_P (xs := xs) (Ln := Ln) S8 c13
    have S15 : dS N11 := q14.2.1
    refine dq_calli (as := []) (S := []) (nx := 25) e_36_22 rfl rfl rfl S8 ak_5_4 rfl rfl rfl rfl q14 rfl ?_
    have r16 : dR v12 := q14.2.2
    by_cases c17 : v12 = 0
    · rw [if_pos c17] at h
      refine dq_ifT e_36_25 r16 (decide_eq_true c17) ?_
      refine dq_aload e_36_39 l0 ?_
      refine dq_getI (key := 2049) e_36_40 S15 ac_1_3_1_0 (by omega) ?_
      refine dq_aload e_36_43 l0 ?_
      refine dq_getR e_36_44 S15 ac_1_3_5_2 ?_
      refine dq_iload e_36_47 l1 ?_
      obtain ⟨g18, h⟩ := dgd_inv h
      refine dq_ial (key := (6144 + (x1).toNat)) e_36_48 S15 aa_3 rx1 g18.1 g18.2 (by omega) ?_
      refine dq_iadd (e := dW ((dG N11 2049) + (dG N11 (6144 + (x1).toNat)))) e_36_49 rfl ?_
      refine dq_istore e_36_50 rfl (fun K19 m20 mm21 => ?_)
      have m22 := mm21 0 _ (by decide) rfl l0
      have m23 := mm21 1 _ (by decide) rfl l1
      have m24 := mm21 2 _ (by decide) rfl l2
      have m25 := mm21 3 _ (by decide) rfl l3
      refine dq_iconst e_36_52 ?_
      refine dq_istore e_36_53 rfl (fun K26 m27 mm28 => ?_)
      have m29 := mm28 0 _ (by decide) rfl m22
      have m30 := mm28 1 _ (by decide) rfl m23
      have m31 := mm28 2 _ (by decide) rfl m24
      have m32 := mm28 3 _ (by decide) rfl m25
      have m33 := mm28 4 _ (by decide) rfl m20
      exact qX3_send_RC_b55 _ S15 rx1 rx2 (dW_R _) (⟨by decide, by decide⟩) m29 m30 m31 m32 m33 m27 h
    · rw [if_neg c17] at h
      refine dq_ifF e_36_25 r16 (decide_eq_false c17) ?_
      cases h
  · rw [if_neg c10] at h
    refine dq_ifT e_36_15 r9 (dnt c10) ?_
    cases h
noncomputable def fX5_isBestOwn_S_b32 (N : mMem) : Option dZ := some (N, 0)
theorem qX5_isBestOwn_S_b32 {Nl : List (Nat × Value)} {N : mMem} {z : dZ} (hS : dS N) (h : fX5_isBestOwn_S_b32 N = some z) : dQ xs Ln 1 0 0 68 (32, Nl, [], N) z := by
  unfold fX5_isBestOwn_S_b32 at h
  refine dq_iconst e_68_32 ?_
  cases h
  exact dq_reti (ty := .boolean) e_68_33 rfl (by decide +kernel) hS (⟨by decide, by decide⟩)
noncomputable def fX5_isBestOwn_S (N : mMem) (s : Nat) : Option dZ := (if dG N (61441 + 26624 * s) = (s : Int) then (if dG N (61442 + 26624 * s) = dG N (57352 + 26624 * s) then some (N, 1) else fX5_isBestOwn_S_b32 N) else fX5_isBestOwn_S_b32 N)
theorem qX5_isBestOwn_S {N : mMem} {s : Nat} {z : dZ} (hS : dS N) (hs : s < 8) (h : fX5_isBestOwn_S N s = some z) : dQ xs Ln 1 0 0 68 (0, lv_args 0 [.ref (28 + 13 * s)], [], N) z := by
  unfold fX5_isBestOwn_S at h
  have l0 : mLk (lv_args 0 [.ref (28 + 13 * s)]) 0 = some (.ref (28 + 13 * s)) := rfl
  generalize lv_args 0 [.ref (28 + 13 * s)] = Nl at l0 ⊢
  refine dq_aload e_68_0 l0 ?_
  refine dq_getR e_68_1 hS (ac_28s_5_7_2 s hs) ?_
  refine dq_getI (key := (61441 + 26624 * s)) e_68_4 hS (ac_30s_0_1_0 s hs) (by omega) ?_
  refine dq_aload e_68_7 l0 ?_
  refine dq_getC (e := (s : Int)) e_68_8 hS (ac_28s_5_0_1 s hs) rfl ?_
  by_cases c1 : dG N (61441 + 26624 * s) = (s : Int)
  · rw [if_pos c1] at h
    refine dq_icF e_68_11 (dG_R _ _) (⟨by omega, by omega⟩) (dnf c1) ?_
    refine dq_aload e_68_14 l0 ?_
    refine dq_getR e_68_15 hS (ac_28s_5_7_2 s hs) ?_
    refine dq_getI (key := (61442 + 26624 * s)) e_68_18 hS (ac_30s_0_2_0 s hs) (by omega) ?_
    refine dq_aload e_68_21 l0 ?_
    refine dq_getI (key := (57352 + 26624 * s)) e_68_22 hS (ac_28s_5_8_0 s hs) (by omega) ?_
    by_cases c2 : dG N (61442 + 26624 * s) = dG N (57352 + 26624 * s)
    · rw [if_pos c2] at h
      refine dq_icF e_68_25 (dG_R _ _) (dG_R _ _) (dnf c2) ?_
      refine dq_iconst e_68_28 ?_
      refine dq_goto e_68_29 ?_
      cases h
      exact dq_reti (ty := .boolean) e_68_33 rfl (by decide +kernel) hS (⟨by decide, by decide⟩)
    · rw [if_neg c2] at h
      refine dq_icT e_68_25 (dG_R _ _) (dG_R _ _) (dnt c2) ?_
      exact qX5_isBestOwn_S_b32 hS h
  · rw [if_neg c1] at h
    refine dq_icT e_68_11 (dG_R _ _) (⟨by omega, by omega⟩) (dnt c1) ?_
    exact qX5_isBestOwn_S_b32 hS h
noncomputable def fX0_become__UC (N : mMem) (s : Nat) : Option dZ := dlt (dP N (59392 + 26624 * s) (dG N 55296)) fun N2 => dlt (dP N2 (59393 + 26624 * s) (dG N2 55297)) fun N5 => some (dP N5 (59394 + 26624 * s) (dG N5 55298), 0)
theorem qX0_become__UC {N : mMem} {s : Nat} {z : dZ} (hS : dS N) (hs : s < 8) (h : fX0_become__UC N s = some z) : dQ xs Ln 0 0 0 2 (0, lv_args 0 [.ref (29 + 13 * s), .ref 27], [], N) z := by
  unfold fX0_become__UC at h
  have l0 : mLk (lv_args 0 [.ref (29 + 13 * s), .ref 27]) 0 = some (.ref (29 + 13 * s)) := rfl
  have l1 : mLk (lv_args 0 [.ref (29 + 13 * s), .ref 27]) 1 = some (.ref 27) := rfl
  generalize lv_args 0 [.ref (29 + 13 * s), .ref 27] = Nl at l0 l1 ⊢
  refine dq_aload e_2_0 l0 ?_
  refine dq_aload e_2_1 l1 ?_
  refine dq_getI (key := 55296) e_2_2 hS ac_27_0_0_0 (by omega) ?_
  have S1 := dS_P (v := dG N 55296) hS (ac_29s_0_0_0 s hs) (show (29 + 13 * s) * 2048 + 0 = (59392 + 26624 * s) by omega)
  refine dq_put (key := (59392 + 26624 * s)) e_2_5 hS (ac_29s_0_0_0 s hs) rfl (by omega) ?_
  refine dq_aload e_2_8 l0 ?_
  refine dq_aload e_2_9 l1 ?_
  refine dq_let h S1 (fun N2 S3 h => ?_)
  refine dq_getI (key := 55297) e_2_10 S3 ac_27_0_1_0 (by omega) ?_
  have S4 := dS_P (v := dG N2 55297) S3 (ac_29s_0_1_0 s hs) (show (29 + 13 * s) * 2048 + 1 = (59393 + 26624 * s) by omega)
  refine dq_put (key := (59393 + 26624 * s)) e_2_13 S3 (ac_29s_0_1_0 s hs) rfl (by omega) ?_
  refine dq_aload e_2_16 l0 ?_
  refine dq_aload e_2_17 l1 ?_
  refine dq_let h S4 (fun N5 S6 h => ?_)
  refine dq_getI (key := 55298) e_2_18 S6 ac_27_0_2_0 (by omega) ?_
  have S7 := dS_P (v := dG N5 55298) S6 (ac_29s_0_2_0 s hs) (show (29 + 13 * s) * 2048 + 2 = (59394 + 26624 * s) by omega)
  refine dq_put (key := (59394 + 26624 * s)) e_2_21 S6 (ac_29s_0_2_0 s hs) rfl (by omega) ?_
  cases h
  exact dq_retv e_2_24 rfl S7
noncomputable def fX5_goUp_SC (N : mMem) (s : Nat) (x2 : Int) : Option dZ := dlt (dP (dP N (57348 + 26624 * s) 1) (57349 + 26624 * s) x2) fun N3 => dbd (fX0_become__UC N3 s) fun N5 v6 => some (dP (dP (dP (dP (dP (dP (dP N5 (57356 + 26624 * s) (dW (x2 + (dG N5 55296)))) (57357 + 26624 * s) 0) (57358 + 26624 * s) 1) (65547 + 26624 * s) x2) (81926 + 26624 * s) 0) (81927 + 26624 * s) 0) (81928 + 26624 * s) 0, 0)
theorem qX5_goUp_SC {N : mMem} {s : Nat} {x2 : Int} {z : dZ} (hS : dS N) (hs : s < 8) (rx2 : dR x2) (h : fX5_goUp_SC N s x2 = some z) : dQ xs Ln 0 1 21 69 (0, lv_args 0 [.ref (28 + 13 * s), .ref 27, .int (dI x2)], [], N) z := by
  unfold fX5_goUp_SC at h
  have l0 : mLk (lv_args 0 [.ref (28 + 13 * s), .ref 27, .int (dI x2)]) 0 = some (.ref (28 + 13 * s)) := rfl
  have l1 : mLk (lv_args 0 [.ref (28 + 13 * s), .ref 27, .int (dI x2)]) 1 = some (.ref 27) := rfl
  have l2 : mLk (lv_args 0 [.ref (28 + 13 * s), .ref 27, .int (dI x2)]) 2 = some (.int (dI x2)) := rfl
  generalize lv_args 0 [.ref (28 + 13 * s), .ref 27, .int (dI x2)] = Nl at l0 l1 l2 ⊢
  refine dq_aload e_69_0 l0 ?_
  refine dq_iconst e_69_1 ?_
  have S1 := dS_P (v := 1) hS (ac_28s_5_4_0 s hs) (show (28 + 13 * s) * 2048 + 4 = (57348 + 26624 * s) by omega)
  refine dq_put (key := (57348 + 26624 * s)) e_69_2 hS (ac_28s_5_4_0 s hs) rfl (by omega) ?_
  refine dq_aload e_69_5 l0 ?_
  refine dq_iload e_69_6 l2 ?_
  have S2 := dS_P (v := x2) S1 (ac_28s_5_5_0 s hs) (show (28 + 13 * s) * 2048 + 5 = (57349 + 26624 * s) by omega)
  refine dq_put (key := (57349 + 26624 * s)) e_69_7 S1 (ac_28s_5_5_0 s hs) rfl (by omega) ?_
  refine dq_aload e_69_10 l0 ?_
  refine dq_getR e_69_11 S2 (ac_28s_5_6_2 s hs) ?_
  refine dq_aload e_69_14 l1 ?_
  refine dq_let h S2 (fun N3 S4 h => ?_)
  obtain ⟨N5, v6, c7, h⟩ := dbd_inv h
  have q8 := qX0_become__UC (xs := xs) (Ln := Ln) S4 hs c7
  have S9 : dS N5 := q8.2.1
  refine dq_callv (as := [.ref 27]) (S := []) (nx := 18) e_69_15 rfl rfl rfl S4 (ak_29s_0 s hs) rfl rfl rfl rfl q8 rfl ?_
  refine dq_aload e_69_18 l0 ?_
  refine dq_iload e_69_19 l2 ?_
  refine dq_aload e_69_20 l1 ?_
  refine dq_getI (key := 55296) e_69_21 S9 ac_27_0_0_0 (by omega) ?_
  refine dq_iadd (e := dW (x2 + (dG N5 55296))) e_69_24 rfl ?_
  have S10 := dS_P (v := dW (x2 + (dG N5 55296))) S9 (ac_28s_5_12_0 s hs) (show (28 + 13 * s) * 2048 + 12 = (57356 + 26624 * s) by omega)
  refine dq_put (key := (57356 + 26624 * s)) e_69_25 S9 (ac_28s_5_12_0 s hs) rfl (by omega) ?_
  refine dq_aload e_69_28 l0 ?_
  refine dq_iconst e_69_29 ?_
  have S11 := dS_P (v := 0) S10 (ac_28s_5_13_0 s hs) (show (28 + 13 * s) * 2048 + 13 = (57357 + 26624 * s) by omega)
  refine dq_put (key := (57357 + 26624 * s)) e_69_30 S10 (ac_28s_5_13_0 s hs) rfl (by omega) ?_
  refine dq_aload e_69_33 l0 ?_
  refine dq_iconst e_69_34 ?_
  have S12 := dS_P (v := 1) S11 (ac_28s_5_14_0 s hs) (show (28 + 13 * s) * 2048 + 14 = (57358 + 26624 * s) by omega)
  refine dq_put (key := (57358 + 26624 * s)) e_69_35 S11 (ac_28s_5_14_0 s hs) rfl (by omega) ?_
  refine dq_aload e_69_38 l0 ?_
  refine dq_getR e_69_39 S12 (ac_28s_5_16_2 s hs) ?_
  refine dq_iload e_69_42 l2 ?_
  have S13 := dS_P (v := x2) S12 (ac_32s_1_11_0 s hs) (show (32 + 13 * s) * 2048 + 11 = (65547 + 26624 * s) by omega)
  refine dq_put (key := (65547 + 26624 * s)) e_69_43 S12 (ac_32s_1_11_0 s hs) rfl (by omega) ?_
  refine dq_aload e_69_46 l0 ?_
  refine dq_getR e_69_47 S13 (ac_28s_5_18_2 s hs) ?_
  refine dq_iconst e_69_50 ?_
  refine dq_iconst e_69_52 ?_
  have S14 := dS_A (v := 0) (k := (6 : Int).toNat) (key := (81926 + 26624 * s)) S13 (aa_40s s hs) (by decide) (by show (40 + 13 * s) * 2048 + 6 = (81926 + 26624 * s); omega)
  refine dq_ias (key := (81926 + 26624 * s)) e_69_53 S13 (aa_40s s hs) (⟨by decide, by decide⟩) (by decide) (by decide) (by show (40 + 13 * s) * 2048 + 6 = (81926 + 26624 * s); omega) ?_
  refine dq_aload e_69_54 l0 ?_
  refine dq_getR e_69_55 S14 (ac_28s_5_18_2 s hs) ?_
  refine dq_iconst e_69_58 ?_
  refine dq_iconst e_69_60 ?_
  have S15 := dS_A (v := 0) (k := (7 : Int).toNat) (key := (81927 + 26624 * s)) S14 (aa_40s s hs) (by decide) (by show (40 + 13 * s) * 2048 + 7 = (81927 + 26624 * s); omega)
  refine dq_ias (key := (81927 + 26624 * s)) e_69_61 S14 (aa_40s s hs) (⟨by decide, by decide⟩) (by decide) (by decide) (by show (40 + 13 * s) * 2048 + 7 = (81927 + 26624 * s); omega) ?_
  refine dq_aload e_69_62 l0 ?_
  refine dq_getR e_69_63 S15 (ac_28s_5_18_2 s hs) ?_
  refine dq_iconst e_69_66 ?_
  refine dq_iconst e_69_68 ?_
  have S16 := dS_A (v := 0) (k := (8 : Int).toNat) (key := (81928 + 26624 * s)) S15 (aa_40s s hs) (by decide) (by show (40 + 13 * s) * 2048 + 8 = (81928 + 26624 * s); omega)
  refine dq_ias (key := (81928 + 26624 * s)) e_69_69 S15 (aa_40s s hs) (⟨by decide, by decide⟩) (by decide) (by decide) (by show (40 + 13 * s) * 2048 + 8 = (81928 + 26624 * s); omega) ?_
  cases h
  exact dq_retv e_69_70 rfl S16
noncomputable def fX3_note_Rc1 (N : mMem) (x2 : Int) (x3 : Int) : Option dZ := dbd (fX2_opn_G N) fun N1 v2 => dbd (fX2_put_Gc0 N1 (dG N1 2049)) fun N6 v7 => dbd (fX2_put_Gc1 N6 1) fun N11 v12 => dbd (fX2_put_Gc2 N11 x2) fun N16 v17 => dbd (fX2_put_Gc3 N16 x3) fun N21 v22 => some (N21, 0)
theorem qX3_note_Rc1 {N : mMem} {x2 : Int} {x3 : Int} {z : dZ} (hS : dS N) (rx2 : dR x2) (rx3 : dR x3) (h : fX3_note_Rc1 N x2 x3 = some z) : dQ xs Ln 0 1 22 35 (0, lv_args 0 [.ref 1, .int (dI 1), .int (dI x2), .int (dI x3)], [], N) z := by
  unfold fX3_note_Rc1 at h
  have l0 : mLk (lv_args 0 [.ref 1, .int (dI 1), .int (dI x2), .int (dI x3)]) 0 = some (.ref 1) := rfl
  have l1 : mLk (lv_args 0 [.ref 1, .int (dI 1), .int (dI x2), .int (dI x3)]) 1 = some (.int (dI 1)) := rfl
  have l2 : mLk (lv_args 0 [.ref 1, .int (dI 1), .int (dI x2), .int (dI x3)]) 2 = some (.int (dI x2)) := rfl
  have l3 : mLk (lv_args 0 [.ref 1, .int (dI 1), .int (dI x2), .int (dI x3)]) 3 = some (.int (dI x3)) := rfl
  generalize lv_args 0 [.ref 1, .int (dI 1), .int (dI x2), .int (dI x3)] = Nl at l0 l1 l2 l3 ⊢
  refine dq_aload e_35_0 l0 ?_
  refine dq_getR e_35_1 hS ac_1_3_8_2 ?_
  obtain ⟨N1, v2, c3, h⟩ := dbd_inv h
  have q4 := qX2_opn_G (xs := xs) (Ln := Ln) hS c3
  have S5 : dS N1 := q4.2.1
  refine dq_callv (as := []) (S := []) (nx := 7) e_35_4 rfl rfl rfl hS ak_13_2 rfl rfl rfl rfl q4 rfl ?_
  refine dq_aload e_35_7 l0 ?_
  refine dq_getR e_35_8 S5 ac_1_3_8_2 ?_
  refine dq_iconst e_35_11 ?_
  refine dq_aload e_35_12 l0 ?_
  refine dq_getI (key := 2049) e_35_13 S5 ac_1_3_1_0 (by omega) ?_
  obtain ⟨N6, v7, c8, h⟩ := dbd_inv h
  have q9 := qX2_put_Gc0 (xs := xs) (Ln := Ln) S5 (dG_R _ _) c8
  have S10 : dS N6 := q9.2.1
  refine dq_callv (as := [.int (dI 0), .int (dI (dG N1 2049))]) (S := []) (nx := 19) e_35_16 rfl rfl rfl S5 ak_13_2 rfl rfl rfl rfl q9 rfl ?_
  refine dq_aload e_35_19 l0 ?_
  refine dq_getR e_35_20 S10 ac_1_3_8_2 ?_
  refine dq_iconst e_35_23 ?_
  refine dq_iload e_35_24 l1 ?_
  obtain ⟨N11, v12, c13, h⟩ := dbd_inv h
  have q14 := qX2_put_Gc1 (xs := xs) (Ln := Ln) S10 (⟨by decide, by decide⟩) c13
  have S15 : dS N11 := q14.2.1
  refine dq_callv (as := [.int (dI 1), .int (dI 1)]) (S := []) (nx := 28) e_35_25 rfl rfl rfl S10 ak_13_2 rfl rfl rfl rfl q14 rfl ?_
  refine dq_aload e_35_28 l0 ?_
  refine dq_getR e_35_29 S15 ac_1_3_8_2 ?_
  refine dq_iconst e_35_32 ?_
  refine dq_iload e_35_33 l2 ?_
  obtain ⟨N16, v17, c18, h⟩ := dbd_inv h
  have q19 := qX2_put_Gc2 (xs := xs) (Ln := Ln) S15 rx2 c18
  have S20 : dS N16 := q19.2.1
  refine dq_callv (as := [.int (dI 2), .int (dI x2)]) (S := []) (nx := 37) e_35_34 rfl rfl rfl S15 ak_13_2 rfl rfl rfl rfl q19 rfl ?_
  refine dq_aload e_35_37 l0 ?_
  refine dq_getR e_35_38 S20 ac_1_3_8_2 ?_
  refine dq_iconst e_35_41 ?_
  refine dq_iload e_35_42 l3 ?_
  obtain ⟨N21, v22, c23, h⟩ := dbd_inv h
  have q24 := qX2_put_Gc3 (xs := xs) (Ln := Ln) S20 rx3 c23
  have S25 : dS N21 := q24.2.1
  refine dq_callv (as := [.int (dI 3), .int (dI x3)]) (S := []) (nx := 46) e_35_43 rfl rfl rfl S20 ak_13_2 rfl rfl rfl rfl q24 rfl ?_
  cases h
  exact dq_retv e_35_46 rfl S25
noncomputable def fX3_compareClaim_RSC_b108 (N : mMem) (s : Nat) : Option dZ := dbd (fX0_become__EC N s) fun N24 v25 => dlt (dP N24 (57353 + 26624 * s) (dG N24 2049)) fun N30 => dbd (fX3_send_RC N30 (s : Int) 0) fun N32 v33 => some (N32, 0)
theorem qX3_compareClaim_RSC_b108 {Nl : List (Nat × Value)} {N : mMem} {s : Nat} {z : dZ} (hS : dS N) (hs : s < 8) (l0 : mLk Nl 0 = some (.ref 1)) (l1 : mLk Nl 1 = some (.ref (28 + 13 * s))) (l2 : mLk Nl 2 = some (.ref 27)) (h : fX3_compareClaim_RSC_b108 N s = some z) : dQ xs Ln 0 2 48 43 (108, Nl, [], N) z := by
  unfold fX3_compareClaim_RSC_b108 at h
  refine dq_aload e_43_108 l1 ?_
  refine dq_getR e_43_109 hS (ac_28s_5_7_2 s hs) ?_
  refine dq_aload e_43_112 l2 ?_
  obtain ⟨N24, v25, c26, h⟩ := dbd_inv h
  have q27 := qX0_become__EC (xs := xs) (Ln := Ln) hS hs c26
  have S28 : dS N24 := q27.2.1
  refine dq_callv (as := [.ref 27]) (S := []) (nx := 116) e_43_113 rfl rfl rfl hS (ak_30s_0 s hs) rfl rfl rfl rfl q27 rfl ?_
  refine dq_aload e_43_116 l1 ?_
  refine dq_aload e_43_117 l0 ?_
  refine dq_getI (key := 2049) e_43_118 S28 ac_1_3_1_0 (by omega) ?_
  have S29 := dS_P (v := dG N24 2049) S28 (ac_28s_5_9_0 s hs) (show (28 + 13 * s) * 2048 + 9 = (57353 + 26624 * s) by omega)
  refine dq_put (key := (57353 + 26624 * s)) e_43_121 S28 (ac_28s_5_9_0 s hs) rfl (by omega) ?_
  refine dq_aload e_43_124 l0 ?_
  refine dq_aload e_43_125 l1 ?_
  refine dq_getC (e := (s : Int)) e_43_126 S29 (ac_28s_5_0_1 s hs) rfl ?_
  refine dq_iconst e_43_129 ?_
  refine dq_aload e_43_130 l2 ?_
  refine dq_let h S29 (fun N30 S31 h => ?_)
  obtain ⟨N32, v33, c34, h⟩ := dbd_inv h
  have q35 := qX3_send_RC (xs := xs) (Ln := Ln) S31 (⟨by omega, by omega⟩) (⟨by decide, by decide⟩) c34
  have S36 : dS N32 := q35.2.1
  refine dq_callv (as := [.int (dI (s : Int)), .int (dI 0), .ref 27]) (S := []) (nx := 134) e_43_131 rfl rfl rfl S31 ak_1_3 rfl rfl rfl rfl q35 rfl ?_
  cases h
  exact dq_retv e_43_134 rfl S36
noncomputable def fX3_compareClaim_RSC_b65 (N : mMem) (s : Nat) (x3 : Int) : Option dZ := (if x3 = 0 then dbd (fX0_isBetter_CE N s) fun N15 v16 => (if v16 = 0 then (if dG N15 55297 = dG N15 (61441 + 26624 * s) then (if dG N15 (61442 + 26624 * s) < dG N15 55298 then fX3_compareClaim_RSC_b108 N15 s else some (N15, 0)) else some (N15, 0)) else fX3_compareClaim_RSC_b108 N15 s) else fX3_compareClaim_RSC_b108 N s)
theorem qX3_compareClaim_RSC_b65 {Nl : List (Nat × Value)} {N : mMem} {s : Nat} {x3 : Int} {z : dZ} (hS : dS N) (hs : s < 8) (rx3 : dR x3) (l0 : mLk Nl 0 = some (.ref 1)) (l1 : mLk Nl 1 = some (.ref (28 + 13 * s))) (l2 : mLk Nl 2 = some (.ref 27)) (l3 : mLk Nl 3 = some (.int (dI x3))) (h : fX3_compareClaim_RSC_b65 N s x3 = some z) : dQ xs Ln 0 2 48 43 (65, Nl, [], N) z := by
  unfold fX3_compareClaim_RSC_b65 at h
  refine dq_iload e_43_65 l3 ?_
  by_cases c14 : x3 = 0
  · rw [if_pos c14] at h
    refine dq_ifF e_43_66 rx3 (dnf c14) ?_
    refine dq_aload e_43_69 l2 ?_
    refine dq_aload e_43_70 l1 ?_
    refine dq_getR e_43_71 hS (ac_28s_5_7_2 s hs) ?_
    obtain ⟨N15, v16, c17, h⟩ := dbd_inv h
    have q18 := qX0_isBetter_CE (xs := xs) (Ln := Ln) hS hs c17
    have S19 : dS N15 := q18.2.1
    refine dq_calli (as := [.ref (30 + 13 * s)]) (S := []) (nx := 77) e_43_74 rfl rfl rfl hS ak_27_0 rfl rfl rfl rfl q18 rfl ?_
    have r20 : dR v16 := q18.2.2
    by_cases c21 : v16 = 0
    · rw [if_pos c21] at h
      refine dq_ifF e_43_77 r20 (dnf c21) ?_
      refine dq_aload e_43_80 l2 ?_
      refine dq_getI (key := 55297) e_43_81 S19 ac_27_0_1_0 (by omega) ?_
      refine dq_aload e_43_84 l1 ?_
      refine dq_getR e_43_85 S19 (ac_28s_5_7_2 s hs) ?_
      refine dq_getI (key := (61441 + 26624 * s)) e_43_88 S19 (ac_30s_0_1_0 s hs) (by omega) ?_
      by_cases c22 : dG N15 55297 = dG N15 (61441 + 26624 * s)
      · rw [if_pos c22] at h
        refine dq_icF e_43_91 (dG_R _ _) (dG_R _ _) (dnf c22) ?_
        refine dq_aload e_43_94 l2 ?_
        refine dq_getI (key := 55298) e_43_95 S19 ac_27_0_2_0 (by omega) ?_
        refine dq_aload e_43_98 l1 ?_
        refine dq_getR e_43_99 S19 (ac_28s_5_7_2 s hs) ?_
        refine dq_getI (key := (61442 + 26624 * s)) e_43_102 S19 (ac_30s_0_2_0 s hs) (by omega) ?_
        by_cases c23 : dG N15 (61442 + 26624 * s) < dG N15 55298
        · rw [if_pos c23] at h
          refine dq_icF e_43_105 (dG_R _ _) (dG_R _ _) (dnf c23) ?_
          exact qX3_compareClaim_RSC_b108 S19 hs l0 l1 l2 h
        · rw [if_neg c23] at h
          refine dq_icT e_43_105 (dG_R _ _) (dG_R _ _) (dnt c23) ?_
          cases h
          exact dq_retv e_43_134 rfl S19
      · rw [if_neg c22] at h
        refine dq_icT e_43_91 (dG_R _ _) (dG_R _ _) (dnt c22) ?_
        cases h
        exact dq_retv e_43_134 rfl S19
    · rw [if_neg c21] at h
      refine dq_ifT e_43_77 r20 (dnt c21) ?_
      exact qX3_compareClaim_RSC_b108 S19 hs l0 l1 l2 h
  · rw [if_neg c14] at h
    refine dq_ifT e_43_66 rx3 (dnt c14) ?_
    exact qX3_compareClaim_RSC_b108 hS hs l0 l1 l2 h
noncomputable def fX3_compareClaim_RSC (N : mMem) (s : Nat) : Option dZ := dbd (fX0_isSame_CE N s) fun N1 v2 => (if v2 = 0 then fX3_compareClaim_RSC_b65 N1 s v2 else dbd (fX5_isBestOwn_S N1 s) fun N37 v38 => (if v38 = 0 then fX3_compareClaim_RSC_b65 N37 s v2 else dbd (fX5_goUp_SC N37 s (dG N37 2049)) fun N44 v45 => dlt (dP N44 53252 (dW ((dG N44 53252) + 1))) fun N50 => dbd (fX3_note_Rc1 N50 (s : Int) (dG N50 55296)) fun N52 v53 => dbd (fX3_send_RC N52 (s : Int) 2) fun N57 v58 => some (N57, 0)))
theorem qX3_compareClaim_RSC {N : mMem} {s : Nat} {z : dZ} (hS : dS N) (hs : s < 8) (h : fX3_compareClaim_RSC N s = some z) : dQ xs Ln 0 2 48 43 (0, lv_args 0 [.ref 1, .ref (28 + 13 * s), .ref 27], [], N) z := by
  unfold fX3_compareClaim_RSC at h
  have l0 : mLk (lv_args 0 [.ref 1, .ref (28 + 13 * s), .ref 27]) 0 = some (.ref 1) := rfl
  have l1 : mLk (lv_args 0 [.ref 1, .ref (28 + 13 * s), .ref 27]) 1 = some (.ref (28 + 13 * s)) := rfl
  have l2 : mLk (lv_args 0 [.ref 1, .ref (28 + 13 * s), .ref 27]) 2 = some (.ref 27) := rfl
  generalize lv_args 0 [.ref 1, .ref (28 + 13 * s), .ref 27] = Nl at l0 l1 l2 ⊢
  refine dq_aload e_43_0 l2 ?_
  refine dq_aload e_43_1 l1 ?_
  refine dq_getR e_43_2 hS (ac_28s_5_7_2 s hs) ?_
  obtain ⟨N1, v2, c3, h⟩ := dbd_inv h
  have q4 := qX0_isSame_CE (xs := xs) (Ln := Ln) hS hs c3
  have S5 : dS N1 := q4.2.1
  refine dq_calli (as := [.ref (30 + 13 * s)]) (S := []) (nx := 8) e_43_5 rfl rfl rfl hS ak_27_0 rfl rfl rfl rfl q4 rfl ?_
  have r6 : dR v2 := q4.2.2
  refine dq_istore e_43_8 rfl (fun K7 m8 mm9 => ?_)
  have m10 := mm9 0 _ (by decide) rfl l0
  have m11 := mm9 1 _ (by decide) rfl l1
  have m12 := mm9 2 _ (by decide) rfl l2
  refine dq_iload e_43_9 m8 ?_
  by_cases c13 : v2 = 0
  · rw [if_pos c13] at h
    refine dq_ifT e_43_10 r6 (decide_eq_true c13) ?_
    exact qX3_compareClaim_RSC_b65 S5 hs r6 m10 m11 m12 m8 h
  · rw [if_neg c13] at h
    refine dq_ifF e_43_10 r6 (decide_eq_false c13) ?_
    refine dq_aload e_43_13 m11 ?_
    obtain ⟨N37, v38, c39, h⟩ := dbd_inv h
    have q40 := qX5_isBestOwn_S (xs := xs) (Ln := Ln) S5 hs c39
    have S41 : dS N37 := q40.2.1
    refine dq_calli (as := []) (S := []) (nx := 17) e_43_14 rfl rfl rfl S5 (ak_28s_5 s hs) rfl rfl rfl rfl q40 rfl ?_
    have r42 : dR v38 := q40.2.2
    by_cases c43 : v38 = 0
    · rw [if_pos c43] at h
      refine dq_ifT e_43_17 r42 (decide_eq_true c43) ?_
      exact qX3_compareClaim_RSC_b65 S41 hs r6 m10 m11 m12 m8 h
    · rw [if_neg c43] at h
      refine dq_ifF e_43_17 r42 (decide_eq_false c43) ?_
      refine dq_aload e_43_20 m11 ?_
      refine dq_aload e_43_21 m12 ?_
      refine dq_aload e_43_22 m10 ?_
      refine dq_getI (key := 2049) e_43_23 S41 ac_1_3_1_0 (by omega) ?_
      obtain ⟨N44, v45, c46, h⟩ := dbd_inv h
      have q47 := qX5_goUp_SC (xs := xs) (Ln := Ln) S41 hs (dG_R _ _) c46
      have S48 : dS N44 := q47.2.1
      refine dq_callv (as := [.ref 27, .int (dI (dG N37 2049))]) (S := []) (nx := 29) e_43_26 rfl rfl rfl S41 (ak_28s_5 s hs) rfl rfl rfl rfl q47 rfl ?_
      refine dq_aload e_43_29 m10 ?_
      refine dq_getR e_43_30 S48 ac_1_3_10_2 ?_
      refine dq_iconst e_43_33 ?_
      refine dq_dup2 e_43_34 rfl rfl ?_
      refine dq_ial (key := 53252) e_43_35 S48 aa_26 (⟨by decide, by decide⟩) (by decide) (by decide) (by show 26 * 2048 + 4 = 53252; omega) ?_
      refine dq_iconst e_43_36 ?_
      refine dq_iadd (e := dW ((dG N44 53252) + 1)) e_43_37 rfl ?_
      have S49 := dS_A (v := dW ((dG N44 53252) + 1)) (k := (4 : Int).toNat) (key := 53252) S48 aa_26 (by decide) (by show 26 * 2048 + 4 = 53252; omega)
      refine dq_ias (key := 53252) e_43_38 S48 aa_26 (⟨by decide, by decide⟩) (by decide) (by decide) (by show 26 * 2048 + 4 = 53252; omega) ?_
      refine dq_aload e_43_39 m10 ?_
      refine dq_iconst e_43_40 ?_
      refine dq_aload e_43_41 m11 ?_
      refine dq_getC (e := (s : Int)) e_43_42 S49 (ac_28s_5_0_1 s hs) rfl ?_
      refine dq_aload e_43_45 m12 ?_
      refine dq_let h S49 (fun N50 S51 h => ?_)
      refine dq_getI (key := 55296) e_43_46 S51 ac_27_0_0_0 (by omega) ?_
      obtain ⟨N52, v53, c54, h⟩ := dbd_inv h
      have q55 := qX3_note_Rc1 (xs := xs) (Ln := Ln) S51 (⟨by omega, by omega⟩) (dG_R _ _) c54
      have S56 : dS N52 := q55.2.1
      refine dq_callv (as := [.int (dI 1), .int (dI (s : Int)), .int (dI (dG N50 55296))]) (S := []) (nx := 52) e_43_49 rfl rfl rfl S51 ak_1_3 rfl rfl rfl rfl q55 rfl ?_
      refine dq_aload e_43_52 m10 ?_
      refine dq_aload e_43_53 m11 ?_
      refine dq_getC (e := (s : Int)) e_43_54 S56 (ac_28s_5_0_1 s hs) rfl ?_
      refine dq_iconst e_43_57 ?_
      refine dq_aload e_43_58 m12 ?_
      obtain ⟨N57, v58, c59, h⟩ := dbd_inv h
      have q60 := qX3_send_RC (xs := xs) (Ln := Ln) S56 (⟨by omega, by omega⟩) (⟨by decide, by decide⟩) c59
      have S61 : dS N57 := q60.2.1
      refine dq_callv (as := [.int (dI (s : Int)), .int (dI 2), .ref 27]) (S := []) (nx := 62) e_43_59 rfl rfl rfl S56 ak_1_3 rfl rfl rfl rfl q60 rfl ?_
      refine dq_goto e_43_62 ?_
      cases h
      exact dq_retv e_43_134 rfl S61
noncomputable def fX3_beginToClaim_RSC_b80 (N : mMem) (s : Nat) : Option dZ := dlt (dP N 53253 (dW ((dG N 53253) + 1))) fun N31 => dbd (fX3_note_Rc0 N31 (s : Int) (dG N31 (57345 + 26624 * s))) fun N33 v34 => dbd (fX3_send_RE N33 s (s : Int) 0) fun N38 v39 => some (N38, 0)
theorem qX3_beginToClaim_RSC_b80 {Nl : List (Nat × Value)} {N : mMem} {s : Nat} {z : dZ} (hS : dS N) (hs : s < 8) (l0 : mLk Nl 0 = some (.ref 1)) (l1 : mLk Nl 1 = some (.ref (28 + 13 * s))) (h : fX3_beginToClaim_RSC_b80 N s = some z) : dQ xs Ln 0 2 48 37 (80, Nl, [], N) z := by
  unfold fX3_beginToClaim_RSC_b80 at h
  refine dq_aload e_37_80 l0 ?_
  refine dq_getR e_37_81 hS ac_1_3_10_2 ?_
  refine dq_iconst e_37_84 ?_
  refine dq_dup2 e_37_85 rfl rfl ?_
  refine dq_ial (key := 53253) e_37_86 hS aa_26 (⟨by decide, by decide⟩) (by decide) (by decide) (by show 26 * 2048 + 5 = 53253; omega) ?_
  refine dq_iconst e_37_87 ?_
  refine dq_iadd (e := dW ((dG N 53253) + 1)) e_37_88 rfl ?_
  have S30 := dS_A (v := dW ((dG N 53253) + 1)) (k := (5 : Int).toNat) (key := 53253) hS aa_26 (by decide) (by show 26 * 2048 + 5 = 53253; omega)
  refine dq_ias (key := 53253) e_37_89 hS aa_26 (⟨by decide, by decide⟩) (by decide) (by decide) (by show 26 * 2048 + 5 = 53253; omega) ?_
  refine dq_aload e_37_90 l0 ?_
  refine dq_iconst e_37_91 ?_
  refine dq_aload e_37_92 l1 ?_
  refine dq_getC (e := (s : Int)) e_37_93 S30 (ac_28s_5_0_1 s hs) rfl ?_
  refine dq_aload e_37_96 l1 ?_
  refine dq_let h S30 (fun N31 S32 h => ?_)
  refine dq_getI (key := (57345 + 26624 * s)) e_37_97 S32 (ac_28s_5_1_0 s hs) (by omega) ?_
  obtain ⟨N33, v34, c35, h⟩ := dbd_inv h
  have q36 := qX3_note_Rc0 (xs := xs) (Ln := Ln) S32 (⟨by omega, by omega⟩) (dG_R _ _) c35
  have S37 : dS N33 := q36.2.1
  refine dq_callv (as := [.int (dI 0), .int (dI (s : Int)), .int (dI (dG N31 (57345 + 26624 * s)))]) (S := []) (nx := 103) e_37_100 rfl rfl rfl S32 ak_1_3 rfl rfl rfl rfl q36 rfl ?_
  refine dq_aload e_37_103 l0 ?_
  refine dq_aload e_37_104 l1 ?_
  refine dq_getC (e := (s : Int)) e_37_105 S37 (ac_28s_5_0_1 s hs) rfl ?_
  refine dq_iconst e_37_108 ?_
  refine dq_aload e_37_109 l1 ?_
  refine dq_getR e_37_110 S37 (ac_28s_5_7_2 s hs) ?_
  obtain ⟨N38, v39, c40, h⟩ := dbd_inv h
  have q41 := qX3_send_RE (xs := xs) (Ln := Ln) S37 hs (⟨by omega, by omega⟩) (⟨by decide, by decide⟩) c40
  have S42 : dS N38 := q41.2.1
  refine dq_callv (as := [.int (dI (s : Int)), .int (dI 0), .ref (30 + 13 * s)]) (S := []) (nx := 116) e_37_113 rfl rfl rfl S37 ak_1_3 rfl rfl rfl rfl q41 rfl ?_
  cases h
  exact dq_retv e_37_116 rfl S42
noncomputable def fX3_beginToClaim_RSC (N : mMem) (s : Nat) : Option dZ := dlt (dP N (57348 + 26624 * s) 2) fun N2 => dlt (dP N2 (57349 + 26624 * s) (dG N2 2049)) fun N5 => dlt (dP N5 (57353 + 26624 * s) (dG N5 2049)) fun N8 => dbd (fX1_drop_H N8 s) fun N10 v11 => dlt (dP N10 (57352 + 26624 * s) (dW ((dG N10 (57352 + 26624 * s)) + 1))) fun N16 => dbd (fX0_become_E N16 s (dG N16 (57345 + 26624 * s)) (s : Int) (dG N16 (57352 + 26624 * s))) fun N18 v19 => dbd (fX0_isBetter_CE N18 s) fun N23 v24 => (if v24 = 0 then fX3_beginToClaim_RSC_b80 N23 s else dbd (fX0_become__EC N23 s) fun N43 v44 => fX3_beginToClaim_RSC_b80 N43 s)
theorem qX3_beginToClaim_RSC {N : mMem} {s : Nat} {z : dZ} (hS : dS N) (hs : s < 8) (h : fX3_beginToClaim_RSC N s = some z) : dQ xs Ln 0 2 48 37 (0, lv_args 0 [.ref 1, .ref (28 + 13 * s), .ref 27], [], N) z := by
  unfold fX3_beginToClaim_RSC at h
  have l0 : mLk (lv_args 0 [.ref 1, .ref (28 + 13 * s), .ref 27]) 0 = some (.ref 1) := rfl
  have l1 : mLk (lv_args 0 [.ref 1, .ref (28 + 13 * s), .ref 27]) 1 = some (.ref (28 + 13 * s)) := rfl
  have l2 : mLk (lv_args 0 [.ref 1, .ref (28 + 13 * s), .ref 27]) 2 = some (.ref 27) := rfl
  generalize lv_args 0 [.ref 1, .ref (28 + 13 * s), .ref 27] = Nl at l0 l1 l2 ⊢
  refine dq_aload e_37_0 l1 ?_
  refine dq_iconst e_37_1 ?_
  have S1 := dS_P (v := 2) hS (ac_28s_5_4_0 s hs) (show (28 + 13 * s) * 2048 + 4 = (57348 + 26624 * s) by omega)
  refine dq_put (key := (57348 + 26624 * s)) e_37_2 hS (ac_28s_5_4_0 s hs) rfl (by omega) ?_
  refine dq_aload e_37_5 l1 ?_
  refine dq_aload e_37_6 l0 ?_
  refine dq_let h S1 (fun N2 S3 h => ?_)
  refine dq_getI (key := 2049) e_37_7 S3 ac_1_3_1_0 (by omega) ?_
  have S4 := dS_P (v := dG N2 2049) S3 (ac_28s_5_5_0 s hs) (show (28 + 13 * s) * 2048 + 5 = (57349 + 26624 * s) by omega)
  refine dq_put (key := (57349 + 26624 * s)) e_37_10 S3 (ac_28s_5_5_0 s hs) rfl (by omega) ?_
  refine dq_aload e_37_13 l1 ?_
  refine dq_aload e_37_14 l0 ?_
  refine dq_let h S4 (fun N5 S6 h => ?_)
  refine dq_getI (key := 2049) e_37_15 S6 ac_1_3_1_0 (by omega) ?_
  have S7 := dS_P (v := dG N5 2049) S6 (ac_28s_5_9_0 s hs) (show (28 + 13 * s) * 2048 + 9 = (57353 + 26624 * s) by omega)
  refine dq_put (key := (57353 + 26624 * s)) e_37_18 S6 (ac_28s_5_9_0 s hs) rfl (by omega) ?_
  refine dq_aload e_37_21 l1 ?_
  refine dq_getR e_37_22 S7 (ac_28s_5_16_2 s hs) ?_
  refine dq_let h S7 (fun N8 S9 h => ?_)
  obtain ⟨N10, v11, c12, h⟩ := dbd_inv h
  have q13 := qX1_drop_H (xs := xs) (Ln := Ln) S9 hs c12
  have S14 : dS N10 := q13.2.1
  refine dq_callv (as := []) (S := []) (nx := 28) e_37_25 rfl rfl rfl S9 (ak_32s_1 s hs) rfl rfl rfl rfl q13 rfl ?_
  refine dq_aload e_37_28 l1 ?_
  refine dq_dup e_37_29 rfl ?_
  refine dq_getI (key := (57352 + 26624 * s)) e_37_30 S14 (ac_28s_5_8_0 s hs) (by omega) ?_
  refine dq_iconst e_37_33 ?_
  refine dq_iadd (e := dW ((dG N10 (57352 + 26624 * s)) + 1)) e_37_34 rfl ?_
  have S15 := dS_P (v := dW ((dG N10 (57352 + 26624 * s)) + 1)) S14 (ac_28s_5_8_0 s hs) (show (28 + 13 * s) * 2048 + 8 = (57352 + 26624 * s) by omega)
  refine dq_put (key := (57352 + 26624 * s)) e_37_35 S14 (ac_28s_5_8_0 s hs) rfl (by omega) ?_
  refine dq_aload e_37_38 l1 ?_
  refine dq_getR e_37_39 S15 (ac_28s_5_7_2 s hs) ?_
  refine dq_aload e_37_42 l1 ?_
  refine dq_let h S15 (fun N16 S17 h => ?_)
  refine dq_getI (key := (57345 + 26624 * s)) e_37_43 S17 (ac_28s_5_1_0 s hs) (by omega) ?_
  refine dq_aload e_37_46 l1 ?_
  refine dq_getC (e := (s : Int)) e_37_47 S17 (ac_28s_5_0_1 s hs) rfl ?_
  refine dq_aload e_37_50 l1 ?_
  refine dq_getI (key := (57352 + 26624 * s)) e_37_51 S17 (ac_28s_5_8_0 s hs) (by omega) ?_
  obtain ⟨N18, v19, c20, h⟩ := dbd_inv h
  have q21 := qX0_become_E (xs := xs) (Ln := Ln) S17 hs (dG_R _ _) (⟨by omega, by omega⟩) (dG_R _ _) c20
  have S22 : dS N18 := q21.2.1
  refine dq_callv (as := [.int (dI (dG N16 (57345 + 26624 * s))), .int (dI (s : Int)), .int (dI (dG N16 (57352 + 26624 * s)))]) (S := []) (nx := 57) e_37_54 rfl rfl rfl S17 (ak_30s_0 s hs) rfl rfl rfl rfl q21 rfl ?_
  refine dq_aload e_37_57 l2 ?_
  refine dq_nullF e_37_58 ?_
  refine dq_aload e_37_61 l2 ?_
  refine dq_aload e_37_62 l1 ?_
  refine dq_getR e_37_63 S22 (ac_28s_5_7_2 s hs) ?_
  obtain ⟨N23, v24, c25, h⟩ := dbd_inv h
  have q26 := qX0_isBetter_CE (xs := xs) (Ln := Ln) S22 hs c25
  have S27 : dS N23 := q26.2.1
  refine dq_calli (as := [.ref (30 + 13 * s)]) (S := []) (nx := 69) e_37_66 rfl rfl rfl S22 ak_27_0 rfl rfl rfl rfl q26 rfl ?_
  have r28 : dR v24 := q26.2.2
  by_cases c29 : v24 = 0
  · rw [if_pos c29] at h
    refine dq_ifT e_37_69 r28 (decide_eq_true c29) ?_
    exact qX3_beginToClaim_RSC_b80 S27 hs l0 l1 h
  · rw [if_neg c29] at h
    refine dq_ifF e_37_69 r28 (decide_eq_false c29) ?_
    refine dq_aload e_37_72 l1 ?_
    refine dq_getR e_37_73 S27 (ac_28s_5_7_2 s hs) ?_
    refine dq_aload e_37_76 l2 ?_
    obtain ⟨N43, v44, c45, h⟩ := dbd_inv h
    have q46 := qX0_become__EC (xs := xs) (Ln := Ln) S27 hs c45
    have S47 : dS N43 := q46.2.1
    refine dq_callv (as := [.ref 27]) (S := []) (nx := 80) e_37_77 rfl rfl rfl S27 (ak_30s_0 s hs) rfl rfl rfl rfl q46 rfl ?_
    exact qX3_beginToClaim_RSC_b80 S47 hs l0 l1 h
noncomputable def fX3_claimComes_RSC_b76 (N : mMem) (s : Nat) : Option dZ := dbd (fX3_beginToClaim_RSC N s) fun N12 v13 => some (N12, 0)
theorem qX3_claimComes_RSC_b76 {Nl : List (Nat × Value)} {N : mMem} {s : Nat} {z : dZ} (hS : dS N) (hs : s < 8) (l0 : mLk Nl 0 = some (.ref 1)) (l1 : mLk Nl 1 = some (.ref (28 + 13 * s))) (l2 : mLk Nl 2 = some (.ref 27)) (h : fX3_claimComes_RSC_b76 N s = some z) : dQ xs Ln 0 3 71 42 (76, Nl, [], N) z := by
  unfold fX3_claimComes_RSC_b76 at h
  refine dq_aload e_42_76 l0 ?_
  refine dq_aload e_42_77 l1 ?_
  refine dq_aload e_42_78 l2 ?_
  obtain ⟨N12, v13, c14, h⟩ := dbd_inv h
  have q15 := qX3_beginToClaim_RSC (xs := xs) (Ln := Ln) hS hs c14
  have S16 : dS N12 := q15.2.1
  refine dq_callv (as := [.ref (28 + 13 * s), .ref 27]) (S := []) (nx := 82) e_42_79 rfl rfl rfl hS ak_1_3 rfl rfl rfl rfl q15 rfl ?_
  refine dq_goto e_42_82 ?_
  cases h
  exact dq_retv e_42_99 rfl S16
noncomputable def fX3_claimComes_RSC_b23 (N : mMem) (s : Nat) : Option dZ := (if dG N (57348 + 26624 * s) = 2 then dbd (fX3_compareClaim_RSC N s) fun N4 v5 => some (N4, 0) else (if dG N (57348 + 26624 * s) = 1 then (if dG N 55297 = dG N (59393 + 26624 * s) then (if dG N (59394 + 26624 * s) < dG N 55298 then fX3_claimComes_RSC_b76 N s else some (N, 0)) else fX3_claimComes_RSC_b76 N s) else (if dG N (57348 + 26624 * s) = 3 then some (N, 0) else dbd (fX3_beginToClaim_RSC N s) fun N18 v19 => some (N18, 0))))
theorem qX3_claimComes_RSC_b23 {Nl : List (Nat × Value)} {N : mMem} {s : Nat} {z : dZ} (hS : dS N) (hs : s < 8) (l0 : mLk Nl 0 = some (.ref 1)) (l1 : mLk Nl 1 = some (.ref (28 + 13 * s))) (l2 : mLk Nl 2 = some (.ref 27)) (h : fX3_claimComes_RSC_b23 N s = some z) : dQ xs Ln 0 3 71 42 (23, Nl, [], N) z := by
  unfold fX3_claimComes_RSC_b23 at h
  refine dq_aload e_42_23 l1 ?_
  refine dq_getI (key := (57348 + 26624 * s)) e_42_24 hS (ac_28s_5_4_0 s hs) (by omega) ?_
  refine dq_iconst e_42_27 ?_
  by_cases c3 : dG N (57348 + 26624 * s) = 2
  · rw [if_pos c3] at h
    refine dq_icF e_42_28 (dG_R _ _) (⟨by decide, by decide⟩) (dnf c3) ?_
    refine dq_aload e_42_31 l0 ?_
    refine dq_aload e_42_32 l1 ?_
    refine dq_aload e_42_33 l2 ?_
    obtain ⟨N4, v5, c6, h⟩ := dbd_inv h
    have q7 := qX3_compareClaim_RSC (xs := xs) (Ln := Ln) hS hs c6
    have S8 : dS N4 := q7.2.1
    refine dq_callv (as := [.ref (28 + 13 * s), .ref 27]) (S := []) (nx := 37) e_42_34 rfl rfl rfl hS ak_1_3 rfl rfl rfl rfl q7 rfl ?_
    refine dq_goto e_42_37 ?_
    cases h
    exact dq_retv e_42_99 rfl S8
  · rw [if_neg c3] at h
    refine dq_icT e_42_28 (dG_R _ _) (⟨by decide, by decide⟩) (dnt c3) ?_
    refine dq_aload e_42_40 l1 ?_
    refine dq_getI (key := (57348 + 26624 * s)) e_42_41 hS (ac_28s_5_4_0 s hs) (by omega) ?_
    refine dq_iconst e_42_44 ?_
    by_cases c9 : dG N (57348 + 26624 * s) = 1
    · rw [if_pos c9] at h
      refine dq_icF e_42_45 (dG_R _ _) (⟨by decide, by decide⟩) (dnf c9) ?_
      refine dq_aload e_42_48 l2 ?_
      refine dq_getI (key := 55297) e_42_49 hS ac_27_0_1_0 (by omega) ?_
      refine dq_aload e_42_52 l1 ?_
      refine dq_getR e_42_53 hS (ac_28s_5_6_2 s hs) ?_
      refine dq_getI (key := (59393 + 26624 * s)) e_42_56 hS (ac_29s_0_1_0 s hs) (by omega) ?_
      by_cases c10 : dG N 55297 = dG N (59393 + 26624 * s)
      · rw [if_pos c10] at h
        refine dq_icF e_42_59 (dG_R _ _) (dG_R _ _) (dnf c10) ?_
        refine dq_aload e_42_62 l2 ?_
        refine dq_getI (key := 55298) e_42_63 hS ac_27_0_2_0 (by omega) ?_
        refine dq_aload e_42_66 l1 ?_
        refine dq_getR e_42_67 hS (ac_28s_5_6_2 s hs) ?_
        refine dq_getI (key := (59394 + 26624 * s)) e_42_70 hS (ac_29s_0_2_0 s hs) (by omega) ?_
        by_cases c11 : dG N (59394 + 26624 * s) < dG N 55298
        · rw [if_pos c11] at h
          refine dq_icF e_42_73 (dG_R _ _) (dG_R _ _) (dnf c11) ?_
          exact qX3_claimComes_RSC_b76 hS hs l0 l1 l2 h
        · rw [if_neg c11] at h
          refine dq_icT e_42_73 (dG_R _ _) (dG_R _ _) (dnt c11) ?_
          cases h
          exact dq_retv e_42_99 rfl hS
      · rw [if_neg c10] at h
        refine dq_icT e_42_59 (dG_R _ _) (dG_R _ _) (dnt c10) ?_
        exact qX3_claimComes_RSC_b76 hS hs l0 l1 l2 h
    · rw [if_neg c9] at h
      refine dq_icT e_42_45 (dG_R _ _) (⟨by decide, by decide⟩) (dnt c9) ?_
      refine dq_aload e_42_85 l1 ?_
      refine dq_getI (key := (57348 + 26624 * s)) e_42_86 hS (ac_28s_5_4_0 s hs) (by omega) ?_
      refine dq_iconst e_42_89 ?_
      by_cases c17 : dG N (57348 + 26624 * s) = 3
      · rw [if_pos c17] at h
        refine dq_icT e_42_90 (dG_R _ _) (⟨by decide, by decide⟩) (decide_eq_true c17) ?_
        cases h
        exact dq_retv e_42_99 rfl hS
      · rw [if_neg c17] at h
        refine dq_icF e_42_90 (dG_R _ _) (⟨by decide, by decide⟩) (decide_eq_false c17) ?_
        refine dq_aload e_42_93 l0 ?_
        refine dq_aload e_42_94 l1 ?_
        refine dq_aload e_42_95 l2 ?_
        obtain ⟨N18, v19, c20, h⟩ := dbd_inv h
        have q21 := qX3_beginToClaim_RSC (xs := xs) (Ln := Ln) hS hs c20
        have S22 : dS N18 := q21.2.1
        refine dq_callv (as := [.ref (28 + 13 * s), .ref 27]) (S := []) (nx := 99) e_42_96 rfl rfl rfl hS ak_1_3 rfl rfl rfl rfl q21 rfl ?_
        cases h
        exact dq_retv e_42_99 rfl S22
noncomputable def fX3_claimComes_RSC (N : mMem) (s : Nat) : Option dZ := (if dG N 55297 = (s : Int) then (if dG N 55298 = dG N (57352 + 26624 * s) then fX3_claimComes_RSC_b23 N s else some (N, 0)) else fX3_claimComes_RSC_b23 N s)
theorem qX3_claimComes_RSC {N : mMem} {s : Nat} {z : dZ} (hS : dS N) (hs : s < 8) (h : fX3_claimComes_RSC N s = some z) : dQ xs Ln 0 3 71 42 (0, lv_args 0 [.ref 1, .ref (28 + 13 * s), .ref 27], [], N) z := by
  unfold fX3_claimComes_RSC at h
  have l0 : mLk (lv_args 0 [.ref 1, .ref (28 + 13 * s), .ref 27]) 0 = some (.ref 1) := rfl
  have l1 : mLk (lv_args 0 [.ref 1, .ref (28 + 13 * s), .ref 27]) 1 = some (.ref (28 + 13 * s)) := rfl
  have l2 : mLk (lv_args 0 [.ref 1, .ref (28 + 13 * s), .ref 27]) 2 = some (.ref 27) := rfl
  generalize lv_args 0 [.ref 1, .ref (28 + 13 * s), .ref 27] = Nl at l0 l1 l2 ⊢
  refine dq_aload e_42_0 l2 ?_
  refine dq_getI (key := 55297) e_42_1 hS ac_27_0_1_0 (by omega) ?_
  refine dq_aload e_42_4 l1 ?_
  refine dq_getC (e := (s : Int)) e_42_5 hS (ac_28s_5_0_1 s hs) rfl ?_
  by_cases c1 : dG N 55297 = (s : Int)
  · rw [if_pos c1] at h
    refine dq_icF e_42_8 (dG_R _ _) (⟨by omega, by omega⟩) (dnf c1) ?_
    refine dq_aload e_42_11 l2 ?_
    refine dq_getI (key := 55298) e_42_12 hS ac_27_0_2_0 (by omega) ?_
    refine dq_aload e_42_15 l1 ?_
    refine dq_getI (key := (57352 + 26624 * s)) e_42_16 hS (ac_28s_5_8_0 s hs) (by omega) ?_
    by_cases c2 : dG N 55298 = dG N (57352 + 26624 * s)
    · rw [if_pos c2] at h
      refine dq_icT e_42_19 (dG_R _ _) (dG_R _ _) (decide_eq_true c2) ?_
      exact qX3_claimComes_RSC_b23 hS hs l0 l1 l2 h
    · rw [if_neg c2] at h
      refine dq_icF e_42_19 (dG_R _ _) (dG_R _ _) (decide_eq_false c2) ?_
      cases h
      exact dq_retv e_42_22 rfl hS
  · rw [if_neg c1] at h
    refine dq_icT e_42_8 (dG_R _ _) (⟨by omega, by omega⟩) (dnt c1) ?_
    exact qX3_claimComes_RSC_b23 hS hs l0 l1 l2 h
noncomputable def fX0_isSame_CU_b37 (N : mMem) : Option dZ := some (N, 0)
theorem qX0_isSame_CU_b37 {Nl : List (Nat × Value)} {N : mMem} {z : dZ} (hS : dS N) (h : fX0_isSame_CU_b37 N = some z) : dQ xs Ln 1 0 0 3 (37, Nl, [], N) z := by
  unfold fX0_isSame_CU_b37 at h
  refine dq_iconst e_3_37 ?_
  cases h
  exact dq_reti (ty := .boolean) e_3_38 rfl (by decide +kernel) hS (⟨by decide, by decide⟩)
noncomputable def fX0_isSame_CU (N : mMem) (s : Nat) : Option dZ := (if dG N 55296 = dG N (59392 + 26624 * s) then (if dG N 55297 = dG N (59393 + 26624 * s) then (if dG N 55298 = dG N (59394 + 26624 * s) then some (N, 1) else fX0_isSame_CU_b37 N) else fX0_isSame_CU_b37 N) else fX0_isSame_CU_b37 N)
theorem qX0_isSame_CU {N : mMem} {s : Nat} {z : dZ} (hS : dS N) (hs : s < 8) (h : fX0_isSame_CU N s = some z) : dQ xs Ln 1 0 0 3 (0, lv_args 0 [.ref 27, .ref (29 + 13 * s)], [], N) z := by
  unfold fX0_isSame_CU at h
  have l0 : mLk (lv_args 0 [.ref 27, .ref (29 + 13 * s)]) 0 = some (.ref 27) := rfl
  have l1 : mLk (lv_args 0 [.ref 27, .ref (29 + 13 * s)]) 1 = some (.ref (29 + 13 * s)) := rfl
  generalize lv_args 0 [.ref 27, .ref (29 + 13 * s)] = Nl at l0 l1 ⊢
  refine dq_aload e_3_0 l0 ?_
  refine dq_getI (key := 55296) e_3_1 hS ac_27_0_0_0 (by omega) ?_
  refine dq_aload e_3_4 l1 ?_
  refine dq_getI (key := (59392 + 26624 * s)) e_3_5 hS (ac_29s_0_0_0 s hs) (by omega) ?_
  by_cases c1 : dG N 55296 = dG N (59392 + 26624 * s)
  · rw [if_pos c1] at h
    refine dq_icF e_3_8 (dG_R _ _) (dG_R _ _) (dnf c1) ?_
    refine dq_aload e_3_11 l0 ?_
    refine dq_getI (key := 55297) e_3_12 hS ac_27_0_1_0 (by omega) ?_
    refine dq_aload e_3_15 l1 ?_
    refine dq_getI (key := (59393 + 26624 * s)) e_3_16 hS (ac_29s_0_1_0 s hs) (by omega) ?_
    by_cases c2 : dG N 55297 = dG N (59393 + 26624 * s)
    · rw [if_pos c2] at h
      refine dq_icF e_3_19 (dG_R _ _) (dG_R _ _) (dnf c2) ?_
      refine dq_aload e_3_22 l0 ?_
      refine dq_getI (key := 55298) e_3_23 hS ac_27_0_2_0 (by omega) ?_
      refine dq_aload e_3_26 l1 ?_
      refine dq_getI (key := (59394 + 26624 * s)) e_3_27 hS (ac_29s_0_2_0 s hs) (by omega) ?_
      by_cases c3 : dG N 55298 = dG N (59394 + 26624 * s)
      · rw [if_pos c3] at h
        refine dq_icF e_3_30 (dG_R _ _) (dG_R _ _) (dnf c3) ?_
        refine dq_iconst e_3_33 ?_
        refine dq_goto e_3_34 ?_
        cases h
        exact dq_reti (ty := .boolean) e_3_38 rfl (by decide +kernel) hS (⟨by decide, by decide⟩)
      · rw [if_neg c3] at h
        refine dq_icT e_3_30 (dG_R _ _) (dG_R _ _) (dnt c3) ?_
        exact qX0_isSame_CU_b37 hS h
    · rw [if_neg c2] at h
      refine dq_icT e_3_19 (dG_R _ _) (dG_R _ _) (dnt c2) ?_
      exact qX0_isSame_CU_b37 hS h
  · rw [if_neg c1] at h
    refine dq_icT e_3_8 (dG_R _ _) (dG_R _ _) (dnt c1) ?_
    exact qX0_isSame_CU_b37 hS h
end DQG4

/-! ===== functions over memory, and that the bodies run so; written by wip/dc ===== -/
section DQG7
variable {xs : Nat → Int32} {Ln : Nat}
noncomputable def fX4_remove_L_b15_6 (N : mMem) (s : Nat) (x1 : Int) : Option dZ := some (dP N (67587 + 26624 * s) (dW ((dG N (67587 + 26624 * s)) - 1)), 0)
theorem qX4_remove_L_b15_6 {Nl : List (Nat × Value)} {N : mMem} {s : Nat} {x1 : Int} {z : dZ} (hS : dS N) (hs : s < 8) (rx1 : dR x1) (l0 : mLk Nl 0 = some (.ref (33 + 13 * s))) (l1 : mLk Nl 1 = some (.int (dI x1))) (l2 : mLk Nl 2 = some (.int (dI 5))) (h : fX4_remove_L_b15_6 N s x1 = some z) : dQ xs Ln 0 1 18 62 (15, Nl, [], N) z := by
  unfold fX4_remove_L_b15_6 at h
  refine dq_iload e_62_15 l2 ?_
  refine dq_aload e_62_16 l0 ?_
  refine dq_getC (e := 5) e_62_17 hS (ac_33s_4_1_1 s hs) rfl ?_
  refine dq_icT e_62_20 (⟨by decide, by decide⟩) (⟨by decide, by decide⟩) (by decide +kernel) ?_
  refine dq_aload e_62_56 l0 ?_
  refine dq_dup e_62_57 rfl ?_
  refine dq_getI (key := (67587 + 26624 * s)) e_62_58 hS (ac_33s_4_3_0 s hs) (by omega) ?_
  refine dq_iconst e_62_61 ?_
  refine dq_isub (e := dW ((dG N (67587 + 26624 * s)) - 1)) e_62_62 rfl ?_
  have S43 := dS_P (v := dW ((dG N (67587 + 26624 * s)) - 1)) hS (ac_33s_4_3_0 s hs) (show (33 + 13 * s) * 2048 + 3 = (67587 + 26624 * s) by omega)
  refine dq_put (key := (67587 + 26624 * s)) e_62_63 hS (ac_33s_4_3_0 s hs) rfl (by omega) ?_
  cases h
  exact dq_retv e_62_66 rfl S43
noncomputable def fX4_remove_L_b15_5 (N : mMem) (s : Nat) (x1 : Int) : Option dZ := dgd ((0 : Int) ≤ dW (x1 + 1) ∧ (0 : Int) ≤ x1 ∧ (0 : Int) ≤ dW ((dW ((dG N (67587 + 26624 * s)) - 1)) - x1) ∧ dW (x1 + 1) + dW ((dW ((dG N (67587 + 26624 * s)) - 1)) - x1) ≤ 8 ∧ x1 + dW ((dW ((dG N (67587 + 26624 * s)) - 1)) - x1) ≤ 8) <| fX4_remove_L_b15_6 (dCp N (39 + 13 * s) (dW (x1 + 1)).toNat (39 + 13 * s) (x1).toNat (dW ((dW ((dG N (67587 + 26624 * s)) - 1)) - x1)).toNat) s x1
theorem qX4_remove_L_b15_5 {Nl : List (Nat × Value)} {N : mMem} {s : Nat} {x1 : Int} {z : dZ} (hS : dS N) (hs : s < 8) (rx1 : dR x1) (l0 : mLk Nl 0 = some (.ref (33 + 13 * s))) (l1 : mLk Nl 1 = some (.int (dI x1))) (l2 : mLk Nl 2 = some (.int (dI 4))) (h : fX4_remove_L_b15_5 N s x1 = some z) : dQ xs Ln 0 1 18 62 (15, Nl, [], N) z := by
  unfold fX4_remove_L_b15_5 at h
  refine dq_iload e_62_15 l2 ?_
  refine dq_aload e_62_16 l0 ?_
  refine dq_getC (e := 5) e_62_17 hS (ac_33s_4_1_1 s hs) rfl ?_
  refine dq_icF e_62_20 (⟨by decide, by decide⟩) (⟨by decide, by decide⟩) (by decide +kernel) ?_
  refine dq_aload e_62_23 l0 ?_
  refine dq_getR e_62_24 hS (ac_33s_4_2_2 s hs) ?_
  refine dq_iload e_62_27 l2 ?_
  refine dq_aal (n := 4) e_62_28 hS ⟨by decide, by decide⟩ (by decide) rfl (ac_34s_101_4_2 s hs) rfl ?_
  refine dq_iload e_62_29 l1 ?_
  refine dq_iconst e_62_30 ?_
  refine dq_iadd (e := dW (x1 + 1)) e_62_31 rfl ?_
  refine dq_aload e_62_32 l0 ?_
  refine dq_getR e_62_33 hS (ac_33s_4_2_2 s hs) ?_
  refine dq_iload e_62_36 l2 ?_
  refine dq_aal (n := 4) e_62_37 hS ⟨by decide, by decide⟩ (by decide) rfl (ac_34s_101_4_2 s hs) rfl ?_
  refine dq_iload e_62_38 l1 ?_
  refine dq_aload e_62_39 l0 ?_
  refine dq_getI (key := (67587 + 26624 * s)) e_62_40 hS (ac_33s_4_3_0 s hs) (by omega) ?_
  refine dq_iconst e_62_43 ?_
  refine dq_isub (e := dW ((dG N (67587 + 26624 * s)) - 1)) e_62_44 rfl ?_
  refine dq_iload e_62_45 l1 ?_
  refine dq_isub (e := dW ((dW ((dG N (67587 + 26624 * s)) - 1)) - x1)) e_62_46 rfl ?_
  obtain ⟨g36, h⟩ := dgd_inv h
  have S37 : dS (dCp N (39 + 13 * s) (dW (x1 + 1)).toNat (39 + 13 * s) (x1).toNat (dW ((dW ((dG N (67587 + 26624 * s)) - 1)) - x1)).toNat) := dS_cp hS (aa_39s s hs) (by omega)
  refine dq_acp e_62_47 hS (aa_39s s hs) (aa_39s s hs) rfl rfl (dW_R _) rx1 (dW_R _) g36.1 g36.2.1 g36.2.2.1 g36.2.2.2.1 g36.2.2.2.2 ?_
  refine dq_iinc (x := 4) (e := 5) e_62_50 l2 rfl (by decide +kernel) (fun K38 m39 mm40 => ?_)
  have m41 := mm40 0 _ (by decide) rfl l0
  have m42 := mm40 1 _ (by decide) rfl l1
  refine dq_goto e_62_53 ?_
  exact qX4_remove_L_b15_6 S37 hs rx1 m41 m42 m39 h
noncomputable def fX4_remove_L_b15_4 (N : mMem) (s : Nat) (x1 : Int) : Option dZ := dgd ((0 : Int) ≤ dW (x1 + 1) ∧ (0 : Int) ≤ x1 ∧ (0 : Int) ≤ dW ((dW ((dG N (67587 + 26624 * s)) - 1)) - x1) ∧ dW (x1 + 1) + dW ((dW ((dG N (67587 + 26624 * s)) - 1)) - x1) ≤ 8 ∧ x1 + dW ((dW ((dG N (67587 + 26624 * s)) - 1)) - x1) ≤ 8) <| fX4_remove_L_b15_5 (dCp N (38 + 13 * s) (dW (x1 + 1)).toNat (38 + 13 * s) (x1).toNat (dW ((dW ((dG N (67587 + 26624 * s)) - 1)) - x1)).toNat) s x1
theorem qX4_remove_L_b15_4 {Nl : List (Nat × Value)} {N : mMem} {s : Nat} {x1 : Int} {z : dZ} (hS : dS N) (hs : s < 8) (rx1 : dR x1) (l0 : mLk Nl 0 = some (.ref (33 + 13 * s))) (l1 : mLk Nl 1 = some (.int (dI x1))) (l2 : mLk Nl 2 = some (.int (dI 3))) (h : fX4_remove_L_b15_4 N s x1 = some z) : dQ xs Ln 0 1 18 62 (15, Nl, [], N) z := by
  unfold fX4_remove_L_b15_4 at h
  refine dq_iload e_62_15 l2 ?_
  refine dq_aload e_62_16 l0 ?_
  refine dq_getC (e := 5) e_62_17 hS (ac_33s_4_1_1 s hs) rfl ?_
  refine dq_icF e_62_20 (⟨by decide, by decide⟩) (⟨by decide, by decide⟩) (by decide +kernel) ?_
  refine dq_aload e_62_23 l0 ?_
  refine dq_getR e_62_24 hS (ac_33s_4_2_2 s hs) ?_
  refine dq_iload e_62_27 l2 ?_
  refine dq_aal (n := 3) e_62_28 hS ⟨by decide, by decide⟩ (by decide) rfl (ac_34s_101_3_2 s hs) rfl ?_
  refine dq_iload e_62_29 l1 ?_
  refine dq_iconst e_62_30 ?_
  refine dq_iadd (e := dW (x1 + 1)) e_62_31 rfl ?_
  refine dq_aload e_62_32 l0 ?_
  refine dq_getR e_62_33 hS (ac_33s_4_2_2 s hs) ?_
  refine dq_iload e_62_36 l2 ?_
  refine dq_aal (n := 3) e_62_37 hS ⟨by decide, by decide⟩ (by decide) rfl (ac_34s_101_3_2 s hs) rfl ?_
  refine dq_iload e_62_38 l1 ?_
  refine dq_aload e_62_39 l0 ?_
  refine dq_getI (key := (67587 + 26624 * s)) e_62_40 hS (ac_33s_4_3_0 s hs) (by omega) ?_
  refine dq_iconst e_62_43 ?_
  refine dq_isub (e := dW ((dG N (67587 + 26624 * s)) - 1)) e_62_44 rfl ?_
  refine dq_iload e_62_45 l1 ?_
  refine dq_isub (e := dW ((dW ((dG N (67587 + 26624 * s)) - 1)) - x1)) e_62_46 rfl ?_
  obtain ⟨g29, h⟩ := dgd_inv h
  have S30 : dS (dCp N (38 + 13 * s) (dW (x1 + 1)).toNat (38 + 13 * s) (x1).toNat (dW ((dW ((dG N (67587 + 26624 * s)) - 1)) - x1)).toNat) := dS_cp hS (aa_38s s hs) (by omega)
  refine dq_acp e_62_47 hS (aa_38s s hs) (aa_38s s hs) rfl rfl (dW_R _) rx1 (dW_R _) g29.1 g29.2.1 g29.2.2.1 g29.2.2.2.1 g29.2.2.2.2 ?_
  refine dq_iinc (x := 3) (e := 4) e_62_50 l2 rfl (by decide +kernel) (fun K31 m32 mm33 => ?_)
  have m34 := mm33 0 _ (by decide) rfl l0
  have m35 := mm33 1 _ (by decide) rfl l1
  refine dq_goto e_62_53 ?_
  exact qX4_remove_L_b15_5 S30 hs rx1 m34 m35 m32 h
noncomputable def fX4_remove_L_b15_3 (N : mMem) (s : Nat) (x1 : Int) : Option dZ := dgd ((0 : Int) ≤ dW (x1 + 1) ∧ (0 : Int) ≤ x1 ∧ (0 : Int) ≤ dW ((dW ((dG N (67587 + 26624 * s)) - 1)) - x1) ∧ dW (x1 + 1) + dW ((dW ((dG N (67587 + 26624 * s)) - 1)) - x1) ≤ 8 ∧ x1 + dW ((dW ((dG N (67587 + 26624 * s)) - 1)) - x1) ≤ 8) <| fX4_remove_L_b15_4 (dCp N (37 + 13 * s) (dW (x1 + 1)).toNat (37 + 13 * s) (x1).toNat (dW ((dW ((dG N (67587 + 26624 * s)) - 1)) - x1)).toNat) s x1
theorem qX4_remove_L_b15_3 {Nl : List (Nat × Value)} {N : mMem} {s : Nat} {x1 : Int} {z : dZ} (hS : dS N) (hs : s < 8) (rx1 : dR x1) (l0 : mLk Nl 0 = some (.ref (33 + 13 * s))) (l1 : mLk Nl 1 = some (.int (dI x1))) (l2 : mLk Nl 2 = some (.int (dI 2))) (h : fX4_remove_L_b15_3 N s x1 = some z) : dQ xs Ln 0 1 18 62 (15, Nl, [], N) z := by
  unfold fX4_remove_L_b15_3 at h
  refine dq_iload e_62_15 l2 ?_
  refine dq_aload e_62_16 l0 ?_
  refine dq_getC (e := 5) e_62_17 hS (ac_33s_4_1_1 s hs) rfl ?_
  refine dq_icF e_62_20 (⟨by decide, by decide⟩) (⟨by decide, by decide⟩) (by decide +kernel) ?_
  refine dq_aload e_62_23 l0 ?_
  refine dq_getR e_62_24 hS (ac_33s_4_2_2 s hs) ?_
  refine dq_iload e_62_27 l2 ?_
  refine dq_aal (n := 2) e_62_28 hS ⟨by decide, by decide⟩ (by decide) rfl (ac_34s_101_2_2 s hs) rfl ?_
  refine dq_iload e_62_29 l1 ?_
  refine dq_iconst e_62_30 ?_
  refine dq_iadd (e := dW (x1 + 1)) e_62_31 rfl ?_
  refine dq_aload e_62_32 l0 ?_
  refine dq_getR e_62_33 hS (ac_33s_4_2_2 s hs) ?_
  refine dq_iload e_62_36 l2 ?_
  refine dq_aal (n := 2) e_62_37 hS ⟨by decide, by decide⟩ (by decide) rfl (ac_34s_101_2_2 s hs) rfl ?_
  refine dq_iload e_62_38 l1 ?_
  refine dq_aload e_62_39 l0 ?_
  refine dq_getI (key := (67587 + 26624 * s)) e_62_40 hS (ac_33s_4_3_0 s hs) (by omega) ?_
  refine dq_iconst e_62_43 ?_
  refine dq_isub (e := dW ((dG N (67587 + 26624 * s)) - 1)) e_62_44 rfl ?_
  refine dq_iload e_62_45 l1 ?_
  refine dq_isub (e := dW ((dW ((dG N (67587 + 26624 * s)) - 1)) - x1)) e_62_46 rfl ?_
  obtain ⟨g22, h⟩ := dgd_inv h
  have S23 : dS (dCp N (37 + 13 * s) (dW (x1 + 1)).toNat (37 + 13 * s) (x1).toNat (dW ((dW ((dG N (67587 + 26624 * s)) - 1)) - x1)).toNat) := dS_cp hS (aa_37s s hs) (by omega)
  refine dq_acp e_62_47 hS (aa_37s s hs) (aa_37s s hs) rfl rfl (dW_R _) rx1 (dW_R _) g22.1 g22.2.1 g22.2.2.1 g22.2.2.2.1 g22.2.2.2.2 ?_
  refine dq_iinc (x := 2) (e := 3) e_62_50 l2 rfl (by decide +kernel) (fun K24 m25 mm26 => ?_)
  have m27 := mm26 0 _ (by decide) rfl l0
  have m28 := mm26 1 _ (by decide) rfl l1
  refine dq_goto e_62_53 ?_
  exact qX4_remove_L_b15_4 S23 hs rx1 m27 m28 m25 h
noncomputable def fX4_remove_L_b15_2 (N : mMem) (s : Nat) (x1 : Int) : Option dZ := dgd ((0 : Int) ≤ dW (x1 + 1) ∧ (0 : Int) ≤ x1 ∧ (0 : Int) ≤ dW ((dW ((dG N (67587 + 26624 * s)) - 1)) - x1) ∧ dW (x1 + 1) + dW ((dW ((dG N (67587 + 26624 * s)) - 1)) - x1) ≤ 8 ∧ x1 + dW ((dW ((dG N (67587 + 26624 * s)) - 1)) - x1) ≤ 8) <| fX4_remove_L_b15_3 (dCp N (36 + 13 * s) (dW (x1 + 1)).toNat (36 + 13 * s) (x1).toNat (dW ((dW ((dG N (67587 + 26624 * s)) - 1)) - x1)).toNat) s x1
theorem qX4_remove_L_b15_2 {Nl : List (Nat × Value)} {N : mMem} {s : Nat} {x1 : Int} {z : dZ} (hS : dS N) (hs : s < 8) (rx1 : dR x1) (l0 : mLk Nl 0 = some (.ref (33 + 13 * s))) (l1 : mLk Nl 1 = some (.int (dI x1))) (l2 : mLk Nl 2 = some (.int (dI 1))) (h : fX4_remove_L_b15_2 N s x1 = some z) : dQ xs Ln 0 1 18 62 (15, Nl, [], N) z := by
  unfold fX4_remove_L_b15_2 at h
  refine dq_iload e_62_15 l2 ?_
  refine dq_aload e_62_16 l0 ?_
  refine dq_getC (e := 5) e_62_17 hS (ac_33s_4_1_1 s hs) rfl ?_
  refine dq_icF e_62_20 (⟨by decide, by decide⟩) (⟨by decide, by decide⟩) (by decide +kernel) ?_
  refine dq_aload e_62_23 l0 ?_
  refine dq_getR e_62_24 hS (ac_33s_4_2_2 s hs) ?_
  refine dq_iload e_62_27 l2 ?_
  refine dq_aal (n := 1) e_62_28 hS ⟨by decide, by decide⟩ (by decide) rfl (ac_34s_101_1_2 s hs) rfl ?_
  refine dq_iload e_62_29 l1 ?_
  refine dq_iconst e_62_30 ?_
  refine dq_iadd (e := dW (x1 + 1)) e_62_31 rfl ?_
  refine dq_aload e_62_32 l0 ?_
  refine dq_getR e_62_33 hS (ac_33s_4_2_2 s hs) ?_
  refine dq_iload e_62_36 l2 ?_
  refine dq_aal (n := 1) e_62_37 hS ⟨by decide, by decide⟩ (by decide) rfl (ac_34s_101_1_2 s hs) rfl ?_
  refine dq_iload e_62_38 l1 ?_
  refine dq_aload e_62_39 l0 ?_
  refine dq_getI (key := (67587 + 26624 * s)) e_62_40 hS (ac_33s_4_3_0 s hs) (by omega) ?_
  refine dq_iconst e_62_43 ?_
  refine dq_isub (e := dW ((dG N (67587 + 26624 * s)) - 1)) e_62_44 rfl ?_
  refine dq_iload e_62_45 l1 ?_
  refine dq_isub (e := dW ((dW ((dG N (67587 + 26624 * s)) - 1)) - x1)) e_62_46 rfl ?_
  obtain ⟨g15, h⟩ := dgd_inv h
  have S16 : dS (dCp N (36 + 13 * s) (dW (x1 + 1)).toNat (36 + 13 * s) (x1).toNat (dW ((dW ((dG N (67587 + 26624 * s)) - 1)) - x1)).toNat) := dS_cp hS (aa_36s s hs) (by omega)
  refine dq_acp e_62_47 hS (aa_36s s hs) (aa_36s s hs) rfl rfl (dW_R _) rx1 (dW_R _) g15.1 g15.2.1 g15.2.2.1 g15.2.2.2.1 g15.2.2.2.2 ?_
  refine dq_iinc (x := 1) (e := 2) e_62_50 l2 rfl (by decide +kernel) (fun K17 m18 mm19 => ?_)
  have m20 := mm19 0 _ (by decide) rfl l0
  have m21 := mm19 1 _ (by decide) rfl l1
  refine dq_goto e_62_53 ?_
  exact qX4_remove_L_b15_3 S16 hs rx1 m20 m21 m18 h
noncomputable def fX4_remove_L_b15 (N : mMem) (s : Nat) (x1 : Int) : Option dZ := dgd ((0 : Int) ≤ dW (x1 + 1) ∧ (0 : Int) ≤ x1 ∧ (0 : Int) ≤ dW ((dW ((dG N (67587 + 26624 * s)) - 1)) - x1) ∧ dW (x1 + 1) + dW ((dW ((dG N (67587 + 26624 * s)) - 1)) - x1) ≤ 8 ∧ x1 + dW ((dW ((dG N (67587 + 26624 * s)) - 1)) - x1) ≤ 8) <| fX4_remove_L_b15_2 (dCp N (35 + 13 * s) (dW (x1 + 1)).toNat (35 + 13 * s) (x1).toNat (dW ((dW ((dG N (67587 + 26624 * s)) - 1)) - x1)).toNat) s x1
theorem qX4_remove_L_b15 {Nl : List (Nat × Value)} {N : mMem} {s : Nat} {x1 : Int} {z : dZ} (hS : dS N) (hs : s < 8) (rx1 : dR x1) (l0 : mLk Nl 0 = some (.ref (33 + 13 * s))) (l1 : mLk Nl 1 = some (.int (dI x1))) (l2 : mLk Nl 2 = some (.int (dI 0))) (h : fX4_remove_L_b15 N s x1 = some z) : dQ xs Ln 0 1 18 62 (15, Nl, [], N) z := by
  unfold fX4_remove_L_b15 at h
  refine dq_iload e_62_15 l2 ?_
  refine dq_aload e_62_16 l0 ?_
  refine dq_getC (e := 5) e_62_17 hS (ac_33s_4_1_1 s hs) rfl ?_
  refine dq_icF e_62_20 (⟨by decide, by decide⟩) (⟨by decide, by decide⟩) (by decide +kernel) ?_
  refine dq_aload e_62_23 l0 ?_
  refine dq_getR e_62_24 hS (ac_33s_4_2_2 s hs) ?_
  refine dq_iload e_62_27 l2 ?_
  refine dq_aal (n := 0) e_62_28 hS ⟨by decide, by decide⟩ (by decide) rfl (ac_34s_101_0_2 s hs) rfl ?_
  refine dq_iload e_62_29 l1 ?_
  refine dq_iconst e_62_30 ?_
  refine dq_iadd (e := dW (x1 + 1)) e_62_31 rfl ?_
  refine dq_aload e_62_32 l0 ?_
  refine dq_getR e_62_33 hS (ac_33s_4_2_2 s hs) ?_
  refine dq_iload e_62_36 l2 ?_
  refine dq_aal (n := 0) e_62_37 hS ⟨by decide, by decide⟩ (by decide) rfl (ac_34s_101_0_2 s hs) rfl ?_
  refine dq_iload e_62_38 l1 ?_
  refine dq_aload e_62_39 l0 ?_
  refine dq_getI (key := (67587 + 26624 * s)) e_62_40 hS (ac_33s_4_3_0 s hs) (by omega) ?_
  refine dq_iconst e_62_43 ?_
  refine dq_isub (e := dW ((dG N (67587 + 26624 * s)) - 1)) e_62_44 rfl ?_
  refine dq_iload e_62_45 l1 ?_
  refine dq_isub (e := dW ((dW ((dG N (67587 + 26624 * s)) - 1)) - x1)) e_62_46 rfl ?_
  obtain ⟨g8, h⟩ := dgd_inv h
  have S9 : dS (dCp N (35 + 13 * s) (dW (x1 + 1)).toNat (35 + 13 * s) (x1).toNat (dW ((dW ((dG N (67587 + 26624 * s)) - 1)) - x1)).toNat) := dS_cp hS (aa_35s s hs) (by omega)
  refine dq_acp e_62_47 hS (aa_35s s hs) (aa_35s s hs) rfl rfl (dW_R _) rx1 (dW_R _) g8.1 g8.2.1 g8.2.2.1 g8.2.2.2.1 g8.2.2.2.2 ?_
  refine dq_iinc (x := 0) (e := 1) e_62_50 l2 rfl (by decide +kernel) (fun K10 m11 mm12 => ?_)
  have m13 := mm12 0 _ (by decide) rfl l0
  have m14 := mm12 1 _ (by decide) rfl l1
  refine dq_goto e_62_53 ?_
  exact qX4_remove_L_b15_2 S9 hs rx1 m13 m14 m11 h
noncomputable def fX4_remove_L (N : mMem) (s : Nat) (x1 : Int) : Option dZ := (if x1 < 0 then some (N, 0) else (if x1 < dG N (67587 + 26624 * s) then fX4_remove_L_b15 N s x1 else some (N, 0)))
theorem qX4_remove_L {N : mMem} {s : Nat} {x1 : Int} {z : dZ} (hS : dS N) (hs : s < 8) (rx1 : dR x1) (h : fX4_remove_L N s x1 = some z) : dQ xs Ln 0 1 18 62 (0, lv_args 0 [.ref (33 + 13 * s), .int (dI x1)], [], N) z := by
  unfold fX4_remove_L at h
  have l0 : mLk (lv_args 0 [.ref (33 + 13 * s), .int (dI x1)]) 0 = some (.ref (33 + 13 * s)) := rfl
  have l1 : mLk (lv_args 0 [.ref (33 + 13 * s), .int (dI x1)]) 1 = some (.int (dI x1)) := rfl
  generalize lv_args 0 [.ref (33 + 13 * s), .int (dI x1)] = Nl at l0 l1 ⊢
  refine dq_iload e_62_0 l1 ?_
  by_cases c1 : x1 < 0
  · rw [if_pos c1] at h
    refine dq_ifT e_62_1 rx1 (decide_eq_true c1) ?_
    cases h
    exact dq_retv e_62_12 rfl hS
  · rw [if_neg c1] at h
    refine dq_ifF e_62_1 rx1 (decide_eq_false c1) ?_
    refine dq_iload e_62_4 l1 ?_
    refine dq_aload e_62_5 l0 ?_
    refine dq_getI (key := (67587 + 26624 * s)) e_62_6 hS (ac_33s_4_3_0 s hs) (by omega) ?_
    by_cases c2 : x1 < dG N (67587 + 26624 * s)
    · rw [if_pos c2] at h
      refine dq_icT e_62_9 rx1 (dG_R _ _) (decide_eq_true c2) ?_
      refine dq_iconst e_62_13 ?_
      refine dq_istore e_62_14 rfl (fun K3 m4 mm5 => ?_)
      have m6 := mm5 0 _ (by decide) rfl l0
      have m7 := mm5 1 _ (by decide) rfl l1
      exact qX4_remove_L_b15 hS hs rx1 m6 m7 m4 h
    · rw [if_neg c2] at h
      refine dq_icF e_62_9 rx1 (dG_R _ _) (decide_eq_false c2) ?_
      cases h
      exact dq_retv e_62_12 rfl hS
noncomputable def fX3_endFrame_RS_b199 (N : mMem) (s : Nat) (x2 : Int) : Option dZ := dbd (fX4_remove_L N s x2) fun N86 v87 => some (N86, 0)
theorem qX3_endFrame_RS_b199 {Nl : List (Nat × Value)} {N : mMem} {s : Nat} {x2 : Int} {z : dZ} (hS : dS N) (hs : s < 8) (rx2 : dR x2) (l1 : mLk Nl 1 = some (.ref (28 + 13 * s))) (l2 : mLk Nl 2 = some (.int (dI x2))) (h : fX3_endFrame_RS_b199 N s x2 = some z) : dQ xs Ln 0 2 40 55 (199, Nl, [], N) z := by
  unfold fX3_endFrame_RS_b199 at h
  refine dq_aload e_55_199 l1 ?_
  refine dq_getR e_55_200 hS (ac_28s_5_17_2 s hs) ?_
  refine dq_iload e_55_203 l2 ?_
  obtain ⟨N86, v87, c88, h⟩ := dbd_inv h
  have q89 := qX4_remove_L (xs := xs) (Ln := Ln) hS hs rx2 c88
  have S90 : dS N86 := q89.2.1
  refine dq_callv (as := [.int (dI x2)]) (S := []) (nx := 207) e_55_204 rfl rfl rfl hS (ak_33s_4 s hs) rfl rfl rfl rfl q89 rfl ?_
  cases h
  exact dq_retv e_55_207 rfl S90
noncomputable def fX3_endFrame_RS_b196 (N : mMem) (s : Nat) (x2 : Int) (y1 : Int) : Option dZ := fX3_endFrame_RS_b199 (dP N 2060 y1) s x2
theorem qX3_endFrame_RS_b196 {Nl : List (Nat × Value)} {N : mMem} {s : Nat} {x2 : Int} {y1 : Int} {z : dZ} (hS : dS N) (hs : s < 8) (rx2 : dR x2) (ry1 : dR y1) (l1 : mLk Nl 1 = some (.ref (28 + 13 * s))) (l2 : mLk Nl 2 = some (.int (dI x2))) (h : fX3_endFrame_RS_b196 N s x2 y1 = some z) : dQ xs Ln 0 2 40 55 (196, Nl, [.int (dI y1), .ref 1], N) z := by
  unfold fX3_endFrame_RS_b196 at h
  have S85 := dS_P (v := y1) hS ac_1_3_12_0 (show 1 * 2048 + 12 = 2060 by omega)
  refine dq_put (key := 2060) e_55_196 hS ac_1_3_12_0 rfl (by omega) ?_
  exact qX3_endFrame_RS_b199 S85 hs rx2 l1 l2 h
noncomputable def fX3_endFrame_RS_b171 (N : mMem) (s : Nat) (x2 : Int) (x4 : Int) (x5 : Int) : Option dZ := dbd (fX4_at_Lc4 N s x2) fun N77 v78 => (if v78 = 1 then (if x4 = 0 then fX3_endFrame_RS_b196 N77 s x2 x5 else fX3_endFrame_RS_b196 N77 s x2 (-1)) else fX3_endFrame_RS_b199 N77 s x2)
theorem qX3_endFrame_RS_b171 {Nl : List (Nat × Value)} {N : mMem} {s : Nat} {x2 : Int} {x4 : Int} {x5 : Int} {z : dZ} (hS : dS N) (hs : s < 8) (rx2 : dR x2) (rx4 : dR x4) (rx5 : dR x5) (l0 : mLk Nl 0 = some (.ref 1)) (l1 : mLk Nl 1 = some (.ref (28 + 13 * s))) (l2 : mLk Nl 2 = some (.int (dI x2))) (l4 : mLk Nl 4 = some (.int (dI x4))) (l5 : mLk Nl 5 = some (.int (dI x5))) (h : fX3_endFrame_RS_b171 N s x2 x4 x5 = some z) : dQ xs Ln 0 2 40 55 (171, Nl, [], N) z := by
  unfold fX3_endFrame_RS_b171 at h
  refine dq_aload e_55_171 l1 ?_
  refine dq_getR e_55_172 hS (ac_28s_5_17_2 s hs) ?_
  refine dq_iload e_55_175 l2 ?_
  refine dq_iconst e_55_176 ?_
  obtain ⟨N77, v78, c79, h⟩ := dbd_inv h
  have q80 := qX4_at_Lc4 (xs := xs) (Ln := Ln) hS hs rx2 c79
  have S81 : dS N77 := q80.2.1
  refine dq_calli (as := [.int (dI x2), .int (dI 4)]) (S := []) (nx := 180) e_55_177 rfl rfl rfl hS (ak_33s_4 s hs) rfl rfl rfl rfl q80 rfl ?_
  have r82 : dR v78 := q80.2.2
  refine dq_iconst e_55_180 ?_
  by_cases c83 : v78 = 1
  · rw [if_pos c83] at h
    refine dq_icF e_55_181 r82 (⟨by decide, by decide⟩) (dnf c83) ?_
    refine dq_aload e_55_184 l0 ?_
    refine dq_iload e_55_185 l4 ?_
    by_cases c84 : x4 = 0
    · rw [if_pos c84] at h
      refine dq_ifT e_55_187 rx4 (decide_eq_true c84) ?_
      refine dq_iload e_55_194 l5 ?_
      exact qX3_endFrame_RS_b196 S81 hs rx2 rx5 l1 l2 h
    · rw [if_neg c84] at h
      refine dq_ifF e_55_187 rx4 (decide_eq_false c84) ?_
      refine dq_iconst e_55_190 ?_
      refine dq_goto e_55_191 ?_
      exact qX3_endFrame_RS_b196 S81 hs rx2 (⟨by decide, by decide⟩) l1 l2 h
  · rw [if_neg c83] at h
    refine dq_icT e_55_181 r82 (⟨by decide, by decide⟩) (dnt c83) ?_
    exact qX3_endFrame_RS_b199 S81 hs rx2 l1 l2 h
noncomputable def fX3_endFrame_RS_b115 (N : mMem) (s : Nat) (x2 : Int) (x4 : Int) (x5 : Int) : Option dZ := (if x4 = 0 then dlt (dP N (81922 + 26624 * s) (dW ((dG N (81922 + 26624 * s)) + 1))) fun N71 => dlt (dP N71 (81924 + 26624 * s) (dW ((dG N71 (81924 + 26624 * s)) + x5))) fun N74 => fX3_endFrame_RS_b171 (dP N74 (81925 + 26624 * s) (dMx (dG N74 (81925 + 26624 * s)) x5)) s x2 x4 x5 else fX3_endFrame_RS_b171 (dP N (81923 + 26624 * s) (dW ((dG N (81923 + 26624 * s)) + 1))) s x2 x4 x5)
theorem qX3_endFrame_RS_b115 {Nl : List (Nat × Value)} {N : mMem} {s : Nat} {x2 : Int} {x4 : Int} {x5 : Int} {z : dZ} (hS : dS N) (hs : s < 8) (rx2 : dR x2) (rx4 : dR x4) (rx5 : dR x5) (l0 : mLk Nl 0 = some (.ref 1)) (l1 : mLk Nl 1 = some (.ref (28 + 13 * s))) (l2 : mLk Nl 2 = some (.int (dI x2))) (l4 : mLk Nl 4 = some (.int (dI x4))) (l5 : mLk Nl 5 = some (.int (dI x5))) (h : fX3_endFrame_RS_b115 N s x2 x4 x5 = some z) : dQ xs Ln 0 2 40 55 (115, Nl, [], N) z := by
  unfold fX3_endFrame_RS_b115 at h
  refine dq_iload e_55_115 l4 ?_
  by_cases c69 : x4 = 0
  · rw [if_pos c69] at h
    refine dq_ifT e_55_117 rx4 (decide_eq_true c69) ?_
    refine dq_aload e_55_133 l1 ?_
    refine dq_getR e_55_134 hS (ac_28s_5_18_2 s hs) ?_
    refine dq_iconst e_55_137 ?_
    refine dq_dup2 e_55_138 rfl rfl ?_
    refine dq_ial (key := (81922 + 26624 * s)) e_55_139 hS (aa_40s s hs) (⟨by decide, by decide⟩) (by decide) (by decide) (by show (40 + 13 * s) * 2048 + 2 = (81922 + 26624 * s); omega) ?_
    refine dq_iconst e_55_140 ?_
    refine dq_iadd (e := dW ((dG N (81922 + 26624 * s)) + 1)) e_55_141 rfl ?_
    have S70 := dS_A (v := dW ((dG N (81922 + 26624 * s)) + 1)) (k := (2 : Int).toNat) (key := (81922 + 26624 * s)) hS (aa_40s s hs) (by decide) (by show (40 + 13 * s) * 2048 + 2 = (81922 + 26624 * s); omega)
    refine dq_ias (key := (81922 + 26624 * s)) e_55_142 hS (aa_40s s hs) (⟨by decide, by decide⟩) (by decide) (by decide) (by show (40 + 13 * s) * 2048 + 2 = (81922 + 26624 * s); omega) ?_
    refine dq_aload e_55_143 l1 ?_
    refine dq_getR e_55_144 S70 (ac_28s_5_18_2 s hs) ?_
    refine dq_iconst e_55_147 ?_
    refine dq_dup2 e_55_148 rfl rfl ?_
    refine dq_let h S70 (fun N71 S72 h => ?_)
    refine dq_ial (key := (81924 + 26624 * s)) e_55_149 S72 (aa_40s s hs) (⟨by decide, by decide⟩) (by decide) (by decide) (by show (40 + 13 * s) * 2048 + 4 = (81924 + 26624 * s); omega) ?_
    refine dq_iload e_55_150 l5 ?_
    refine dq_iadd (e := dW ((dG N71 (81924 + 26624 * s)) + x5)) e_55_152 rfl ?_
    have S73 := dS_A (v := dW ((dG N71 (81924 + 26624 * s)) + x5)) (k := (4 : Int).toNat) (key := (81924 + 26624 * s)) S72 (aa_40s s hs) (by decide) (by show (40 + 13 * s) * 2048 + 4 = (81924 + 26624 * s); omega)
    refine dq_ias (key := (81924 + 26624 * s)) e_55_153 S72 (aa_40s s hs) (⟨by decide, by decide⟩) (by decide) (by decide) (by show (40 + 13 * s) * 2048 + 4 = (81924 + 26624 * s); omega) ?_
    refine dq_aload e_55_154 l1 ?_
    refine dq_getR e_55_155 S73 (ac_28s_5_18_2 s hs) ?_
    refine dq_iconst e_55_158 ?_
    refine dq_aload e_55_159 l1 ?_
    refine dq_getR e_55_160 S73 (ac_28s_5_18_2 s hs) ?_
    refine dq_iconst e_55_163 ?_
    refine dq_let h S73 (fun N74 S75 h => ?_)
    refine dq_ial (key := (81925 + 26624 * s)) e_55_164 S75 (aa_40s s hs) (⟨by decide, by decide⟩) (by decide) (by decide) (by show (40 + 13 * s) * 2048 + 5 = (81925 + 26624 * s); omega) ?_
    refine dq_iload e_55_165 l5 ?_
    refine dq_max e_55_167 (dG_R _ _) rx5 rfl rfl rfl ?_
    have S76 := dS_A (v := dMx (dG N74 (81925 + 26624 * s)) x5) (k := (5 : Int).toNat) (key := (81925 + 26624 * s)) S75 (aa_40s s hs) (by decide) (by show (40 + 13 * s) * 2048 + 5 = (81925 + 26624 * s); omega)
    refine dq_ias (key := (81925 + 26624 * s)) e_55_170 S75 (aa_40s s hs) (⟨by decide, by decide⟩) (by decide) (by decide) (by show (40 + 13 * s) * 2048 + 5 = (81925 + 26624 * s); omega) ?_
    exact qX3_endFrame_RS_b171 S76 hs rx2 rx4 rx5 l0 l1 l2 l4 l5 h
  · rw [if_neg c69] at h
    refine dq_ifF e_55_117 rx4 (decide_eq_false c69) ?_
    refine dq_aload e_55_120 l1 ?_
    refine dq_getR e_55_121 hS (ac_28s_5_18_2 s hs) ?_
    refine dq_iconst e_55_124 ?_
    refine dq_dup2 e_55_125 rfl rfl ?_
    refine dq_ial (key := (81923 + 26624 * s)) e_55_126 hS (aa_40s s hs) (⟨by decide, by decide⟩) (by decide) (by decide) (by show (40 + 13 * s) * 2048 + 3 = (81923 + 26624 * s); omega) ?_
    refine dq_iconst e_55_127 ?_
    refine dq_iadd (e := dW ((dG N (81923 + 26624 * s)) + 1)) e_55_128 rfl ?_
    have S91 := dS_A (v := dW ((dG N (81923 + 26624 * s)) + 1)) (k := (3 : Int).toNat) (key := (81923 + 26624 * s)) hS (aa_40s s hs) (by decide) (by show (40 + 13 * s) * 2048 + 3 = (81923 + 26624 * s); omega)
    refine dq_ias (key := (81923 + 26624 * s)) e_55_129 hS (aa_40s s hs) (⟨by decide, by decide⟩) (by decide) (by decide) (by show (40 + 13 * s) * 2048 + 3 = (81923 + 26624 * s); omega) ?_
    refine dq_goto e_55_130 ?_
    exact qX3_endFrame_RS_b171 S91 hs rx2 rx4 rx5 l0 l1 l2 l4 l5 h
noncomputable def fX3_endFrame_RS_b63 : Nat → mMem → Nat → Int → Int → Int → Int → Int → Int → Option dZ
  | 0, _, _, _, _, _, _, _, _ => none
  | n + 1, N, s, x2, x3, x4, x5, x6, x7 => (if x7 < dG N 2048 then (if x6 = x3 then fX3_endFrame_RS_b115 N s x2 x4 x5 else dbd (fX3_isCut_R N x6) fun N92 v93 => dgd (0 ≤ x6 ∧ x6 < 8) <| dbd (fX3_after_R N92 x6) fun N119 v120 => fX3_endFrame_RS_b63 n N119 s x2 x3 (dOr x4 v93) (dW (x5 + (dG N92 (6144 + (x6).toNat)))) v120 (dW (x7 + 1))) else fX3_endFrame_RS_b115 N s x2 x4 x5)
theorem qX3_endFrame_RS_b63 : ∀ (n : Nat) {Nl : List (Nat × Value)} {N : mMem} {s : Nat} {x2 : Int} {x3 : Int} {x4 : Int} {x5 : Int} {x6 : Int} {x7 : Int} {z : dZ}, dS N → s < 8 → dR x2 → dR x3 → dR x4 → dR x5 → dR x6 → dR x7 → mLk Nl 0 = some (.ref 1) → mLk Nl 1 = some (.ref (28 + 13 * s)) → mLk Nl 2 = some (.int (dI x2)) → mLk Nl 3 = some (.int (dI x3)) → mLk Nl 4 = some (.int (dI x4)) → mLk Nl 5 = some (.int (dI x5)) → mLk Nl 6 = some (.int (dI x6)) → mLk Nl 7 = some (.int (dI x7)) → fX3_endFrame_RS_b63 n N s x2 x3 x4 x5 x6 x7 = some z → dQ xs Ln 0 2 40 55 (63, Nl, [], N) z := fun n => by
  induction n with
  | zero =>
    intro Nl N s x2 x3 x4 x5 x6 x7 z hS hs rx2 rx3 rx4 rx5 rx6 rx7 l0 l1 l2 l3 l4 l5 l6 l7 h
    cases h
  | succ n ih =>
    intro Nl N s x2 x3 x4 x5 x6 x7 z hS hs rx2 rx3 rx4 rx5 rx6 rx7 l0 l1 l2 l3 l4 l5 l6 l7 h
    rw [fX3_endFrame_RS_b63] at h
    refine dq_iload e_55_63 l7 ?_
    refine dq_aload e_55_65 l0 ?_
    refine dq_getI (key := 2048) e_55_66 hS ac_1_3_0_0 (by omega) ?_
    by_cases c67 : x7 < dG N 2048
    · rw [if_pos c67] at h
      refine dq_icF e_55_69 rx7 (dG_R _ _) (dnf c67) ?_
      refine dq_iload e_55_72 l6 ?_
      refine dq_iload e_55_74 l3 ?_
      by_cases c68 : x6 = x3
      · rw [if_pos c68] at h
        refine dq_icT e_55_75 rx6 rx3 (decide_eq_true c68) ?_
        exact qX3_endFrame_RS_b115 hS hs rx2 rx4 rx5 l0 l1 l2 l4 l5 h
      · rw [if_neg c68] at h
        refine dq_icF e_55_75 rx6 rx3 (decide_eq_false c68) ?_
        refine dq_iload e_55_78 l4 ?_
        refine dq_aload e_55_80 l0 ?_
        refine dq_iload e_55_81 l6 ?_
        obtain ⟨N92, v93, c94, h⟩ := dbd_inv h
        have q95 := qX3_isCut_R (xs := xs) (Ln := Ln) hS rx6 c94
        have S96 : dS N92 := q95.2.1
        refine dq_calli (as := [.int (dI x6)]) (S := [.int (dI x4)]) (nx := 86) e_55_83 rfl rfl rfl hS ak_1_3 rfl rfl rfl rfl q95 rfl ?_
        have r97 : dR v93 := q95.2.2
        refine dq_ior e_55_86 ?_
        refine dq_istore e_55_87 rfl (fun K98 m99 mm100 => ?_)
        have m101 := mm100 0 _ (by decide) rfl l0
        have m102 := mm100 1 _ (by decide) rfl l1
        have m103 := mm100 2 _ (by decide) rfl l2
        have m104 := mm100 3 _ (by decide) rfl l3
        have m105 := mm100 5 _ (by decide) rfl l5
        have m106 := mm100 6 _ (by decide) rfl l6
        have m107 := mm100 7 _ (by decide) rfl l7
        refine dq_iload e_55_89 m105 ?_
        refine dq_aload e_55_91 m101 ?_
        refine dq_getR e_55_92 S96 ac_1_3_5_2 ?_
        refine dq_iload e_55_95 m106 ?_
        obtain ⟨g108, h⟩ := dgd_inv h
        refine dq_ial (key := (6144 + (x6).toNat)) e_55_97 S96 aa_3 rx6 g108.1 g108.2 (by omega) ?_
        refine dq_iadd (e := dW (x5 + (dG N92 (6144 + (x6).toNat)))) e_55_98 rfl ?_
        refine dq_istore e_55_99 rfl (fun K109 m110 mm111 => ?_)
        have m112 := mm111 0 _ (by decide) rfl m101
        have m113 := mm111 1 _ (by decide) rfl m102
        have m114 := mm111 2 _ (by decide) rfl m103
        have m115 := mm111 3 _ (by decide) rfl m104
        have m116 := mm111 4 _ (by decide) rfl m99
        have m117 := mm111 6 _ (by decide) rfl m106
        have m118 := mm111 7 _ (by decide) rfl m107
        refine dq_aload e_55_101 m112 ?_
        refine dq_iload e_55_102 m117 ?_
        obtain ⟨N119, v120, c121, h⟩ := dbd_inv h
        have q122 := qX3_after_R (xs := xs) (Ln := Ln) S96 rx6 c121
        have S123 : dS N119 := q122.2.1
        refine dq_calli (as := [.int (dI x6)]) (S := []) (nx := 107) e_55_104 rfl rfl rfl S96 ak_1_3 rfl rfl rfl rfl q122 rfl ?_
        have r124 : dR v120 := q122.2.2
        refine dq_istore e_55_107 rfl (fun K125 m126 mm127 => ?_)
        have m128 := mm127 0 _ (by decide) rfl m112
        have m129 := mm127 1 _ (by decide) rfl m113
        have m130 := mm127 2 _ (by decide) rfl m114
        have m131 := mm127 3 _ (by decide) rfl m115
        have m132 := mm127 4 _ (by decide) rfl m116
        have m133 := mm127 5 _ (by decide) rfl m110
        have m134 := mm127 7 _ (by decide) rfl m118
        refine dq_iinc (x := x7) (e := dW (x7 + 1)) e_55_109 m134 rfl rfl (fun K135 m136 mm137 => ?_)
        have m138 := mm137 0 _ (by decide) rfl m128
        have m139 := mm137 1 _ (by decide) rfl m129
        have m140 := mm137 2 _ (by decide) rfl m130
        have m141 := mm137 3 _ (by decide) rfl m131
        have m142 := mm137 4 _ (by decide) rfl m132
        have m143 := mm137 5 _ (by decide) rfl m133
        have m144 := mm137 6 _ (by decide) rfl m126
        refine dq_goto e_55_112 ?_
        exact ih S123 hs rx2 rx3 (dOr_R _ _) (dW_R _) r124 (dW_R _) m138 m139 m140 m141 m142 m143 m144 m136 h
    · rw [if_neg c67] at h
      refine dq_icT e_55_69 rx7 (dG_R _ _) (dnt c67) ?_
      exact qX3_endFrame_RS_b115 hS hs rx2 rx4 rx5 l0 l1 l2 l4 l5 h
noncomputable def fX3_endFrame_RS (N : mMem) (s : Nat) : Option dZ := dbd (fX4_at_Lc0 N s (dG N (65542 + 26624 * s))) fun N6 v7 => dbd (fX3_has_R N6 v7) fun N18 v19 => (if v19 = 0 then some (N18, 0) else dgd (0 ≤ v7 ∧ v7 < 8) <| dln (v7).toNat fun u26 => dbd (fX4_at_Lc3 N18 s (dG N (65542 + 26624 * s))) fun N34 v35 => fX3_endFrame_RS_b63 1000 N34 s (dG N (65542 + 26624 * s)) v7 (dG N18 (57347 + 26624 * u26)) (dW ((dG N18 2049) - v35)) (s : Int) 0)
theorem qX3_endFrame_RS {N : mMem} {s : Nat} {z : dZ} (hS : dS N) (hs : s < 8) (h : fX3_endFrame_RS N s = some z) : dQ xs Ln 0 2 40 55 (0, lv_args 0 [.ref 1, .ref (28 + 13 * s)], [], N) z := by
  unfold fX3_endFrame_RS at h
  have l0 : mLk (lv_args 0 [.ref 1, .ref (28 + 13 * s)]) 0 = some (.ref 1) := rfl
  have l1 : mLk (lv_args 0 [.ref 1, .ref (28 + 13 * s)]) 1 = some (.ref (28 + 13 * s)) := rfl
  generalize lv_args 0 [.ref 1, .ref (28 + 13 * s)] = Nl at l0 l1 ⊢
  refine dq_aload e_55_0 l1 ?_
  refine dq_getR e_55_1 hS (ac_28s_5_16_2 s hs) ?_
  refine dq_getI (key := (65542 + 26624 * s)) e_55_4 hS (ac_32s_1_6_0 s hs) (by omega) ?_
  refine dq_istore e_55_7 rfl (fun K1 m2 mm3 => ?_)
  have m4 := mm3 0 _ (by decide) rfl l0
  have m5 := mm3 1 _ (by decide) rfl l1
  refine dq_aload e_55_8 m5 ?_
  refine dq_getR e_55_9 hS (ac_28s_5_17_2 s hs) ?_
  refine dq_iload e_55_12 m2 ?_
  refine dq_iconst e_55_13 ?_
  obtain ⟨N6, v7, c8, h⟩ := dbd_inv h
  have q9 := qX4_at_Lc0 (xs := xs) (Ln := Ln) hS hs (dG_R _ _) c8
  have S10 : dS N6 := q9.2.1
  refine dq_calli (as := [.int (dI (dG N (65542 + 26624 * s))), .int (dI 0)]) (S := []) (nx := 17) e_55_14 rfl rfl rfl hS (ak_33s_4 s hs) rfl rfl rfl rfl q9 rfl ?_
  have r11 : dR v7 := q9.2.2
  refine dq_istore e_55_17 rfl (fun K12 m13 mm14 => ?_)
  have m15 := mm14 0 _ (by decide) rfl m4
  have m16 := mm14 1 _ (by decide) rfl m5
  have m17 := mm14 2 _ (by decide) rfl m2
  refine dq_aload e_55_18 m15 ?_
  refine dq_iload e_55_19 m13 ?_
  obtain ⟨N18, v19, c20, h⟩ := dbd_inv h
  have q21 := qX3_has_R (xs := xs) (Ln := Ln) S10 r11 c20
  have S22 : dS N18 := q21.2.1
  refine dq_calli (as := [.int (dI v7)]) (S := []) (nx := 23) e_55_20 rfl rfl rfl S10 ak_1_3 rfl rfl rfl rfl q21 rfl ?_
  have r23 : dR v19 := q21.2.2
  by_cases c24 : v19 = 0
  · rw [if_pos c24] at h
    refine dq_ifF e_55_23 r23 (dnf c24) ?_
    cases h
    exact dq_retv e_55_26 rfl S22
  · rw [if_neg c24] at h
    refine dq_ifT e_55_23 r23 (dnt c24) ?_
    refine dq_aload e_55_27 m15 ?_
    refine dq_getR e_55_28 S22 ac_1_3_6_2 ?_
    refine dq_iload e_55_31 m13 ?_
    obtain ⟨g25, h⟩ := dgd_inv h
    refine dq_aals h e_55_32 S22 r11 g25.1 g25.2 (fun u26 hu26 ku26 h => ?_)
    refine dq_getI (key := (57347 + 26624 * u26)) e_55_33 S22 (ac_28s_5_3_0 u26 hu26) (by omega) ?_
    refine dq_istore e_55_36 rfl (fun K27 m28 mm29 => ?_)
    have m30 := mm29 0 _ (by decide) rfl m15
    have m31 := mm29 1 _ (by decide) rfl m16
    have m32 := mm29 2 _ (by decide) rfl m17
    have m33 := mm29 3 _ (by decide) rfl m13
    refine dq_aload e_55_38 m30 ?_
    refine dq_getI (key := 2049) e_55_39 S22 ac_1_3_1_0 (by omega) ?_
    refine dq_aload e_55_42 m31 ?_
    refine dq_getR e_55_43 S22 (ac_28s_5_17_2 s hs) ?_
    refine dq_iload e_55_46 m32 ?_
    refine dq_iconst e_55_47 ?_
    obtain ⟨N34, v35, c36, h⟩ := dbd_inv h
    have q37 := qX4_at_Lc3 (xs := xs) (Ln := Ln) S22 hs (dG_R _ _) c36
    have S38 : dS N34 := q37.2.1
    refine dq_calli (as := [.int (dI (dG N (65542 + 26624 * s))), .int (dI 3)]) (S := [.int (dI (dG N18 2049))]) (nx := 51) e_55_48 rfl rfl rfl S22 (ak_33s_4 s hs) rfl rfl rfl rfl q37 rfl ?_
    have r39 : dR v35 := q37.2.2
    refine dq_isub (e := dW ((dG N18 2049) - v35)) e_55_51 rfl ?_
    refine dq_istore e_55_52 rfl (fun K40 m41 mm42 => ?_)
    have m43 := mm42 0 _ (by decide) rfl m30
    have m44 := mm42 1 _ (by decide) rfl m31
    have m45 := mm42 2 _ (by decide) rfl m32
    have m46 := mm42 3 _ (by decide) rfl m33
    have m47 := mm42 4 _ (by decide) rfl m28
    refine dq_aload e_55_54 m44 ?_
    refine dq_getC (e := (s : Int)) e_55_55 S38 (ac_28s_5_0_1 s hs) rfl ?_
    refine dq_istore e_55_58 rfl (fun K48 m49 mm50 => ?_)
    have m51 := mm50 0 _ (by decide) rfl m43
    have m52 := mm50 1 _ (by decide) rfl m44
    have m53 := mm50 2 _ (by decide) rfl m45
    have m54 := mm50 3 _ (by decide) rfl m46
    have m55 := mm50 4 _ (by decide) rfl m47
    have m56 := mm50 5 _ (by decide) rfl m41
    refine dq_iconst e_55_60 ?_
    refine dq_istore e_55_61 rfl (fun K57 m58 mm59 => ?_)
    have m60 := mm59 0 _ (by decide) rfl m51
    have m61 := mm59 1 _ (by decide) rfl m52
    have m62 := mm59 2 _ (by decide) rfl m53
    have m63 := mm59 3 _ (by decide) rfl m54
    have m64 := mm59 4 _ (by decide) rfl m55
    have m65 := mm59 5 _ (by decide) rfl m56
    have m66 := mm59 6 _ (by decide) rfl m49
    exact qX3_endFrame_RS_b63 _ S38 hs (dG_R _ _) r11 (dG_R _ _) (dW_R _) (⟨by omega, by omega⟩) (⟨by decide, by decide⟩) m60 m61 m62 m63 m64 m65 m66 m58 h
noncomputable def fX3_goOnHolding_RS_b60 (N : mMem) (s : Nat) : Option dZ := dbd (fX3_startsNext_RS N s) fun N7 v8 => (if v8 = 0 then dbd (fX3_letGo_RS N7 s) fun N14 v15 => some (N14, 0) else some (N7, 0))
theorem qX3_goOnHolding_RS_b60 {Nl : List (Nat × Value)} {N : mMem} {s : Nat} {z : dZ} (hS : dS N) (hs : s < 8) (l0 : mLk Nl 0 = some (.ref 1)) (l1 : mLk Nl 1 = some (.ref (28 + 13 * s))) (h : fX3_goOnHolding_RS_b60 N s = some z) : dQ xs Ln 0 3 71 51 (60, Nl, [], N) z := by
  unfold fX3_goOnHolding_RS_b60 at h
  refine dq_aload e_51_60 l0 ?_
  refine dq_aload e_51_61 l1 ?_
  obtain ⟨N7, v8, c9, h⟩ := dbd_inv h
  have q10 := qX3_startsNext_RS (xs := xs) (Ln := Ln) hS hs c9
  have S11 : dS N7 := q10.2.1
  refine dq_calli (as := [.ref (28 + 13 * s)]) (S := []) (nx := 65) e_51_62 rfl rfl rfl hS ak_1_3 rfl rfl rfl rfl q10 rfl ?_
  have r12 : dR v8 := q10.2.2
  by_cases c13 : v8 = 0
  · rw [if_pos c13] at h
    refine dq_ifF e_51_65 r12 (dnf c13) ?_
    refine dq_aload e_51_68 l0 ?_
    refine dq_aload e_51_69 l1 ?_
    obtain ⟨N14, v15, c16, h⟩ := dbd_inv h
    have q17 := qX3_letGo_RS (xs := xs) (Ln := Ln) S11 hs c16
    have S18 : dS N14 := q17.2.1
    refine dq_callv (as := [.ref (28 + 13 * s)]) (S := []) (nx := 73) e_51_70 rfl rfl rfl S11 ak_1_3 rfl rfl rfl rfl q17 rfl ?_
    cases h
    exact dq_retv e_51_73 rfl S18
  · rw [if_neg c13] at h
    refine dq_ifT e_51_65 r12 (dnt c13) ?_
    cases h
    exact dq_retv e_51_73 rfl S11
noncomputable def fX3_goOnHolding_RS_b55 (N : mMem) (s : Nat) : Option dZ := fX3_goOnHolding_RS_b60 (dP N (65539 + 26624 * s) 0) s
theorem qX3_goOnHolding_RS_b55 {Nl : List (Nat × Value)} {N : mMem} {s : Nat} {z : dZ} (hS : dS N) (hs : s < 8) (l0 : mLk Nl 0 = some (.ref 1)) (l1 : mLk Nl 1 = some (.ref (28 + 13 * s))) (l2 : mLk Nl 2 = some (.ref (32 + 13 * s))) (h : fX3_goOnHolding_RS_b55 N s = some z) : dQ xs Ln 0 3 71 51 (55, Nl, [], N) z := by
  unfold fX3_goOnHolding_RS_b55 at h
  refine dq_aload e_51_55 l2 ?_
  refine dq_iconst e_51_56 ?_
  have S34 := dS_P (v := 0) hS (ac_32s_1_3_0 s hs) (show (32 + 13 * s) * 2048 + 3 = (65539 + 26624 * s) by omega)
  refine dq_put (key := (65539 + 26624 * s)) e_51_57 hS (ac_32s_1_3_0 s hs) rfl (by omega) ?_
  exact qX3_goOnHolding_RS_b60 S34 hs l0 l1 h
noncomputable def fX3_goOnHolding_RS (N : mMem) (s : Nat) : Option dZ := (if dG N (65539 + 26624 * s) = 0 then fX3_goOnHolding_RS_b60 N s else dlt (dP N 53255 (dW ((dG N 53255) + 1))) fun N20 => dbd (fX1_sendTick_H N20 s) fun N22 v23 => (if 0 < dG N22 (65540 + 26624 * s) then some (N22, 0) else (if dG N22 (65539 + 26624 * s) = 1 then dbd (fX5_endRest_S N22 s) fun N29 v30 => fX3_goOnHolding_RS_b55 N29 s else dbd (fX3_endFrame_RS N22 s) fun N35 v36 => fX3_goOnHolding_RS_b55 N35 s)))
theorem qX3_goOnHolding_RS {N : mMem} {s : Nat} {z : dZ} (hS : dS N) (hs : s < 8) (h : fX3_goOnHolding_RS N s = some z) : dQ xs Ln 0 3 71 51 (0, lv_args 0 [.ref 1, .ref (28 + 13 * s)], [], N) z := by
  unfold fX3_goOnHolding_RS at h
  have l0 : mLk (lv_args 0 [.ref 1, .ref (28 + 13 * s)]) 0 = some (.ref 1) := rfl
  have l1 : mLk (lv_args 0 [.ref 1, .ref (28 + 13 * s)]) 1 = some (.ref (28 + 13 * s)) := rfl
  generalize lv_args 0 [.ref 1, .ref (28 + 13 * s)] = Nl at l0 l1 ⊢
  refine dq_aload e_51_0 l1 ?_
  refine dq_getR e_51_1 hS (ac_28s_5_16_2 s hs) ?_
  refine dq_astore e_51_4 rfl (fun K1 m2 mm3 => ?_)
  have m4 := mm3 0 _ (by decide) rfl l0
  have m5 := mm3 1 _ (by decide) rfl l1
  refine dq_aload e_51_5 m2 ?_
  refine dq_getI (key := (65539 + 26624 * s)) e_51_6 hS (ac_32s_1_3_0 s hs) (by omega) ?_
  by_cases c6 : dG N (65539 + 26624 * s) = 0
  · rw [if_pos c6] at h
    refine dq_ifT e_51_9 (dG_R _ _) (decide_eq_true c6) ?_
    exact qX3_goOnHolding_RS_b60 hS hs m4 m5 h
  · rw [if_neg c6] at h
    refine dq_ifF e_51_9 (dG_R _ _) (decide_eq_false c6) ?_
    refine dq_aload e_51_12 m4 ?_
    refine dq_getR e_51_13 hS ac_1_3_10_2 ?_
    refine dq_iconst e_51_16 ?_
    refine dq_dup2 e_51_18 rfl rfl ?_
    refine dq_ial (key := 53255) e_51_19 hS aa_26 (⟨by decide, by decide⟩) (by decide) (by decide) (by show 26 * 2048 + 7 = 53255; omega) ?_
    refine dq_iconst e_51_20 ?_
    refine dq_iadd (e := dW ((dG N 53255) + 1)) e_51_21 rfl ?_
    have S19 := dS_A (v := dW ((dG N 53255) + 1)) (k := (7 : Int).toNat) (key := 53255) hS aa_26 (by decide) (by show 26 * 2048 + 7 = 53255; omega)
    refine dq_ias (key := 53255) e_51_22 hS aa_26 (⟨by decide, by decide⟩) (by decide) (by decide) (by show 26 * 2048 + 7 = 53255; omega) ?_
    refine dq_aload e_51_23 m2 ?_
    refine dq_let h S19 (fun N20 S21 h => ?_)
    obtain ⟨N22, v23, c24, h⟩ := dbd_inv h
    have q25 := qX1_sendTick_H (xs := xs) (Ln := Ln) S21 hs c24
    have S26 : dS N22 := q25.2.1
    refine dq_callv (as := []) (S := []) (nx := 27) e_51_24 rfl rfl rfl S21 (ak_32s_1 s hs) rfl rfl rfl rfl q25 rfl ?_
    refine dq_aload e_51_27 m2 ?_
    refine dq_getI (key := (65540 + 26624 * s)) e_51_28 S26 (ac_32s_1_4_0 s hs) (by omega) ?_
    by_cases c27 : 0 < dG N22 (65540 + 26624 * s)
    · rw [if_pos c27] at h
      refine dq_ifF e_51_31 (dG_R _ _) (dnf c27) ?_
      cases h
      exact dq_retv e_51_34 rfl S26
    · rw [if_neg c27] at h
      refine dq_ifT e_51_31 (dG_R _ _) (dnt c27) ?_
      refine dq_aload e_51_35 m2 ?_
      refine dq_getI (key := (65539 + 26624 * s)) e_51_36 S26 (ac_32s_1_3_0 s hs) (by omega) ?_
      refine dq_iconst e_51_39 ?_
      by_cases c28 : dG N22 (65539 + 26624 * s) = 1
      · rw [if_pos c28] at h
        refine dq_icF e_51_40 (dG_R _ _) (⟨by decide, by decide⟩) (dnf c28) ?_
        refine dq_aload e_51_43 m5 ?_
        obtain ⟨N29, v30, c31, h⟩ := dbd_inv h
        have q32 := qX5_endRest_S (xs := xs) (Ln := Ln) S26 hs c31
        have S33 : dS N29 := q32.2.1
        refine dq_callv (as := []) (S := []) (nx := 47) e_51_44 rfl rfl rfl S26 (ak_28s_5 s hs) rfl rfl rfl rfl q32 rfl ?_
        refine dq_goto e_51_47 ?_
        exact qX3_goOnHolding_RS_b55 S33 hs m4 m5 m2 h
      · rw [if_neg c28] at h
        refine dq_icT e_51_40 (dG_R _ _) (⟨by decide, by decide⟩) (dnt c28) ?_
        refine dq_aload e_51_50 m4 ?_
        refine dq_aload e_51_51 m5 ?_
        obtain ⟨N35, v36, c37, h⟩ := dbd_inv h
        have q38 := qX3_endFrame_RS (xs := xs) (Ln := Ln) S26 hs c37
        have S39 : dS N35 := q38.2.1
        refine dq_callv (as := [.ref (28 + 13 * s)]) (S := []) (nx := 55) e_51_52 rfl rfl rfl S26 ak_1_3 rfl rfl rfl rfl q38 rfl ?_
        exact qX3_goOnHolding_RS_b55 S39 hs m4 m5 m2 h
noncomputable def fX3_takeTurn_RS_b23 (N : mMem) (s : Nat) : Option dZ := (if dG N (57348 + 26624 * s) = 1 then dbd (fX3_watchDue_RS N s) fun N4 v5 => some (N4, 0) else dbd (fX3_isOutOfPatience_RS N s) fun N9 v10 => (if v10 = 0 then (if dW ((dG N9 2049) - (dG N9 (57353 + 26624 * s))) < dG N9 4098 then some (N9, 0) else dbd (fX3_sendAgain_RS N9 s) fun N17 v18 => some (N17, 0)) else none))
theorem qX3_takeTurn_RS_b23 {Nl : List (Nat × Value)} {N : mMem} {s : Nat} {z : dZ} (hS : dS N) (hs : s < 8) (l0 : mLk Nl 0 = some (.ref 1)) (l1 : mLk Nl 1 = some (.ref (28 + 13 * s))) (h : fX3_takeTurn_RS_b23 N s = some z) : dQ xs Ln 0 4 93 47 (23, Nl, [], N) z := by
  unfold fX3_takeTurn_RS_b23 at h
  refine dq_aload e_47_23 l1 ?_
  refine dq_getI (key := (57348 + 26624 * s)) e_47_24 hS (ac_28s_5_4_0 s hs) (by omega) ?_
  refine dq_iconst e_47_27 ?_
  by_cases c3 : dG N (57348 + 26624 * s) = 1
  · rw [if_pos c3] at h
    refine dq_icF e_47_28 (dG_R _ _) (⟨by decide, by decide⟩) (dnf c3) ?_
    refine dq_aload e_47_31 l0 ?_
    refine dq_aload e_47_32 l1 ?_
    obtain ⟨N4, v5, c6, h⟩ := dbd_inv h
    have q7 := qX3_watchDue_RS (xs := xs) (Ln := Ln) hS hs c6
    have S8 : dS N4 := q7.2.1
    refine dq_callv (as := [.ref (28 + 13 * s)]) (S := []) (nx := 36) e_47_33 rfl rfl rfl hS ak_1_3 rfl rfl rfl rfl q7 rfl ?_
    refine dq_goto e_47_36 ?_
    cases h
    exact dq_retv e_47_78 rfl S8
  · rw [if_neg c3] at h
    refine dq_icT e_47_28 (dG_R _ _) (⟨by decide, by decide⟩) (dnt c3) ?_
    refine dq_aload e_47_39 l0 ?_
    refine dq_aload e_47_40 l1 ?_
    obtain ⟨N9, v10, c11, h⟩ := dbd_inv h
    have q12 := qX3_isOutOfPatience_RS (xs := xs) (Ln := Ln) hS hs c11
    have S13 : dS N9 := q12.2.1
    refine dq_calli (as := [.ref (28 + 13 * s)]) (S := []) (nx := 44) e_47_41 rfl rfl rfl hS ak_1_3 rfl rfl rfl rfl q12 rfl ?_
    have r14 : dR v10 := q12.2.2
    by_cases c15 : v10 = 0
    · rw [if_pos c15] at h
      refine dq_ifT e_47_44 r14 (decide_eq_true c15) ?_
      refine dq_aload e_47_55 l0 ?_
      refine dq_getI (key := 2049) e_47_56 S13 ac_1_3_1_0 (by omega) ?_
      refine dq_aload e_47_59 l1 ?_
      refine dq_getI (key := (57353 + 26624 * s)) e_47_60 S13 (ac_28s_5_9_0 s hs) (by omega) ?_
      refine dq_isub (e := dW ((dG N9 2049) - (dG N9 (57353 + 26624 * s)))) e_47_63 rfl ?_
      refine dq_aload e_47_64 l0 ?_
      refine dq_getR e_47_65 S13 ac_1_3_4_2 ?_
      refine dq_iconst e_47_68 ?_
      refine dq_ial (key := 4098) e_47_69 S13 aa_2 (⟨by decide, by decide⟩) (by decide) (by decide) (by show 2 * 2048 + 2 = 4098; omega) ?_
      by_cases c16 : dW ((dG N9 2049) - (dG N9 (57353 + 26624 * s))) < dG N9 4098
      · rw [if_pos c16] at h
        refine dq_icT e_47_70 (dW_R _) (dG_R _ _) (decide_eq_true c16) ?_
        cases h
        exact dq_retv e_47_78 rfl S13
      · rw [if_neg c16] at h
        refine dq_icF e_47_70 (dW_R _) (dG_R _ _) (decide_eq_false c16) ?_
        refine dq_aload e_47_73 l0 ?_
        refine dq_aload e_47_74 l1 ?_
        obtain ⟨N17, v18, c19, h⟩ := dbd_inv h
        have q20 := qX3_sendAgain_RS (xs := xs) (Ln := Ln) S13 hs c19
        have S21 : dS N17 := q20.2.1
        refine dq_callv (as := [.ref (28 + 13 * s)]) (S := []) (nx := 78) e_47_75 rfl rfl rfl S13 ak_1_3 rfl rfl rfl rfl q20 rfl ?_
        cases h
        exact dq_retv e_47_78 rfl S21
    · rw [if_neg c15] at h
      refine dq_ifF e_47_44 r14 (decide_eq_false c15) ?_
      refine dq_aload e_47_47 l0 ?_
      refine dq_aload e_47_48 l1 ?_
      cases h
noncomputable def fX3_takeTurn_RS (N : mMem) (s : Nat) : Option dZ := (if dG N (57347 + 26624 * s) = 0 then (if dG N (65536 + 26624 * s) = 0 then fX3_takeTurn_RS_b23 N s else dbd (fX3_goOnHolding_RS N s) fun N22 v23 => fX3_takeTurn_RS_b23 N22 s) else some (N, 0))
theorem qX3_takeTurn_RS {N : mMem} {s : Nat} {z : dZ} (hS : dS N) (hs : s < 8) (h : fX3_takeTurn_RS N s = some z) : dQ xs Ln 0 4 93 47 (0, lv_args 0 [.ref 1, .ref (28 + 13 * s)], [], N) z := by
  unfold fX3_takeTurn_RS at h
  have l0 : mLk (lv_args 0 [.ref 1, .ref (28 + 13 * s)]) 0 = some (.ref 1) := rfl
  have l1 : mLk (lv_args 0 [.ref 1, .ref (28 + 13 * s)]) 1 = some (.ref (28 + 13 * s)) := rfl
  generalize lv_args 0 [.ref 1, .ref (28 + 13 * s)] = Nl at l0 l1 ⊢
  refine dq_aload e_47_0 l1 ?_
  refine dq_getI (key := (57347 + 26624 * s)) e_47_1 hS (ac_28s_5_3_0 s hs) (by omega) ?_
  by_cases c1 : dG N (57347 + 26624 * s) = 0
  · rw [if_pos c1] at h
    refine dq_ifT e_47_4 (dG_R _ _) (decide_eq_true c1) ?_
    refine dq_aload e_47_8 l1 ?_
    refine dq_getR e_47_9 hS (ac_28s_5_16_2 s hs) ?_
    refine dq_getI (key := (65536 + 26624 * s)) e_47_12 hS (ac_32s_1_0_0 s hs) (by omega) ?_
    by_cases c2 : dG N (65536 + 26624 * s) = 0
    · rw [if_pos c2] at h
      refine dq_ifT e_47_15 (dG_R _ _) (decide_eq_true c2) ?_
      exact qX3_takeTurn_RS_b23 hS hs l0 l1 h
    · rw [if_neg c2] at h
      refine dq_ifF e_47_15 (dG_R _ _) (decide_eq_false c2) ?_
      refine dq_aload e_47_18 l0 ?_
      refine dq_aload e_47_19 l1 ?_
      obtain ⟨N22, v23, c24, h⟩ := dbd_inv h
      have q25 := qX3_goOnHolding_RS (xs := xs) (Ln := Ln) hS hs c24
      have S26 : dS N22 := q25.2.1
      refine dq_callv (as := [.ref (28 + 13 * s)]) (S := []) (nx := 23) e_47_20 rfl rfl rfl hS ak_1_3 rfl rfl rfl rfl q25 rfl ?_
      exact qX3_takeTurn_RS_b23 S26 hs l0 l1 h
  · rw [if_neg c1] at h
    refine dq_ifF e_47_4 (dG_R _ _) (decide_eq_false c1) ?_
    cases h
    exact dq_retv e_47_7 rfl hS
noncomputable def fX3_advance_R_b54 (k : mMem → Int → Int → Int → Option dZ) (N : mMem) (x1 : Int) (x2 : Int) (x3 : Int) : Option dZ := k N x1 x2 (dW (x3 + 1))
theorem qX3_advance_R_b54 {k : mMem → Int → Int → Int → Option dZ} (hk : ∀ {Nl : List (Nat × Value)} {N : mMem} {x1 : Int} {x2 : Int} {x3 : Int} {z : dZ}, dS N → dR x1 → dR x2 → dR x3 → mLk Nl 0 = some (.ref 1) → mLk Nl 1 = some (.int (dI x1)) → mLk Nl 2 = some (.int (dI x2)) → mLk Nl 3 = some (.int (dI x3)) → k N x1 x2 x3 = some z → dQ xs Ln 0 5 117 40 (22, Nl, [], N) z) {Nl : List (Nat × Value)} {N : mMem} {x1 : Int} {x2 : Int} {x3 : Int} {z : dZ} (hS : dS N) (rx1 : dR x1) (rx2 : dR x2) (rx3 : dR x3) (l0 : mLk Nl 0 = some (.ref 1)) (l1 : mLk Nl 1 = some (.int (dI x1))) (l2 : mLk Nl 2 = some (.int (dI x2))) (l3 : mLk Nl 3 = some (.int (dI x3))) (h : fX3_advance_R_b54 k N x1 x2 x3 = some z) : dQ xs Ln 0 5 117 40 (54, Nl, [], N) z := by
  unfold fX3_advance_R_b54 at h
  refine dq_iinc (x := x3) (e := dW (x3 + 1)) e_40_54 l3 rfl rfl (fun K33 m34 mm35 => ?_)
  have m36 := mm35 0 _ (by decide) rfl l0
  have m37 := mm35 1 _ (by decide) rfl l1
  have m38 := mm35 2 _ (by decide) rfl l2
  refine dq_goto e_40_57 ?_
  exact hk hS rx1 rx2 (dW_R _) m36 m37 m38 m34 h
noncomputable def fX3_advance_R_b88 : Nat → mMem → Int → Option dZ
  | 0, _, _ => none
  | n + 1, N, x3 => (if x3 < dG N 2048 then dgd (0 ≤ x3 ∧ x3 < 8) <| dln (x3).toNat fun u66 => dbd (fX3_takeTurn_RS N u66) fun N67 v68 => fX3_advance_R_b88 n N67 (dW (x3 + 1)) else some (N, 0))
theorem qX3_advance_R_b88 : ∀ (n : Nat) {Nl : List (Nat × Value)} {N : mMem} {x3 : Int} {z : dZ}, dS N → dR x3 → mLk Nl 0 = some (.ref 1) → mLk Nl 3 = some (.int (dI x3)) → fX3_advance_R_b88 n N x3 = some z → dQ xs Ln 0 5 117 40 (88, Nl, [], N) z := fun n => by
  induction n with
  | zero =>
    intro Nl N x3 z hS rx3 l0 l3 h
    cases h
  | succ n ih =>
    intro Nl N x3 z hS rx3 l0 l3 h
    rw [fX3_advance_R_b88] at h
    refine dq_iload e_40_88 l3 ?_
    refine dq_aload e_40_89 l0 ?_
    refine dq_getI (key := 2048) e_40_90 hS ac_1_3_0_0 (by omega) ?_
    by_cases c64 : x3 < dG N 2048
    · rw [if_pos c64] at h
      refine dq_icF e_40_93 rx3 (dG_R _ _) (dnf c64) ?_
      refine dq_aload e_40_96 l0 ?_
      refine dq_aload e_40_97 l0 ?_
      refine dq_getR e_40_98 hS ac_1_3_6_2 ?_
      refine dq_iload e_40_101 l3 ?_
      obtain ⟨g65, h⟩ := dgd_inv h
      refine dq_aals h e_40_102 hS rx3 g65.1 g65.2 (fun u66 hu66 ku66 h => ?_)
      obtain ⟨N67, v68, c69, h⟩ := dbd_inv h
      have q70 := qX3_takeTurn_RS (xs := xs) (Ln := Ln) hS hu66 c69
      have S71 : dS N67 := q70.2.1
      refine dq_callv (as := [.ref (28 + 13 * u66)]) (S := []) (nx := 106) e_40_103 rfl rfl rfl hS ak_1_3 rfl rfl rfl rfl q70 rfl ?_
      refine dq_iinc (x := x3) (e := dW (x3 + 1)) e_40_106 l3 rfl rfl (fun K72 m73 mm74 => ?_)
      have m75 := mm74 0 _ (by decide) rfl l0
      refine dq_goto e_40_109 ?_
      exact ih S71 (dW_R _) m75 m73 h
    · rw [if_neg c64] at h
      refine dq_icT e_40_93 rx3 (dG_R _ _) (dnt c64) ?_
      cases h
      exact dq_retv e_40_112 rfl hS
noncomputable def fX3_advance_R_b62 : Nat → mMem → Int → Option dZ
  | 0, _, _ => none
  | n + 1, N, x3 => (if x3 < dG N 2048 then dgd (0 ≤ x3 ∧ x3 < 8) <| dln (x3).toNat fun u50 => dbd (fX3_goOnStreaming_RS N u50) fun N51 v52 => fX3_advance_R_b62 n N51 (dW (x3 + 1)) else fX3_advance_R_b88 1000 N 0)
theorem qX3_advance_R_b62 : ∀ (n : Nat) {Nl : List (Nat × Value)} {N : mMem} {x3 : Int} {z : dZ}, dS N → dR x3 → mLk Nl 0 = some (.ref 1) → mLk Nl 3 = some (.int (dI x3)) → fX3_advance_R_b62 n N x3 = some z → dQ xs Ln 0 5 117 40 (62, Nl, [], N) z := fun n => by
  induction n with
  | zero =>
    intro Nl N x3 z hS rx3 l0 l3 h
    cases h
  | succ n ih =>
    intro Nl N x3 z hS rx3 l0 l3 h
    rw [fX3_advance_R_b62] at h
    refine dq_iload e_40_62 l3 ?_
    refine dq_aload e_40_63 l0 ?_
    refine dq_getI (key := 2048) e_40_64 hS ac_1_3_0_0 (by omega) ?_
    by_cases c48 : x3 < dG N 2048
    · rw [if_pos c48] at h
      refine dq_icF e_40_67 rx3 (dG_R _ _) (dnf c48) ?_
      refine dq_aload e_40_70 l0 ?_
      refine dq_aload e_40_71 l0 ?_
      refine dq_getR e_40_72 hS ac_1_3_6_2 ?_
      refine dq_iload e_40_75 l3 ?_
      obtain ⟨g49, h⟩ := dgd_inv h
      refine dq_aals h e_40_76 hS rx3 g49.1 g49.2 (fun u50 hu50 ku50 h => ?_)
      obtain ⟨N51, v52, c53, h⟩ := dbd_inv h
      have q54 := qX3_goOnStreaming_RS (xs := xs) (Ln := Ln) hS hu50 c53
      have S55 : dS N51 := q54.2.1
      refine dq_callv (as := [.ref (28 + 13 * u50)]) (S := []) (nx := 80) e_40_77 rfl rfl rfl hS ak_1_3 rfl rfl rfl rfl q54 rfl ?_
      refine dq_iinc (x := x3) (e := dW (x3 + 1)) e_40_80 l3 rfl rfl (fun K56 m57 mm58 => ?_)
      have m59 := mm58 0 _ (by decide) rfl l0
      refine dq_goto e_40_83 ?_
      exact ih S55 (dW_R _) m59 m57 h
    · rw [if_neg c48] at h
      refine dq_icT e_40_67 rx3 (dG_R _ _) (dnt c48) ?_
      refine dq_iconst e_40_86 ?_
      refine dq_istore e_40_87 rfl (fun K60 m61 mm62 => ?_)
      have m63 := mm62 0 _ (by decide) rfl l0
      exact qX3_advance_R_b88 _ hS (⟨by decide, by decide⟩) m63 m61 h
noncomputable def fX3_advance_R_b22 : Nat → mMem → Int → Int → Int → Option dZ
  | 0, _, _, _, _ => none
  | n + 1, N, x1, x2, x3 => (if x3 < x1 then dbd (fX4_at_Pc2 N x2) fun N20 v21 => (if dG N20 2049 < v21 then fX3_advance_R_b54 (fX3_advance_R_b22 n) N20 x1 (dW (x2 + 1)) x3 else dbd (fX3_comes_R N20 x2) fun N39 v40 => fX3_advance_R_b54 (fX3_advance_R_b22 n) N39 x1 x2 x3) else fX3_advance_R_b62 1000 N 0)
theorem qX3_advance_R_b22 : ∀ (n : Nat) {Nl : List (Nat × Value)} {N : mMem} {x1 : Int} {x2 : Int} {x3 : Int} {z : dZ}, dS N → dR x1 → dR x2 → dR x3 → mLk Nl 0 = some (.ref 1) → mLk Nl 1 = some (.int (dI x1)) → mLk Nl 2 = some (.int (dI x2)) → mLk Nl 3 = some (.int (dI x3)) → fX3_advance_R_b22 n N x1 x2 x3 = some z → dQ xs Ln 0 5 117 40 (22, Nl, [], N) z := fun n => by
  induction n with
  | zero =>
    intro Nl N x1 x2 x3 z hS rx1 rx2 rx3 l0 l1 l2 l3 h
    cases h
  | succ n ih =>
    intro Nl N x1 x2 x3 z hS rx1 rx2 rx3 l0 l1 l2 l3 h
    rw [fX3_advance_R_b22] at h
    refine dq_iload e_40_22 l3 ?_
    refine dq_iload e_40_23 l1 ?_
    by_cases c19 : x3 < x1
    · rw [if_pos c19] at h
      refine dq_icF e_40_24 rx3 rx1 (dnf c19) ?_
      refine dq_aload e_40_27 l0 ?_
      refine dq_getR e_40_28 hS ac_1_3_7_2 ?_
      refine dq_iload e_40_31 l2 ?_
      refine dq_iconst e_40_32 ?_
      obtain ⟨N20, v21, c22, h⟩ := dbd_inv h
      have q23 := qX4_at_Pc2 (xs := xs) (Ln := Ln) hS rx2 c22
      have S24 : dS N20 := q23.2.1
      refine dq_calli (as := [.int (dI x2), .int (dI 2)]) (S := []) (nx := 36) e_40_33 rfl rfl rfl hS ak_5_4 rfl rfl rfl rfl q23 rfl ?_
      have r25 : dR v21 := q23.2.2
      refine dq_aload e_40_36 l0 ?_
      refine dq_getI (key := 2049) e_40_37 S24 ac_1_3_1_0 (by omega) ?_
      by_cases c26 : dG N20 2049 < v21
      · rw [if_pos c26] at h
        refine dq_icT e_40_40 r25 (dG_R _ _) (decide_eq_true c26) ?_
        refine dq_iinc (x := x2) (e := dW (x2 + 1)) e_40_51 l2 rfl rfl (fun K27 m28 mm29 => ?_)
        have m30 := mm29 0 _ (by decide) rfl l0
        have m31 := mm29 1 _ (by decide) rfl l1
        have m32 := mm29 3 _ (by decide) rfl l3
        exact qX3_advance_R_b54 ih S24 rx1 (dW_R _) rx3 m30 m31 m28 m32 h
      · rw [if_neg c26] at h
        refine dq_icF e_40_40 r25 (dG_R _ _) (decide_eq_false c26) ?_
        refine dq_aload e_40_43 l0 ?_
        refine dq_iload e_40_44 l2 ?_
        obtain ⟨N39, v40, c41, h⟩ := dbd_inv h
        have q42 := qX3_comes_R (xs := xs) (Ln := Ln) S24 rx2 c41
        have S43 : dS N39 := q42.2.1
        refine dq_callv (as := [.int (dI x2)]) (S := []) (nx := 48) e_40_45 rfl rfl rfl S24 ak_1_3 rfl rfl rfl rfl q42 rfl ?_
        refine dq_goto e_40_48 ?_
        exact qX3_advance_R_b54 ih S43 rx1 rx2 rx3 l0 l1 l2 l3 h
    · rw [if_neg c19] at h
      refine dq_icT e_40_24 rx3 rx1 (dnt c19) ?_
      refine dq_iconst e_40_60 ?_
      refine dq_istore e_40_61 rfl (fun K44 m45 mm46 => ?_)
      have m47 := mm46 0 _ (by decide) rfl l0
      exact qX3_advance_R_b62 _ hS (⟨by decide, by decide⟩) m47 m45 h
noncomputable def fX3_advance_R (N : mMem) : Option dZ := dlt (dP N 2049 (dW ((dG N 2049) + 1))) fun N2 => fX3_advance_R_b22 1000 N2 (dG N2 10243) 0 0
theorem qX3_advance_R {N : mMem} {z : dZ} (hS : dS N) (h : fX3_advance_R N = some z) : dQ xs Ln 0 5 117 40 (0, lv_args 0 [.ref 1], [], N) z := by
  unfold fX3_advance_R at h
  have l0 : mLk (lv_args 0 [.ref 1]) 0 = some (.ref 1) := rfl
  generalize lv_args 0 [.ref 1] = Nl at l0 ⊢
  refine dq_aload e_40_0 l0 ?_
  refine dq_dup e_40_1 rfl ?_
  refine dq_getI (key := 2049) e_40_2 hS ac_1_3_1_0 (by omega) ?_
  refine dq_iconst e_40_5 ?_
  refine dq_iadd (e := dW ((dG N 2049) + 1)) e_40_6 rfl ?_
  have S1 := dS_P (v := dW ((dG N 2049) + 1)) hS ac_1_3_1_0 (show 1 * 2048 + 1 = 2049 by omega)
  refine dq_put (key := 2049) e_40_7 hS ac_1_3_1_0 rfl (by omega) ?_
  refine dq_aload e_40_10 l0 ?_
  refine dq_getR e_40_11 S1 ac_1_3_7_2 ?_
  refine dq_let h S1 (fun N2 S3 h => ?_)
  refine dq_getI (key := 10243) e_40_14 S3 ac_5_4_3_0 (by omega) ?_
  refine dq_istore e_40_17 rfl (fun K4 m5 mm6 => ?_)
  have m7 := mm6 0 _ (by decide) rfl l0
  refine dq_iconst e_40_18 ?_
  refine dq_istore e_40_19 rfl (fun K8 m9 mm10 => ?_)
  have m11 := mm10 0 _ (by decide) rfl m7
  have m12 := mm10 1 _ (by decide) rfl m5
  refine dq_iconst e_40_20 ?_
  refine dq_istore e_40_21 rfl (fun K13 m14 mm15 => ?_)
  have m16 := mm15 0 _ (by decide) rfl m11
  have m17 := mm15 1 _ (by decide) rfl m12
  have m18 := mm15 2 _ (by decide) rfl m9
  exact qX3_advance_R_b22 _ S3 (dG_R _ _) (⟨by decide, by decide⟩) (⟨by decide, by decide⟩) m16 m17 m18 m14 h
noncomputable def fX7_tick_O_b12 : Nat → mMem → Int → Int → Option dZ
  | 0, _, _, _ => none
  | n + 1, N, x1, x2 => (if x2 < x1 then dbd (fX3_advance_R N) fun N14 v15 => fX7_tick_O_b12 n N14 x1 (dW (x2 + 1)) else some (N, dG N 2049))
theorem qX7_tick_O_b12 : ∀ (n : Nat) {Nl : List (Nat × Value)} {N : mMem} {x1 : Int} {x2 : Int} {z : dZ}, dS N → dR x1 → dR x2 → mLk Nl 0 = some (.ref 0) → mLk Nl 1 = some (.int (dI x1)) → mLk Nl 2 = some (.int (dI x2)) → fX7_tick_O_b12 n N x1 x2 = some z → dQ xs Ln 1 6 140 85 (12, Nl, [], N) z := fun n => by
  induction n with
  | zero =>
    intro Nl N x1 x2 z hS rx1 rx2 l0 l1 l2 h
    cases h
  | succ n ih =>
    intro Nl N x1 x2 z hS rx1 rx2 l0 l1 l2 h
    rw [fX7_tick_O_b12] at h
    refine dq_iload e_85_12 l2 ?_
    refine dq_iload e_85_13 l1 ?_
    by_cases c13 : x2 < x1
    · rw [if_pos c13] at h
      refine dq_icF e_85_14 rx2 rx1 (dnf c13) ?_
      refine dq_aload e_85_17 l0 ?_
      refine dq_getR e_85_18 hS ac_0_7_0_2 ?_
      obtain ⟨N14, v15, c16, h⟩ := dbd_inv h
      have q17 := qX3_advance_R (xs := xs) (Ln := Ln) hS c16
      have S18 : dS N14 := q17.2.1
      refine dq_callv (as := []) (S := []) (nx := 24) e_85_21 rfl rfl rfl hS ak_1_3 rfl rfl rfl rfl q17 rfl ?_
      refine dq_iinc (x := x2) (e := dW (x2 + 1)) e_85_24 l2 rfl rfl (fun K19 m20 mm21 => ?_)
      have m22 := mm21 0 _ (by decide) rfl l0
      have m23 := mm21 1 _ (by decide) rfl l1
      refine dq_goto e_85_27 ?_
      exact ih S18 rx1 (dW_R _) m22 m23 m20 h
    · rw [if_neg c13] at h
      refine dq_icT e_85_14 rx2 rx1 (dnt c13) ?_
      refine dq_aload e_85_30 l0 ?_
      refine dq_getR e_85_31 hS ac_0_7_0_2 ?_
      refine dq_getI (key := 2049) e_85_34 hS ac_1_3_1_0 (by omega) ?_
      cases h
      exact dq_reti (ty := .int) e_85_37 rfl rfl hS (dG_R _ _)
noncomputable def fX7_tick_O (N : mMem) (x1 : Int) : Option dZ := dbd (fX7_canTick_O N x1) fun N1 v2 => (if v2 = 0 then some (N1, (-1)) else fX7_tick_O_b12 1000 N1 x1 0)
theorem qX7_tick_O {N : mMem} {x1 : Int} {z : dZ} (hS : dS N) (rx1 : dR x1) (h : fX7_tick_O N x1 = some z) : dQ xs Ln 1 6 140 85 (0, lv_args 0 [.ref 0, .int (dI x1)], [], N) z := by
  unfold fX7_tick_O at h
  have l0 : mLk (lv_args 0 [.ref 0, .int (dI x1)]) 0 = some (.ref 0) := rfl
  have l1 : mLk (lv_args 0 [.ref 0, .int (dI x1)]) 1 = some (.int (dI x1)) := rfl
  generalize lv_args 0 [.ref 0, .int (dI x1)] = Nl at l0 l1 ⊢
  refine dq_aload e_85_0 l0 ?_
  refine dq_iload e_85_1 l1 ?_
  obtain ⟨N1, v2, c3, h⟩ := dbd_inv h
  have q4 := qX7_canTick_O (xs := xs) (Ln := Ln) hS rx1 c3
  have S5 : dS N1 := q4.2.1
  refine dq_calli (as := [.int (dI x1)]) (S := []) (nx := 5) e_85_2 rfl rfl rfl hS ak_0_7 rfl rfl rfl rfl q4 rfl ?_
  have r6 : dR v2 := q4.2.2
  by_cases c7 : v2 = 0
  · rw [if_pos c7] at h
    refine dq_ifF e_85_5 r6 (dnf c7) ?_
    refine dq_iconst e_85_8 ?_
    cases h
    exact dq_reti (ty := .int) e_85_9 rfl rfl S5 (⟨by decide, by decide⟩)
  · rw [if_neg c7] at h
    refine dq_ifT e_85_5 r6 (dnt c7) ?_
    refine dq_iconst e_85_10 ?_
    refine dq_istore e_85_11 rfl (fun K8 m9 mm10 => ?_)
    have m11 := mm10 0 _ (by decide) rfl l0
    have m12 := mm10 1 _ (by decide) rfl l1
    exact qX7_tick_O_b12 _ S5 rx1 (⟨by decide, by decide⟩) m11 m12 m9 h
noncomputable def fX4_countOf_Pc0_b30 (k : mMem → Int → Int → Int → Option dZ) (N : mMem) (x2 : Int) (x3 : Int) (x4 : Int) : Option dZ := k N x2 x3 (dW (x4 + 1))
theorem qX4_countOf_Pc0_b30 {k : mMem → Int → Int → Int → Option dZ} (hk : ∀ {Nl : List (Nat × Value)} {N : mMem} {x2 : Int} {x3 : Int} {x4 : Int} {z : dZ}, dS N → dR x2 → dR x3 → dR x4 → mLk Nl 0 = some (.ref 5) → mLk Nl 1 = some (.int (dI 0)) → mLk Nl 2 = some (.int (dI x2)) → mLk Nl 3 = some (.int (dI x3)) → mLk Nl 4 = some (.int (dI x4)) → k N x2 x3 x4 = some z → dQ xs Ln 1 0 0 63 (5, Nl, [], N) z) {Nl : List (Nat × Value)} {N : mMem} {x2 : Int} {x3 : Int} {x4 : Int} {z : dZ} (hS : dS N) (rx2 : dR x2) (rx3 : dR x3) (rx4 : dR x4) (l0 : mLk Nl 0 = some (.ref 5)) (l1 : mLk Nl 1 = some (.int (dI 0))) (l2 : mLk Nl 2 = some (.int (dI x2))) (l3 : mLk Nl 3 = some (.int (dI x3))) (l4 : mLk Nl 4 = some (.int (dI x4))) (h : fX4_countOf_Pc0_b30 k N x2 x3 x4 = some z) : dQ xs Ln 1 0 0 63 (30, Nl, [], N) z := by
  unfold fX4_countOf_Pc0_b30 at h
  refine dq_iinc (x := x4) (e := dW (x4 + 1)) e_63_30 l4 rfl rfl (fun K24 m25 mm26 => ?_)
  have m27 := mm26 0 _ (by decide) rfl l0
  have m28 := mm26 1 _ (by decide) rfl l1
  have m29 := mm26 2 _ (by decide) rfl l2
  have m30 := mm26 3 _ (by decide) rfl l3
  refine dq_goto e_63_33 ?_
  exact hk hS rx2 rx3 (dW_R _) m27 m28 m29 m30 m25 h
noncomputable def fX4_countOf_Pc0_b5 : Nat → mMem → Int → Int → Int → Option dZ
  | 0, _, _, _, _ => none
  | n + 1, N, x2, x3, x4 => (if x4 < dG N 10243 then dgd (0 ≤ x4 ∧ x4 < 100) <| (if dG N (14336 + (x4).toNat) = x2 then fX4_countOf_Pc0_b30 (fX4_countOf_Pc0_b5 n) N x2 (dW (x3 + 1)) x4 else fX4_countOf_Pc0_b30 (fX4_countOf_Pc0_b5 n) N x2 x3 x4) else some (N, x3))
theorem qX4_countOf_Pc0_b5 : ∀ (n : Nat) {Nl : List (Nat × Value)} {N : mMem} {x2 : Int} {x3 : Int} {x4 : Int} {z : dZ}, dS N → dR x2 → dR x3 → dR x4 → mLk Nl 0 = some (.ref 5) → mLk Nl 1 = some (.int (dI 0)) → mLk Nl 2 = some (.int (dI x2)) → mLk Nl 3 = some (.int (dI x3)) → mLk Nl 4 = some (.int (dI x4)) → fX4_countOf_Pc0_b5 n N x2 x3 x4 = some z → dQ xs Ln 1 0 0 63 (5, Nl, [], N) z := fun n => by
  induction n with
  | zero =>
    intro Nl N x2 x3 x4 z hS rx2 rx3 rx4 l0 l1 l2 l3 l4 h
    cases h
  | succ n ih =>
    intro Nl N x2 x3 x4 z hS rx2 rx3 rx4 l0 l1 l2 l3 l4 h
    rw [fX4_countOf_Pc0_b5] at h
    refine dq_iload e_63_5 l4 ?_
    refine dq_aload e_63_7 l0 ?_
    refine dq_getI (key := 10243) e_63_8 hS ac_5_4_3_0 (by omega) ?_
    by_cases c14 : x4 < dG N 10243
    · rw [if_pos c14] at h
      refine dq_icF e_63_11 rx4 (dG_R _ _) (dnf c14) ?_
      refine dq_aload e_63_14 l0 ?_
      refine dq_getR e_63_15 hS ac_5_4_2_2 ?_
      refine dq_iload e_63_18 l1 ?_
      refine dq_aal (n := 0) e_63_19 hS ⟨by decide, by decide⟩ (by decide) rfl ac_6_101_0_2 rfl ?_
      refine dq_iload e_63_20 l4 ?_
      obtain ⟨g15, h⟩ := dgd_inv h
      refine dq_ial (key := (14336 + (x4).toNat)) e_63_22 hS aa_7 rx4 g15.1 g15.2 (by omega) ?_
      refine dq_iload e_63_23 l2 ?_
      by_cases c16 : dG N (14336 + (x4).toNat) = x2
      · rw [if_pos c16] at h
        refine dq_icF e_63_24 (dG_R _ _) rx2 (dnf c16) ?_
        refine dq_iinc (x := x3) (e := dW (x3 + 1)) e_63_27 l3 rfl rfl (fun K17 m18 mm19 => ?_)
        have m20 := mm19 0 _ (by decide) rfl l0
        have m21 := mm19 1 _ (by decide) rfl l1
        have m22 := mm19 2 _ (by decide) rfl l2
        have m23 := mm19 4 _ (by decide) rfl l4
        exact qX4_countOf_Pc0_b30 ih hS rx2 (dW_R _) rx4 m20 m21 m22 m18 m23 h
      · rw [if_neg c16] at h
        refine dq_icT e_63_24 (dG_R _ _) rx2 (dnt c16) ?_
        exact qX4_countOf_Pc0_b30 ih hS rx2 rx3 rx4 l0 l1 l2 l3 l4 h
    · rw [if_neg c14] at h
      refine dq_icT e_63_11 rx4 (dG_R _ _) (dnt c14) ?_
      refine dq_iload e_63_36 l3 ?_
      cases h
      exact dq_reti (ty := .int) e_63_37 rfl rfl hS rx3
noncomputable def fX4_countOf_Pc0 (N : mMem) (x2 : Int) : Option dZ := fX4_countOf_Pc0_b5 1000 N x2 0 0
theorem qX4_countOf_Pc0 {N : mMem} {x2 : Int} {z : dZ} (hS : dS N) (rx2 : dR x2) (h : fX4_countOf_Pc0 N x2 = some z) : dQ xs Ln 1 0 0 63 (0, lv_args 0 [.ref 5, .int (dI 0), .int (dI x2)], [], N) z := by
  unfold fX4_countOf_Pc0 at h
  have l0 : mLk (lv_args 0 [.ref 5, .int (dI 0), .int (dI x2)]) 0 = some (.ref 5) := rfl
  have l1 : mLk (lv_args 0 [.ref 5, .int (dI 0), .int (dI x2)]) 1 = some (.int (dI 0)) := rfl
  have l2 : mLk (lv_args 0 [.ref 5, .int (dI 0), .int (dI x2)]) 2 = some (.int (dI x2)) := rfl
  generalize lv_args 0 [.ref 5, .int (dI 0), .int (dI x2)] = Nl at l0 l1 l2 ⊢
  refine dq_iconst e_63_0 ?_
  refine dq_istore e_63_1 rfl (fun K1 m2 mm3 => ?_)
  have m4 := mm3 0 _ (by decide) rfl l0
  have m5 := mm3 1 _ (by decide) rfl l1
  have m6 := mm3 2 _ (by decide) rfl l2
  refine dq_iconst e_63_2 ?_
  refine dq_istore e_63_3 rfl (fun K7 m8 mm9 => ?_)
  have m10 := mm9 0 _ (by decide) rfl m4
  have m11 := mm9 1 _ (by decide) rfl m5
  have m12 := mm9 2 _ (by decide) rfl m6
  have m13 := mm9 3 _ (by decide) rfl m2
  exact qX4_countOf_Pc0_b5 _ hS rx2 (⟨by decide, by decide⟩) (⟨by decide, by decide⟩) m10 m11 m12 m13 m8 h
noncomputable def fX3_countTokens_R_b41 (k : mMem → Int → Int → Option dZ) (N : mMem) (x2 : Int) (y0 : Int) (y1 : Int) : Option dZ := k N (dW (y0 + y1)) (dW (x2 + 1))
theorem qX3_countTokens_R_b41 {k : mMem → Int → Int → Option dZ} (hk : ∀ {Nl : List (Nat × Value)} {N : mMem} {x1 : Int} {x2 : Int} {z : dZ}, dS N → dR x1 → dR x2 → mLk Nl 0 = some (.ref 1) → mLk Nl 1 = some (.int (dI x1)) → mLk Nl 2 = some (.int (dI x2)) → k N x1 x2 = some z → dQ xs Ln 1 1 24 31 (12, Nl, [], N) z) {Nl : List (Nat × Value)} {N : mMem} {x2 : Int} {y0 : Int} {y1 : Int} {z : dZ} (hS : dS N) (rx2 : dR x2) (ry0 : dR y0) (ry1 : dR y1) (l0 : mLk Nl 0 = some (.ref 1)) (l2 : mLk Nl 2 = some (.int (dI x2))) (h : fX3_countTokens_R_b41 k N x2 y0 y1 = some z) : dQ xs Ln 1 1 24 31 (41, Nl, [.int (dI y1), .int (dI y0)], N) z := by
  unfold fX3_countTokens_R_b41 at h
  refine dq_iadd (e := dW (y0 + y1)) e_31_41 rfl ?_
  refine dq_istore e_31_42 rfl (fun K20 m21 mm22 => ?_)
  have m23 := mm22 0 _ (by decide) rfl l0
  have m24 := mm22 2 _ (by decide) rfl l2
  refine dq_iinc (x := x2) (e := dW (x2 + 1)) e_31_43 m24 rfl rfl (fun K25 m26 mm27 => ?_)
  have m28 := mm27 0 _ (by decide) rfl m23
  have m29 := mm27 1 _ (by decide) rfl m21
  refine dq_goto e_31_46 ?_
  exact hk hS (dW_R _) (dW_R _) m28 m29 m26 h
noncomputable def fX3_countTokens_R_b12 : Nat → mMem → Int → Int → Option dZ
  | 0, _, _, _ => none
  | n + 1, N, x1, x2 => (if x2 < dG N 2048 then dgd (0 ≤ x2 ∧ x2 < 8) <| dln (x2).toNat fun u18 => (if dG N (65536 + 26624 * u18) = 0 then fX3_countTokens_R_b41 (fX3_countTokens_R_b12 n) N x2 x1 0 else fX3_countTokens_R_b41 (fX3_countTokens_R_b12 n) N x2 x1 1) else some (N, x1))
theorem qX3_countTokens_R_b12 : ∀ (n : Nat) {Nl : List (Nat × Value)} {N : mMem} {x1 : Int} {x2 : Int} {z : dZ}, dS N → dR x1 → dR x2 → mLk Nl 0 = some (.ref 1) → mLk Nl 1 = some (.int (dI x1)) → mLk Nl 2 = some (.int (dI x2)) → fX3_countTokens_R_b12 n N x1 x2 = some z → dQ xs Ln 1 1 24 31 (12, Nl, [], N) z := fun n => by
  induction n with
  | zero =>
    intro Nl N x1 x2 z hS rx1 rx2 l0 l1 l2 h
    cases h
  | succ n ih =>
    intro Nl N x1 x2 z hS rx1 rx2 l0 l1 l2 h
    rw [fX3_countTokens_R_b12] at h
    refine dq_iload e_31_12 l2 ?_
    refine dq_aload e_31_13 l0 ?_
    refine dq_getI (key := 2048) e_31_14 hS ac_1_3_0_0 (by omega) ?_
    by_cases c16 : x2 < dG N 2048
    · rw [if_pos c16] at h
      refine dq_icF e_31_17 rx2 (dG_R _ _) (dnf c16) ?_
      refine dq_iload e_31_20 l1 ?_
      refine dq_aload e_31_21 l0 ?_
      refine dq_getR e_31_22 hS ac_1_3_6_2 ?_
      refine dq_iload e_31_25 l2 ?_
      obtain ⟨g17, h⟩ := dgd_inv h
      refine dq_aals h e_31_26 hS rx2 g17.1 g17.2 (fun u18 hu18 ku18 h => ?_)
      refine dq_getR e_31_27 hS (ac_28s_5_16_2 u18 hu18) ?_
      refine dq_getI (key := (65536 + 26624 * u18)) e_31_30 hS (ac_32s_1_0_0 u18 hu18) (by omega) ?_
      by_cases c19 : dG N (65536 + 26624 * u18) = 0
      · rw [if_pos c19] at h
        refine dq_ifT e_31_33 (dG_R _ _) (decide_eq_true c19) ?_
        refine dq_iconst e_31_40 ?_
        exact qX3_countTokens_R_b41 ih hS rx2 rx1 (⟨by decide, by decide⟩) l0 l2 h
      · rw [if_neg c19] at h
        refine dq_ifF e_31_33 (dG_R _ _) (decide_eq_false c19) ?_
        refine dq_iconst e_31_36 ?_
        refine dq_goto e_31_37 ?_
        exact qX3_countTokens_R_b41 ih hS rx2 rx1 (⟨by decide, by decide⟩) l0 l2 h
    · rw [if_neg c16] at h
      refine dq_icT e_31_17 rx2 (dG_R _ _) (dnt c16) ?_
      refine dq_iload e_31_49 l1 ?_
      cases h
      exact dq_reti (ty := .int) e_31_50 rfl rfl hS rx1
noncomputable def fX3_countTokens_R (N : mMem) : Option dZ := dbd (fX4_countOf_Pc0 N 2) fun N1 v2 => fX3_countTokens_R_b12 1000 N1 v2 0
theorem qX3_countTokens_R {N : mMem} {z : dZ} (hS : dS N) (h : fX3_countTokens_R N = some z) : dQ xs Ln 1 1 24 31 (0, lv_args 0 [.ref 1], [], N) z := by
  unfold fX3_countTokens_R at h
  have l0 : mLk (lv_args 0 [.ref 1]) 0 = some (.ref 1) := rfl
  generalize lv_args 0 [.ref 1] = Nl at l0 ⊢
  refine dq_aload e_31_0 l0 ?_
  refine dq_getR e_31_1 hS ac_1_3_7_2 ?_
  refine dq_iconst e_31_4 ?_
  refine dq_iconst e_31_5 ?_
  obtain ⟨N1, v2, c3, h⟩ := dbd_inv h
  have q4 := qX4_countOf_Pc0 (xs := xs) (Ln := Ln) hS (⟨by decide, by decide⟩) c3
  have S5 : dS N1 := q4.2.1
  refine dq_calli (as := [.int (dI 0), .int (dI 2)]) (S := []) (nx := 9) e_31_6 rfl rfl rfl hS ak_5_4 rfl rfl rfl rfl q4 rfl ?_
  have r6 : dR v2 := q4.2.2
  refine dq_istore e_31_9 rfl (fun K7 m8 mm9 => ?_)
  have m10 := mm9 0 _ (by decide) rfl l0
  refine dq_iconst e_31_10 ?_
  refine dq_istore e_31_11 rfl (fun K11 m12 mm13 => ?_)
  have m14 := mm13 0 _ (by decide) rfl m10
  have m15 := mm13 1 _ (by decide) rfl m8
  exact qX3_countTokens_R_b12 _ S5 r6 (⟨by decide, by decide⟩) m14 m15 m12 h
end DQG7

/-! ===== functions over memory, and that the bodies run so; written by wip/dc ===== -/
section DQG3
variable {xs : Nat → Int32} {Ln : Nat}
noncomputable def fX4_put_Pc1 (N : mMem) (x1 : Int) (x3 : Int) : Option dZ := (if x1 < 0 then some (N, 0) else (if x1 < dG N 10243 then dgd (0 ≤ x1 ∧ x1 < 100) <| some (dP N (16384 + (x1).toNat) x3, 0) else some (N, 0)))
theorem qX4_put_Pc1 {N : mMem} {x1 : Int} {x3 : Int} {z : dZ} (hS : dS N) (rx1 : dR x1) (rx3 : dR x3) (h : fX4_put_Pc1 N x1 x3 = some z) : dQ xs Ln 0 0 0 60 (0, lv_args 0 [.ref 5, .int (dI x1), .int (dI 1), .int (dI x3)], [], N) z := by
  unfold fX4_put_Pc1 at h
  have l0 : mLk (lv_args 0 [.ref 5, .int (dI x1), .int (dI 1), .int (dI x3)]) 0 = some (.ref 5) := rfl
  have l1 : mLk (lv_args 0 [.ref 5, .int (dI x1), .int (dI 1), .int (dI x3)]) 1 = some (.int (dI x1)) := rfl
  have l2 : mLk (lv_args 0 [.ref 5, .int (dI x1), .int (dI 1), .int (dI x3)]) 2 = some (.int (dI 1)) := rfl
  have l3 : mLk (lv_args 0 [.ref 5, .int (dI x1), .int (dI 1), .int (dI x3)]) 3 = some (.int (dI x3)) := rfl
  generalize lv_args 0 [.ref 5, .int (dI x1), .int (dI 1), .int (dI x3)] = Nl at l0 l1 l2 l3 ⊢
  refine dq_iload e_60_0 l1 ?_
  by_cases c1 : x1 < 0
  · rw [if_pos c1] at h
    refine dq_ifT e_60_1 rx1 (decide_eq_true c1) ?_
    cases h
    exact dq_retv e_60_33 rfl hS
  · rw [if_neg c1] at h
    refine dq_ifF e_60_1 rx1 (decide_eq_false c1) ?_
    refine dq_iload e_60_4 l1 ?_
    refine dq_aload e_60_5 l0 ?_
    refine dq_getI (key := 10243) e_60_6 hS ac_5_4_3_0 (by omega) ?_
    by_cases c2 : x1 < dG N 10243
    · rw [if_pos c2] at h
      refine dq_icF e_60_9 rx1 (dG_R _ _) (dnf c2) ?_
      refine dq_iload e_60_12 l2 ?_
      refine dq_ifF e_60_13 (⟨by decide, by decide⟩) (by decide +kernel) ?_
      refine dq_iload e_60_16 l2 ?_
      refine dq_aload e_60_17 l0 ?_
      refine dq_getC (e := 6) e_60_18 hS ac_5_4_1_1 rfl ?_
      refine dq_icF e_60_21 (⟨by decide, by decide⟩) (⟨by decide, by decide⟩) (by decide +kernel) ?_
      refine dq_aload e_60_24 l0 ?_
      refine dq_getR e_60_25 hS ac_5_4_2_2 ?_
      refine dq_iload e_60_28 l2 ?_
      refine dq_aal (n := 1) e_60_29 hS ⟨by decide, by decide⟩ (by decide) rfl ac_6_101_1_2 rfl ?_
      refine dq_iload e_60_30 l1 ?_
      refine dq_iload e_60_31 l3 ?_
      obtain ⟨g3, h⟩ := dgd_inv h
      have S4 := dS_A (v := x3) (k := (x1 : Int).toNat) (key := (16384 + (x1).toNat)) hS aa_8 (by have := g3.1; have := g3.2; omega) (by omega)
      refine dq_ias (key := (16384 + (x1).toNat)) e_60_32 hS aa_8 rx1 g3.1 g3.2 (by omega) ?_
      cases h
      exact dq_retv e_60_33 rfl S4
    · rw [if_neg c2] at h
      refine dq_icT e_60_9 rx1 (dG_R _ _) (dnt c2) ?_
      cases h
      exact dq_retv e_60_33 rfl hS
noncomputable def fX4_put_Pc2 (N : mMem) (x1 : Int) (x3 : Int) : Option dZ := (if x1 < 0 then some (N, 0) else (if x1 < dG N 10243 then dgd (0 ≤ x1 ∧ x1 < 100) <| some (dP N (18432 + (x1).toNat) x3, 0) else some (N, 0)))
theorem qX4_put_Pc2 {N : mMem} {x1 : Int} {x3 : Int} {z : dZ} (hS : dS N) (rx1 : dR x1) (rx3 : dR x3) (h : fX4_put_Pc2 N x1 x3 = some z) : dQ xs Ln 0 0 0 60 (0, lv_args 0 [.ref 5, .int (dI x1), .int (dI 2), .int (dI x3)], [], N) z := by
  unfold fX4_put_Pc2 at h
  have l0 : mLk (lv_args 0 [.ref 5, .int (dI x1), .int (dI 2), .int (dI x3)]) 0 = some (.ref 5) := rfl
  have l1 : mLk (lv_args 0 [.ref 5, .int (dI x1), .int (dI 2), .int (dI x3)]) 1 = some (.int (dI x1)) := rfl
  have l2 : mLk (lv_args 0 [.ref 5, .int (dI x1), .int (dI 2), .int (dI x3)]) 2 = some (.int (dI 2)) := rfl
  have l3 : mLk (lv_args 0 [.ref 5, .int (dI x1), .int (dI 2), .int (dI x3)]) 3 = some (.int (dI x3)) := rfl
  generalize lv_args 0 [.ref 5, .int (dI x1), .int (dI 2), .int (dI x3)] = Nl at l0 l1 l2 l3 ⊢
  refine dq_iload e_60_0 l1 ?_
  by_cases c1 : x1 < 0
  · rw [if_pos c1] at h
    refine dq_ifT e_60_1 rx1 (decide_eq_true c1) ?_
    cases h
    exact dq_retv e_60_33 rfl hS
  · rw [if_neg c1] at h
    refine dq_ifF e_60_1 rx1 (decide_eq_false c1) ?_
    refine dq_iload e_60_4 l1 ?_
    refine dq_aload e_60_5 l0 ?_
    refine dq_getI (key := 10243) e_60_6 hS ac_5_4_3_0 (by omega) ?_
    by_cases c2 : x1 < dG N 10243
    · rw [if_pos c2] at h
      refine dq_icF e_60_9 rx1 (dG_R _ _) (dnf c2) ?_
      refine dq_iload e_60_12 l2 ?_
      refine dq_ifF e_60_13 (⟨by decide, by decide⟩) (by decide +kernel) ?_
      refine dq_iload e_60_16 l2 ?_
      refine dq_aload e_60_17 l0 ?_
      refine dq_getC (e := 6) e_60_18 hS ac_5_4_1_1 rfl ?_
      refine dq_icF e_60_21 (⟨by decide, by decide⟩) (⟨by decide, by decide⟩) (by decide +kernel) ?_
      refine dq_aload e_60_24 l0 ?_
      refine dq_getR e_60_25 hS ac_5_4_2_2 ?_
      refine dq_iload e_60_28 l2 ?_
      refine dq_aal (n := 2) e_60_29 hS ⟨by decide, by decide⟩ (by decide) rfl ac_6_101_2_2 rfl ?_
      refine dq_iload e_60_30 l1 ?_
      refine dq_iload e_60_31 l3 ?_
      obtain ⟨g3, h⟩ := dgd_inv h
      have S4 := dS_A (v := x3) (k := (x1 : Int).toNat) (key := (18432 + (x1).toNat)) hS aa_9 (by have := g3.1; have := g3.2; omega) (by omega)
      refine dq_ias (key := (18432 + (x1).toNat)) e_60_32 hS aa_9 rx1 g3.1 g3.2 (by omega) ?_
      cases h
      exact dq_retv e_60_33 rfl S4
    · rw [if_neg c2] at h
      refine dq_icT e_60_9 rx1 (dG_R _ _) (dnt c2) ?_
      cases h
      exact dq_retv e_60_33 rfl hS
noncomputable def fX4_put_Pc3 (N : mMem) (x1 : Int) (x3 : Int) : Option dZ := (if x1 < 0 then some (N, 0) else (if x1 < dG N 10243 then dgd (0 ≤ x1 ∧ x1 < 100) <| some (dP N (20480 + (x1).toNat) x3, 0) else some (N, 0)))
theorem qX4_put_Pc3 {N : mMem} {x1 : Int} {x3 : Int} {z : dZ} (hS : dS N) (rx1 : dR x1) (rx3 : dR x3) (h : fX4_put_Pc3 N x1 x3 = some z) : dQ xs Ln 0 0 0 60 (0, lv_args 0 [.ref 5, .int (dI x1), .int (dI 3), .int (dI x3)], [], N) z := by
  unfold fX4_put_Pc3 at h
  have l0 : mLk (lv_args 0 [.ref 5, .int (dI x1), .int (dI 3), .int (dI x3)]) 0 = some (.ref 5) := rfl
  have l1 : mLk (lv_args 0 [.ref 5, .int (dI x1), .int (dI 3), .int (dI x3)]) 1 = some (.int (dI x1)) := rfl
  have l2 : mLk (lv_args 0 [.ref 5, .int (dI x1), .int (dI 3), .int (dI x3)]) 2 = some (.int (dI 3)) := rfl
  have l3 : mLk (lv_args 0 [.ref 5, .int (dI x1), .int (dI 3), .int (dI x3)]) 3 = some (.int (dI x3)) := rfl
  generalize lv_args 0 [.ref 5, .int (dI x1), .int (dI 3), .int (dI x3)] = Nl at l0 l1 l2 l3 ⊢
  refine dq_iload e_60_0 l1 ?_
  by_cases c1 : x1 < 0
  · rw [if_pos c1] at h
    refine dq_ifT e_60_1 rx1 (decide_eq_true c1) ?_
    cases h
    exact dq_retv e_60_33 rfl hS
  · rw [if_neg c1] at h
    refine dq_ifF e_60_1 rx1 (decide_eq_false c1) ?_
    refine dq_iload e_60_4 l1 ?_
    refine dq_aload e_60_5 l0 ?_
    refine dq_getI (key := 10243) e_60_6 hS ac_5_4_3_0 (by omega) ?_
    by_cases c2 : x1 < dG N 10243
    · rw [if_pos c2] at h
      refine dq_icF e_60_9 rx1 (dG_R _ _) (dnf c2) ?_
      refine dq_iload e_60_12 l2 ?_
      refine dq_ifF e_60_13 (⟨by decide, by decide⟩) (by decide +kernel) ?_
      refine dq_iload e_60_16 l2 ?_
      refine dq_aload e_60_17 l0 ?_
      refine dq_getC (e := 6) e_60_18 hS ac_5_4_1_1 rfl ?_
      refine dq_icF e_60_21 (⟨by decide, by decide⟩) (⟨by decide, by decide⟩) (by decide +kernel) ?_
      refine dq_aload e_60_24 l0 ?_
      refine dq_getR e_60_25 hS ac_5_4_2_2 ?_
      refine dq_iload e_60_28 l2 ?_
      refine dq_aal (n := 3) e_60_29 hS ⟨by decide, by decide⟩ (by decide) rfl ac_6_101_3_2 rfl ?_
      refine dq_iload e_60_30 l1 ?_
      refine dq_iload e_60_31 l3 ?_
      obtain ⟨g3, h⟩ := dgd_inv h
      have S4 := dS_A (v := x3) (k := (x1 : Int).toNat) (key := (20480 + (x1).toNat)) hS aa_10 (by have := g3.1; have := g3.2; omega) (by omega)
      refine dq_ias (key := (20480 + (x1).toNat)) e_60_32 hS aa_10 rx1 g3.1 g3.2 (by omega) ?_
      cases h
      exact dq_retv e_60_33 rfl S4
    · rw [if_neg c2] at h
      refine dq_icT e_60_9 rx1 (dG_R _ _) (dnt c2) ?_
      cases h
      exact dq_retv e_60_33 rfl hS
noncomputable def fX4_put_Pc4 (N : mMem) (x1 : Int) (x3 : Int) : Option dZ := (if x1 < 0 then some (N, 0) else (if x1 < dG N 10243 then dgd (0 ≤ x1 ∧ x1 < 100) <| some (dP N (22528 + (x1).toNat) x3, 0) else some (N, 0)))
theorem qX4_put_Pc4 {N : mMem} {x1 : Int} {x3 : Int} {z : dZ} (hS : dS N) (rx1 : dR x1) (rx3 : dR x3) (h : fX4_put_Pc4 N x1 x3 = some z) : dQ xs Ln 0 0 0 60 (0, lv_args 0 [.ref 5, .int (dI x1), .int (dI 4), .int (dI x3)], [], N) z := by
  unfold fX4_put_Pc4 at h
  have l0 : mLk (lv_args 0 [.ref 5, .int (dI x1), .int (dI 4), .int (dI x3)]) 0 = some (.ref 5) := rfl
  have l1 : mLk (lv_args 0 [.ref 5, .int (dI x1), .int (dI 4), .int (dI x3)]) 1 = some (.int (dI x1)) := rfl
  have l2 : mLk (lv_args 0 [.ref 5, .int (dI x1), .int (dI 4), .int (dI x3)]) 2 = some (.int (dI 4)) := rfl
  have l3 : mLk (lv_args 0 [.ref 5, .int (dI x1), .int (dI 4), .int (dI x3)]) 3 = some (.int (dI x3)) := rfl
  generalize lv_args 0 [.ref 5, .int (dI x1), .int (dI 4), .int (dI x3)] = Nl at l0 l1 l2 l3 ⊢
  refine dq_iload e_60_0 l1 ?_
  by_cases c1 : x1 < 0
  · rw [if_pos c1] at h
    refine dq_ifT e_60_1 rx1 (decide_eq_true c1) ?_
    cases h
    exact dq_retv e_60_33 rfl hS
  · rw [if_neg c1] at h
    refine dq_ifF e_60_1 rx1 (decide_eq_false c1) ?_
    refine dq_iload e_60_4 l1 ?_
    refine dq_aload e_60_5 l0 ?_
    refine dq_getI (key := 10243) e_60_6 hS ac_5_4_3_0 (by omega) ?_
    by_cases c2 : x1 < dG N 10243
    · rw [if_pos c2] at h
      refine dq_icF e_60_9 rx1 (dG_R _ _) (dnf c2) ?_
      refine dq_iload e_60_12 l2 ?_
      refine dq_ifF e_60_13 (⟨by decide, by decide⟩) (by decide +kernel) ?_
      refine dq_iload e_60_16 l2 ?_
      refine dq_aload e_60_17 l0 ?_
      refine dq_getC (e := 6) e_60_18 hS ac_5_4_1_1 rfl ?_
      refine dq_icF e_60_21 (⟨by decide, by decide⟩) (⟨by decide, by decide⟩) (by decide +kernel) ?_
      refine dq_aload e_60_24 l0 ?_
      refine dq_getR e_60_25 hS ac_5_4_2_2 ?_
      refine dq_iload e_60_28 l2 ?_
      refine dq_aal (n := 4) e_60_29 hS ⟨by decide, by decide⟩ (by decide) rfl ac_6_101_4_2 rfl ?_
      refine dq_iload e_60_30 l1 ?_
      refine dq_iload e_60_31 l3 ?_
      obtain ⟨g3, h⟩ := dgd_inv h
      have S4 := dS_A (v := x3) (k := (x1 : Int).toNat) (key := (22528 + (x1).toNat)) hS aa_11 (by have := g3.1; have := g3.2; omega) (by omega)
      refine dq_ias (key := (22528 + (x1).toNat)) e_60_32 hS aa_11 rx1 g3.1 g3.2 (by omega) ?_
      cases h
      exact dq_retv e_60_33 rfl S4
    · rw [if_neg c2] at h
      refine dq_icT e_60_9 rx1 (dG_R _ _) (dnt c2) ?_
      cases h
      exact dq_retv e_60_33 rfl hS
noncomputable def fX4_put_Pc5 (N : mMem) (x1 : Int) (x3 : Int) : Option dZ := (if x1 < 0 then some (N, 0) else (if x1 < dG N 10243 then dgd (0 ≤ x1 ∧ x1 < 100) <| some (dP N (24576 + (x1).toNat) x3, 0) else some (N, 0)))
theorem qX4_put_Pc5 {N : mMem} {x1 : Int} {x3 : Int} {z : dZ} (hS : dS N) (rx1 : dR x1) (rx3 : dR x3) (h : fX4_put_Pc5 N x1 x3 = some z) : dQ xs Ln 0 0 0 60 (0, lv_args 0 [.ref 5, .int (dI x1), .int (dI 5), .int (dI x3)], [], N) z := by
  unfold fX4_put_Pc5 at h
  have l0 : mLk (lv_args 0 [.ref 5, .int (dI x1), .int (dI 5), .int (dI x3)]) 0 = some (.ref 5) := rfl
  have l1 : mLk (lv_args 0 [.ref 5, .int (dI x1), .int (dI 5), .int (dI x3)]) 1 = some (.int (dI x1)) := rfl
  have l2 : mLk (lv_args 0 [.ref 5, .int (dI x1), .int (dI 5), .int (dI x3)]) 2 = some (.int (dI 5)) := rfl
  have l3 : mLk (lv_args 0 [.ref 5, .int (dI x1), .int (dI 5), .int (dI x3)]) 3 = some (.int (dI x3)) := rfl
  generalize lv_args 0 [.ref 5, .int (dI x1), .int (dI 5), .int (dI x3)] = Nl at l0 l1 l2 l3 ⊢
  refine dq_iload e_60_0 l1 ?_
  by_cases c1 : x1 < 0
  · rw [if_pos c1] at h
    refine dq_ifT e_60_1 rx1 (decide_eq_true c1) ?_
    cases h
    exact dq_retv e_60_33 rfl hS
  · rw [if_neg c1] at h
    refine dq_ifF e_60_1 rx1 (decide_eq_false c1) ?_
    refine dq_iload e_60_4 l1 ?_
    refine dq_aload e_60_5 l0 ?_
    refine dq_getI (key := 10243) e_60_6 hS ac_5_4_3_0 (by omega) ?_
    by_cases c2 : x1 < dG N 10243
    · rw [if_pos c2] at h
      refine dq_icF e_60_9 rx1 (dG_R _ _) (dnf c2) ?_
      refine dq_iload e_60_12 l2 ?_
      refine dq_ifF e_60_13 (⟨by decide, by decide⟩) (by decide +kernel) ?_
      refine dq_iload e_60_16 l2 ?_
      refine dq_aload e_60_17 l0 ?_
      refine dq_getC (e := 6) e_60_18 hS ac_5_4_1_1 rfl ?_
      refine dq_icF e_60_21 (⟨by decide, by decide⟩) (⟨by decide, by decide⟩) (by decide +kernel) ?_
      refine dq_aload e_60_24 l0 ?_
      refine dq_getR e_60_25 hS ac_5_4_2_2 ?_
      refine dq_iload e_60_28 l2 ?_
      refine dq_aal (n := 5) e_60_29 hS ⟨by decide, by decide⟩ (by decide) rfl ac_6_101_5_2 rfl ?_
      refine dq_iload e_60_30 l1 ?_
      refine dq_iload e_60_31 l3 ?_
      obtain ⟨g3, h⟩ := dgd_inv h
      have S4 := dS_A (v := x3) (k := (x1 : Int).toNat) (key := (24576 + (x1).toNat)) hS aa_12 (by have := g3.1; have := g3.2; omega) (by omega)
      refine dq_ias (key := (24576 + (x1).toNat)) e_60_32 hS aa_12 rx1 g3.1 g3.2 (by omega) ?_
      cases h
      exact dq_retv e_60_33 rfl S4
    · rw [if_neg c2] at h
      refine dq_icT e_60_9 rx1 (dG_R _ _) (dnt c2) ?_
      cases h
      exact dq_retv e_60_33 rfl hS
noncomputable def fX3_send_RE_b114 (k : mMem → Nat → Int → Int → Int → Int → Option dZ) (N : mMem) (s : Nat) (x1 : Int) (x2 : Int) (x4 : Int) (x5 : Int) : Option dZ := k N s x1 x2 x4 (dW (x5 + 1))
theorem qX3_send_RE_b114 {k : mMem → Nat → Int → Int → Int → Int → Option dZ} (hk : ∀ {Nl : List (Nat × Value)} {N : mMem} {s : Nat} {x1 : Int} {x2 : Int} {x4 : Int} {x5 : Int} {z : dZ}, dS N → s < 8 → dR x1 → dR x2 → dR x4 → dR x5 → mLk Nl 0 = some (.ref 1) → mLk Nl 1 = some (.int (dI x1)) → mLk Nl 2 = some (.int (dI x2)) → mLk Nl 3 = some (.ref (30 + 13 * s)) → mLk Nl 4 = some (.int (dI x4)) → mLk Nl 5 = some (.int (dI x5)) → k N s x1 x2 x4 x5 = some z → dQ xs Ln 0 1 23 36 (55, Nl, [], N) z) {Nl : List (Nat × Value)} {N : mMem} {s : Nat} {x1 : Int} {x2 : Int} {x4 : Int} {x5 : Int} {z : dZ} (hS : dS N) (hs : s < 8) (rx1 : dR x1) (rx2 : dR x2) (rx4 : dR x4) (rx5 : dR x5) (l0 : mLk Nl 0 = some (.ref 1)) (l1 : mLk Nl 1 = some (.int (dI x1))) (l2 : mLk Nl 2 = some (.int (dI x2))) (l3 : mLk Nl 3 = some (.ref (30 + 13 * s))) (l4 : mLk Nl 4 = some (.int (dI x4))) (l5 : mLk Nl 5 = some (.int (dI x5))) (h : fX3_send_RE_b114 k N s x1 x2 x4 x5 = some z) : dQ xs Ln 0 1 23 36 (114, Nl, [], N) z := by
  unfold fX3_send_RE_b114 at h
  refine dq_iinc (x := x5) (e := dW (x5 + 1)) e_36_114 l5 rfl rfl (fun K48 m49 mm50 => ?_)
  have m51 := mm50 0 _ (by decide) rfl l0
  have m52 := mm50 1 _ (by decide) rfl l1
  have m53 := mm50 2 _ (by decide) rfl l2
  have m54 := mm50 3 _ (by decide) rfl l3
  have m55 := mm50 4 _ (by decide) rfl l4
  refine dq_goto e_36_117 ?_
  exact hk hS hs rx1 rx2 rx4 (dW_R _) m51 m52 m53 m54 m55 m49 h
noncomputable def fX3_send_RE_b55 : Nat → mMem → Nat → Int → Int → Int → Int → Option dZ
  | 0, _, _, _, _, _, _ => none
  | n + 1, N, s, x1, x2, x4, x5 => (if x5 < dG N 10243 then dgd (0 ≤ x5 ∧ x5 < 100) <| (if dG N (16384 + (x5).toNat) = x1 then dgd (0 ≤ x5 ∧ x5 < 100) <| (if x4 < dG N (18432 + (x5).toNat) then dgd (0 ≤ x5 ∧ x5 < 100) <| fX3_send_RE_b114 (fX3_send_RE_b55 n) N s x1 x2 (dG N (18432 + (x5).toNat)) x5 else fX3_send_RE_b114 (fX3_send_RE_b55 n) N s x1 x2 x4 x5) else fX3_send_RE_b114 (fX3_send_RE_b55 n) N s x1 x2 x4 x5) else dbd (fX4_opn_P N) fun N56 v57 => dbd (fX4_put_Pc0 N56 v57 x2) fun N70 v71 => dbd (fX4_put_Pc1 N70 v57 x1) fun N75 v76 => dbd (fX4_put_Pc2 N75 v57 x4) fun N80 v81 => dbd (fX4_put_Pc3 N80 v57 (dG N80 (61441 + 26624 * s))) fun N85 v86 => dbd (fX4_put_Pc4 N85 v57 (dG N85 (61440 + 26624 * s))) fun N90 v91 => dbd (fX4_put_Pc5 N90 v57 (dG N90 (61442 + 26624 * s))) fun N95 v96 => some (N95, 0))
theorem qX3_send_RE_b55 : ∀ (n : Nat) {Nl : List (Nat × Value)} {N : mMem} {s : Nat} {x1 : Int} {x2 : Int} {x4 : Int} {x5 : Int} {z : dZ}, dS N → s < 8 → dR x1 → dR x2 → dR x4 → dR x5 → mLk Nl 0 = some (.ref 1) → mLk Nl 1 = some (.int (dI x1)) → mLk Nl 2 = some (.int (dI x2)) → mLk Nl 3 = some (.ref (30 + 13 * s)) → mLk Nl 4 = some (.int (dI x4)) → mLk Nl 5 = some (.int (dI x5)) → fX3_send_RE_b55 n N s x1 x2 x4 x5 = some z → dQ xs Ln 0 1 23 36 (55, Nl, [], N) z := fun n => by
  induction n with
  | zero =>
    intro Nl N s x1 x2 x4 x5 z hS hs rx1 rx2 rx4 rx5 l0 l1 l2 l3 l4 l5 h
    cases h
  | succ n ih =>
    intro Nl N s x1 x2 x4 x5 z hS hs rx1 rx2 rx4 rx5 l0 l1 l2 l3 l4 l5 h
    rw [fX3_send_RE_b55] at h
    refine dq_iload e_36_55 l5 ?_
    refine dq_aload e_36_57 l0 ?_
    refine dq_getR e_36_58 hS ac_1_3_7_2 ?_
    refine dq_getI (key := 10243) e_36_61 hS ac_5_4_3_0 (by omega) ?_
    by_cases c34 : x5 < dG N 10243
    · rw [if_pos c34] at h
      refine dq_icF e_36_64 rx5 (dG_R _ _) (dnf c34) ?_
      refine dq_aload e_36_67 l0 ?_
      refine dq_getR e_36_68 hS ac_1_3_7_2 ?_
      refine dq_getR e_36_71 hS ac_5_4_2_2 ?_
      refine dq_iconst e_36_74 ?_
      refine dq_aal (n := 1) e_36_75 hS ⟨by decide, by decide⟩ (by decide) rfl ac_6_101_1_2 rfl ?_
      refine dq_iload e_36_76 l5 ?_
      obtain ⟨g35, h⟩ := dgd_inv h
      refine dq_ial (key := (16384 + (x5).toNat)) e_36_78 hS aa_8 rx5 g35.1 g35.2 (by omega) ?_
      refine dq_iload e_36_79 l1 ?_
      by_cases c36 : dG N (16384 + (x5).toNat) = x1
      · rw [if_pos c36] at h
        refine dq_icF e_36_80 (dG_R _ _) rx1 (dnf c36) ?_
        refine dq_aload e_36_83 l0 ?_
        refine dq_getR e_36_84 hS ac_1_3_7_2 ?_
        refine dq_getR e_36_87 hS ac_5_4_2_2 ?_
        refine dq_iconst e_36_90 ?_
        refine dq_aal (n := 2) e_36_91 hS ⟨by decide, by decide⟩ (by decide) rfl ac_6_101_2_2 rfl ?_
        refine dq_iload e_36_92 l5 ?_
        obtain ⟨g37, h⟩ := dgd_inv h
        refine dq_ial (key := (18432 + (x5).toNat)) e_36_94 hS aa_9 rx5 g37.1 g37.2 (by omega) ?_
        refine dq_iload e_36_95 l4 ?_
        by_cases c38 : x4 < dG N (18432 + (x5).toNat)
        · rw [if_pos c38] at h
          refine dq_icF e_36_97 (dG_R _ _) rx4 (dnf c38) ?_
          refine dq_aload e_36_100 l0 ?_
          refine dq_getR e_36_101 hS ac_1_3_7_2 ?_
          refine dq_getR e_36_104 hS ac_5_4_2_2 ?_
          refine dq_iconst e_36_107 ?_
          refine dq_aal (n := 2) e_36_108 hS ⟨by decide, by decide⟩ (by decide) rfl ac_6_101_2_2 rfl ?_
          refine dq_iload e_36_109 l5 ?_
          obtain ⟨g39, h⟩ := dgd_inv h
          refine dq_ial (key := (18432 + (x5).toNat)) e_36_111 hS aa_9 rx5 g39.1 g39.2 (by omega) ?_
          refine dq_istore e_36_112 rfl (fun K40 m41 mm42 => ?_)
          have m43 := mm42 0 _ (by decide) rfl l0
          have m44 := mm42 1 _ (by decide) rfl l1
          have m45 := mm42 2 _ (by decide) rfl l2
          have m46 := mm42 3 _ (by decide) rfl l3
          have m47 := mm42 5 _ (by decide) rfl l5
          exact qX3_send_RE_b114 ih hS hs rx1 rx2 (dG_R _ _) rx5 m43 m44 m45 m46 m41 m47 h
        · rw [if_neg c38] at h
          refine dq_icT e_36_97 (dG_R _ _) rx4 (dnt c38) ?_
          exact qX3_send_RE_b114 ih hS hs rx1 rx2 rx4 rx5 l0 l1 l2 l3 l4 l5 h
      · rw [if_neg c36] at h
        refine dq_icT e_36_80 (dG_R _ _) rx1 (dnt c36) ?_
        exact qX3_send_RE_b114 ih hS hs rx1 rx2 rx4 rx5 l0 l1 l2 l3 l4 l5 h
    · rw [if_neg c34] at h
      refine dq_icT e_36_64 rx5 (dG_R _ _) (dnt c34) ?_
      refine dq_aload e_36_120 l0 ?_
      refine dq_getR e_36_121 hS ac_1_3_7_2 ?_
      obtain ⟨N56, v57, c58, h⟩ := dbd_inv h
      have q59 := qX4_opn_P (xs := xs) (Ln := Ln) hS c58
      have S60 : dS N56 := q59.2.1
      refine dq_calli (as := []) (S := []) (nx := 127) e_36_124 rfl rfl rfl hS ak_5_4 rfl rfl rfl rfl q59 rfl ?_
      have r61 : dR v57 := q59.2.2
      refine dq_istore e_36_127 rfl (fun K62 m63 mm64 => ?_)
      have m65 := mm64 0 _ (by decide) rfl l0
      have m66 := mm64 1 _ (by decide) rfl l1
      have m67 := mm64 2 _ (by decide) rfl l2
      have m68 := mm64 3 _ (by decide) rfl l3
      have m69 := mm64 4 _ (by decide) rfl l4
      refine dq_aload e_36_129 m65 ?_
      refine dq_getR e_36_130 S60 ac_1_3_7_2 ?_
      refine dq_iload e_36_133 m63 ?_
      refine dq_iconst e_36_135 ?_
      refine dq_iload e_36_136 m67 ?_
      obtain ⟨N70, v71, c72, h⟩ := dbd_inv h
      have q73 := qX4_put_Pc0 (xs := xs) (Ln := Ln) S60 r61 rx2 c72
      have S74 : dS N70 := q73.2.1
      refine dq_callv (as := [.int (dI v57), .int (dI 0), .int (dI x2)]) (S := []) (nx := 140) e_36_137 rfl rfl rfl S60 ak_5_4 rfl rfl rfl rfl q73 rfl ?_
      refine dq_aload e_36_140 m65 ?_
      refine dq_getR e_36_141 S74 ac_1_3_7_2 ?_
      refine dq_iload e_36_144 m63 ?_
      refine dq_iconst e_36_146 ?_
      refine dq_iload e_36_147 m66 ?_
      obtain ⟨N75, v76, c77, h⟩ := dbd_inv h
      have q78 := qX4_put_Pc1 (xs := xs) (Ln := Ln) S74 r61 rx1 c77
      have S79 : dS N75 := q78.2.1
      refine dq_callv (as := [.int (dI v57), .int (dI 1), .int (dI x1)]) (S := []) (nx := 151) e_36_148 rfl rfl rfl S74 ak_5_4 rfl rfl rfl rfl q78 rfl ?_
      refine dq_aload e_36_151 m65 ?_
      refine dq_getR e_36_152 S79 ac_1_3_7_2 ?_
      refine dq_iload e_36_155 m63 ?_
      refine dq_iconst e_36_157 ?_
      refine dq_iload e_36_158 m69 ?_
      obtain ⟨N80, v81, c82, h⟩ := dbd_inv h
      have q83 := qX4_put_Pc2 (xs := xs) (Ln := Ln) S79 r61 rx4 c82
      have S84 : dS N80 := q83.2.1
      refine dq_callv (as := [.int (dI v57), .int (dI 2), .int (dI x4)]) (S := []) (nx := 163) e_36_160 rfl rfl rfl S79 ak_5_4 rfl rfl rfl rfl q83 rfl ?_
      refine dq_aload e_36_163 m65 ?_
      refine dq_getR e_36_164 S84 ac_1_3_7_2 ?_
      refine dq_iload e_36_167 m63 ?_
      refine dq_iconst e_36_169 ?_
      refine dq_aload e_36_170 m68 ?_
      refine dq_getI (key := (61441 + 26624 * s)) e_36_171 S84 (ac_30s_0_1_0 s hs) (by omega) ?_
      obtain ⟨N85, v86, c87, h⟩ := dbd_inv h
      have q88 := qX4_put_Pc3 (xs := xs) (Ln := Ln) S84 r61 (dG_R _ _) c87
      have S89 : dS N85 := q88.2.1
      refine dq_callv (as := [.int (dI v57), .int (dI 3), .int (dI (dG N80 (61441 + 26624 * s)))]) (S := []) (nx := 177) e_36_174 rfl rfl rfl S84 ak_5_4 rfl rfl rfl rfl q88 rfl ?_
      refine dq_aload e_36_177 m65 ?_
      refine dq_getR e_36_178 S89 ac_1_3_7_2 ?_
      refine dq_iload e_36_181 m63 ?_
      refine dq_iconst e_36_183 ?_
      refine dq_aload e_36_184 m68 ?_
      refine dq_getI (key := (61440 + 26624 * s)) e_36_185 S89 (ac_30s_0_0_0 s hs) (by omega) ?_
      obtain ⟨N90, v91, c92, h⟩ := dbd_inv h
      have q93 := qX4_put_Pc4 (xs := xs) (Ln := Ln) S89 r61 (dG_R _ _) c92
      have S94 : dS N90 := q93.2.1
      refine dq_callv (as := [.int (dI v57), .int (dI 4), .int (dI (dG N85 (61440 + 26624 * s)))]) (S := []) (nx := 191) e_36_188 rfl rfl rfl S89 ak_5_4 rfl rfl rfl rfl q93 rfl ?_
      refine dq_aload e_36_191 m65 ?_
      refine dq_getR e_36_192 S94 ac_1_3_7_2 ?_
      refine dq_iload e_36_195 m63 ?_
      refine dq_iconst e_36_197 ?_
      refine dq_aload e_36_198 m68 ?_
      refine dq_getI (key := (61442 + 26624 * s)) e_36_199 S94 (ac_30s_0_2_0 s hs) (by omega) ?_
      obtain ⟨N95, v96, c97, h⟩ := dbd_inv h
      have q98 := qX4_put_Pc5 (xs := xs) (Ln := Ln) S94 r61 (dG_R _ _) c97
      have S99 : dS N95 := q98.2.1
      refine dq_callv (as := [.int (dI v57), .int (dI 5), .int (dI (dG N90 (61442 + 26624 * s)))]) (S := []) (nx := 205) e_36_202 rfl rfl rfl S94 ak_5_4 rfl rfl rfl rfl q98 rfl ?_
      cases h
      exact dq_retv e_36_205 rfl S99
noncomputable def fX3_send_RE (N : mMem) (s : Nat) (x1 : Int) (x2 : Int) : Option dZ := dlt (dP N 53248 (dW ((dG N 53248) + 1))) fun N2 => dbd (fX3_isCut_R N2 x1) fun N4 v5 => (if v5 = 0 then dbd (fX4_isFull_P N4) fun N11 v12 => (if v12 = 0 then dgd (0 ≤ x1 ∧ x1 < 8) <| fX3_send_RE_b55 1000 N11 s x1 x2 (dW ((dG N11 2049) + (dG N11 (6144 + (x1).toNat)))) 0 else none) else none)
theorem qX3_send_RE {N : mMem} {s : Nat} {x1 : Int} {x2 : Int} {z : dZ} (hS : dS N) (hs : s < 8) (rx1 : dR x1) (rx2 : dR x2) (h : fX3_send_RE N s x1 x2 = some z) : dQ xs Ln 0 1 23 36 (0, lv_args 0 [.ref 1, .int (dI x1), .int (dI x2), .ref (30 + 13 * s)], [], N) z := by
  unfold fX3_send_RE at h
  have l0 : mLk (lv_args 0 [.ref 1, .int (dI x1), .int (dI x2), .ref (30 + 13 * s)]) 0 = some (.ref 1) := rfl
  have l1 : mLk (lv_args 0 [.ref 1, .int (dI x1), .int (dI x2), .ref (30 + 13 * s)]) 1 = some (.int (dI x1)) := rfl
  have l2 : mLk (lv_args 0 [.ref 1, .int (dI x1), .int (dI x2), .ref (30 + 13 * s)]) 2 = some (.int (dI x2)) := rfl
  have l3 : mLk (lv_args 0 [.ref 1, .int (dI x1), .int (dI x2), .ref (30 + 13 * s)]) 3 = some (.ref (30 + 13 * s)) := rfl
  generalize lv_args 0 [.ref 1, .int (dI x1), .int (dI x2), .ref (30 + 13 * s)] = Nl at l0 l1 l2 l3 ⊢
  refine dq_aload e_36_0 l0 ?_
  refine dq_getR e_36_1 hS ac_1_3_10_2 ?_
  refine dq_iconst e_36_4 ?_
  refine dq_dup2 e_36_5 rfl rfl ?_
  refine dq_ial (key := 53248) e_36_6 hS aa_26 (⟨by decide, by decide⟩) (by decide) (by decide) (by show 26 * 2048 + 0 = 53248; omega) ?_
  refine dq_iconst e_36_7 ?_
  refine dq_iadd (e := dW ((dG N 53248) + 1)) e_36_8 rfl ?_
  have S1 := dS_A (v := dW ((dG N 53248) + 1)) (k := (0 : Int).toNat) (key := 53248) hS aa_26 (by decide) (by show 26 * 2048 + 0 = 53248; omega)
  refine dq_ias (key := 53248) e_36_9 hS aa_26 (⟨by decide, by decide⟩) (by decide) (by decide) (by show 26 * 2048 + 0 = 53248; omega) ?_
  refine dq_aload e_36_10 l0 ?_
  refine dq_iload e_36_11 l1 ?_
  refine dq_let h S1 (fun N2 S3 h => ?_)
  obtain ⟨N4, v5, c6, h⟩ := dbd_inv h
  have q7 := qX3_isCut_R (xs := xs) (Ln := Ln) S3 rx1 c6
  have S8 : dS N4 := q7.2.1
  refine dq_calli (as := [.int (dI x1)]) (S := []) (nx := 15) e_36_12 rfl rfl rfl S3 ak_1_3 rfl rfl rfl rfl q7 rfl ?_
  have r9 : dR v5 := q7.2.2
  by_cases c10 : v5 = 0
  · rw [if_pos c10] at h
    refine dq_ifF e_36_15 r9 (dnf c10) ?_
    refine dq_aload e_36_18 l0 ?_
    refine dq_getR e_36_19 S8 ac_1_3_7_2 ?_
    obtain ⟨N11, v12, c13, h⟩ := dbd_inv h
    have q14 := qX4_isFull_P (xs := xs) (Ln := Ln) S8 c13
    have S15 : dS N11 := q14.2.1
    refine dq_calli (as := []) (S := []) (nx := 25) e_36_22 rfl rfl rfl S8 ak_5_4 rfl rfl rfl rfl q14 rfl ?_
    have r16 : dR v12 := q14.2.2
    by_cases c17 : v12 = 0
    · rw [if_pos c17] at h
      refine dq_ifT e_36_25 r16 (decide_eq_true c17) ?_
      refine dq_aload e_36_39 l0 ?_
      refine dq_getI (key := 2049) e_36_40 S15 ac_1_3_1_0 (by omega) ?_
      refine dq_aload e_36_43 l0 ?_
      refine dq_getR e_36_44 S15 ac_1_3_5_2 ?_
      refine dq_iload e_36_47 l1 ?_
      obtain ⟨g18, h⟩ := dgd_inv h
      refine dq_ial (key := (6144 + (x1).toNat)) e_36_48 S15 aa_3 rx1 g18.1 g18.2 (by omega) ?_
      refine dq_iadd (e := dW ((dG N11 2049) + (dG N11 (6144 + (x1).toNat)))) e_36_49 rfl ?_
      refine dq_istore e_36_50 rfl (fun K19 m20 mm21 => ?_)
      have m22 := mm21 0 _ (by decide) rfl l0
      have m23 := mm21 1 _ (by decide) rfl l1
      have m24 := mm21 2 _ (by decide) rfl l2
      have m25 := mm21 3 _ (by decide) rfl l3
      refine dq_iconst e_36_52 ?_
      refine dq_istore e_36_53 rfl (fun K26 m27 mm28 => ?_)
      have m29 := mm28 0 _ (by decide) rfl m22
      have m30 := mm28 1 _ (by decide) rfl m23
      have m31 := mm28 2 _ (by decide) rfl m24
      have m32 := mm28 3 _ (by decide) rfl m25
      have m33 := mm28 4 _ (by decide) rfl m20
      exact qX3_send_RE_b55 _ S15 hs rx1 rx2 (dW_R _) (⟨by decide, by decide⟩) m29 m30 m31 m32 m33 m27 h
    · rw [if_neg c17] at h
      refine dq_ifF e_36_25 r16 (decide_eq_false c17) ?_
      cases h
  · rw [if_neg c10] at h
    refine dq_ifT e_36_15 r9 (dnt c10) ?_
    cases h
noncomputable def fX3_beginToClaim_RSN_b80 (N : mMem) (s : Nat) : Option dZ := dlt (dP N 53253 (dW ((dG N 53253) + 1))) fun N24 => dbd (fX3_note_Rc0 N24 (s : Int) (dG N24 (57345 + 26624 * s))) fun N26 v27 => dbd (fX3_send_RE N26 s (s : Int) 0) fun N31 v32 => some (N31, 0)
theorem qX3_beginToClaim_RSN_b80 {Nl : List (Nat × Value)} {N : mMem} {s : Nat} {z : dZ} (hS : dS N) (hs : s < 8) (l0 : mLk Nl 0 = some (.ref 1)) (l1 : mLk Nl 1 = some (.ref (28 + 13 * s))) (h : fX3_beginToClaim_RSN_b80 N s = some z) : dQ xs Ln 0 2 48 37 (80, Nl, [], N) z := by
  unfold fX3_beginToClaim_RSN_b80 at h
  refine dq_aload e_37_80 l0 ?_
  refine dq_getR e_37_81 hS ac_1_3_10_2 ?_
  refine dq_iconst e_37_84 ?_
  refine dq_dup2 e_37_85 rfl rfl ?_
  refine dq_ial (key := 53253) e_37_86 hS aa_26 (⟨by decide, by decide⟩) (by decide) (by decide) (by show 26 * 2048 + 5 = 53253; omega) ?_
  refine dq_iconst e_37_87 ?_
  refine dq_iadd (e := dW ((dG N 53253) + 1)) e_37_88 rfl ?_
  have S23 := dS_A (v := dW ((dG N 53253) + 1)) (k := (5 : Int).toNat) (key := 53253) hS aa_26 (by decide) (by show 26 * 2048 + 5 = 53253; omega)
  refine dq_ias (key := 53253) e_37_89 hS aa_26 (⟨by decide, by decide⟩) (by decide) (by decide) (by show 26 * 2048 + 5 = 53253; omega) ?_
  refine dq_aload e_37_90 l0 ?_
  refine dq_iconst e_37_91 ?_
  refine dq_aload e_37_92 l1 ?_
  refine dq_getC (e := (s : Int)) e_37_93 S23 (ac_28s_5_0_1 s hs) rfl ?_
  refine dq_aload e_37_96 l1 ?_
  refine dq_let h S23 (fun N24 S25 h => ?_)
  refine dq_getI (key := (57345 + 26624 * s)) e_37_97 S25 (ac_28s_5_1_0 s hs) (by omega) ?_
  obtain ⟨N26, v27, c28, h⟩ := dbd_inv h
  have q29 := qX3_note_Rc0 (xs := xs) (Ln := Ln) S25 (⟨by omega, by omega⟩) (dG_R _ _) c28
  have S30 : dS N26 := q29.2.1
  refine dq_callv (as := [.int (dI 0), .int (dI (s : Int)), .int (dI (dG N24 (57345 + 26624 * s)))]) (S := []) (nx := 103) e_37_100 rfl rfl rfl S25 ak_1_3 rfl rfl rfl rfl q29 rfl ?_
  refine dq_aload e_37_103 l0 ?_
  refine dq_aload e_37_104 l1 ?_
  refine dq_getC (e := (s : Int)) e_37_105 S30 (ac_28s_5_0_1 s hs) rfl ?_
  refine dq_iconst e_37_108 ?_
  refine dq_aload e_37_109 l1 ?_
  refine dq_getR e_37_110 S30 (ac_28s_5_7_2 s hs) ?_
  obtain ⟨N31, v32, c33, h⟩ := dbd_inv h
  have q34 := qX3_send_RE (xs := xs) (Ln := Ln) S30 hs (⟨by omega, by omega⟩) (⟨by decide, by decide⟩) c33
  have S35 : dS N31 := q34.2.1
  refine dq_callv (as := [.int (dI (s : Int)), .int (dI 0), .ref (30 + 13 * s)]) (S := []) (nx := 116) e_37_113 rfl rfl rfl S30 ak_1_3 rfl rfl rfl rfl q34 rfl ?_
  cases h
  exact dq_retv e_37_116 rfl S35
noncomputable def fX3_beginToClaim_RSN (N : mMem) (s : Nat) : Option dZ := dlt (dP N (57348 + 26624 * s) 2) fun N2 => dlt (dP N2 (57349 + 26624 * s) (dG N2 2049)) fun N5 => dlt (dP N5 (57353 + 26624 * s) (dG N5 2049)) fun N8 => dbd (fX1_drop_H N8 s) fun N10 v11 => dlt (dP N10 (57352 + 26624 * s) (dW ((dG N10 (57352 + 26624 * s)) + 1))) fun N16 => dbd (fX0_become_E N16 s (dG N16 (57345 + 26624 * s)) (s : Int) (dG N16 (57352 + 26624 * s))) fun N18 v19 => fX3_beginToClaim_RSN_b80 N18 s
theorem qX3_beginToClaim_RSN {N : mMem} {s : Nat} {z : dZ} (hS : dS N) (hs : s < 8) (h : fX3_beginToClaim_RSN N s = some z) : dQ xs Ln 0 2 48 37 (0, lv_args 0 [.ref 1, .ref (28 + 13 * s), .null], [], N) z := by
  unfold fX3_beginToClaim_RSN at h
  have l0 : mLk (lv_args 0 [.ref 1, .ref (28 + 13 * s), .null]) 0 = some (.ref 1) := rfl
  have l1 : mLk (lv_args 0 [.ref 1, .ref (28 + 13 * s), .null]) 1 = some (.ref (28 + 13 * s)) := rfl
  have l2 : mLk (lv_args 0 [.ref 1, .ref (28 + 13 * s), .null]) 2 = some (.null) := rfl
  generalize lv_args 0 [.ref 1, .ref (28 + 13 * s), .null] = Nl at l0 l1 l2 ⊢
  refine dq_aload e_37_0 l1 ?_
  refine dq_iconst e_37_1 ?_
  have S1 := dS_P (v := 2) hS (ac_28s_5_4_0 s hs) (show (28 + 13 * s) * 2048 + 4 = (57348 + 26624 * s) by omega)
  refine dq_put (key := (57348 + 26624 * s)) e_37_2 hS (ac_28s_5_4_0 s hs) rfl (by omega) ?_
  refine dq_aload e_37_5 l1 ?_
  refine dq_aload e_37_6 l0 ?_
  refine dq_let h S1 (fun N2 S3 h => ?_)
  refine dq_getI (key := 2049) e_37_7 S3 ac_1_3_1_0 (by omega) ?_
  have S4 := dS_P (v := dG N2 2049) S3 (ac_28s_5_5_0 s hs) (show (28 + 13 * s) * 2048 + 5 = (57349 + 26624 * s) by omega)
  refine dq_put (key := (57349 + 26624 * s)) e_37_10 S3 (ac_28s_5_5_0 s hs) rfl (by omega) ?_
  refine dq_aload e_37_13 l1 ?_
  refine dq_aload e_37_14 l0 ?_
  refine dq_let h S4 (fun N5 S6 h => ?_)
  refine dq_getI (key := 2049) e_37_15 S6 ac_1_3_1_0 (by omega) ?_
  have S7 := dS_P (v := dG N5 2049) S6 (ac_28s_5_9_0 s hs) (show (28 + 13 * s) * 2048 + 9 = (57353 + 26624 * s) by omega)
  refine dq_put (key := (57353 + 26624 * s)) e_37_18 S6 (ac_28s_5_9_0 s hs) rfl (by omega) ?_
  refine dq_aload e_37_21 l1 ?_
  refine dq_getR e_37_22 S7 (ac_28s_5_16_2 s hs) ?_
  refine dq_let h S7 (fun N8 S9 h => ?_)
  obtain ⟨N10, v11, c12, h⟩ := dbd_inv h
  have q13 := qX1_drop_H (xs := xs) (Ln := Ln) S9 hs c12
  have S14 : dS N10 := q13.2.1
  refine dq_callv (as := []) (S := []) (nx := 28) e_37_25 rfl rfl rfl S9 (ak_32s_1 s hs) rfl rfl rfl rfl q13 rfl ?_
  refine dq_aload e_37_28 l1 ?_
  refine dq_dup e_37_29 rfl ?_
  refine dq_getI (key := (57352 + 26624 * s)) e_37_30 S14 (ac_28s_5_8_0 s hs) (by omega) ?_
  refine dq_iconst e_37_33 ?_
  refine dq_iadd (e := dW ((dG N10 (57352 + 26624 * s)) + 1)) e_37_34 rfl ?_
  have S15 := dS_P (v := dW ((dG N10 (57352 + 26624 * s)) + 1)) S14 (ac_28s_5_8_0 s hs) (show (28 + 13 * s) * 2048 + 8 = (57352 + 26624 * s) by omega)
  refine dq_put (key := (57352 + 26624 * s)) e_37_35 S14 (ac_28s_5_8_0 s hs) rfl (by omega) ?_
  refine dq_aload e_37_38 l1 ?_
  refine dq_getR e_37_39 S15 (ac_28s_5_7_2 s hs) ?_
  refine dq_aload e_37_42 l1 ?_
  refine dq_let h S15 (fun N16 S17 h => ?_)
  refine dq_getI (key := (57345 + 26624 * s)) e_37_43 S17 (ac_28s_5_1_0 s hs) (by omega) ?_
  refine dq_aload e_37_46 l1 ?_
  refine dq_getC (e := (s : Int)) e_37_47 S17 (ac_28s_5_0_1 s hs) rfl ?_
  refine dq_aload e_37_50 l1 ?_
  refine dq_getI (key := (57352 + 26624 * s)) e_37_51 S17 (ac_28s_5_8_0 s hs) (by omega) ?_
  obtain ⟨N18, v19, c20, h⟩ := dbd_inv h
  have q21 := qX0_become_E (xs := xs) (Ln := Ln) S17 hs (dG_R _ _) (⟨by omega, by omega⟩) (dG_R _ _) c20
  have S22 : dS N18 := q21.2.1
  refine dq_callv (as := [.int (dI (dG N16 (57345 + 26624 * s))), .int (dI (s : Int)), .int (dI (dG N16 (57352 + 26624 * s)))]) (S := []) (nx := 57) e_37_54 rfl rfl rfl S17 (ak_30s_0 s hs) rfl rfl rfl rfl q21 rfl ?_
  refine dq_aloadn e_37_57 l2 ?_
  refine dq_nullT e_37_58 ?_
  exact qX3_beginToClaim_RSN_b80 S22 hs l0 l1 h
noncomputable def fX7_claim_O_b46 (N : mMem) : Option dZ := some (N, 0)
theorem qX7_claim_O_b46 {Nl : List (Nat × Value)} {N : mMem} {z : dZ} (hS : dS N) (h : fX7_claim_O_b46 N = some z) : dQ xs Ln 1 3 70 84 (46, Nl, [], N) z := by
  unfold fX7_claim_O_b46 at h
  refine dq_iconst e_84_46 ?_
  cases h
  exact dq_reti (ty := .boolean) e_84_47 rfl (by decide +kernel) hS (⟨by decide, by decide⟩)
noncomputable def fX7_claim_O (N : mMem) (x1 : Int) : Option dZ := dbd (fX3_has_R N x1) fun N1 v2 => (if v2 = 0 then some (N1, 0) else dgd (0 ≤ x1 ∧ x1 < 8) <| dln (x1).toNat fun u9 => (if dG N1 (57347 + 26624 * u9) = 0 then (if dG N1 (57348 + 26624 * u9) = 2 then fX7_claim_O_b46 N1 else (if dG N1 (57348 + 26624 * u9) = 3 then fX7_claim_O_b46 N1 else dbd (fX3_beginToClaim_RSN N1 u9) fun N17 v18 => some (N17, 1))) else fX7_claim_O_b46 N1))
theorem qX7_claim_O {N : mMem} {x1 : Int} {z : dZ} (hS : dS N) (rx1 : dR x1) (h : fX7_claim_O N x1 = some z) : dQ xs Ln 1 3 70 84 (0, lv_args 0 [.ref 0, .int (dI x1)], [], N) z := by
  unfold fX7_claim_O at h
  have l0 : mLk (lv_args 0 [.ref 0, .int (dI x1)]) 0 = some (.ref 0) := rfl
  have l1 : mLk (lv_args 0 [.ref 0, .int (dI x1)]) 1 = some (.int (dI x1)) := rfl
  generalize lv_args 0 [.ref 0, .int (dI x1)] = Nl at l0 l1 ⊢
  refine dq_aload e_84_0 l0 ?_
  refine dq_getR e_84_1 hS ac_0_7_0_2 ?_
  refine dq_iload e_84_4 l1 ?_
  obtain ⟨N1, v2, c3, h⟩ := dbd_inv h
  have q4 := qX3_has_R (xs := xs) (Ln := Ln) hS rx1 c3
  have S5 : dS N1 := q4.2.1
  refine dq_calli (as := [.int (dI x1)]) (S := []) (nx := 8) e_84_5 rfl rfl rfl hS ak_1_3 rfl rfl rfl rfl q4 rfl ?_
  have r6 : dR v2 := q4.2.2
  by_cases c7 : v2 = 0
  · rw [if_pos c7] at h
    refine dq_ifF e_84_8 r6 (dnf c7) ?_
    refine dq_iconst e_84_11 ?_
    cases h
    exact dq_reti (ty := .boolean) e_84_12 rfl (by decide +kernel) S5 (⟨by decide, by decide⟩)
  · rw [if_neg c7] at h
    refine dq_ifT e_84_8 r6 (dnt c7) ?_
    refine dq_aload e_84_13 l0 ?_
    refine dq_getR e_84_14 S5 ac_0_7_0_2 ?_
    refine dq_getR e_84_17 S5 ac_1_3_6_2 ?_
    refine dq_iload e_84_20 l1 ?_
    obtain ⟨g8, h⟩ := dgd_inv h
    refine dq_aals h e_84_21 S5 rx1 g8.1 g8.2 (fun u9 hu9 ku9 h => ?_)
    refine dq_astore e_84_22 rfl (fun K10 m11 mm12 => ?_)
    have m13 := mm12 0 _ (by decide) rfl l0
    refine dq_aload e_84_23 m11 ?_
    refine dq_getI (key := (57347 + 26624 * u9)) e_84_24 S5 (ac_28s_5_3_0 u9 hu9) (by omega) ?_
    by_cases c14 : dG N1 (57347 + 26624 * u9) = 0
    · rw [if_pos c14] at h
      refine dq_ifF e_84_27 (dG_R _ _) (dnf c14) ?_
      refine dq_aload e_84_30 m11 ?_
      refine dq_getI (key := (57348 + 26624 * u9)) e_84_31 S5 (ac_28s_5_4_0 u9 hu9) (by omega) ?_
      refine dq_iconst e_84_34 ?_
      by_cases c15 : dG N1 (57348 + 26624 * u9) = 2
      · rw [if_pos c15] at h
        refine dq_icT e_84_35 (dG_R _ _) (⟨by decide, by decide⟩) (decide_eq_true c15) ?_
        exact qX7_claim_O_b46 S5 h
      · rw [if_neg c15] at h
        refine dq_icF e_84_35 (dG_R _ _) (⟨by decide, by decide⟩) (decide_eq_false c15) ?_
        refine dq_aload e_84_38 m11 ?_
        refine dq_getI (key := (57348 + 26624 * u9)) e_84_39 S5 (ac_28s_5_4_0 u9 hu9) (by omega) ?_
        refine dq_iconst e_84_42 ?_
        by_cases c16 : dG N1 (57348 + 26624 * u9) = 3
        · rw [if_pos c16] at h
          refine dq_icF e_84_43 (dG_R _ _) (⟨by decide, by decide⟩) (dnf c16) ?_
          exact qX7_claim_O_b46 S5 h
        · rw [if_neg c16] at h
          refine dq_icT e_84_43 (dG_R _ _) (⟨by decide, by decide⟩) (dnt c16) ?_
          refine dq_aload e_84_48 m13 ?_
          refine dq_getR e_84_49 S5 ac_0_7_0_2 ?_
          refine dq_aload e_84_52 m11 ?_
          refine dq_null e_84_53 ?_
          obtain ⟨N17, v18, c19, h⟩ := dbd_inv h
          have q20 := qX3_beginToClaim_RSN (xs := xs) (Ln := Ln) S5 hu9 c19
          have S21 : dS N17 := q20.2.1
          refine dq_callv (as := [.ref (28 + 13 * u9), .null]) (S := []) (nx := 57) e_84_54 rfl rfl rfl S5 ak_1_3 rfl rfl rfl rfl q20 rfl ?_
          refine dq_iconst e_84_57 ?_
          cases h
          exact dq_reti (ty := .boolean) e_84_58 rfl (by decide +kernel) S21 (⟨by decide, by decide⟩)
    · rw [if_neg c14] at h
      refine dq_ifT e_84_27 (dG_R _ _) (dnt c14) ?_
      exact qX7_claim_O_b46 S5 h
noncomputable def fX7_canTick_O_b31 (N : mMem) : Option dZ := some (N, 0)
theorem qX7_canTick_O_b31 {Nl : List (Nat × Value)} {N : mMem} {z : dZ} (hS : dS N) (h : fX7_canTick_O_b31 N = some z) : dQ xs Ln 1 0 0 91 (31, Nl, [], N) z := by
  unfold fX7_canTick_O_b31 at h
  refine dq_iconst e_91_31 ?_
  cases h
  exact dq_reti (ty := .boolean) e_91_32 rfl (by decide +kernel) hS (⟨by decide, by decide⟩)
noncomputable def fX7_canTick_O (N : mMem) (x1 : Int) : Option dZ := (if x1 < 1 then fX7_canTick_O_b31 N else (if 300 < x1 then fX7_canTick_O_b31 N else (if dW (30000 - x1) < dG N 2049 then fX7_canTick_O_b31 N else some (N, 1))))
theorem qX7_canTick_O {N : mMem} {x1 : Int} {z : dZ} (hS : dS N) (rx1 : dR x1) (h : fX7_canTick_O N x1 = some z) : dQ xs Ln 1 0 0 91 (0, lv_args 0 [.ref 0, .int (dI x1)], [], N) z := by
  unfold fX7_canTick_O at h
  have l0 : mLk (lv_args 0 [.ref 0, .int (dI x1)]) 0 = some (.ref 0) := rfl
  have l1 : mLk (lv_args 0 [.ref 0, .int (dI x1)]) 1 = some (.int (dI x1)) := rfl
  generalize lv_args 0 [.ref 0, .int (dI x1)] = Nl at l0 l1 ⊢
  refine dq_iload e_91_0 l1 ?_
  refine dq_iconst e_91_1 ?_
  by_cases c1 : x1 < 1
  · rw [if_pos c1] at h
    refine dq_icT e_91_2 rx1 (⟨by decide, by decide⟩) (decide_eq_true c1) ?_
    exact qX7_canTick_O_b31 hS h
  · rw [if_neg c1] at h
    refine dq_icF e_91_2 rx1 (⟨by decide, by decide⟩) (decide_eq_false c1) ?_
    refine dq_iload e_91_5 l1 ?_
    refine dq_iconst e_91_6 ?_
    by_cases c2 : 300 < x1
    · rw [if_pos c2] at h
      refine dq_icT e_91_9 rx1 (⟨by decide, by decide⟩) (decide_eq_true c2) ?_
      exact qX7_canTick_O_b31 hS h
    · rw [if_neg c2] at h
      refine dq_icF e_91_9 rx1 (⟨by decide, by decide⟩) (decide_eq_false c2) ?_
      refine dq_aload e_91_12 l0 ?_
      refine dq_getR e_91_13 hS ac_0_7_0_2 ?_
      refine dq_getI (key := 2049) e_91_16 hS ac_1_3_1_0 (by omega) ?_
      refine dq_iconst e_91_19 ?_
      refine dq_iload e_91_22 l1 ?_
      refine dq_isub (e := dW (30000 - x1)) e_91_23 rfl ?_
      by_cases c3 : dW (30000 - x1) < dG N 2049
      · rw [if_pos c3] at h
        refine dq_icT e_91_24 (dG_R _ _) (dW_R _) (decide_eq_true c3) ?_
        exact qX7_canTick_O_b31 hS h
      · rw [if_neg c3] at h
        refine dq_icF e_91_24 (dG_R _ _) (dW_R _) (decide_eq_false c3) ?_
        refine dq_iconst e_91_27 ?_
        refine dq_goto e_91_28 ?_
        cases h
        exact dq_reti (ty := .boolean) e_91_32 rfl (by decide +kernel) hS (⟨by decide, by decide⟩)
noncomputable def fX4_at_Pc2_b24 (N : mMem) : Option dZ := some (N, (-1))
theorem qX4_at_Pc2_b24 {Nl : List (Nat × Value)} {N : mMem} {z : dZ} (hS : dS N) (h : fX4_at_Pc2_b24 N = some z) : dQ xs Ln 1 0 0 61 (24, Nl, [], N) z := by
  unfold fX4_at_Pc2_b24 at h
  refine dq_iconst e_61_24 ?_
  cases h
  exact dq_reti (ty := .int) e_61_25 rfl rfl hS (⟨by decide, by decide⟩)
noncomputable def fX4_at_Pc2 (N : mMem) (x1 : Int) : Option dZ := (if x1 < 0 then fX4_at_Pc2_b24 N else (if x1 < dG N 10243 then dgd (0 ≤ x1 ∧ x1 < 100) <| some (N, dG N (18432 + (x1).toNat)) else fX4_at_Pc2_b24 N))
theorem qX4_at_Pc2 {N : mMem} {x1 : Int} {z : dZ} (hS : dS N) (rx1 : dR x1) (h : fX4_at_Pc2 N x1 = some z) : dQ xs Ln 1 0 0 61 (0, lv_args 0 [.ref 5, .int (dI x1), .int (dI 2)], [], N) z := by
  unfold fX4_at_Pc2 at h
  have l0 : mLk (lv_args 0 [.ref 5, .int (dI x1), .int (dI 2)]) 0 = some (.ref 5) := rfl
  have l1 : mLk (lv_args 0 [.ref 5, .int (dI x1), .int (dI 2)]) 1 = some (.int (dI x1)) := rfl
  have l2 : mLk (lv_args 0 [.ref 5, .int (dI x1), .int (dI 2)]) 2 = some (.int (dI 2)) := rfl
  generalize lv_args 0 [.ref 5, .int (dI x1), .int (dI 2)] = Nl at l0 l1 l2 ⊢
  refine dq_iload e_61_0 l1 ?_
  by_cases c1 : x1 < 0
  · rw [if_pos c1] at h
    refine dq_ifT e_61_1 rx1 (decide_eq_true c1) ?_
    exact qX4_at_Pc2_b24 hS h
  · rw [if_neg c1] at h
    refine dq_ifF e_61_1 rx1 (decide_eq_false c1) ?_
    refine dq_iload e_61_4 l1 ?_
    refine dq_aload e_61_5 l0 ?_
    refine dq_getI (key := 10243) e_61_6 hS ac_5_4_3_0 (by omega) ?_
    by_cases c2 : x1 < dG N 10243
    · rw [if_pos c2] at h
      refine dq_icF e_61_9 rx1 (dG_R _ _) (dnf c2) ?_
      refine dq_iload e_61_12 l2 ?_
      refine dq_ifF e_61_13 (⟨by decide, by decide⟩) (by decide +kernel) ?_
      refine dq_iload e_61_16 l2 ?_
      refine dq_aload e_61_17 l0 ?_
      refine dq_getC (e := 6) e_61_18 hS ac_5_4_1_1 rfl ?_
      refine dq_icT e_61_21 (⟨by decide, by decide⟩) (⟨by decide, by decide⟩) (by decide +kernel) ?_
      refine dq_aload e_61_26 l0 ?_
      refine dq_getR e_61_27 hS ac_5_4_2_2 ?_
      refine dq_iload e_61_30 l2 ?_
      refine dq_aal (n := 2) e_61_31 hS ⟨by decide, by decide⟩ (by decide) rfl ac_6_101_2_2 rfl ?_
      refine dq_iload e_61_32 l1 ?_
      obtain ⟨g3, h⟩ := dgd_inv h
      refine dq_ial (key := (18432 + (x1).toNat)) e_61_33 hS aa_9 rx1 g3.1 g3.2 (by omega) ?_
      cases h
      exact dq_reti (ty := .int) e_61_34 rfl rfl hS (dG_R _ _)
    · rw [if_neg c2] at h
      refine dq_icT e_61_9 rx1 (dG_R _ _) (dnt c2) ?_
      exact qX4_at_Pc2_b24 hS h
noncomputable def fX4_at_Pc1_b24 (N : mMem) : Option dZ := some (N, (-1))
theorem qX4_at_Pc1_b24 {Nl : List (Nat × Value)} {N : mMem} {z : dZ} (hS : dS N) (h : fX4_at_Pc1_b24 N = some z) : dQ xs Ln 1 0 0 61 (24, Nl, [], N) z := by
  unfold fX4_at_Pc1_b24 at h
  refine dq_iconst e_61_24 ?_
  cases h
  exact dq_reti (ty := .int) e_61_25 rfl rfl hS (⟨by decide, by decide⟩)
noncomputable def fX4_at_Pc1 (N : mMem) (x1 : Int) : Option dZ := (if x1 < 0 then fX4_at_Pc1_b24 N else (if x1 < dG N 10243 then dgd (0 ≤ x1 ∧ x1 < 100) <| some (N, dG N (16384 + (x1).toNat)) else fX4_at_Pc1_b24 N))
theorem qX4_at_Pc1 {N : mMem} {x1 : Int} {z : dZ} (hS : dS N) (rx1 : dR x1) (h : fX4_at_Pc1 N x1 = some z) : dQ xs Ln 1 0 0 61 (0, lv_args 0 [.ref 5, .int (dI x1), .int (dI 1)], [], N) z := by
  unfold fX4_at_Pc1 at h
  have l0 : mLk (lv_args 0 [.ref 5, .int (dI x1), .int (dI 1)]) 0 = some (.ref 5) := rfl
  have l1 : mLk (lv_args 0 [.ref 5, .int (dI x1), .int (dI 1)]) 1 = some (.int (dI x1)) := rfl
  have l2 : mLk (lv_args 0 [.ref 5, .int (dI x1), .int (dI 1)]) 2 = some (.int (dI 1)) := rfl
  generalize lv_args 0 [.ref 5, .int (dI x1), .int (dI 1)] = Nl at l0 l1 l2 ⊢
  refine dq_iload e_61_0 l1 ?_
  by_cases c1 : x1 < 0
  · rw [if_pos c1] at h
    refine dq_ifT e_61_1 rx1 (decide_eq_true c1) ?_
    exact qX4_at_Pc1_b24 hS h
  · rw [if_neg c1] at h
    refine dq_ifF e_61_1 rx1 (decide_eq_false c1) ?_
    refine dq_iload e_61_4 l1 ?_
    refine dq_aload e_61_5 l0 ?_
    refine dq_getI (key := 10243) e_61_6 hS ac_5_4_3_0 (by omega) ?_
    by_cases c2 : x1 < dG N 10243
    · rw [if_pos c2] at h
      refine dq_icF e_61_9 rx1 (dG_R _ _) (dnf c2) ?_
      refine dq_iload e_61_12 l2 ?_
      refine dq_ifF e_61_13 (⟨by decide, by decide⟩) (by decide +kernel) ?_
      refine dq_iload e_61_16 l2 ?_
      refine dq_aload e_61_17 l0 ?_
      refine dq_getC (e := 6) e_61_18 hS ac_5_4_1_1 rfl ?_
      refine dq_icT e_61_21 (⟨by decide, by decide⟩) (⟨by decide, by decide⟩) (by decide +kernel) ?_
      refine dq_aload e_61_26 l0 ?_
      refine dq_getR e_61_27 hS ac_5_4_2_2 ?_
      refine dq_iload e_61_30 l2 ?_
      refine dq_aal (n := 1) e_61_31 hS ⟨by decide, by decide⟩ (by decide) rfl ac_6_101_1_2 rfl ?_
      refine dq_iload e_61_32 l1 ?_
      obtain ⟨g3, h⟩ := dgd_inv h
      refine dq_ial (key := (16384 + (x1).toNat)) e_61_33 hS aa_8 rx1 g3.1 g3.2 (by omega) ?_
      cases h
      exact dq_reti (ty := .int) e_61_34 rfl rfl hS (dG_R _ _)
    · rw [if_neg c2] at h
      refine dq_icT e_61_9 rx1 (dG_R _ _) (dnt c2) ?_
      exact qX4_at_Pc1_b24 hS h
noncomputable def fX4_at_Pc0_b24 (N : mMem) : Option dZ := some (N, (-1))
theorem qX4_at_Pc0_b24 {Nl : List (Nat × Value)} {N : mMem} {z : dZ} (hS : dS N) (h : fX4_at_Pc0_b24 N = some z) : dQ xs Ln 1 0 0 61 (24, Nl, [], N) z := by
  unfold fX4_at_Pc0_b24 at h
  refine dq_iconst e_61_24 ?_
  cases h
  exact dq_reti (ty := .int) e_61_25 rfl rfl hS (⟨by decide, by decide⟩)
noncomputable def fX4_at_Pc0 (N : mMem) (x1 : Int) : Option dZ := (if x1 < 0 then fX4_at_Pc0_b24 N else (if x1 < dG N 10243 then dgd (0 ≤ x1 ∧ x1 < 100) <| some (N, dG N (14336 + (x1).toNat)) else fX4_at_Pc0_b24 N))
theorem qX4_at_Pc0 {N : mMem} {x1 : Int} {z : dZ} (hS : dS N) (rx1 : dR x1) (h : fX4_at_Pc0 N x1 = some z) : dQ xs Ln 1 0 0 61 (0, lv_args 0 [.ref 5, .int (dI x1), .int (dI 0)], [], N) z := by
  unfold fX4_at_Pc0 at h
  have l0 : mLk (lv_args 0 [.ref 5, .int (dI x1), .int (dI 0)]) 0 = some (.ref 5) := rfl
  have l1 : mLk (lv_args 0 [.ref 5, .int (dI x1), .int (dI 0)]) 1 = some (.int (dI x1)) := rfl
  have l2 : mLk (lv_args 0 [.ref 5, .int (dI x1), .int (dI 0)]) 2 = some (.int (dI 0)) := rfl
  generalize lv_args 0 [.ref 5, .int (dI x1), .int (dI 0)] = Nl at l0 l1 l2 ⊢
  refine dq_iload e_61_0 l1 ?_
  by_cases c1 : x1 < 0
  · rw [if_pos c1] at h
    refine dq_ifT e_61_1 rx1 (decide_eq_true c1) ?_
    exact qX4_at_Pc0_b24 hS h
  · rw [if_neg c1] at h
    refine dq_ifF e_61_1 rx1 (decide_eq_false c1) ?_
    refine dq_iload e_61_4 l1 ?_
    refine dq_aload e_61_5 l0 ?_
    refine dq_getI (key := 10243) e_61_6 hS ac_5_4_3_0 (by omega) ?_
    by_cases c2 : x1 < dG N 10243
    · rw [if_pos c2] at h
      refine dq_icF e_61_9 rx1 (dG_R _ _) (dnf c2) ?_
      refine dq_iload e_61_12 l2 ?_
      refine dq_ifF e_61_13 (⟨by decide, by decide⟩) (by decide +kernel) ?_
      refine dq_iload e_61_16 l2 ?_
      refine dq_aload e_61_17 l0 ?_
      refine dq_getC (e := 6) e_61_18 hS ac_5_4_1_1 rfl ?_
      refine dq_icT e_61_21 (⟨by decide, by decide⟩) (⟨by decide, by decide⟩) (by decide +kernel) ?_
      refine dq_aload e_61_26 l0 ?_
      refine dq_getR e_61_27 hS ac_5_4_2_2 ?_
      refine dq_iload e_61_30 l2 ?_
      refine dq_aal (n := 0) e_61_31 hS ⟨by decide, by decide⟩ (by decide) rfl ac_6_101_0_2 rfl ?_
      refine dq_iload e_61_32 l1 ?_
      obtain ⟨g3, h⟩ := dgd_inv h
      refine dq_ial (key := (14336 + (x1).toNat)) e_61_33 hS aa_7 rx1 g3.1 g3.2 (by omega) ?_
      cases h
      exact dq_reti (ty := .int) e_61_34 rfl rfl hS (dG_R _ _)
    · rw [if_neg c2] at h
      refine dq_icT e_61_9 rx1 (dG_R _ _) (dnt c2) ?_
      exact qX4_at_Pc0_b24 hS h
noncomputable def fX4_at_Pc4_b24 (N : mMem) : Option dZ := some (N, (-1))
theorem qX4_at_Pc4_b24 {Nl : List (Nat × Value)} {N : mMem} {z : dZ} (hS : dS N) (h : fX4_at_Pc4_b24 N = some z) : dQ xs Ln 1 0 0 61 (24, Nl, [], N) z := by
  unfold fX4_at_Pc4_b24 at h
  refine dq_iconst e_61_24 ?_
  cases h
  exact dq_reti (ty := .int) e_61_25 rfl rfl hS (⟨by decide, by decide⟩)
noncomputable def fX4_at_Pc4 (N : mMem) (x1 : Int) : Option dZ := (if x1 < 0 then fX4_at_Pc4_b24 N else (if x1 < dG N 10243 then dgd (0 ≤ x1 ∧ x1 < 100) <| some (N, dG N (22528 + (x1).toNat)) else fX4_at_Pc4_b24 N))
theorem qX4_at_Pc4 {N : mMem} {x1 : Int} {z : dZ} (hS : dS N) (rx1 : dR x1) (h : fX4_at_Pc4 N x1 = some z) : dQ xs Ln 1 0 0 61 (0, lv_args 0 [.ref 5, .int (dI x1), .int (dI 4)], [], N) z := by
  unfold fX4_at_Pc4 at h
  have l0 : mLk (lv_args 0 [.ref 5, .int (dI x1), .int (dI 4)]) 0 = some (.ref 5) := rfl
  have l1 : mLk (lv_args 0 [.ref 5, .int (dI x1), .int (dI 4)]) 1 = some (.int (dI x1)) := rfl
  have l2 : mLk (lv_args 0 [.ref 5, .int (dI x1), .int (dI 4)]) 2 = some (.int (dI 4)) := rfl
  generalize lv_args 0 [.ref 5, .int (dI x1), .int (dI 4)] = Nl at l0 l1 l2 ⊢
  refine dq_iload e_61_0 l1 ?_
  by_cases c1 : x1 < 0
  · rw [if_pos c1] at h
    refine dq_ifT e_61_1 rx1 (decide_eq_true c1) ?_
    exact qX4_at_Pc4_b24 hS h
  · rw [if_neg c1] at h
    refine dq_ifF e_61_1 rx1 (decide_eq_false c1) ?_
    refine dq_iload e_61_4 l1 ?_
    refine dq_aload e_61_5 l0 ?_
    refine dq_getI (key := 10243) e_61_6 hS ac_5_4_3_0 (by omega) ?_
    by_cases c2 : x1 < dG N 10243
    · rw [if_pos c2] at h
      refine dq_icF e_61_9 rx1 (dG_R _ _) (dnf c2) ?_
      refine dq_iload e_61_12 l2 ?_
      refine dq_ifF e_61_13 (⟨by decide, by decide⟩) (by decide +kernel) ?_
      refine dq_iload e_61_16 l2 ?_
      refine dq_aload e_61_17 l0 ?_
      refine dq_getC (e := 6) e_61_18 hS ac_5_4_1_1 rfl ?_
      refine dq_icT e_61_21 (⟨by decide, by decide⟩) (⟨by decide, by decide⟩) (by decide +kernel) ?_
      refine dq_aload e_61_26 l0 ?_
      refine dq_getR e_61_27 hS ac_5_4_2_2 ?_
      refine dq_iload e_61_30 l2 ?_
      refine dq_aal (n := 4) e_61_31 hS ⟨by decide, by decide⟩ (by decide) rfl ac_6_101_4_2 rfl ?_
      refine dq_iload e_61_32 l1 ?_
      obtain ⟨g3, h⟩ := dgd_inv h
      refine dq_ial (key := (22528 + (x1).toNat)) e_61_33 hS aa_11 rx1 g3.1 g3.2 (by omega) ?_
      cases h
      exact dq_reti (ty := .int) e_61_34 rfl rfl hS (dG_R _ _)
    · rw [if_neg c2] at h
      refine dq_icT e_61_9 rx1 (dG_R _ _) (dnt c2) ?_
      exact qX4_at_Pc4_b24 hS h
noncomputable def fX4_at_Pc3_b24 (N : mMem) : Option dZ := some (N, (-1))
theorem qX4_at_Pc3_b24 {Nl : List (Nat × Value)} {N : mMem} {z : dZ} (hS : dS N) (h : fX4_at_Pc3_b24 N = some z) : dQ xs Ln 1 0 0 61 (24, Nl, [], N) z := by
  unfold fX4_at_Pc3_b24 at h
  refine dq_iconst e_61_24 ?_
  cases h
  exact dq_reti (ty := .int) e_61_25 rfl rfl hS (⟨by decide, by decide⟩)
noncomputable def fX4_at_Pc3 (N : mMem) (x1 : Int) : Option dZ := (if x1 < 0 then fX4_at_Pc3_b24 N else (if x1 < dG N 10243 then dgd (0 ≤ x1 ∧ x1 < 100) <| some (N, dG N (20480 + (x1).toNat)) else fX4_at_Pc3_b24 N))
theorem qX4_at_Pc3 {N : mMem} {x1 : Int} {z : dZ} (hS : dS N) (rx1 : dR x1) (h : fX4_at_Pc3 N x1 = some z) : dQ xs Ln 1 0 0 61 (0, lv_args 0 [.ref 5, .int (dI x1), .int (dI 3)], [], N) z := by
  unfold fX4_at_Pc3 at h
  have l0 : mLk (lv_args 0 [.ref 5, .int (dI x1), .int (dI 3)]) 0 = some (.ref 5) := rfl
  have l1 : mLk (lv_args 0 [.ref 5, .int (dI x1), .int (dI 3)]) 1 = some (.int (dI x1)) := rfl
  have l2 : mLk (lv_args 0 [.ref 5, .int (dI x1), .int (dI 3)]) 2 = some (.int (dI 3)) := rfl
  generalize lv_args 0 [.ref 5, .int (dI x1), .int (dI 3)] = Nl at l0 l1 l2 ⊢
  refine dq_iload e_61_0 l1 ?_
  by_cases c1 : x1 < 0
  · rw [if_pos c1] at h
    refine dq_ifT e_61_1 rx1 (decide_eq_true c1) ?_
    exact qX4_at_Pc3_b24 hS h
  · rw [if_neg c1] at h
    refine dq_ifF e_61_1 rx1 (decide_eq_false c1) ?_
    refine dq_iload e_61_4 l1 ?_
    refine dq_aload e_61_5 l0 ?_
    refine dq_getI (key := 10243) e_61_6 hS ac_5_4_3_0 (by omega) ?_
    by_cases c2 : x1 < dG N 10243
    · rw [if_pos c2] at h
      refine dq_icF e_61_9 rx1 (dG_R _ _) (dnf c2) ?_
      refine dq_iload e_61_12 l2 ?_
      refine dq_ifF e_61_13 (⟨by decide, by decide⟩) (by decide +kernel) ?_
      refine dq_iload e_61_16 l2 ?_
      refine dq_aload e_61_17 l0 ?_
      refine dq_getC (e := 6) e_61_18 hS ac_5_4_1_1 rfl ?_
      refine dq_icT e_61_21 (⟨by decide, by decide⟩) (⟨by decide, by decide⟩) (by decide +kernel) ?_
      refine dq_aload e_61_26 l0 ?_
      refine dq_getR e_61_27 hS ac_5_4_2_2 ?_
      refine dq_iload e_61_30 l2 ?_
      refine dq_aal (n := 3) e_61_31 hS ⟨by decide, by decide⟩ (by decide) rfl ac_6_101_3_2 rfl ?_
      refine dq_iload e_61_32 l1 ?_
      obtain ⟨g3, h⟩ := dgd_inv h
      refine dq_ial (key := (20480 + (x1).toNat)) e_61_33 hS aa_10 rx1 g3.1 g3.2 (by omega) ?_
      cases h
      exact dq_reti (ty := .int) e_61_34 rfl rfl hS (dG_R _ _)
    · rw [if_neg c2] at h
      refine dq_icT e_61_9 rx1 (dG_R _ _) (dnt c2) ?_
      exact qX4_at_Pc3_b24 hS h
noncomputable def fX4_at_Pc5_b24 (N : mMem) : Option dZ := some (N, (-1))
theorem qX4_at_Pc5_b24 {Nl : List (Nat × Value)} {N : mMem} {z : dZ} (hS : dS N) (h : fX4_at_Pc5_b24 N = some z) : dQ xs Ln 1 0 0 61 (24, Nl, [], N) z := by
  unfold fX4_at_Pc5_b24 at h
  refine dq_iconst e_61_24 ?_
  cases h
  exact dq_reti (ty := .int) e_61_25 rfl rfl hS (⟨by decide, by decide⟩)
noncomputable def fX4_at_Pc5 (N : mMem) (x1 : Int) : Option dZ := (if x1 < 0 then fX4_at_Pc5_b24 N else (if x1 < dG N 10243 then dgd (0 ≤ x1 ∧ x1 < 100) <| some (N, dG N (24576 + (x1).toNat)) else fX4_at_Pc5_b24 N))
theorem qX4_at_Pc5 {N : mMem} {x1 : Int} {z : dZ} (hS : dS N) (rx1 : dR x1) (h : fX4_at_Pc5 N x1 = some z) : dQ xs Ln 1 0 0 61 (0, lv_args 0 [.ref 5, .int (dI x1), .int (dI 5)], [], N) z := by
  unfold fX4_at_Pc5 at h
  have l0 : mLk (lv_args 0 [.ref 5, .int (dI x1), .int (dI 5)]) 0 = some (.ref 5) := rfl
  have l1 : mLk (lv_args 0 [.ref 5, .int (dI x1), .int (dI 5)]) 1 = some (.int (dI x1)) := rfl
  have l2 : mLk (lv_args 0 [.ref 5, .int (dI x1), .int (dI 5)]) 2 = some (.int (dI 5)) := rfl
  generalize lv_args 0 [.ref 5, .int (dI x1), .int (dI 5)] = Nl at l0 l1 l2 ⊢
  refine dq_iload e_61_0 l1 ?_
  by_cases c1 : x1 < 0
  · rw [if_pos c1] at h
    refine dq_ifT e_61_1 rx1 (decide_eq_true c1) ?_
    exact qX4_at_Pc5_b24 hS h
  · rw [if_neg c1] at h
    refine dq_ifF e_61_1 rx1 (decide_eq_false c1) ?_
    refine dq_iload e_61_4 l1 ?_
    refine dq_aload e_61_5 l0 ?_
    refine dq_getI (key := 10243) e_61_6 hS ac_5_4_3_0 (by omega) ?_
    by_cases c2 : x1 < dG N 10243
    · rw [if_pos c2] at h
      refine dq_icF e_61_9 rx1 (dG_R _ _) (dnf c2) ?_
      refine dq_iload e_61_12 l2 ?_
      refine dq_ifF e_61_13 (⟨by decide, by decide⟩) (by decide +kernel) ?_
      refine dq_iload e_61_16 l2 ?_
      refine dq_aload e_61_17 l0 ?_
      refine dq_getC (e := 6) e_61_18 hS ac_5_4_1_1 rfl ?_
      refine dq_icT e_61_21 (⟨by decide, by decide⟩) (⟨by decide, by decide⟩) (by decide +kernel) ?_
      refine dq_aload e_61_26 l0 ?_
      refine dq_getR e_61_27 hS ac_5_4_2_2 ?_
      refine dq_iload e_61_30 l2 ?_
      refine dq_aal (n := 5) e_61_31 hS ⟨by decide, by decide⟩ (by decide) rfl ac_6_101_5_2 rfl ?_
      refine dq_iload e_61_32 l1 ?_
      obtain ⟨g3, h⟩ := dgd_inv h
      refine dq_ial (key := (24576 + (x1).toNat)) e_61_33 hS aa_12 rx1 g3.1 g3.2 (by omega) ?_
      cases h
      exact dq_reti (ty := .int) e_61_34 rfl rfl hS (dG_R _ _)
    · rw [if_neg c2] at h
      refine dq_icT e_61_9 rx1 (dG_R _ _) (dnt c2) ?_
      exact qX4_at_Pc5_b24 hS h
noncomputable def fX0_become_C (N : mMem) (x1 : Int) (x2 : Int) (x3 : Int) : Option dZ := some (dP (dP (dP N 55296 x1) 55297 x2) 55298 x3, 0)
theorem qX0_become_C {N : mMem} {x1 : Int} {x2 : Int} {x3 : Int} {z : dZ} (hS : dS N) (rx1 : dR x1) (rx2 : dR x2) (rx3 : dR x3) (h : fX0_become_C N x1 x2 x3 = some z) : dQ xs Ln 0 0 0 1 (0, lv_args 0 [.ref 27, .int (dI x1), .int (dI x2), .int (dI x3)], [], N) z := by
  unfold fX0_become_C at h
  have l0 : mLk (lv_args 0 [.ref 27, .int (dI x1), .int (dI x2), .int (dI x3)]) 0 = some (.ref 27) := rfl
  have l1 : mLk (lv_args 0 [.ref 27, .int (dI x1), .int (dI x2), .int (dI x3)]) 1 = some (.int (dI x1)) := rfl
  have l2 : mLk (lv_args 0 [.ref 27, .int (dI x1), .int (dI x2), .int (dI x3)]) 2 = some (.int (dI x2)) := rfl
  have l3 : mLk (lv_args 0 [.ref 27, .int (dI x1), .int (dI x2), .int (dI x3)]) 3 = some (.int (dI x3)) := rfl
  generalize lv_args 0 [.ref 27, .int (dI x1), .int (dI x2), .int (dI x3)] = Nl at l0 l1 l2 l3 ⊢
  refine dq_aload e_1_0 l0 ?_
  refine dq_iload e_1_1 l1 ?_
  have S1 := dS_P (v := x1) hS ac_27_0_0_0 (show 27 * 2048 + 0 = 55296 by omega)
  refine dq_put (key := 55296) e_1_2 hS ac_27_0_0_0 rfl (by omega) ?_
  refine dq_aload e_1_5 l0 ?_
  refine dq_iload e_1_6 l2 ?_
  have S2 := dS_P (v := x2) S1 ac_27_0_1_0 (show 27 * 2048 + 1 = 55297 by omega)
  refine dq_put (key := 55297) e_1_7 S1 ac_27_0_1_0 rfl (by omega) ?_
  refine dq_aload e_1_10 l0 ?_
  refine dq_iload e_1_11 l3 ?_
  have S3 := dS_P (v := x3) S2 ac_27_0_2_0 (show 27 * 2048 + 2 = 55298 by omega)
  refine dq_put (key := 55298) e_1_12 S2 ac_27_0_2_0 rfl (by omega) ?_
  cases h
  exact dq_retv e_1_15 rfl S3
noncomputable def fX4_remove_P_b15_7 (N : mMem) (x1 : Int) : Option dZ := some (dP N 10243 (dW ((dG N 10243) - 1)), 0)
theorem qX4_remove_P_b15_7 {Nl : List (Nat × Value)} {N : mMem} {x1 : Int} {z : dZ} (hS : dS N) (rx1 : dR x1) (l0 : mLk Nl 0 = some (.ref 5)) (l1 : mLk Nl 1 = some (.int (dI x1))) (l2 : mLk Nl 2 = some (.int (dI 6))) (h : fX4_remove_P_b15_7 N x1 = some z) : dQ xs Ln 0 1 18 62 (15, Nl, [], N) z := by
  unfold fX4_remove_P_b15_7 at h
  refine dq_iload e_62_15 l2 ?_
  refine dq_aload e_62_16 l0 ?_
  refine dq_getC (e := 6) e_62_17 hS ac_5_4_1_1 rfl ?_
  refine dq_icT e_62_20 (⟨by decide, by decide⟩) (⟨by decide, by decide⟩) (by decide +kernel) ?_
  refine dq_aload e_62_56 l0 ?_
  refine dq_dup e_62_57 rfl ?_
  refine dq_getI (key := 10243) e_62_58 hS ac_5_4_3_0 (by omega) ?_
  refine dq_iconst e_62_61 ?_
  refine dq_isub (e := dW ((dG N 10243) - 1)) e_62_62 rfl ?_
  have S50 := dS_P (v := dW ((dG N 10243) - 1)) hS ac_5_4_3_0 (show 5 * 2048 + 3 = 10243 by omega)
  refine dq_put (key := 10243) e_62_63 hS ac_5_4_3_0 rfl (by omega) ?_
  cases h
  exact dq_retv e_62_66 rfl S50
noncomputable def fX4_remove_P_b15_6 (N : mMem) (x1 : Int) : Option dZ := dgd ((0 : Int) ≤ dW (x1 + 1) ∧ (0 : Int) ≤ x1 ∧ (0 : Int) ≤ dW ((dW ((dG N 10243) - 1)) - x1) ∧ dW (x1 + 1) + dW ((dW ((dG N 10243) - 1)) - x1) ≤ 100 ∧ x1 + dW ((dW ((dG N 10243) - 1)) - x1) ≤ 100) <| fX4_remove_P_b15_7 (dCp N 12 (dW (x1 + 1)).toNat 12 (x1).toNat (dW ((dW ((dG N 10243) - 1)) - x1)).toNat) x1
theorem qX4_remove_P_b15_6 {Nl : List (Nat × Value)} {N : mMem} {x1 : Int} {z : dZ} (hS : dS N) (rx1 : dR x1) (l0 : mLk Nl 0 = some (.ref 5)) (l1 : mLk Nl 1 = some (.int (dI x1))) (l2 : mLk Nl 2 = some (.int (dI 5))) (h : fX4_remove_P_b15_6 N x1 = some z) : dQ xs Ln 0 1 18 62 (15, Nl, [], N) z := by
  unfold fX4_remove_P_b15_6 at h
  refine dq_iload e_62_15 l2 ?_
  refine dq_aload e_62_16 l0 ?_
  refine dq_getC (e := 6) e_62_17 hS ac_5_4_1_1 rfl ?_
  refine dq_icF e_62_20 (⟨by decide, by decide⟩) (⟨by decide, by decide⟩) (by decide +kernel) ?_
  refine dq_aload e_62_23 l0 ?_
  refine dq_getR e_62_24 hS ac_5_4_2_2 ?_
  refine dq_iload e_62_27 l2 ?_
  refine dq_aal (n := 5) e_62_28 hS ⟨by decide, by decide⟩ (by decide) rfl ac_6_101_5_2 rfl ?_
  refine dq_iload e_62_29 l1 ?_
  refine dq_iconst e_62_30 ?_
  refine dq_iadd (e := dW (x1 + 1)) e_62_31 rfl ?_
  refine dq_aload e_62_32 l0 ?_
  refine dq_getR e_62_33 hS ac_5_4_2_2 ?_
  refine dq_iload e_62_36 l2 ?_
  refine dq_aal (n := 5) e_62_37 hS ⟨by decide, by decide⟩ (by decide) rfl ac_6_101_5_2 rfl ?_
  refine dq_iload e_62_38 l1 ?_
  refine dq_aload e_62_39 l0 ?_
  refine dq_getI (key := 10243) e_62_40 hS ac_5_4_3_0 (by omega) ?_
  refine dq_iconst e_62_43 ?_
  refine dq_isub (e := dW ((dG N 10243) - 1)) e_62_44 rfl ?_
  refine dq_iload e_62_45 l1 ?_
  refine dq_isub (e := dW ((dW ((dG N 10243) - 1)) - x1)) e_62_46 rfl ?_
  obtain ⟨g43, h⟩ := dgd_inv h
  have S44 : dS (dCp N 12 (dW (x1 + 1)).toNat 12 (x1).toNat (dW ((dW ((dG N 10243) - 1)) - x1)).toNat) := dS_cp hS aa_12 (by omega)
  refine dq_acp e_62_47 hS aa_12 aa_12 rfl rfl (dW_R _) rx1 (dW_R _) g43.1 g43.2.1 g43.2.2.1 g43.2.2.2.1 g43.2.2.2.2 ?_
  refine dq_iinc (x := 5) (e := 6) e_62_50 l2 rfl (by decide +kernel) (fun K45 m46 mm47 => ?_)
  have m48 := mm47 0 _ (by decide) rfl l0
  have m49 := mm47 1 _ (by decide) rfl l1
  refine dq_goto e_62_53 ?_
  exact qX4_remove_P_b15_7 S44 rx1 m48 m49 m46 h
noncomputable def fX4_remove_P_b15_5 (N : mMem) (x1 : Int) : Option dZ := dgd ((0 : Int) ≤ dW (x1 + 1) ∧ (0 : Int) ≤ x1 ∧ (0 : Int) ≤ dW ((dW ((dG N 10243) - 1)) - x1) ∧ dW (x1 + 1) + dW ((dW ((dG N 10243) - 1)) - x1) ≤ 100 ∧ x1 + dW ((dW ((dG N 10243) - 1)) - x1) ≤ 100) <| fX4_remove_P_b15_6 (dCp N 11 (dW (x1 + 1)).toNat 11 (x1).toNat (dW ((dW ((dG N 10243) - 1)) - x1)).toNat) x1
theorem qX4_remove_P_b15_5 {Nl : List (Nat × Value)} {N : mMem} {x1 : Int} {z : dZ} (hS : dS N) (rx1 : dR x1) (l0 : mLk Nl 0 = some (.ref 5)) (l1 : mLk Nl 1 = some (.int (dI x1))) (l2 : mLk Nl 2 = some (.int (dI 4))) (h : fX4_remove_P_b15_5 N x1 = some z) : dQ xs Ln 0 1 18 62 (15, Nl, [], N) z := by
  unfold fX4_remove_P_b15_5 at h
  refine dq_iload e_62_15 l2 ?_
  refine dq_aload e_62_16 l0 ?_
  refine dq_getC (e := 6) e_62_17 hS ac_5_4_1_1 rfl ?_
  refine dq_icF e_62_20 (⟨by decide, by decide⟩) (⟨by decide, by decide⟩) (by decide +kernel) ?_
  refine dq_aload e_62_23 l0 ?_
  refine dq_getR e_62_24 hS ac_5_4_2_2 ?_
  refine dq_iload e_62_27 l2 ?_
  refine dq_aal (n := 4) e_62_28 hS ⟨by decide, by decide⟩ (by decide) rfl ac_6_101_4_2 rfl ?_
  refine dq_iload e_62_29 l1 ?_
  refine dq_iconst e_62_30 ?_
  refine dq_iadd (e := dW (x1 + 1)) e_62_31 rfl ?_
  refine dq_aload e_62_32 l0 ?_
  refine dq_getR e_62_33 hS ac_5_4_2_2 ?_
  refine dq_iload e_62_36 l2 ?_
  refine dq_aal (n := 4) e_62_37 hS ⟨by decide, by decide⟩ (by decide) rfl ac_6_101_4_2 rfl ?_
  refine dq_iload e_62_38 l1 ?_
  refine dq_aload e_62_39 l0 ?_
  refine dq_getI (key := 10243) e_62_40 hS ac_5_4_3_0 (by omega) ?_
  refine dq_iconst e_62_43 ?_
  refine dq_isub (e := dW ((dG N 10243) - 1)) e_62_44 rfl ?_
  refine dq_iload e_62_45 l1 ?_
  refine dq_isub (e := dW ((dW ((dG N 10243) - 1)) - x1)) e_62_46 rfl ?_
  obtain ⟨g36, h⟩ := dgd_inv h
  have S37 : dS (dCp N 11 (dW (x1 + 1)).toNat 11 (x1).toNat (dW ((dW ((dG N 10243) - 1)) - x1)).toNat) := dS_cp hS aa_11 (by omega)
  refine dq_acp e_62_47 hS aa_11 aa_11 rfl rfl (dW_R _) rx1 (dW_R _) g36.1 g36.2.1 g36.2.2.1 g36.2.2.2.1 g36.2.2.2.2 ?_
  refine dq_iinc (x := 4) (e := 5) e_62_50 l2 rfl (by decide +kernel) (fun K38 m39 mm40 => ?_)
  have m41 := mm40 0 _ (by decide) rfl l0
  have m42 := mm40 1 _ (by decide) rfl l1
  refine dq_goto e_62_53 ?_
  exact qX4_remove_P_b15_6 S37 rx1 m41 m42 m39 h
noncomputable def fX4_remove_P_b15_4 (N : mMem) (x1 : Int) : Option dZ := dgd ((0 : Int) ≤ dW (x1 + 1) ∧ (0 : Int) ≤ x1 ∧ (0 : Int) ≤ dW ((dW ((dG N 10243) - 1)) - x1) ∧ dW (x1 + 1) + dW ((dW ((dG N 10243) - 1)) - x1) ≤ 100 ∧ x1 + dW ((dW ((dG N 10243) - 1)) - x1) ≤ 100) <| fX4_remove_P_b15_5 (dCp N 10 (dW (x1 + 1)).toNat 10 (x1).toNat (dW ((dW ((dG N 10243) - 1)) - x1)).toNat) x1
theorem qX4_remove_P_b15_4 {Nl : List (Nat × Value)} {N : mMem} {x1 : Int} {z : dZ} (hS : dS N) (rx1 : dR x1) (l0 : mLk Nl 0 = some (.ref 5)) (l1 : mLk Nl 1 = some (.int (dI x1))) (l2 : mLk Nl 2 = some (.int (dI 3))) (h : fX4_remove_P_b15_4 N x1 = some z) : dQ xs Ln 0 1 18 62 (15, Nl, [], N) z := by
  unfold fX4_remove_P_b15_4 at h
  refine dq_iload e_62_15 l2 ?_
  refine dq_aload e_62_16 l0 ?_
  refine dq_getC (e := 6) e_62_17 hS ac_5_4_1_1 rfl ?_
  refine dq_icF e_62_20 (⟨by decide, by decide⟩) (⟨by decide, by decide⟩) (by decide +kernel) ?_
  refine dq_aload e_62_23 l0 ?_
  refine dq_getR e_62_24 hS ac_5_4_2_2 ?_
  refine dq_iload e_62_27 l2 ?_
  refine dq_aal (n := 3) e_62_28 hS ⟨by decide, by decide⟩ (by decide) rfl ac_6_101_3_2 rfl ?_
  refine dq_iload e_62_29 l1 ?_
  refine dq_iconst e_62_30 ?_
  refine dq_iadd (e := dW (x1 + 1)) e_62_31 rfl ?_
  refine dq_aload e_62_32 l0 ?_
  refine dq_getR e_62_33 hS ac_5_4_2_2 ?_
  refine dq_iload e_62_36 l2 ?_
  refine dq_aal (n := 3) e_62_37 hS ⟨by decide, by decide⟩ (by decide) rfl ac_6_101_3_2 rfl ?_
  refine dq_iload e_62_38 l1 ?_
  refine dq_aload e_62_39 l0 ?_
  refine dq_getI (key := 10243) e_62_40 hS ac_5_4_3_0 (by omega) ?_
  refine dq_iconst e_62_43 ?_
  refine dq_isub (e := dW ((dG N 10243) - 1)) e_62_44 rfl ?_
  refine dq_iload e_62_45 l1 ?_
  refine dq_isub (e := dW ((dW ((dG N 10243) - 1)) - x1)) e_62_46 rfl ?_
  obtain ⟨g29, h⟩ := dgd_inv h
  have S30 : dS (dCp N 10 (dW (x1 + 1)).toNat 10 (x1).toNat (dW ((dW ((dG N 10243) - 1)) - x1)).toNat) := dS_cp hS aa_10 (by omega)
  refine dq_acp e_62_47 hS aa_10 aa_10 rfl rfl (dW_R _) rx1 (dW_R _) g29.1 g29.2.1 g29.2.2.1 g29.2.2.2.1 g29.2.2.2.2 ?_
  refine dq_iinc (x := 3) (e := 4) e_62_50 l2 rfl (by decide +kernel) (fun K31 m32 mm33 => ?_)
  have m34 := mm33 0 _ (by decide) rfl l0
  have m35 := mm33 1 _ (by decide) rfl l1
  refine dq_goto e_62_53 ?_
  exact qX4_remove_P_b15_5 S30 rx1 m34 m35 m32 h
noncomputable def fX4_remove_P_b15_3 (N : mMem) (x1 : Int) : Option dZ := dgd ((0 : Int) ≤ dW (x1 + 1) ∧ (0 : Int) ≤ x1 ∧ (0 : Int) ≤ dW ((dW ((dG N 10243) - 1)) - x1) ∧ dW (x1 + 1) + dW ((dW ((dG N 10243) - 1)) - x1) ≤ 100 ∧ x1 + dW ((dW ((dG N 10243) - 1)) - x1) ≤ 100) <| fX4_remove_P_b15_4 (dCp N 9 (dW (x1 + 1)).toNat 9 (x1).toNat (dW ((dW ((dG N 10243) - 1)) - x1)).toNat) x1
theorem qX4_remove_P_b15_3 {Nl : List (Nat × Value)} {N : mMem} {x1 : Int} {z : dZ} (hS : dS N) (rx1 : dR x1) (l0 : mLk Nl 0 = some (.ref 5)) (l1 : mLk Nl 1 = some (.int (dI x1))) (l2 : mLk Nl 2 = some (.int (dI 2))) (h : fX4_remove_P_b15_3 N x1 = some z) : dQ xs Ln 0 1 18 62 (15, Nl, [], N) z := by
  unfold fX4_remove_P_b15_3 at h
  refine dq_iload e_62_15 l2 ?_
  refine dq_aload e_62_16 l0 ?_
  refine dq_getC (e := 6) e_62_17 hS ac_5_4_1_1 rfl ?_
  refine dq_icF e_62_20 (⟨by decide, by decide⟩) (⟨by decide, by decide⟩) (by decide +kernel) ?_
  refine dq_aload e_62_23 l0 ?_
  refine dq_getR e_62_24 hS ac_5_4_2_2 ?_
  refine dq_iload e_62_27 l2 ?_
  refine dq_aal (n := 2) e_62_28 hS ⟨by decide, by decide⟩ (by decide) rfl ac_6_101_2_2 rfl ?_
  refine dq_iload e_62_29 l1 ?_
  refine dq_iconst e_62_30 ?_
  refine dq_iadd (e := dW (x1 + 1)) e_62_31 rfl ?_
  refine dq_aload e_62_32 l0 ?_
  refine dq_getR e_62_33 hS ac_5_4_2_2 ?_
  refine dq_iload e_62_36 l2 ?_
  refine dq_aal (n := 2) e_62_37 hS ⟨by decide, by decide⟩ (by decide) rfl ac_6_101_2_2 rfl ?_
  refine dq_iload e_62_38 l1 ?_
  refine dq_aload e_62_39 l0 ?_
  refine dq_getI (key := 10243) e_62_40 hS ac_5_4_3_0 (by omega) ?_
  refine dq_iconst e_62_43 ?_
  refine dq_isub (e := dW ((dG N 10243) - 1)) e_62_44 rfl ?_
  refine dq_iload e_62_45 l1 ?_
  refine dq_isub (e := dW ((dW ((dG N 10243) - 1)) - x1)) e_62_46 rfl ?_
  obtain ⟨g22, h⟩ := dgd_inv h
  have S23 : dS (dCp N 9 (dW (x1 + 1)).toNat 9 (x1).toNat (dW ((dW ((dG N 10243) - 1)) - x1)).toNat) := dS_cp hS aa_9 (by omega)
  refine dq_acp e_62_47 hS aa_9 aa_9 rfl rfl (dW_R _) rx1 (dW_R _) g22.1 g22.2.1 g22.2.2.1 g22.2.2.2.1 g22.2.2.2.2 ?_
  refine dq_iinc (x := 2) (e := 3) e_62_50 l2 rfl (by decide +kernel) (fun K24 m25 mm26 => ?_)
  have m27 := mm26 0 _ (by decide) rfl l0
  have m28 := mm26 1 _ (by decide) rfl l1
  refine dq_goto e_62_53 ?_
  exact qX4_remove_P_b15_4 S23 rx1 m27 m28 m25 h
end DQG3

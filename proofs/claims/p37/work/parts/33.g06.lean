/-! ===== functions over memory, and that the bodies run so; written by wip/dc ===== -/
section DQG6
variable {xs : Nat → Int32} {Ln : Nat}
noncomputable def fX4_at_Lc1 (N : mMem) (s : Nat) (x1 : Int) : Option dZ := (if x1 < 0 then fX4_at_Lc1_b24 N else (if x1 < dG N (67587 + 26624 * s) then dgd (0 ≤ x1 ∧ x1 < 8) <| some (N, dG N (73728 + 26624 * s + (x1).toNat)) else fX4_at_Lc1_b24 N))
theorem qX4_at_Lc1 {N : mMem} {s : Nat} {x1 : Int} {z : dZ} (hS : dS N) (hs : s < 8) (rx1 : dR x1) (h : fX4_at_Lc1 N s x1 = some z) : dQ xs Ln 1 0 0 61 (0, lv_args 0 [.ref (33 + 13 * s), .int (dI x1), .int (dI 1)], [], N) z := by
  unfold fX4_at_Lc1 at h
  have l0 : mLk (lv_args 0 [.ref (33 + 13 * s), .int (dI x1), .int (dI 1)]) 0 = some (.ref (33 + 13 * s)) := rfl
  have l1 : mLk (lv_args 0 [.ref (33 + 13 * s), .int (dI x1), .int (dI 1)]) 1 = some (.int (dI x1)) := rfl
  have l2 : mLk (lv_args 0 [.ref (33 + 13 * s), .int (dI x1), .int (dI 1)]) 2 = some (.int (dI 1)) := rfl
  generalize lv_args 0 [.ref (33 + 13 * s), .int (dI x1), .int (dI 1)] = Nl at l0 l1 l2 ⊢
  refine dq_iload e_61_0 l1 ?_
  by_cases c1 : x1 < 0
  · rw [if_pos c1] at h
    refine dq_ifT e_61_1 rx1 (decide_eq_true c1) ?_
    exact qX4_at_Lc1_b24 hS h
  · rw [if_neg c1] at h
    refine dq_ifF e_61_1 rx1 (decide_eq_false c1) ?_
    refine dq_iload e_61_4 l1 ?_
    refine dq_aload e_61_5 l0 ?_
    refine dq_getI (key := (67587 + 26624 * s)) e_61_6 hS (ac_33s_4_3_0 s hs) (by omega) ?_
    by_cases c2 : x1 < dG N (67587 + 26624 * s)
    · rw [if_pos c2] at h
      refine dq_icF e_61_9 rx1 (dG_R _ _) (dnf c2) ?_
      refine dq_iload e_61_12 l2 ?_
      refine dq_ifF e_61_13 (⟨by decide, by decide⟩) (by decide +kernel) ?_
      refine dq_iload e_61_16 l2 ?_
      refine dq_aload e_61_17 l0 ?_
      refine dq_getC (e := 5) e_61_18 hS (ac_33s_4_1_1 s hs) rfl ?_
      refine dq_icT e_61_21 (⟨by decide, by decide⟩) (⟨by decide, by decide⟩) (by decide +kernel) ?_
      refine dq_aload e_61_26 l0 ?_
      refine dq_getR e_61_27 hS (ac_33s_4_2_2 s hs) ?_
      refine dq_iload e_61_30 l2 ?_
      refine dq_aal (n := 1) e_61_31 hS ⟨by decide, by decide⟩ (by decide) rfl (ac_34s_101_1_2 s hs) rfl ?_
      refine dq_iload e_61_32 l1 ?_
      obtain ⟨g3, h⟩ := dgd_inv h
      refine dq_ial (key := (73728 + 26624 * s + (x1).toNat)) e_61_33 hS (aa_36s s hs) rx1 g3.1 g3.2 (by omega) ?_
      cases h
      exact dq_reti (ty := .int) e_61_34 rfl rfl hS (dG_R _ _)
    · rw [if_neg c2] at h
      refine dq_icT e_61_9 rx1 (dG_R _ _) (dnt c2) ?_
      exact qX4_at_Lc1_b24 hS h
noncomputable def fX3_frameToSend_RS_b70 (k : mMem → Nat → Int → Int → Int → Option dZ) (N : mMem) (s : Nat) (x2 : Int) (x3 : Int) (x4 : Int) : Option dZ := k N s x2 x3 (dW (x4 + 1))
theorem qX3_frameToSend_RS_b70 {k : mMem → Nat → Int → Int → Int → Option dZ} (hk : ∀ {Nl : List (Nat × Value)} {N : mMem} {s : Nat} {x2 : Int} {x3 : Int} {x4 : Int} {z : dZ}, dS N → s < 8 → dR x2 → dR x3 → dR x4 → mLk Nl 0 = some (.ref 1) → mLk Nl 1 = some (.ref (28 + 13 * s)) → mLk Nl 2 = some (.int (dI x2)) → mLk Nl 3 = some (.int (dI x3)) → mLk Nl 4 = some (.int (dI x4)) → k N s x2 x3 x4 = some z → dQ xs Ln 1 1 22 54 (7, Nl, [], N) z) {Nl : List (Nat × Value)} {N : mMem} {s : Nat} {x2 : Int} {x3 : Int} {x4 : Int} {z : dZ} (hS : dS N) (hs : s < 8) (rx2 : dR x2) (rx3 : dR x3) (rx4 : dR x4) (l0 : mLk Nl 0 = some (.ref 1)) (l1 : mLk Nl 1 = some (.ref (28 + 13 * s))) (l2 : mLk Nl 2 = some (.int (dI x2))) (l3 : mLk Nl 3 = some (.int (dI x3))) (l4 : mLk Nl 4 = some (.int (dI x4))) (h : fX3_frameToSend_RS_b70 k N s x2 x3 x4 = some z) : dQ xs Ln 1 1 22 54 (70, Nl, [], N) z := by
  unfold fX3_frameToSend_RS_b70 at h
  refine dq_iinc (x := x4) (e := dW (x4 + 1)) e_54_70 l4 rfl rfl (fun K36 m37 mm38 => ?_)
  have m39 := mm38 0 _ (by decide) rfl l0
  have m40 := mm38 1 _ (by decide) rfl l1
  have m41 := mm38 2 _ (by decide) rfl l2
  have m42 := mm38 3 _ (by decide) rfl l3
  refine dq_goto e_54_73 ?_
  exact hk hS hs rx2 rx3 (dW_R _) m39 m40 m41 m42 m37 h
noncomputable def fX3_frameToSend_RS_b7 : Nat → mMem → Nat → Int → Int → Int → Option dZ
  | 0, _, _, _, _, _ => none
  | n + 1, N, s, x2, x3, x4 => (if x4 < dG N (67587 + 26624 * s) then dbd (fX4_at_Lc1 N s x4) fun N20 v21 => (if x3 < v21 then (if 3 < v21 then fX3_frameToSend_RS_b70 (fX3_frameToSend_RS_b7 n) N20 s x2 x3 x4 else dgd (0 ≤ dW ((dW (3 + v21)) - 1) ∧ dW ((dW (3 + v21)) - 1) < 6) <| (if dG N20 (4096 + (dW ((dW (3 + v21)) - 1)).toNat) < dG N20 (65537 + 26624 * s) then fX3_frameToSend_RS_b70 (fX3_frameToSend_RS_b7 n) N20 s x4 v21 x4 else fX3_frameToSend_RS_b70 (fX3_frameToSend_RS_b7 n) N20 s x2 x3 x4)) else fX3_frameToSend_RS_b70 (fX3_frameToSend_RS_b7 n) N20 s x2 x3 x4) else some (N, x2))
theorem qX3_frameToSend_RS_b7 : ∀ (n : Nat) {Nl : List (Nat × Value)} {N : mMem} {s : Nat} {x2 : Int} {x3 : Int} {x4 : Int} {z : dZ}, dS N → s < 8 → dR x2 → dR x3 → dR x4 → mLk Nl 0 = some (.ref 1) → mLk Nl 1 = some (.ref (28 + 13 * s)) → mLk Nl 2 = some (.int (dI x2)) → mLk Nl 3 = some (.int (dI x3)) → mLk Nl 4 = some (.int (dI x4)) → fX3_frameToSend_RS_b7 n N s x2 x3 x4 = some z → dQ xs Ln 1 1 22 54 (7, Nl, [], N) z := fun n => by
  induction n with
  | zero =>
    intro Nl N s x2 x3 x4 z hS hs rx2 rx3 rx4 l0 l1 l2 l3 l4 h
    cases h
  | succ n ih =>
    intro Nl N s x2 x3 x4 z hS hs rx2 rx3 rx4 l0 l1 l2 l3 l4 h
    rw [fX3_frameToSend_RS_b7] at h
    refine dq_iload e_54_7 l4 ?_
    refine dq_aload e_54_9 l1 ?_
    refine dq_getR e_54_10 hS (ac_28s_5_17_2 s hs) ?_
    refine dq_getI (key := (67587 + 26624 * s)) e_54_13 hS (ac_33s_4_3_0 s hs) (by omega) ?_
    by_cases c19 : x4 < dG N (67587 + 26624 * s)
    · rw [if_pos c19] at h
      refine dq_icF e_54_16 rx4 (dG_R _ _) (dnf c19) ?_
      refine dq_aload e_54_19 l1 ?_
      refine dq_getR e_54_20 hS (ac_28s_5_17_2 s hs) ?_
      refine dq_iload e_54_23 l4 ?_
      refine dq_iconst e_54_25 ?_
      obtain ⟨N20, v21, c22, h⟩ := dbd_inv h
      have q23 := qX4_at_Lc1 (xs := xs) (Ln := Ln) hS hs rx4 c22
      have S24 : dS N20 := q23.2.1
      refine dq_calli (as := [.int (dI x4), .int (dI 1)]) (S := []) (nx := 29) e_54_26 rfl rfl rfl hS (ak_33s_4 s hs) rfl rfl rfl rfl q23 rfl ?_
      have r25 : dR v21 := q23.2.2
      refine dq_istore e_54_29 rfl (fun K26 m27 mm28 => ?_)
      have m29 := mm28 0 _ (by decide) rfl l0
      have m30 := mm28 1 _ (by decide) rfl l1
      have m31 := mm28 2 _ (by decide) rfl l2
      have m32 := mm28 3 _ (by decide) rfl l3
      have m33 := mm28 4 _ (by decide) rfl l4
      refine dq_iload e_54_31 m27 ?_
      refine dq_iload e_54_33 m32 ?_
      by_cases c34 : x3 < v21
      · rw [if_pos c34] at h
        refine dq_icF e_54_34 r25 rx3 (dnf c34) ?_
        refine dq_iload e_54_37 m27 ?_
        refine dq_iconst e_54_39 ?_
        by_cases c35 : 3 < v21
        · rw [if_pos c35] at h
          refine dq_icT e_54_40 r25 (⟨by decide, by decide⟩) (decide_eq_true c35) ?_
          exact qX3_frameToSend_RS_b70 ih S24 hs rx2 rx3 rx4 m29 m30 m31 m32 m33 h
        · rw [if_neg c35] at h
          refine dq_icF e_54_40 r25 (⟨by decide, by decide⟩) (decide_eq_false c35) ?_
          refine dq_aload e_54_43 m29 ?_
          refine dq_getR e_54_44 S24 ac_1_3_4_2 ?_
          refine dq_iconst e_54_47 ?_
          refine dq_iload e_54_48 m27 ?_
          refine dq_iadd (e := dW (3 + v21)) e_54_50 rfl ?_
          refine dq_iconst e_54_51 ?_
          refine dq_isub (e := dW ((dW (3 + v21)) - 1)) e_54_52 rfl ?_
          obtain ⟨g43, h⟩ := dgd_inv h
          refine dq_ial (key := (4096 + (dW ((dW (3 + v21)) - 1)).toNat)) e_54_53 S24 aa_2 (dW_R _) g43.1 g43.2 (by omega) ?_
          refine dq_aload e_54_54 m30 ?_
          refine dq_getR e_54_55 S24 (ac_28s_5_16_2 s hs) ?_
          refine dq_getI (key := (65537 + 26624 * s)) e_54_58 S24 (ac_32s_1_1_0 s hs) (by omega) ?_
          by_cases c44 : dG N20 (4096 + (dW ((dW (3 + v21)) - 1)).toNat) < dG N20 (65537 + 26624 * s)
          · rw [if_pos c44] at h
            refine dq_icF e_54_61 (dG_R _ _) (dG_R _ _) (dnf c44) ?_
            refine dq_iload e_54_64 m27 ?_
            refine dq_istore e_54_66 rfl (fun K45 m46 mm47 => ?_)
            have m48 := mm47 0 _ (by decide) rfl m29
            have m49 := mm47 1 _ (by decide) rfl m30
            have m50 := mm47 4 _ (by decide) rfl m33
            refine dq_iload e_54_67 m50 ?_
            refine dq_istore e_54_69 rfl (fun K51 m52 mm53 => ?_)
            have m54 := mm53 0 _ (by decide) rfl m48
            have m55 := mm53 1 _ (by decide) rfl m49
            have m56 := mm53 3 _ (by decide) rfl m46
            have m57 := mm53 4 _ (by decide) rfl m50
            exact qX3_frameToSend_RS_b70 ih S24 hs rx4 r25 rx4 m54 m55 m52 m56 m57 h
          · rw [if_neg c44] at h
            refine dq_icT e_54_61 (dG_R _ _) (dG_R _ _) (dnt c44) ?_
            exact qX3_frameToSend_RS_b70 ih S24 hs rx2 rx3 rx4 m29 m30 m31 m32 m33 h
      · rw [if_neg c34] at h
        refine dq_icT e_54_34 r25 rx3 (dnt c34) ?_
        exact qX3_frameToSend_RS_b70 ih S24 hs rx2 rx3 rx4 m29 m30 m31 m32 m33 h
    · rw [if_neg c19] at h
      refine dq_icT e_54_16 rx4 (dG_R _ _) (dnt c19) ?_
      refine dq_iload e_54_76 l2 ?_
      cases h
      exact dq_reti (ty := .int) e_54_77 rfl rfl hS rx2
noncomputable def fX3_frameToSend_RS (N : mMem) (s : Nat) : Option dZ := fX3_frameToSend_RS_b7 1000 N s (-1) 0 0
theorem qX3_frameToSend_RS {N : mMem} {s : Nat} {z : dZ} (hS : dS N) (hs : s < 8) (h : fX3_frameToSend_RS N s = some z) : dQ xs Ln 1 1 22 54 (0, lv_args 0 [.ref 1, .ref (28 + 13 * s)], [], N) z := by
  unfold fX3_frameToSend_RS at h
  have l0 : mLk (lv_args 0 [.ref 1, .ref (28 + 13 * s)]) 0 = some (.ref 1) := rfl
  have l1 : mLk (lv_args 0 [.ref 1, .ref (28 + 13 * s)]) 1 = some (.ref (28 + 13 * s)) := rfl
  generalize lv_args 0 [.ref 1, .ref (28 + 13 * s)] = Nl at l0 l1 ⊢
  refine dq_iconst e_54_0 ?_
  refine dq_istore e_54_1 rfl (fun K1 m2 mm3 => ?_)
  have m4 := mm3 0 _ (by decide) rfl l0
  have m5 := mm3 1 _ (by decide) rfl l1
  refine dq_iconst e_54_2 ?_
  refine dq_istore e_54_3 rfl (fun K6 m7 mm8 => ?_)
  have m9 := mm8 0 _ (by decide) rfl m4
  have m10 := mm8 1 _ (by decide) rfl m5
  have m11 := mm8 2 _ (by decide) rfl m2
  refine dq_iconst e_54_4 ?_
  refine dq_istore e_54_5 rfl (fun K12 m13 mm14 => ?_)
  have m15 := mm14 0 _ (by decide) rfl m9
  have m16 := mm14 1 _ (by decide) rfl m10
  have m17 := mm14 2 _ (by decide) rfl m11
  have m18 := mm14 3 _ (by decide) rfl m7
  exact qX3_frameToSend_RS_b7 _ hS hs (⟨by decide, by decide⟩) (⟨by decide, by decide⟩) (⟨by decide, by decide⟩) m15 m16 m17 m18 m13 h
noncomputable def fX3_startsNext_RS_b67 (N : mMem) (s : Nat) (y0 : Int) : Option dZ := (if y0 = (-1) then some (N, 0) else dbd (fX4_at_Lc2 N s y0) fun N29 v30 => dbd (fX1_start_H N29 s 2 v30 y0) fun N35 v36 => some (N35, 1))
theorem qX3_startsNext_RS_b67 {Nl : List (Nat × Value)} {N : mMem} {s : Nat} {y0 : Int} {z : dZ} (hS : dS N) (hs : s < 8) (ry0 : dR y0) (l1 : mLk Nl 1 = some (.ref (28 + 13 * s))) (l2 : mLk Nl 2 = some (.ref (32 + 13 * s))) (h : fX3_startsNext_RS_b67 N s y0 = some z) : dQ xs Ln 1 2 47 52 (67, Nl, [.int (dI y0)], N) z := by
  unfold fX3_startsNext_RS_b67 at h
  refine dq_istore e_52_67 rfl (fun K23 m24 mm25 => ?_)
  have m26 := mm25 1 _ (by decide) rfl l1
  have m27 := mm25 2 _ (by decide) rfl l2
  refine dq_iload e_52_69 m24 ?_
  refine dq_iconst e_52_71 ?_
  by_cases c28 : y0 = (-1)
  · rw [if_pos c28] at h
    refine dq_icF e_52_72 ry0 (⟨by decide, by decide⟩) (dnf c28) ?_
    refine dq_iconst e_52_75 ?_
    cases h
    exact dq_reti (ty := .boolean) e_52_76 rfl (by decide +kernel) hS (⟨by decide, by decide⟩)
  · rw [if_neg c28] at h
    refine dq_icT e_52_72 ry0 (⟨by decide, by decide⟩) (dnt c28) ?_
    refine dq_aload e_52_77 m27 ?_
    refine dq_iconst e_52_78 ?_
    refine dq_aload e_52_79 m26 ?_
    refine dq_getR e_52_80 hS (ac_28s_5_17_2 s hs) ?_
    refine dq_iload e_52_83 m24 ?_
    refine dq_iconst e_52_85 ?_
    obtain ⟨N29, v30, c31, h⟩ := dbd_inv h
    have q32 := qX4_at_Lc2 (xs := xs) (Ln := Ln) hS hs ry0 c31
    have S33 : dS N29 := q32.2.1
    refine dq_calli (as := [.int (dI y0), .int (dI 2)]) (S := [.int (dI 2), .ref (32 + 13 * s)]) (nx := 89) e_52_86 rfl rfl rfl hS (ak_33s_4 s hs) rfl rfl rfl rfl q32 rfl ?_
    have r34 : dR v30 := q32.2.2
    refine dq_iload e_52_89 m24 ?_
    obtain ⟨N35, v36, c37, h⟩ := dbd_inv h
    have q38 := qX1_start_H (xs := xs) (Ln := Ln) S33 hs (⟨by decide, by decide⟩) r34 ry0 c37
    have S39 : dS N35 := q38.2.1
    refine dq_callv (as := [.int (dI 2), .int (dI v30), .int (dI y0)]) (S := []) (nx := 94) e_52_91 rfl rfl rfl S33 (ak_32s_1 s hs) rfl rfl rfl rfl q38 rfl ?_
    refine dq_iconst e_52_94 ?_
    cases h
    exact dq_reti (ty := .boolean) e_52_95 rfl (by decide +kernel) S39 (⟨by decide, by decide⟩)
noncomputable def fX3_startsNext_RS_b66 (N : mMem) (s : Nat) : Option dZ := fX3_startsNext_RS_b67 N s (-1)
theorem qX3_startsNext_RS_b66 {Nl : List (Nat × Value)} {N : mMem} {s : Nat} {z : dZ} (hS : dS N) (hs : s < 8) (l1 : mLk Nl 1 = some (.ref (28 + 13 * s))) (l2 : mLk Nl 2 = some (.ref (32 + 13 * s))) (h : fX3_startsNext_RS_b66 N s = some z) : dQ xs Ln 1 2 47 52 (66, Nl, [], N) z := by
  unfold fX3_startsNext_RS_b66 at h
  refine dq_iconst e_52_66 ?_
  exact qX3_startsNext_RS_b67 hS hs (⟨by decide, by decide⟩) l1 l2 h
noncomputable def fX3_startsNext_RS (N : mMem) (s : Nat) : Option dZ := (if 0 < dMn (dG N (63490 + 26624 * s)) (dG N (65538 + 26624 * s)) then dlt (dP N (65538 + 26624 * s) (dW ((dG N (65538 + 26624 * s)) - (dMn (dG N (63490 + 26624 * s)) (dG N (65538 + 26624 * s)))))) fun N14 => dbd (fX1_start_H N14 s 1 (dMn (dG N (63490 + 26624 * s)) (dG N (65538 + 26624 * s))) (-1)) fun N16 v17 => some (N16, 1) else (if 0 < dG N (65537 + 26624 * s) then (if dG N (57358 + 26624 * s) < 3 then fX3_startsNext_RS_b66 N s else dbd (fX3_frameToSend_RS N s) fun N40 v41 => fX3_startsNext_RS_b67 N40 s v41) else fX3_startsNext_RS_b66 N s))
theorem qX3_startsNext_RS {N : mMem} {s : Nat} {z : dZ} (hS : dS N) (hs : s < 8) (h : fX3_startsNext_RS N s = some z) : dQ xs Ln 1 2 47 52 (0, lv_args 0 [.ref 1, .ref (28 + 13 * s)], [], N) z := by
  unfold fX3_startsNext_RS at h
  have l0 : mLk (lv_args 0 [.ref 1, .ref (28 + 13 * s)]) 0 = some (.ref 1) := rfl
  have l1 : mLk (lv_args 0 [.ref 1, .ref (28 + 13 * s)]) 1 = some (.ref (28 + 13 * s)) := rfl
  generalize lv_args 0 [.ref 1, .ref (28 + 13 * s)] = Nl at l0 l1 ⊢
  refine dq_aload e_52_0 l1 ?_
  refine dq_getR e_52_1 hS (ac_28s_5_16_2 s hs) ?_
  refine dq_astore e_52_4 rfl (fun K1 m2 mm3 => ?_)
  have m4 := mm3 0 _ (by decide) rfl l0
  have m5 := mm3 1 _ (by decide) rfl l1
  refine dq_aload e_52_5 m5 ?_
  refine dq_getR e_52_6 hS (ac_28s_5_15_2 s hs) ?_
  refine dq_getI (key := (63490 + 26624 * s)) e_52_9 hS (ac_31s_6_2_0 s hs) (by omega) ?_
  refine dq_aload e_52_12 m2 ?_
  refine dq_getI (key := (65538 + 26624 * s)) e_52_13 hS (ac_32s_1_2_0 s hs) (by omega) ?_
  refine dq_min e_52_16 (dG_R _ _) (dG_R _ _) rfl rfl rfl ?_
  refine dq_istore e_52_19 rfl (fun K6 m7 mm8 => ?_)
  have m9 := mm8 0 _ (by decide) rfl m4
  have m10 := mm8 1 _ (by decide) rfl m5
  have m11 := mm8 2 _ (by decide) rfl m2
  refine dq_iload e_52_20 m7 ?_
  by_cases c12 : 0 < dMn (dG N (63490 + 26624 * s)) (dG N (65538 + 26624 * s))
  · rw [if_pos c12] at h
    refine dq_ifF e_52_21 (dMn_R (dG_R _ _) (dG_R _ _)) (dnf c12) ?_
    refine dq_aload e_52_24 m11 ?_
    refine dq_dup e_52_25 rfl ?_
    refine dq_getI (key := (65538 + 26624 * s)) e_52_26 hS (ac_32s_1_2_0 s hs) (by omega) ?_
    refine dq_iload e_52_29 m7 ?_
    refine dq_isub (e := dW ((dG N (65538 + 26624 * s)) - (dMn (dG N (63490 + 26624 * s)) (dG N (65538 + 26624 * s))))) e_52_30 rfl ?_
    have S13 := dS_P (v := dW ((dG N (65538 + 26624 * s)) - (dMn (dG N (63490 + 26624 * s)) (dG N (65538 + 26624 * s))))) hS (ac_32s_1_2_0 s hs) (show (32 + 13 * s) * 2048 + 2 = (65538 + 26624 * s) by omega)
    refine dq_put (key := (65538 + 26624 * s)) e_52_31 hS (ac_32s_1_2_0 s hs) rfl (by omega) ?_
    refine dq_aload e_52_34 m11 ?_
    refine dq_iconst e_52_35 ?_
    refine dq_iload e_52_36 m7 ?_
    refine dq_iconst e_52_37 ?_
    refine dq_let h S13 (fun N14 S15 h => ?_)
    obtain ⟨N16, v17, c18, h⟩ := dbd_inv h
    have q19 := qX1_start_H (xs := xs) (Ln := Ln) S15 hs (⟨by decide, by decide⟩) (dMn_R (dG_R _ _) (dG_R _ _)) (⟨by decide, by decide⟩) c18
    have S20 : dS N16 := q19.2.1
    refine dq_callv (as := [.int (dI 1), .int (dI (dMn (dG N (63490 + 26624 * s)) (dG N (65538 + 26624 * s)))), .int (dI (-1))]) (S := []) (nx := 41) e_52_38 rfl rfl rfl S15 (ak_32s_1 s hs) rfl rfl rfl rfl q19 rfl ?_
    refine dq_iconst e_52_41 ?_
    cases h
    exact dq_reti (ty := .boolean) e_52_42 rfl (by decide +kernel) S20 (⟨by decide, by decide⟩)
  · rw [if_neg c12] at h
    refine dq_ifT e_52_21 (dMn_R (dG_R _ _) (dG_R _ _)) (dnt c12) ?_
    refine dq_aload e_52_43 m11 ?_
    refine dq_getI (key := (65537 + 26624 * s)) e_52_44 hS (ac_32s_1_1_0 s hs) (by omega) ?_
    by_cases c21 : 0 < dG N (65537 + 26624 * s)
    · rw [if_pos c21] at h
      refine dq_ifF e_52_47 (dG_R _ _) (dnf c21) ?_
      refine dq_aload e_52_50 m10 ?_
      refine dq_getI (key := (57358 + 26624 * s)) e_52_51 hS (ac_28s_5_14_0 s hs) (by omega) ?_
      refine dq_iconst e_52_54 ?_
      by_cases c22 : dG N (57358 + 26624 * s) < 3
      · rw [if_pos c22] at h
        refine dq_icT e_52_55 (dG_R _ _) (⟨by decide, by decide⟩) (decide_eq_true c22) ?_
        exact qX3_startsNext_RS_b66 hS hs m10 m11 h
      · rw [if_neg c22] at h
        refine dq_icF e_52_55 (dG_R _ _) (⟨by decide, by decide⟩) (decide_eq_false c22) ?_
        refine dq_aload e_52_58 m9 ?_
        refine dq_aload e_52_59 m10 ?_
        obtain ⟨N40, v41, c42, h⟩ := dbd_inv h
        have q43 := qX3_frameToSend_RS (xs := xs) (Ln := Ln) hS hs c42
        have S44 : dS N40 := q43.2.1
        refine dq_calli (as := [.ref (28 + 13 * s)]) (S := []) (nx := 63) e_52_60 rfl rfl rfl hS ak_1_3 rfl rfl rfl rfl q43 rfl ?_
        have r45 : dR v41 := q43.2.2
        refine dq_goto e_52_63 ?_
        exact qX3_startsNext_RS_b67 S44 hs r45 m10 m11 h
    · rw [if_neg c21] at h
      refine dq_ifT e_52_47 (dG_R _ _) (dnt c21) ?_
      exact qX3_startsNext_RS_b66 hS hs m10 m11 h
noncomputable def fX2_opn_B (N : mMem) : Option dZ := some (dP N 38915 (dW ((dG N 38915) + 1)), 0)
theorem qX2_opn_B {N : mMem} {z : dZ} (hS : dS N) (h : fX2_opn_B N = some z) : dQ xs Ln 0 0 0 14 (0, lv_args 0 [.ref 19], [], N) z := by
  unfold fX2_opn_B at h
  have l0 : mLk (lv_args 0 [.ref 19]) 0 = some (.ref 19) := rfl
  generalize lv_args 0 [.ref 19] = Nl at l0 ⊢
  refine dq_aload e_14_0 l0 ?_
  refine dq_dup e_14_1 rfl ?_
  refine dq_getI (key := 38915) e_14_2 hS ac_19_2_3_0 (by omega) ?_
  refine dq_iconst e_14_5 ?_
  refine dq_iadd (e := dW ((dG N 38915) + 1)) e_14_6 rfl ?_
  have S1 := dS_P (v := dW ((dG N 38915) + 1)) hS ac_19_2_3_0 (show 19 * 2048 + 3 = 38915 by omega)
  refine dq_put (key := 38915) e_14_7 hS ac_19_2_3_0 rfl (by omega) ?_
  cases h
  exact dq_retv e_14_10 rfl S1
noncomputable def fX2_put_Bc0 (N : mMem) (x2 : Int) : Option dZ := (if 0 < dG N 38915 then dgd ((0 : Int) ≤ dW ((dG N 38915) - 1) ∧ (0 : Int) < 40) <| dgd (0 ≤ (dW ((dG N 38915) - 1)) % 40 ∧ (dW ((dG N 38915) - 1)) % 40 < 40) <| some (dP N (43008 + ((dW ((dG N 38915) - 1)) % 40).toNat) x2, 0) else some (N, 0))
theorem qX2_put_Bc0 {N : mMem} {x2 : Int} {z : dZ} (hS : dS N) (rx2 : dR x2) (h : fX2_put_Bc0 N x2 = some z) : dQ xs Ln 0 0 0 15 (0, lv_args 0 [.ref 19, .int (dI 0), .int (dI x2)], [], N) z := by
  unfold fX2_put_Bc0 at h
  have l0 : mLk (lv_args 0 [.ref 19, .int (dI 0), .int (dI x2)]) 0 = some (.ref 19) := rfl
  have l1 : mLk (lv_args 0 [.ref 19, .int (dI 0), .int (dI x2)]) 1 = some (.int (dI 0)) := rfl
  have l2 : mLk (lv_args 0 [.ref 19, .int (dI 0), .int (dI x2)]) 2 = some (.int (dI x2)) := rfl
  generalize lv_args 0 [.ref 19, .int (dI 0), .int (dI x2)] = Nl at l0 l1 l2 ⊢
  refine dq_aload e_15_0 l0 ?_
  refine dq_getI (key := 38915) e_15_1 hS ac_19_2_3_0 (by omega) ?_
  by_cases c1 : 0 < dG N 38915
  · rw [if_pos c1] at h
    refine dq_ifF e_15_4 (dG_R _ _) (dnf c1) ?_
    refine dq_aload e_15_7 l0 ?_
    refine dq_getC (e := 40) e_15_8 hS ac_19_2_0_1 rfl ?_
    refine dq_ifF e_15_11 (⟨by decide, by decide⟩) (by decide +kernel) ?_
    refine dq_iload e_15_14 l1 ?_
    refine dq_ifF e_15_15 (⟨by decide, by decide⟩) (by decide +kernel) ?_
    refine dq_iload e_15_18 l1 ?_
    refine dq_aload e_15_19 l0 ?_
    refine dq_getC (e := 5) e_15_20 hS ac_19_2_1_1 rfl ?_
    refine dq_icF e_15_23 (⟨by decide, by decide⟩) (⟨by decide, by decide⟩) (by decide +kernel) ?_
    refine dq_aload e_15_26 l0 ?_
    refine dq_getR e_15_27 hS ac_19_2_2_2 ?_
    refine dq_iload e_15_30 l1 ?_
    refine dq_aal (n := 0) e_15_31 hS ⟨by decide, by decide⟩ (by decide) rfl ac_20_101_0_2 rfl ?_
    refine dq_aload e_15_32 l0 ?_
    refine dq_getI (key := 38915) e_15_33 hS ac_19_2_3_0 (by omega) ?_
    refine dq_iconst e_15_36 ?_
    refine dq_isub (e := dW ((dG N 38915) - 1)) e_15_37 rfl ?_
    refine dq_aload e_15_38 l0 ?_
    refine dq_getC (e := 40) e_15_39 hS ac_19_2_0_1 rfl ?_
    obtain ⟨⟨g2, g3⟩, h⟩ := dgd_inv h
    have r4 : dR ((dW ((dG N 38915) - 1)) % 40) := ⟨by have := Int.emod_nonneg (dW ((dG N 38915) - 1)) (show 40 ≠ (0 : Int) by omega); omega, by have := Int.emod_lt_of_pos (dW ((dG N 38915) - 1)) g3; have := (show dR 40 from ⟨by decide, by decide⟩).2; omega⟩
    refine dq_irem e_15_42 (dW_R _) (⟨by decide, by decide⟩) g2 g3 rfl ?_
    refine dq_iload e_15_43 l2 ?_
    obtain ⟨g5, h⟩ := dgd_inv h
    have S6 := dS_A (v := x2) (k := ((dW ((dG N 38915) - 1)) % 40 : Int).toNat) (key := (43008 + ((dW ((dG N 38915) - 1)) % 40).toNat)) hS aa_21 (by have := g5.1; have := g5.2; omega) (by omega)
    refine dq_ias (key := (43008 + ((dW ((dG N 38915) - 1)) % 40).toNat)) e_15_44 hS aa_21 r4 g5.1 g5.2 (by omega) ?_
    cases h
    exact dq_retv e_15_45 rfl S6
  · rw [if_neg c1] at h
    refine dq_ifT e_15_4 (dG_R _ _) (dnt c1) ?_
    cases h
    exact dq_retv e_15_45 rfl hS
noncomputable def fX2_put_Bc1 (N : mMem) (x2 : Int) : Option dZ := (if 0 < dG N 38915 then dgd ((0 : Int) ≤ dW ((dG N 38915) - 1) ∧ (0 : Int) < 40) <| dgd (0 ≤ (dW ((dG N 38915) - 1)) % 40 ∧ (dW ((dG N 38915) - 1)) % 40 < 40) <| some (dP N (45056 + ((dW ((dG N 38915) - 1)) % 40).toNat) x2, 0) else some (N, 0))
theorem qX2_put_Bc1 {N : mMem} {x2 : Int} {z : dZ} (hS : dS N) (rx2 : dR x2) (h : fX2_put_Bc1 N x2 = some z) : dQ xs Ln 0 0 0 15 (0, lv_args 0 [.ref 19, .int (dI 1), .int (dI x2)], [], N) z := by
  unfold fX2_put_Bc1 at h
  have l0 : mLk (lv_args 0 [.ref 19, .int (dI 1), .int (dI x2)]) 0 = some (.ref 19) := rfl
  have l1 : mLk (lv_args 0 [.ref 19, .int (dI 1), .int (dI x2)]) 1 = some (.int (dI 1)) := rfl
  have l2 : mLk (lv_args 0 [.ref 19, .int (dI 1), .int (dI x2)]) 2 = some (.int (dI x2)) := rfl
  generalize lv_args 0 [.ref 19, .int (dI 1), .int (dI x2)] = Nl at l0 l1 l2 ⊢
  refine dq_aload e_15_0 l0 ?_
  refine dq_getI (key := 38915) e_15_1 hS ac_19_2_3_0 (by omega) ?_
  by_cases c1 : 0 < dG N 38915
  · rw [if_pos c1] at h
    refine dq_ifF e_15_4 (dG_R _ _) (dnf c1) ?_
    refine dq_aload e_15_7 l0 ?_
    refine dq_getC (e := 40) e_15_8 hS ac_19_2_0_1 rfl ?_
    refine dq_ifF e_15_11 (⟨by decide, by decide⟩) (by decide +kernel) ?_
    refine dq_iload e_15_14 l1 ?_
    refine dq_ifF e_15_15 (⟨by decide, by decide⟩) (by decide +kernel) ?_
    refine dq_iload e_15_18 l1 ?_
    refine dq_aload e_15_19 l0 ?_
    refine dq_getC (e := 5) e_15_20 hS ac_19_2_1_1 rfl ?_
    refine dq_icF e_15_23 (⟨by decide, by decide⟩) (⟨by decide, by decide⟩) (by decide +kernel) ?_
    refine dq_aload e_15_26 l0 ?_
    refine dq_getR e_15_27 hS ac_19_2_2_2 ?_
    refine dq_iload e_15_30 l1 ?_
    refine dq_aal (n := 1) e_15_31 hS ⟨by decide, by decide⟩ (by decide) rfl ac_20_101_1_2 rfl ?_
    refine dq_aload e_15_32 l0 ?_
    refine dq_getI (key := 38915) e_15_33 hS ac_19_2_3_0 (by omega) ?_
    refine dq_iconst e_15_36 ?_
    refine dq_isub (e := dW ((dG N 38915) - 1)) e_15_37 rfl ?_
    refine dq_aload e_15_38 l0 ?_
    refine dq_getC (e := 40) e_15_39 hS ac_19_2_0_1 rfl ?_
    obtain ⟨⟨g2, g3⟩, h⟩ := dgd_inv h
    have r4 : dR ((dW ((dG N 38915) - 1)) % 40) := ⟨by have := Int.emod_nonneg (dW ((dG N 38915) - 1)) (show 40 ≠ (0 : Int) by omega); omega, by have := Int.emod_lt_of_pos (dW ((dG N 38915) - 1)) g3; have := (show dR 40 from ⟨by decide, by decide⟩).2; omega⟩
    refine dq_irem e_15_42 (dW_R _) (⟨by decide, by decide⟩) g2 g3 rfl ?_
    refine dq_iload e_15_43 l2 ?_
    obtain ⟨g5, h⟩ := dgd_inv h
    have S6 := dS_A (v := x2) (k := ((dW ((dG N 38915) - 1)) % 40 : Int).toNat) (key := (45056 + ((dW ((dG N 38915) - 1)) % 40).toNat)) hS aa_22 (by have := g5.1; have := g5.2; omega) (by omega)
    refine dq_ias (key := (45056 + ((dW ((dG N 38915) - 1)) % 40).toNat)) e_15_44 hS aa_22 r4 g5.1 g5.2 (by omega) ?_
    cases h
    exact dq_retv e_15_45 rfl S6
  · rw [if_neg c1] at h
    refine dq_ifT e_15_4 (dG_R _ _) (dnt c1) ?_
    cases h
    exact dq_retv e_15_45 rfl hS
noncomputable def fX2_put_Bc2 (N : mMem) (x2 : Int) : Option dZ := (if 0 < dG N 38915 then dgd ((0 : Int) ≤ dW ((dG N 38915) - 1) ∧ (0 : Int) < 40) <| dgd (0 ≤ (dW ((dG N 38915) - 1)) % 40 ∧ (dW ((dG N 38915) - 1)) % 40 < 40) <| some (dP N (47104 + ((dW ((dG N 38915) - 1)) % 40).toNat) x2, 0) else some (N, 0))
theorem qX2_put_Bc2 {N : mMem} {x2 : Int} {z : dZ} (hS : dS N) (rx2 : dR x2) (h : fX2_put_Bc2 N x2 = some z) : dQ xs Ln 0 0 0 15 (0, lv_args 0 [.ref 19, .int (dI 2), .int (dI x2)], [], N) z := by
  unfold fX2_put_Bc2 at h
  have l0 : mLk (lv_args 0 [.ref 19, .int (dI 2), .int (dI x2)]) 0 = some (.ref 19) := rfl
  have l1 : mLk (lv_args 0 [.ref 19, .int (dI 2), .int (dI x2)]) 1 = some (.int (dI 2)) := rfl
  have l2 : mLk (lv_args 0 [.ref 19, .int (dI 2), .int (dI x2)]) 2 = some (.int (dI x2)) := rfl
  generalize lv_args 0 [.ref 19, .int (dI 2), .int (dI x2)] = Nl at l0 l1 l2 ⊢
  refine dq_aload e_15_0 l0 ?_
  refine dq_getI (key := 38915) e_15_1 hS ac_19_2_3_0 (by omega) ?_
  by_cases c1 : 0 < dG N 38915
  · rw [if_pos c1] at h
    refine dq_ifF e_15_4 (dG_R _ _) (dnf c1) ?_
    refine dq_aload e_15_7 l0 ?_
    refine dq_getC (e := 40) e_15_8 hS ac_19_2_0_1 rfl ?_
    refine dq_ifF e_15_11 (⟨by decide, by decide⟩) (by decide +kernel) ?_
    refine dq_iload e_15_14 l1 ?_
    refine dq_ifF e_15_15 (⟨by decide, by decide⟩) (by decide +kernel) ?_
    refine dq_iload e_15_18 l1 ?_
    refine dq_aload e_15_19 l0 ?_
    refine dq_getC (e := 5) e_15_20 hS ac_19_2_1_1 rfl ?_
    refine dq_icF e_15_23 (⟨by decide, by decide⟩) (⟨by decide, by decide⟩) (by decide +kernel) ?_
    refine dq_aload e_15_26 l0 ?_
    refine dq_getR e_15_27 hS ac_19_2_2_2 ?_
    refine dq_iload e_15_30 l1 ?_
    refine dq_aal (n := 2) e_15_31 hS ⟨by decide, by decide⟩ (by decide) rfl ac_20_101_2_2 rfl ?_
    refine dq_aload e_15_32 l0 ?_
    refine dq_getI (key := 38915) e_15_33 hS ac_19_2_3_0 (by omega) ?_
    refine dq_iconst e_15_36 ?_
    refine dq_isub (e := dW ((dG N 38915) - 1)) e_15_37 rfl ?_
    refine dq_aload e_15_38 l0 ?_
    refine dq_getC (e := 40) e_15_39 hS ac_19_2_0_1 rfl ?_
    obtain ⟨⟨g2, g3⟩, h⟩ := dgd_inv h
    have r4 : dR ((dW ((dG N 38915) - 1)) % 40) := ⟨by have := Int.emod_nonneg (dW ((dG N 38915) - 1)) (show 40 ≠ (0 : Int) by omega); omega, by have := Int.emod_lt_of_pos (dW ((dG N 38915) - 1)) g3; have := (show dR 40 from ⟨by decide, by decide⟩).2; omega⟩
    refine dq_irem e_15_42 (dW_R _) (⟨by decide, by decide⟩) g2 g3 rfl ?_
    refine dq_iload e_15_43 l2 ?_
    obtain ⟨g5, h⟩ := dgd_inv h
    have S6 := dS_A (v := x2) (k := ((dW ((dG N 38915) - 1)) % 40 : Int).toNat) (key := (47104 + ((dW ((dG N 38915) - 1)) % 40).toNat)) hS aa_23 (by have := g5.1; have := g5.2; omega) (by omega)
    refine dq_ias (key := (47104 + ((dW ((dG N 38915) - 1)) % 40).toNat)) e_15_44 hS aa_23 r4 g5.1 g5.2 (by omega) ?_
    cases h
    exact dq_retv e_15_45 rfl S6
  · rw [if_neg c1] at h
    refine dq_ifT e_15_4 (dG_R _ _) (dnt c1) ?_
    cases h
    exact dq_retv e_15_45 rfl hS
noncomputable def fX2_put_Bc3 (N : mMem) (x2 : Int) : Option dZ := (if 0 < dG N 38915 then dgd ((0 : Int) ≤ dW ((dG N 38915) - 1) ∧ (0 : Int) < 40) <| dgd (0 ≤ (dW ((dG N 38915) - 1)) % 40 ∧ (dW ((dG N 38915) - 1)) % 40 < 40) <| some (dP N (49152 + ((dW ((dG N 38915) - 1)) % 40).toNat) x2, 0) else some (N, 0))
theorem qX2_put_Bc3 {N : mMem} {x2 : Int} {z : dZ} (hS : dS N) (rx2 : dR x2) (h : fX2_put_Bc3 N x2 = some z) : dQ xs Ln 0 0 0 15 (0, lv_args 0 [.ref 19, .int (dI 3), .int (dI x2)], [], N) z := by
  unfold fX2_put_Bc3 at h
  have l0 : mLk (lv_args 0 [.ref 19, .int (dI 3), .int (dI x2)]) 0 = some (.ref 19) := rfl
  have l1 : mLk (lv_args 0 [.ref 19, .int (dI 3), .int (dI x2)]) 1 = some (.int (dI 3)) := rfl
  have l2 : mLk (lv_args 0 [.ref 19, .int (dI 3), .int (dI x2)]) 2 = some (.int (dI x2)) := rfl
  generalize lv_args 0 [.ref 19, .int (dI 3), .int (dI x2)] = Nl at l0 l1 l2 ⊢
  refine dq_aload e_15_0 l0 ?_
  refine dq_getI (key := 38915) e_15_1 hS ac_19_2_3_0 (by omega) ?_
  by_cases c1 : 0 < dG N 38915
  · rw [if_pos c1] at h
    refine dq_ifF e_15_4 (dG_R _ _) (dnf c1) ?_
    refine dq_aload e_15_7 l0 ?_
    refine dq_getC (e := 40) e_15_8 hS ac_19_2_0_1 rfl ?_
    refine dq_ifF e_15_11 (⟨by decide, by decide⟩) (by decide +kernel) ?_
    refine dq_iload e_15_14 l1 ?_
    refine dq_ifF e_15_15 (⟨by decide, by decide⟩) (by decide +kernel) ?_
    refine dq_iload e_15_18 l1 ?_
    refine dq_aload e_15_19 l0 ?_
    refine dq_getC (e := 5) e_15_20 hS ac_19_2_1_1 rfl ?_
    refine dq_icF e_15_23 (⟨by decide, by decide⟩) (⟨by decide, by decide⟩) (by decide +kernel) ?_
    refine dq_aload e_15_26 l0 ?_
    refine dq_getR e_15_27 hS ac_19_2_2_2 ?_
    refine dq_iload e_15_30 l1 ?_
    refine dq_aal (n := 3) e_15_31 hS ⟨by decide, by decide⟩ (by decide) rfl ac_20_101_3_2 rfl ?_
    refine dq_aload e_15_32 l0 ?_
    refine dq_getI (key := 38915) e_15_33 hS ac_19_2_3_0 (by omega) ?_
    refine dq_iconst e_15_36 ?_
    refine dq_isub (e := dW ((dG N 38915) - 1)) e_15_37 rfl ?_
    refine dq_aload e_15_38 l0 ?_
    refine dq_getC (e := 40) e_15_39 hS ac_19_2_0_1 rfl ?_
    obtain ⟨⟨g2, g3⟩, h⟩ := dgd_inv h
    have r4 : dR ((dW ((dG N 38915) - 1)) % 40) := ⟨by have := Int.emod_nonneg (dW ((dG N 38915) - 1)) (show 40 ≠ (0 : Int) by omega); omega, by have := Int.emod_lt_of_pos (dW ((dG N 38915) - 1)) g3; have := (show dR 40 from ⟨by decide, by decide⟩).2; omega⟩
    refine dq_irem e_15_42 (dW_R _) (⟨by decide, by decide⟩) g2 g3 rfl ?_
    refine dq_iload e_15_43 l2 ?_
    obtain ⟨g5, h⟩ := dgd_inv h
    have S6 := dS_A (v := x2) (k := ((dW ((dG N 38915) - 1)) % 40 : Int).toNat) (key := (49152 + ((dW ((dG N 38915) - 1)) % 40).toNat)) hS aa_24 (by have := g5.1; have := g5.2; omega) (by omega)
    refine dq_ias (key := (49152 + ((dW ((dG N 38915) - 1)) % 40).toNat)) e_15_44 hS aa_24 r4 g5.1 g5.2 (by omega) ?_
    cases h
    exact dq_retv e_15_45 rfl S6
  · rw [if_neg c1] at h
    refine dq_ifT e_15_4 (dG_R _ _) (dnt c1) ?_
    cases h
    exact dq_retv e_15_45 rfl hS
noncomputable def fX2_put_Bc4 (N : mMem) (x2 : Int) : Option dZ := (if 0 < dG N 38915 then dgd ((0 : Int) ≤ dW ((dG N 38915) - 1) ∧ (0 : Int) < 40) <| dgd (0 ≤ (dW ((dG N 38915) - 1)) % 40 ∧ (dW ((dG N 38915) - 1)) % 40 < 40) <| some (dP N (51200 + ((dW ((dG N 38915) - 1)) % 40).toNat) x2, 0) else some (N, 0))
theorem qX2_put_Bc4 {N : mMem} {x2 : Int} {z : dZ} (hS : dS N) (rx2 : dR x2) (h : fX2_put_Bc4 N x2 = some z) : dQ xs Ln 0 0 0 15 (0, lv_args 0 [.ref 19, .int (dI 4), .int (dI x2)], [], N) z := by
  unfold fX2_put_Bc4 at h
  have l0 : mLk (lv_args 0 [.ref 19, .int (dI 4), .int (dI x2)]) 0 = some (.ref 19) := rfl
  have l1 : mLk (lv_args 0 [.ref 19, .int (dI 4), .int (dI x2)]) 1 = some (.int (dI 4)) := rfl
  have l2 : mLk (lv_args 0 [.ref 19, .int (dI 4), .int (dI x2)]) 2 = some (.int (dI x2)) := rfl
  generalize lv_args 0 [.ref 19, .int (dI 4), .int (dI x2)] = Nl at l0 l1 l2 ⊢
  refine dq_aload e_15_0 l0 ?_
  refine dq_getI (key := 38915) e_15_1 hS ac_19_2_3_0 (by omega) ?_
  by_cases c1 : 0 < dG N 38915
  · rw [if_pos c1] at h
    refine dq_ifF e_15_4 (dG_R _ _) (dnf c1) ?_
    refine dq_aload e_15_7 l0 ?_
    refine dq_getC (e := 40) e_15_8 hS ac_19_2_0_1 rfl ?_
    refine dq_ifF e_15_11 (⟨by decide, by decide⟩) (by decide +kernel) ?_
    refine dq_iload e_15_14 l1 ?_
    refine dq_ifF e_15_15 (⟨by decide, by decide⟩) (by decide +kernel) ?_
    refine dq_iload e_15_18 l1 ?_
    refine dq_aload e_15_19 l0 ?_
    refine dq_getC (e := 5) e_15_20 hS ac_19_2_1_1 rfl ?_
    refine dq_icF e_15_23 (⟨by decide, by decide⟩) (⟨by decide, by decide⟩) (by decide +kernel) ?_
    refine dq_aload e_15_26 l0 ?_
    refine dq_getR e_15_27 hS ac_19_2_2_2 ?_
    refine dq_iload e_15_30 l1 ?_
    refine dq_aal (n := 4) e_15_31 hS ⟨by decide, by decide⟩ (by decide) rfl ac_20_101_4_2 rfl ?_
    refine dq_aload e_15_32 l0 ?_
    refine dq_getI (key := 38915) e_15_33 hS ac_19_2_3_0 (by omega) ?_
    refine dq_iconst e_15_36 ?_
    refine dq_isub (e := dW ((dG N 38915) - 1)) e_15_37 rfl ?_
    refine dq_aload e_15_38 l0 ?_
    refine dq_getC (e := 40) e_15_39 hS ac_19_2_0_1 rfl ?_
    obtain ⟨⟨g2, g3⟩, h⟩ := dgd_inv h
    have r4 : dR ((dW ((dG N 38915) - 1)) % 40) := ⟨by have := Int.emod_nonneg (dW ((dG N 38915) - 1)) (show 40 ≠ (0 : Int) by omega); omega, by have := Int.emod_lt_of_pos (dW ((dG N 38915) - 1)) g3; have := (show dR 40 from ⟨by decide, by decide⟩).2; omega⟩
    refine dq_irem e_15_42 (dW_R _) (⟨by decide, by decide⟩) g2 g3 rfl ?_
    refine dq_iload e_15_43 l2 ?_
    obtain ⟨g5, h⟩ := dgd_inv h
    have S6 := dS_A (v := x2) (k := ((dW ((dG N 38915) - 1)) % 40 : Int).toNat) (key := (51200 + ((dW ((dG N 38915) - 1)) % 40).toNat)) hS aa_25 (by have := g5.1; have := g5.2; omega) (by omega)
    refine dq_ias (key := (51200 + ((dW ((dG N 38915) - 1)) % 40).toNat)) e_15_44 hS aa_25 r4 g5.1 g5.2 (by omega) ?_
    cases h
    exact dq_retv e_15_45 rfl S6
  · rw [if_neg c1] at h
    refine dq_ifT e_15_4 (dG_R _ _) (dnt c1) ?_
    cases h
    exact dq_retv e_15_45 rfl hS
noncomputable def fX3_send_RU_b114 (k : mMem → Nat → Int → Int → Int → Int → Option dZ) (N : mMem) (s : Nat) (x1 : Int) (x2 : Int) (x4 : Int) (x5 : Int) : Option dZ := k N s x1 x2 x4 (dW (x5 + 1))
theorem qX3_send_RU_b114 {k : mMem → Nat → Int → Int → Int → Int → Option dZ} (hk : ∀ {Nl : List (Nat × Value)} {N : mMem} {s : Nat} {x1 : Int} {x2 : Int} {x4 : Int} {x5 : Int} {z : dZ}, dS N → s < 8 → dR x1 → dR x2 → dR x4 → dR x5 → mLk Nl 0 = some (.ref 1) → mLk Nl 1 = some (.int (dI x1)) → mLk Nl 2 = some (.int (dI x2)) → mLk Nl 3 = some (.ref (29 + 13 * s)) → mLk Nl 4 = some (.int (dI x4)) → mLk Nl 5 = some (.int (dI x5)) → k N s x1 x2 x4 x5 = some z → dQ xs Ln 0 1 23 36 (55, Nl, [], N) z) {Nl : List (Nat × Value)} {N : mMem} {s : Nat} {x1 : Int} {x2 : Int} {x4 : Int} {x5 : Int} {z : dZ} (hS : dS N) (hs : s < 8) (rx1 : dR x1) (rx2 : dR x2) (rx4 : dR x4) (rx5 : dR x5) (l0 : mLk Nl 0 = some (.ref 1)) (l1 : mLk Nl 1 = some (.int (dI x1))) (l2 : mLk Nl 2 = some (.int (dI x2))) (l3 : mLk Nl 3 = some (.ref (29 + 13 * s))) (l4 : mLk Nl 4 = some (.int (dI x4))) (l5 : mLk Nl 5 = some (.int (dI x5))) (h : fX3_send_RU_b114 k N s x1 x2 x4 x5 = some z) : dQ xs Ln 0 1 23 36 (114, Nl, [], N) z := by
  unfold fX3_send_RU_b114 at h
  refine dq_iinc (x := x5) (e := dW (x5 + 1)) e_36_114 l5 rfl rfl (fun K48 m49 mm50 => ?_)
  have m51 := mm50 0 _ (by decide) rfl l0
  have m52 := mm50 1 _ (by decide) rfl l1
  have m53 := mm50 2 _ (by decide) rfl l2
  have m54 := mm50 3 _ (by decide) rfl l3
  have m55 := mm50 4 _ (by decide) rfl l4
  refine dq_goto e_36_117 ?_
  exact hk hS hs rx1 rx2 rx4 (dW_R _) m51 m52 m53 m54 m55 m49 h
noncomputable def fX3_send_RU_b55 : Nat → mMem → Nat → Int → Int → Int → Int → Option dZ
  | 0, _, _, _, _, _, _ => none
  | n + 1, N, s, x1, x2, x4, x5 => (if x5 < dG N 10243 then dgd (0 ≤ x5 ∧ x5 < 100) <| (if dG N (16384 + (x5).toNat) = x1 then dgd (0 ≤ x5 ∧ x5 < 100) <| (if x4 < dG N (18432 + (x5).toNat) then dgd (0 ≤ x5 ∧ x5 < 100) <| fX3_send_RU_b114 (fX3_send_RU_b55 n) N s x1 x2 (dG N (18432 + (x5).toNat)) x5 else fX3_send_RU_b114 (fX3_send_RU_b55 n) N s x1 x2 x4 x5) else fX3_send_RU_b114 (fX3_send_RU_b55 n) N s x1 x2 x4 x5) else dbd (fX4_opn_P N) fun N56 v57 => dbd (fX4_put_Pc0 N56 v57 x2) fun N70 v71 => dbd (fX4_put_Pc1 N70 v57 x1) fun N75 v76 => dbd (fX4_put_Pc2 N75 v57 x4) fun N80 v81 => dbd (fX4_put_Pc3 N80 v57 (dG N80 (59393 + 26624 * s))) fun N85 v86 => dbd (fX4_put_Pc4 N85 v57 (dG N85 (59392 + 26624 * s))) fun N90 v91 => dbd (fX4_put_Pc5 N90 v57 (dG N90 (59394 + 26624 * s))) fun N95 v96 => some (N95, 0))
theorem qX3_send_RU_b55 : ∀ (n : Nat) {Nl : List (Nat × Value)} {N : mMem} {s : Nat} {x1 : Int} {x2 : Int} {x4 : Int} {x5 : Int} {z : dZ}, dS N → s < 8 → dR x1 → dR x2 → dR x4 → dR x5 → mLk Nl 0 = some (.ref 1) → mLk Nl 1 = some (.int (dI x1)) → mLk Nl 2 = some (.int (dI x2)) → mLk Nl 3 = some (.ref (29 + 13 * s)) → mLk Nl 4 = some (.int (dI x4)) → mLk Nl 5 = some (.int (dI x5)) → fX3_send_RU_b55 n N s x1 x2 x4 x5 = some z → dQ xs Ln 0 1 23 36 (55, Nl, [], N) z := fun n => by
  induction n with
  | zero =>
    intro Nl N s x1 x2 x4 x5 z hS hs rx1 rx2 rx4 rx5 l0 l1 l2 l3 l4 l5 h
    cases h
  | succ n ih =>
    intro Nl N s x1 x2 x4 x5 z hS hs rx1 rx2 rx4 rx5 l0 l1 l2 l3 l4 l5 h
    rw [fX3_send_RU_b55] at h
    refine dq_iload e_36_55 l5 ?_
    refine dq_aload e_36_57 l0 ?_
    refine dq_getR e_36_58 hS ac_1_3_7_2 ?_
    refine dq_getI (key := 10243) e_36_61 hS ac_5_4_3_0 (by omega) ?_
    by_cases c34 : x5 < dG N 10243
    · rw [if_pos c34] at h
      refine dq_icF e_36_64 rx5 (dG_R _ _) (dnf c34) ?_
      refine dq_aload e_36_67 l0 ?_
      refine dq_getR e_36_68 hS ac_1_3_7_2 ?_
      refine dq_getR e_36_71 hS ac_5_4_2_2 ?_
      refine dq_iconst e_36_74 ?_
      refine dq_aal (n := 1) e_36_75 hS ⟨by decide, by decide⟩ (by decide) rfl ac_6_101_1_2 rfl ?_
      refine dq_iload e_36_76 l5 ?_
      obtain ⟨g35, h⟩ := dgd_inv h
      refine dq_ial (key := (16384 + (x5).toNat)) e_36_78 hS aa_8 rx5 g35.1 g35.2 (by omega) ?_
      refine dq_iload e_36_79 l1 ?_
      by_cases c36 : dG N (16384 + (x5).toNat) = x1
      · rw [if_pos c36] at h
        refine dq_icF e_36_80 (dG_R _ _) rx1 (dnf c36) ?_
        refine dq_aload e_36_83 l0 ?_
        refine dq_getR e_36_84 hS ac_1_3_7_2 ?_
        refine dq_getR e_36_87 hS ac_5_4_2_2 ?_
        refine dq_iconst e_36_90 ?_
        refine dq_aal (n := 2) e_36_91 hS ⟨by decide, by decide⟩ (by decide) rfl ac_6_101_2_2 rfl ?_
        refine dq_iload e_36_92 l5 ?_
        obtain ⟨g37, h⟩ := dgd_inv h
        refine dq_ial (key := (18432 + (x5).toNat)) e_36_94 hS aa_9 rx5 g37.1 g37.2 (by omega) ?_
        refine dq_iload e_36_95 l4 ?_
        by_cases c38 : x4 < dG N (18432 + (x5).toNat)
        · rw [if_pos c38] at h
          refine dq_icF e_36_97 (dG_R _ _) rx4 (dnf c38) ?_
          refine dq_aload e_36_100 l0 ?_
          refine dq_getR e_36_101 hS ac_1_3_7_2 ?_
          refine dq_getR e_36_104 hS ac_5_4_2_2 ?_
          refine dq_iconst e_36_107 ?_
          refine dq_aal (n := 2) e_36_108 hS ⟨by decide, by decide⟩ (by decide) rfl ac_6_101_2_2 rfl ?_
          refine dq_iload e_36_109 l5 ?_
          obtain ⟨g39, h⟩ := dgd_inv h
          refine dq_ial (key := (18432 + (x5).toNat)) e_36_111 hS aa_9 rx5 g39.1 g39.2 (by omega) ?_
          refine dq_istore e_36_112 rfl (fun K40 m41 mm42 => ?_)
          have m43 := mm42 0 _ (by decide) rfl l0
          have m44 := mm42 1 _ (by decide) rfl l1
          have m45 := mm42 2 _ (by decide) rfl l2
          have m46 := mm42 3 _ (by decide) rfl l3
          have m47 := mm42 5 _ (by decide) rfl l5
          exact qX3_send_RU_b114 ih hS hs rx1 rx2 (dG_R _ _) rx5 m43 m44 m45 m46 m41 m47 h
        · rw [if_neg c38] at h
          refine dq_icT e_36_97 (dG_R _ _) rx4 (dnt c38) ?_
          exact qX3_send_RU_b114 ih hS hs rx1 rx2 rx4 rx5 l0 l1 l2 l3 l4 l5 h
      · rw [if_neg c36] at h
        refine dq_icT e_36_80 (dG_R _ _) rx1 (dnt c36) ?_
        exact qX3_send_RU_b114 ih hS hs rx1 rx2 rx4 rx5 l0 l1 l2 l3 l4 l5 h
    · rw [if_neg c34] at h
      refine dq_icT e_36_64 rx5 (dG_R _ _) (dnt c34) ?_
      refine dq_aload e_36_120 l0 ?_
      refine dq_getR e_36_121 hS ac_1_3_7_2 ?_
      obtain ⟨N56, v57, c58, h⟩ := dbd_inv h
      have q59 := qX4_opn_P (xs := xs) (Ln := Ln) hS c58
      have S60 : dS N56 := q59.2.1
      refine dq_calli (as := []) (S := []) (nx := 127) e_36_124 rfl rfl rfl hS ak_5_4 rfl rfl rfl rfl q59 rfl ?_
      have r61 : dR v57 := q59.2.2
      refine dq_istore e_36_127 rfl (fun K62 m63 mm64 => ?_)
      have m65 := mm64 0 _ (by decide) rfl l0
      have m66 := mm64 1 _ (by decide) rfl l1
      have m67 := mm64 2 _ (by decide) rfl l2
      have m68 := mm64 3 _ (by decide) rfl l3
      have m69 := mm64 4 _ (by decide) rfl l4
      refine dq_aload e_36_129 m65 ?_
      refine dq_getR e_36_130 S60 ac_1_3_7_2 ?_
      refine dq_iload e_36_133 m63 ?_
      refine dq_iconst e_36_135 ?_
      refine dq_iload e_36_136 m67 ?_
      obtain ⟨N70, v71, c72, h⟩ := dbd_inv h
      have q73 := qX4_put_Pc0 (xs := xs) (Ln := Ln) S60 r61 rx2 c72
      have S74 : dS N70 := q73.2.1
      refine dq_callv (as := [.int (dI v57), .int (dI 0), .int (dI x2)]) (S := []) (nx := 140) e_36_137 rfl rfl rfl S60 ak_5_4 rfl rfl rfl rfl q73 rfl ?_
      refine dq_aload e_36_140 m65 ?_
      refine dq_getR e_36_141 S74 ac_1_3_7_2 ?_
      refine dq_iload e_36_144 m63 ?_
      refine dq_iconst e_36_146 ?_
      refine dq_iload e_36_147 m66 ?_
      obtain ⟨N75, v76, c77, h⟩ := dbd_inv h
      have q78 := qX4_put_Pc1 (xs := xs) (Ln := Ln) S74 r61 rx1 c77
      have S79 : dS N75 := q78.2.1
      refine dq_callv (as := [.int (dI v57), .int (dI 1), .int (dI x1)]) (S := []) (nx := 151) e_36_148 rfl rfl rfl S74 ak_5_4 rfl rfl rfl rfl q78 rfl ?_
      refine dq_aload e_36_151 m65 ?_
      refine dq_getR e_36_152 S79 ac_1_3_7_2 ?_
      refine dq_iload e_36_155 m63 ?_
      refine dq_iconst e_36_157 ?_
      refine dq_iload e_36_158 m69 ?_
      obtain ⟨N80, v81, c82, h⟩ := dbd_inv h
      have q83 := qX4_put_Pc2 (xs := xs) (Ln := Ln) S79 r61 rx4 c82
      have S84 : dS N80 := q83.2.1
      refine dq_callv (as := [.int (dI v57), .int (dI 2), .int (dI x4)]) (S := []) (nx := 163) e_36_160 rfl rfl rfl S79 ak_5_4 rfl rfl rfl rfl q83 rfl ?_
      refine dq_aload e_36_163 m65 ?_
      refine dq_getR e_36_164 S84 ac_1_3_7_2 ?_
      refine dq_iload e_36_167 m63 ?_
      refine dq_iconst e_36_169 ?_
      refine dq_aload e_36_170 m68 ?_
      refine dq_getI (key := (59393 + 26624 * s)) e_36_171 S84 (ac_29s_0_1_0 s hs) (by omega) ?_
      obtain ⟨N85, v86, c87, h⟩ := dbd_inv h
      have q88 := qX4_put_Pc3 (xs := xs) (Ln := Ln) S84 r61 (dG_R _ _) c87
      have S89 : dS N85 := q88.2.1
      refine dq_callv (as := [.int (dI v57), .int (dI 3), .int (dI (dG N80 (59393 + 26624 * s)))]) (S := []) (nx := 177) e_36_174 rfl rfl rfl S84 ak_5_4 rfl rfl rfl rfl q88 rfl ?_
      refine dq_aload e_36_177 m65 ?_
      refine dq_getR e_36_178 S89 ac_1_3_7_2 ?_
      refine dq_iload e_36_181 m63 ?_
      refine dq_iconst e_36_183 ?_
      refine dq_aload e_36_184 m68 ?_
      refine dq_getI (key := (59392 + 26624 * s)) e_36_185 S89 (ac_29s_0_0_0 s hs) (by omega) ?_
      obtain ⟨N90, v91, c92, h⟩ := dbd_inv h
      have q93 := qX4_put_Pc4 (xs := xs) (Ln := Ln) S89 r61 (dG_R _ _) c92
      have S94 : dS N90 := q93.2.1
      refine dq_callv (as := [.int (dI v57), .int (dI 4), .int (dI (dG N85 (59392 + 26624 * s)))]) (S := []) (nx := 191) e_36_188 rfl rfl rfl S89 ak_5_4 rfl rfl rfl rfl q93 rfl ?_
      refine dq_aload e_36_191 m65 ?_
      refine dq_getR e_36_192 S94 ac_1_3_7_2 ?_
      refine dq_iload e_36_195 m63 ?_
      refine dq_iconst e_36_197 ?_
      refine dq_aload e_36_198 m68 ?_
      refine dq_getI (key := (59394 + 26624 * s)) e_36_199 S94 (ac_29s_0_2_0 s hs) (by omega) ?_
      obtain ⟨N95, v96, c97, h⟩ := dbd_inv h
      have q98 := qX4_put_Pc5 (xs := xs) (Ln := Ln) S94 r61 (dG_R _ _) c97
      have S99 : dS N95 := q98.2.1
      refine dq_callv (as := [.int (dI v57), .int (dI 5), .int (dI (dG N90 (59394 + 26624 * s)))]) (S := []) (nx := 205) e_36_202 rfl rfl rfl S94 ak_5_4 rfl rfl rfl rfl q98 rfl ?_
      cases h
      exact dq_retv e_36_205 rfl S99
noncomputable def fX3_send_RU (N : mMem) (s : Nat) (x1 : Int) (x2 : Int) : Option dZ := dlt (dP N 53248 (dW ((dG N 53248) + 1))) fun N2 => dbd (fX3_isCut_R N2 x1) fun N4 v5 => (if v5 = 0 then dbd (fX4_isFull_P N4) fun N11 v12 => (if v12 = 0 then dgd (0 ≤ x1 ∧ x1 < 8) <| fX3_send_RU_b55 1000 N11 s x1 x2 (dW ((dG N11 2049) + (dG N11 (6144 + (x1).toNat)))) 0 else none) else none)
theorem qX3_send_RU {N : mMem} {s : Nat} {x1 : Int} {x2 : Int} {z : dZ} (hS : dS N) (hs : s < 8) (rx1 : dR x1) (rx2 : dR x2) (h : fX3_send_RU N s x1 x2 = some z) : dQ xs Ln 0 1 23 36 (0, lv_args 0 [.ref 1, .int (dI x1), .int (dI x2), .ref (29 + 13 * s)], [], N) z := by
  unfold fX3_send_RU at h
  have l0 : mLk (lv_args 0 [.ref 1, .int (dI x1), .int (dI x2), .ref (29 + 13 * s)]) 0 = some (.ref 1) := rfl
  have l1 : mLk (lv_args 0 [.ref 1, .int (dI x1), .int (dI x2), .ref (29 + 13 * s)]) 1 = some (.int (dI x1)) := rfl
  have l2 : mLk (lv_args 0 [.ref 1, .int (dI x1), .int (dI x2), .ref (29 + 13 * s)]) 2 = some (.int (dI x2)) := rfl
  have l3 : mLk (lv_args 0 [.ref 1, .int (dI x1), .int (dI x2), .ref (29 + 13 * s)]) 3 = some (.ref (29 + 13 * s)) := rfl
  generalize lv_args 0 [.ref 1, .int (dI x1), .int (dI x2), .ref (29 + 13 * s)] = Nl at l0 l1 l2 l3 ⊢
  refine dq_aload e_36_0 l0 ?_
  refine dq_getR e_36_1 hS ac_1_3_10_2 ?_
  refine dq_iconst e_36_4 ?_
  refine dq_dup2 e_36_5 rfl rfl ?_
  refine dq_ial (key := 53248) e_36_6 hS aa_26 (⟨by decide, by decide⟩) (by decide) (by decide) (by show 26 * 2048 + 0 = 53248; omega) ?_
  refine dq_iconst e_36_7 ?_
  refine dq_iadd (e := dW ((dG N 53248) + 1)) e_36_8 rfl ?_
  have S1 := dS_A (v := dW ((dG N 53248) + 1)) (k := (0 : Int).toNat) (key := 53248) hS aa_26 (by decide) (by show 26 * 2048 + 0 = 53248; omega)
  refine dq_ias (key := 53248) e_36_9 hS aa_26 (⟨by decide, by decide⟩) (by decide) (by decide) (by show 26 * 2048 + 0 = 53248; omega) ?_
  refine dq_aload e_36_10 l0 ?_
  refine dq_iload e_36_11 l1 ?_
  refine dq_let h S1 (fun N2 S3 h => ?_)
  obtain ⟨N4, v5, c6, h⟩ := dbd_inv h
  have q7 := qX3_isCut_R (xs := xs) (Ln := Ln) S3 rx1 c6
  have S8 : dS N4 := q7.2.1
  refine dq_calli (as := [.int (dI x1)]) (S := []) (nx := 15) e_36_12 rfl rfl rfl S3 ak_1_3 rfl rfl rfl rfl q7 rfl ?_
  have r9 : dR v5 := q7.2.2
  by_cases c10 : v5 = 0
  · rw [if_pos c10] at h
    refine dq_ifF e_36_15 r9 (dnf c10) ?_
    refine dq_aload e_36_18 l0 ?_
    refine dq_getR e_36_19 S8 ac_1_3_7_2 ?_
    obtain ⟨N11, v12, c13, h⟩ := dbd_inv h
    have q14 := qX4_isFull_P (xs := xs) (Ln := Ln) S8 c13
    have S15 : dS N11 := q14.2.1
    refine dq_calli (as := []) (S := []) (nx := 25) e_36_22 rfl rfl rfl S8 ak_5_4 rfl rfl rfl rfl q14 rfl ?_
    have r16 : dR v12 := q14.2.2
    by_cases c17 : v12 = 0
    · rw [if_pos c17] at h
      refine dq_ifT e_36_25 r16 (decide_eq_true c17) ?_
      refine dq_aload e_36_39 l0 ?_
      refine dq_getI (key := 2049) e_36_40 S15 ac_1_3_1_0 (by omega) ?_
      refine dq_aload e_36_43 l0 ?_
      refine dq_getR e_36_44 S15 ac_1_3_5_2 ?_
      refine dq_iload e_36_47 l1 ?_
      obtain ⟨g18, h⟩ := dgd_inv h
      refine dq_ial (key := (6144 + (x1).toNat)) e_36_48 S15 aa_3 rx1 g18.1 g18.2 (by omega) ?_
      refine dq_iadd (e := dW ((dG N11 2049) + (dG N11 (6144 + (x1).toNat)))) e_36_49 rfl ?_
      refine dq_istore e_36_50 rfl (fun K19 m20 mm21 => ?_)
      have m22 := mm21 0 _ (by decide) rfl l0
      have m23 := mm21 1 _ (by decide) rfl l1
      have m24 := mm21 2 _ (by decide) rfl l2
      have m25 := mm21 3 _ (by decide) rfl l3
      refine dq_iconst e_36_52 ?_
      refine dq_istore e_36_53 rfl (fun K26 m27 mm28 => ?_)
      have m29 := mm28 0 _ (by decide) rfl m22
      have m30 := mm28 1 _ (by decide) rfl m23
      have m31 := mm28 2 _ (by decide) rfl m24
      have m32 := mm28 3 _ (by decide) rfl m25
      have m33 := mm28 4 _ (by decide) rfl m20
      exact qX3_send_RU_b55 _ S15 hs rx1 rx2 (dW_R _) (⟨by decide, by decide⟩) m29 m30 m31 m32 m33 m27 h
    · rw [if_neg c17] at h
      refine dq_ifF e_36_25 r16 (decide_eq_false c17) ?_
      cases h
  · rw [if_neg c10] at h
    refine dq_ifT e_36_15 r9 (dnt c10) ?_
    cases h
noncomputable def fX3_letGo_RS (N : mMem) (s : Nat) : Option dZ := dbd (fX2_opn_B N) fun N6 v7 => dbd (fX2_put_Bc0 N6 (s : Int)) fun N11 v12 => dbd (fX2_put_Bc1 N11 (dG N11 (65546 + 26624 * s))) fun N16 v17 => dbd (fX2_put_Bc2 N16 (dW ((dG N16 2049) - (dG N16 (65546 + 26624 * s))))) fun N21 v22 => dbd (fX2_put_Bc3 N21 (dG N21 (65544 + 26624 * s))) fun N26 v27 => dbd (fX2_put_Bc4 N26 (dG N26 (65545 + 26624 * s))) fun N31 v32 => dbd (fX1_drop_H N31 s) fun N36 v37 => dlt (dP N36 (65547 + 26624 * s) (dG N36 2049)) fun N42 => dbd (fX3_send_RU N42 s (s : Int) 2) fun N44 v45 => some (N44, 0)
theorem qX3_letGo_RS {N : mMem} {s : Nat} {z : dZ} (hS : dS N) (hs : s < 8) (h : fX3_letGo_RS N s = some z) : dQ xs Ln 0 2 48 53 (0, lv_args 0 [.ref 1, .ref (28 + 13 * s)], [], N) z := by
  unfold fX3_letGo_RS at h
  have l0 : mLk (lv_args 0 [.ref 1, .ref (28 + 13 * s)]) 0 = some (.ref 1) := rfl
  have l1 : mLk (lv_args 0 [.ref 1, .ref (28 + 13 * s)]) 1 = some (.ref (28 + 13 * s)) := rfl
  generalize lv_args 0 [.ref 1, .ref (28 + 13 * s)] = Nl at l0 l1 ⊢
  refine dq_aload e_53_0 l1 ?_
  refine dq_getR e_53_1 hS (ac_28s_5_16_2 s hs) ?_
  refine dq_astore e_53_4 rfl (fun K1 m2 mm3 => ?_)
  have m4 := mm3 0 _ (by decide) rfl l0
  have m5 := mm3 1 _ (by decide) rfl l1
  refine dq_aload e_53_5 m4 ?_
  refine dq_getR e_53_6 hS ac_1_3_9_2 ?_
  obtain ⟨N6, v7, c8, h⟩ := dbd_inv h
  have q9 := qX2_opn_B (xs := xs) (Ln := Ln) hS c8
  have S10 : dS N6 := q9.2.1
  refine dq_callv (as := []) (S := []) (nx := 12) e_53_9 rfl rfl rfl hS ak_19_2 rfl rfl rfl rfl q9 rfl ?_
  refine dq_aload e_53_12 m4 ?_
  refine dq_getR e_53_13 S10 ac_1_3_9_2 ?_
  refine dq_iconst e_53_16 ?_
  refine dq_aload e_53_17 m5 ?_
  refine dq_getC (e := (s : Int)) e_53_18 S10 (ac_28s_5_0_1 s hs) rfl ?_
  obtain ⟨N11, v12, c13, h⟩ := dbd_inv h
  have q14 := qX2_put_Bc0 (xs := xs) (Ln := Ln) S10 (⟨by omega, by omega⟩) c13
  have S15 : dS N11 := q14.2.1
  refine dq_callv (as := [.int (dI 0), .int (dI (s : Int))]) (S := []) (nx := 24) e_53_21 rfl rfl rfl S10 ak_19_2 rfl rfl rfl rfl q14 rfl ?_
  refine dq_aload e_53_24 m4 ?_
  refine dq_getR e_53_25 S15 ac_1_3_9_2 ?_
  refine dq_iconst e_53_28 ?_
  refine dq_aload e_53_29 m2 ?_
  refine dq_getI (key := (65546 + 26624 * s)) e_53_30 S15 (ac_32s_1_10_0 s hs) (by omega) ?_
  obtain ⟨N16, v17, c18, h⟩ := dbd_inv h
  have q19 := qX2_put_Bc1 (xs := xs) (Ln := Ln) S15 (dG_R _ _) c18
  have S20 : dS N16 := q19.2.1
  refine dq_callv (as := [.int (dI 1), .int (dI (dG N11 (65546 + 26624 * s)))]) (S := []) (nx := 36) e_53_33 rfl rfl rfl S15 ak_19_2 rfl rfl rfl rfl q19 rfl ?_
  refine dq_aload e_53_36 m4 ?_
  refine dq_getR e_53_37 S20 ac_1_3_9_2 ?_
  refine dq_iconst e_53_40 ?_
  refine dq_aload e_53_41 m4 ?_
  refine dq_getI (key := 2049) e_53_42 S20 ac_1_3_1_0 (by omega) ?_
  refine dq_aload e_53_45 m2 ?_
  refine dq_getI (key := (65546 + 26624 * s)) e_53_46 S20 (ac_32s_1_10_0 s hs) (by omega) ?_
  refine dq_isub (e := dW ((dG N16 2049) - (dG N16 (65546 + 26624 * s)))) e_53_49 rfl ?_
  obtain ⟨N21, v22, c23, h⟩ := dbd_inv h
  have q24 := qX2_put_Bc2 (xs := xs) (Ln := Ln) S20 (dW_R _) c23
  have S25 : dS N21 := q24.2.1
  refine dq_callv (as := [.int (dI 2), .int (dI (dW ((dG N16 2049) - (dG N16 (65546 + 26624 * s)))))]) (S := []) (nx := 53) e_53_50 rfl rfl rfl S20 ak_19_2 rfl rfl rfl rfl q24 rfl ?_
  refine dq_aload e_53_53 m4 ?_
  refine dq_getR e_53_54 S25 ac_1_3_9_2 ?_
  refine dq_iconst e_53_57 ?_
  refine dq_aload e_53_58 m2 ?_
  refine dq_getI (key := (65544 + 26624 * s)) e_53_59 S25 (ac_32s_1_8_0 s hs) (by omega) ?_
  obtain ⟨N26, v27, c28, h⟩ := dbd_inv h
  have q29 := qX2_put_Bc3 (xs := xs) (Ln := Ln) S25 (dG_R _ _) c28
  have S30 : dS N26 := q29.2.1
  refine dq_callv (as := [.int (dI 3), .int (dI (dG N21 (65544 + 26624 * s)))]) (S := []) (nx := 65) e_53_62 rfl rfl rfl S25 ak_19_2 rfl rfl rfl rfl q29 rfl ?_
  refine dq_aload e_53_65 m4 ?_
  refine dq_getR e_53_66 S30 ac_1_3_9_2 ?_
  refine dq_iconst e_53_69 ?_
  refine dq_aload e_53_70 m2 ?_
  refine dq_getI (key := (65545 + 26624 * s)) e_53_71 S30 (ac_32s_1_9_0 s hs) (by omega) ?_
  obtain ⟨N31, v32, c33, h⟩ := dbd_inv h
  have q34 := qX2_put_Bc4 (xs := xs) (Ln := Ln) S30 (dG_R _ _) c33
  have S35 : dS N31 := q34.2.1
  refine dq_callv (as := [.int (dI 4), .int (dI (dG N26 (65545 + 26624 * s)))]) (S := []) (nx := 77) e_53_74 rfl rfl rfl S30 ak_19_2 rfl rfl rfl rfl q34 rfl ?_
  refine dq_aload e_53_77 m2 ?_
  obtain ⟨N36, v37, c38, h⟩ := dbd_inv h
  have q39 := qX1_drop_H (xs := xs) (Ln := Ln) S35 hs c38
  have S40 : dS N36 := q39.2.1
  refine dq_callv (as := []) (S := []) (nx := 81) e_53_78 rfl rfl rfl S35 (ak_32s_1 s hs) rfl rfl rfl rfl q39 rfl ?_
  refine dq_aload e_53_81 m2 ?_
  refine dq_aload e_53_82 m4 ?_
  refine dq_getI (key := 2049) e_53_83 S40 ac_1_3_1_0 (by omega) ?_
  have S41 := dS_P (v := dG N36 2049) S40 (ac_32s_1_11_0 s hs) (show (32 + 13 * s) * 2048 + 11 = (65547 + 26624 * s) by omega)
  refine dq_put (key := (65547 + 26624 * s)) e_53_86 S40 (ac_32s_1_11_0 s hs) rfl (by omega) ?_
  refine dq_aload e_53_89 m4 ?_
  refine dq_aload e_53_90 m5 ?_
  refine dq_getC (e := (s : Int)) e_53_91 S41 (ac_28s_5_0_1 s hs) rfl ?_
  refine dq_iconst e_53_94 ?_
  refine dq_aload e_53_95 m5 ?_
  refine dq_getR e_53_96 S41 (ac_28s_5_6_2 s hs) ?_
  refine dq_let h S41 (fun N42 S43 h => ?_)
  obtain ⟨N44, v45, c46, h⟩ := dbd_inv h
  have q47 := qX3_send_RU (xs := xs) (Ln := Ln) S43 hs (⟨by omega, by omega⟩) (⟨by decide, by decide⟩) c46
  have S48 : dS N44 := q47.2.1
  refine dq_callv (as := [.int (dI (s : Int)), .int (dI 2), .ref (29 + 13 * s)]) (S := []) (nx := 102) e_53_99 rfl rfl rfl S43 ak_1_3 rfl rfl rfl rfl q47 rfl ?_
  cases h
  exact dq_retv e_53_102 rfl S48
noncomputable def fX1_sendTick_H (N : mMem) (s : Nat) : Option dZ := dlt (dP N (65540 + 26624 * s) (dW ((dG N (65540 + 26624 * s)) - 1))) fun N2 => (if dG N2 (65539 + 26624 * s) = 1 then some (dP N2 (65544 + 26624 * s) (dW ((dG N2 (65544 + 26624 * s)) + 1)), 0) else dlt (dP N2 (65545 + 26624 * s) (dW ((dG N2 (65545 + 26624 * s)) + 1))) fun N7 => some (dP N7 (65537 + 26624 * s) (dMx 0 (dW ((dG N7 (65537 + 26624 * s)) - 1))), 0))
theorem qX1_sendTick_H {N : mMem} {s : Nat} {z : dZ} (hS : dS N) (hs : s < 8) (h : fX1_sendTick_H N s = some z) : dQ xs Ln 0 1 14 11 (0, lv_args 0 [.ref (32 + 13 * s)], [], N) z := by
  unfold fX1_sendTick_H at h
  have l0 : mLk (lv_args 0 [.ref (32 + 13 * s)]) 0 = some (.ref (32 + 13 * s)) := rfl
  generalize lv_args 0 [.ref (32 + 13 * s)] = Nl at l0 ⊢
  refine dq_aload e_11_0 l0 ?_
  refine dq_dup e_11_1 rfl ?_
  refine dq_getI (key := (65540 + 26624 * s)) e_11_2 hS (ac_32s_1_4_0 s hs) (by omega) ?_
  refine dq_iconst e_11_5 ?_
  refine dq_isub (e := dW ((dG N (65540 + 26624 * s)) - 1)) e_11_6 rfl ?_
  have S1 := dS_P (v := dW ((dG N (65540 + 26624 * s)) - 1)) hS (ac_32s_1_4_0 s hs) (show (32 + 13 * s) * 2048 + 4 = (65540 + 26624 * s) by omega)
  refine dq_put (key := (65540 + 26624 * s)) e_11_7 hS (ac_32s_1_4_0 s hs) rfl (by omega) ?_
  refine dq_aload e_11_10 l0 ?_
  refine dq_let h S1 (fun N2 S3 h => ?_)
  refine dq_getI (key := (65539 + 26624 * s)) e_11_11 S3 (ac_32s_1_3_0 s hs) (by omega) ?_
  refine dq_iconst e_11_14 ?_
  by_cases c4 : dG N2 (65539 + 26624 * s) = 1
  · rw [if_pos c4] at h
    refine dq_icF e_11_15 (dG_R _ _) (⟨by decide, by decide⟩) (dnf c4) ?_
    refine dq_aload e_11_18 l0 ?_
    refine dq_dup e_11_19 rfl ?_
    refine dq_getI (key := (65544 + 26624 * s)) e_11_20 S3 (ac_32s_1_8_0 s hs) (by omega) ?_
    refine dq_iconst e_11_23 ?_
    refine dq_iadd (e := dW ((dG N2 (65544 + 26624 * s)) + 1)) e_11_24 rfl ?_
    have S5 := dS_P (v := dW ((dG N2 (65544 + 26624 * s)) + 1)) S3 (ac_32s_1_8_0 s hs) (show (32 + 13 * s) * 2048 + 8 = (65544 + 26624 * s) by omega)
    refine dq_put (key := (65544 + 26624 * s)) e_11_25 S3 (ac_32s_1_8_0 s hs) rfl (by omega) ?_
    refine dq_goto e_11_28 ?_
    cases h
    exact dq_retv e_11_55 rfl S5
  · rw [if_neg c4] at h
    refine dq_icT e_11_15 (dG_R _ _) (⟨by decide, by decide⟩) (dnt c4) ?_
    refine dq_aload e_11_31 l0 ?_
    refine dq_dup e_11_32 rfl ?_
    refine dq_getI (key := (65545 + 26624 * s)) e_11_33 S3 (ac_32s_1_9_0 s hs) (by omega) ?_
    refine dq_iconst e_11_36 ?_
    refine dq_iadd (e := dW ((dG N2 (65545 + 26624 * s)) + 1)) e_11_37 rfl ?_
    have S6 := dS_P (v := dW ((dG N2 (65545 + 26624 * s)) + 1)) S3 (ac_32s_1_9_0 s hs) (show (32 + 13 * s) * 2048 + 9 = (65545 + 26624 * s) by omega)
    refine dq_put (key := (65545 + 26624 * s)) e_11_38 S3 (ac_32s_1_9_0 s hs) rfl (by omega) ?_
    refine dq_aload e_11_41 l0 ?_
    refine dq_iconst e_11_42 ?_
    refine dq_aload e_11_43 l0 ?_
    refine dq_let h S6 (fun N7 S8 h => ?_)
    refine dq_getI (key := (65537 + 26624 * s)) e_11_44 S8 (ac_32s_1_1_0 s hs) (by omega) ?_
    refine dq_iconst e_11_47 ?_
    refine dq_isub (e := dW ((dG N7 (65537 + 26624 * s)) - 1)) e_11_48 rfl ?_
    refine dq_max e_11_49 (⟨by decide, by decide⟩) (dW_R _) rfl rfl rfl ?_
    have S9 := dS_P (v := dMx 0 (dW ((dG N7 (65537 + 26624 * s)) - 1))) S8 (ac_32s_1_1_0 s hs) (show (32 + 13 * s) * 2048 + 1 = (65537 + 26624 * s) by omega)
    refine dq_put (key := (65537 + 26624 * s)) e_11_52 S8 (ac_32s_1_1_0 s hs) rfl (by omega) ?_
    cases h
    exact dq_retv e_11_55 rfl S9
noncomputable def fX5_endRest_S (N : mMem) (s : Nat) : Option dZ := (if dG N (65543 + 26624 * s) = 0 then dlt (dP N (63490 + 26624 * s) (dMx 0 (dW ((dG N (63490 + 26624 * s)) - (dG N (65541 + 26624 * s)))))) fun N3 => (if dG N3 (63490 + 26624 * s) = 0 then some (dP N3 (81921 + 26624 * s) (dW ((dG N3 (81921 + 26624 * s)) + 1)), 0) else some (N3, 0)) else some (N, 0))
theorem qX5_endRest_S {N : mMem} {s : Nat} {z : dZ} (hS : dS N) (hs : s < 8) (h : fX5_endRest_S N s = some z) : dQ xs Ln 0 1 14 71 (0, lv_args 0 [.ref (28 + 13 * s)], [], N) z := by
  unfold fX5_endRest_S at h
  have l0 : mLk (lv_args 0 [.ref (28 + 13 * s)]) 0 = some (.ref (28 + 13 * s)) := rfl
  generalize lv_args 0 [.ref (28 + 13 * s)] = Nl at l0 ⊢
  refine dq_aload e_71_0 l0 ?_
  refine dq_getR e_71_1 hS (ac_28s_5_16_2 s hs) ?_
  refine dq_getI (key := (65543 + 26624 * s)) e_71_4 hS (ac_32s_1_7_0 s hs) (by omega) ?_
  by_cases c1 : dG N (65543 + 26624 * s) = 0
  · rw [if_pos c1] at h
    refine dq_ifT e_71_7 (dG_R _ _) (decide_eq_true c1) ?_
    refine dq_aload e_71_11 l0 ?_
    refine dq_getR e_71_12 hS (ac_28s_5_15_2 s hs) ?_
    refine dq_iconst e_71_15 ?_
    refine dq_aload e_71_16 l0 ?_
    refine dq_getR e_71_17 hS (ac_28s_5_15_2 s hs) ?_
    refine dq_getI (key := (63490 + 26624 * s)) e_71_20 hS (ac_31s_6_2_0 s hs) (by omega) ?_
    refine dq_aload e_71_23 l0 ?_
    refine dq_getR e_71_24 hS (ac_28s_5_16_2 s hs) ?_
    refine dq_getI (key := (65541 + 26624 * s)) e_71_27 hS (ac_32s_1_5_0 s hs) (by omega) ?_
    refine dq_isub (e := dW ((dG N (63490 + 26624 * s)) - (dG N (65541 + 26624 * s)))) e_71_30 rfl ?_
    refine dq_max e_71_31 (⟨by decide, by decide⟩) (dW_R _) rfl rfl rfl ?_
    have S2 := dS_P (v := dMx 0 (dW ((dG N (63490 + 26624 * s)) - (dG N (65541 + 26624 * s))))) hS (ac_31s_6_2_0 s hs) (show (31 + 13 * s) * 2048 + 2 = (63490 + 26624 * s) by omega)
    refine dq_put (key := (63490 + 26624 * s)) e_71_34 hS (ac_31s_6_2_0 s hs) rfl (by omega) ?_
    refine dq_aload e_71_37 l0 ?_
    refine dq_getR e_71_38 S2 (ac_28s_5_15_2 s hs) ?_
    refine dq_let h S2 (fun N3 S4 h => ?_)
    refine dq_getI (key := (63490 + 26624 * s)) e_71_41 S4 (ac_31s_6_2_0 s hs) (by omega) ?_
    by_cases c5 : dG N3 (63490 + 26624 * s) = 0
    · rw [if_pos c5] at h
      refine dq_ifF e_71_44 (dG_R _ _) (dnf c5) ?_
      refine dq_aload e_71_47 l0 ?_
      refine dq_getR e_71_48 S4 (ac_28s_5_18_2 s hs) ?_
      refine dq_iconst e_71_51 ?_
      refine dq_dup2 e_71_52 rfl rfl ?_
      refine dq_ial (key := (81921 + 26624 * s)) e_71_53 S4 (aa_40s s hs) (⟨by decide, by decide⟩) (by decide) (by decide) (by show (40 + 13 * s) * 2048 + 1 = (81921 + 26624 * s); omega) ?_
      refine dq_iconst e_71_54 ?_
      refine dq_iadd (e := dW ((dG N3 (81921 + 26624 * s)) + 1)) e_71_55 rfl ?_
      have S6 := dS_A (v := dW ((dG N3 (81921 + 26624 * s)) + 1)) (k := (1 : Int).toNat) (key := (81921 + 26624 * s)) S4 (aa_40s s hs) (by decide) (by show (40 + 13 * s) * 2048 + 1 = (81921 + 26624 * s); omega)
      refine dq_ias (key := (81921 + 26624 * s)) e_71_56 S4 (aa_40s s hs) (⟨by decide, by decide⟩) (by decide) (by decide) (by show (40 + 13 * s) * 2048 + 1 = (81921 + 26624 * s); omega) ?_
      cases h
      exact dq_retv e_71_57 rfl S6
    · rw [if_neg c5] at h
      refine dq_ifT e_71_44 (dG_R _ _) (dnt c5) ?_
      cases h
      exact dq_retv e_71_57 rfl S4
  · rw [if_neg c1] at h
    refine dq_ifF e_71_7 (dG_R _ _) (decide_eq_false c1) ?_
    cases h
    exact dq_retv e_71_10 rfl hS
noncomputable def fX4_at_Lc0_b24 (N : mMem) : Option dZ := some (N, (-1))
theorem qX4_at_Lc0_b24 {Nl : List (Nat × Value)} {N : mMem} {z : dZ} (hS : dS N) (h : fX4_at_Lc0_b24 N = some z) : dQ xs Ln 1 0 0 61 (24, Nl, [], N) z := by
  unfold fX4_at_Lc0_b24 at h
  refine dq_iconst e_61_24 ?_
  cases h
  exact dq_reti (ty := .int) e_61_25 rfl rfl hS (⟨by decide, by decide⟩)
noncomputable def fX4_at_Lc0 (N : mMem) (s : Nat) (x1 : Int) : Option dZ := (if x1 < 0 then fX4_at_Lc0_b24 N else (if x1 < dG N (67587 + 26624 * s) then dgd (0 ≤ x1 ∧ x1 < 8) <| some (N, dG N (71680 + 26624 * s + (x1).toNat)) else fX4_at_Lc0_b24 N))
theorem qX4_at_Lc0 {N : mMem} {s : Nat} {x1 : Int} {z : dZ} (hS : dS N) (hs : s < 8) (rx1 : dR x1) (h : fX4_at_Lc0 N s x1 = some z) : dQ xs Ln 1 0 0 61 (0, lv_args 0 [.ref (33 + 13 * s), .int (dI x1), .int (dI 0)], [], N) z := by
  unfold fX4_at_Lc0 at h
  have l0 : mLk (lv_args 0 [.ref (33 + 13 * s), .int (dI x1), .int (dI 0)]) 0 = some (.ref (33 + 13 * s)) := rfl
  have l1 : mLk (lv_args 0 [.ref (33 + 13 * s), .int (dI x1), .int (dI 0)]) 1 = some (.int (dI x1)) := rfl
  have l2 : mLk (lv_args 0 [.ref (33 + 13 * s), .int (dI x1), .int (dI 0)]) 2 = some (.int (dI 0)) := rfl
  generalize lv_args 0 [.ref (33 + 13 * s), .int (dI x1), .int (dI 0)] = Nl at l0 l1 l2 ⊢
  refine dq_iload e_61_0 l1 ?_
  by_cases c1 : x1 < 0
  · rw [if_pos c1] at h
    refine dq_ifT e_61_1 rx1 (decide_eq_true c1) ?_
    exact qX4_at_Lc0_b24 hS h
  · rw [if_neg c1] at h
    refine dq_ifF e_61_1 rx1 (decide_eq_false c1) ?_
    refine dq_iload e_61_4 l1 ?_
    refine dq_aload e_61_5 l0 ?_
    refine dq_getI (key := (67587 + 26624 * s)) e_61_6 hS (ac_33s_4_3_0 s hs) (by omega) ?_
    by_cases c2 : x1 < dG N (67587 + 26624 * s)
    · rw [if_pos c2] at h
      refine dq_icF e_61_9 rx1 (dG_R _ _) (dnf c2) ?_
      refine dq_iload e_61_12 l2 ?_
      refine dq_ifF e_61_13 (⟨by decide, by decide⟩) (by decide +kernel) ?_
      refine dq_iload e_61_16 l2 ?_
      refine dq_aload e_61_17 l0 ?_
      refine dq_getC (e := 5) e_61_18 hS (ac_33s_4_1_1 s hs) rfl ?_
      refine dq_icT e_61_21 (⟨by decide, by decide⟩) (⟨by decide, by decide⟩) (by decide +kernel) ?_
      refine dq_aload e_61_26 l0 ?_
      refine dq_getR e_61_27 hS (ac_33s_4_2_2 s hs) ?_
      refine dq_iload e_61_30 l2 ?_
      refine dq_aal (n := 0) e_61_31 hS ⟨by decide, by decide⟩ (by decide) rfl (ac_34s_101_0_2 s hs) rfl ?_
      refine dq_iload e_61_32 l1 ?_
      obtain ⟨g3, h⟩ := dgd_inv h
      refine dq_ial (key := (71680 + 26624 * s + (x1).toNat)) e_61_33 hS (aa_35s s hs) rx1 g3.1 g3.2 (by omega) ?_
      cases h
      exact dq_reti (ty := .int) e_61_34 rfl rfl hS (dG_R _ _)
    · rw [if_neg c2] at h
      refine dq_icT e_61_9 rx1 (dG_R _ _) (dnt c2) ?_
      exact qX4_at_Lc0_b24 hS h
noncomputable def fX4_at_Lc3_b24 (N : mMem) : Option dZ := some (N, (-1))
theorem qX4_at_Lc3_b24 {Nl : List (Nat × Value)} {N : mMem} {z : dZ} (hS : dS N) (h : fX4_at_Lc3_b24 N = some z) : dQ xs Ln 1 0 0 61 (24, Nl, [], N) z := by
  unfold fX4_at_Lc3_b24 at h
  refine dq_iconst e_61_24 ?_
  cases h
  exact dq_reti (ty := .int) e_61_25 rfl rfl hS (⟨by decide, by decide⟩)
noncomputable def fX4_at_Lc3 (N : mMem) (s : Nat) (x1 : Int) : Option dZ := (if x1 < 0 then fX4_at_Lc3_b24 N else (if x1 < dG N (67587 + 26624 * s) then dgd (0 ≤ x1 ∧ x1 < 8) <| some (N, dG N (77824 + 26624 * s + (x1).toNat)) else fX4_at_Lc3_b24 N))
theorem qX4_at_Lc3 {N : mMem} {s : Nat} {x1 : Int} {z : dZ} (hS : dS N) (hs : s < 8) (rx1 : dR x1) (h : fX4_at_Lc3 N s x1 = some z) : dQ xs Ln 1 0 0 61 (0, lv_args 0 [.ref (33 + 13 * s), .int (dI x1), .int (dI 3)], [], N) z := by
  unfold fX4_at_Lc3 at h
  have l0 : mLk (lv_args 0 [.ref (33 + 13 * s), .int (dI x1), .int (dI 3)]) 0 = some (.ref (33 + 13 * s)) := rfl
  have l1 : mLk (lv_args 0 [.ref (33 + 13 * s), .int (dI x1), .int (dI 3)]) 1 = some (.int (dI x1)) := rfl
  have l2 : mLk (lv_args 0 [.ref (33 + 13 * s), .int (dI x1), .int (dI 3)]) 2 = some (.int (dI 3)) := rfl
  generalize lv_args 0 [.ref (33 + 13 * s), .int (dI x1), .int (dI 3)] = Nl at l0 l1 l2 ⊢
  refine dq_iload e_61_0 l1 ?_
  by_cases c1 : x1 < 0
  · rw [if_pos c1] at h
    refine dq_ifT e_61_1 rx1 (decide_eq_true c1) ?_
    exact qX4_at_Lc3_b24 hS h
  · rw [if_neg c1] at h
    refine dq_ifF e_61_1 rx1 (decide_eq_false c1) ?_
    refine dq_iload e_61_4 l1 ?_
    refine dq_aload e_61_5 l0 ?_
    refine dq_getI (key := (67587 + 26624 * s)) e_61_6 hS (ac_33s_4_3_0 s hs) (by omega) ?_
    by_cases c2 : x1 < dG N (67587 + 26624 * s)
    · rw [if_pos c2] at h
      refine dq_icF e_61_9 rx1 (dG_R _ _) (dnf c2) ?_
      refine dq_iload e_61_12 l2 ?_
      refine dq_ifF e_61_13 (⟨by decide, by decide⟩) (by decide +kernel) ?_
      refine dq_iload e_61_16 l2 ?_
      refine dq_aload e_61_17 l0 ?_
      refine dq_getC (e := 5) e_61_18 hS (ac_33s_4_1_1 s hs) rfl ?_
      refine dq_icT e_61_21 (⟨by decide, by decide⟩) (⟨by decide, by decide⟩) (by decide +kernel) ?_
      refine dq_aload e_61_26 l0 ?_
      refine dq_getR e_61_27 hS (ac_33s_4_2_2 s hs) ?_
      refine dq_iload e_61_30 l2 ?_
      refine dq_aal (n := 3) e_61_31 hS ⟨by decide, by decide⟩ (by decide) rfl (ac_34s_101_3_2 s hs) rfl ?_
      refine dq_iload e_61_32 l1 ?_
      obtain ⟨g3, h⟩ := dgd_inv h
      refine dq_ial (key := (77824 + 26624 * s + (x1).toNat)) e_61_33 hS (aa_38s s hs) rx1 g3.1 g3.2 (by omega) ?_
      cases h
      exact dq_reti (ty := .int) e_61_34 rfl rfl hS (dG_R _ _)
    · rw [if_neg c2] at h
      refine dq_icT e_61_9 rx1 (dG_R _ _) (dnt c2) ?_
      exact qX4_at_Lc3_b24 hS h
noncomputable def fX4_at_Lc4_b24 (N : mMem) : Option dZ := some (N, (-1))
theorem qX4_at_Lc4_b24 {Nl : List (Nat × Value)} {N : mMem} {z : dZ} (hS : dS N) (h : fX4_at_Lc4_b24 N = some z) : dQ xs Ln 1 0 0 61 (24, Nl, [], N) z := by
  unfold fX4_at_Lc4_b24 at h
  refine dq_iconst e_61_24 ?_
  cases h
  exact dq_reti (ty := .int) e_61_25 rfl rfl hS (⟨by decide, by decide⟩)
noncomputable def fX4_at_Lc4 (N : mMem) (s : Nat) (x1 : Int) : Option dZ := (if x1 < 0 then fX4_at_Lc4_b24 N else (if x1 < dG N (67587 + 26624 * s) then dgd (0 ≤ x1 ∧ x1 < 8) <| some (N, dG N (79872 + 26624 * s + (x1).toNat)) else fX4_at_Lc4_b24 N))
theorem qX4_at_Lc4 {N : mMem} {s : Nat} {x1 : Int} {z : dZ} (hS : dS N) (hs : s < 8) (rx1 : dR x1) (h : fX4_at_Lc4 N s x1 = some z) : dQ xs Ln 1 0 0 61 (0, lv_args 0 [.ref (33 + 13 * s), .int (dI x1), .int (dI 4)], [], N) z := by
  unfold fX4_at_Lc4 at h
  have l0 : mLk (lv_args 0 [.ref (33 + 13 * s), .int (dI x1), .int (dI 4)]) 0 = some (.ref (33 + 13 * s)) := rfl
  have l1 : mLk (lv_args 0 [.ref (33 + 13 * s), .int (dI x1), .int (dI 4)]) 1 = some (.int (dI x1)) := rfl
  have l2 : mLk (lv_args 0 [.ref (33 + 13 * s), .int (dI x1), .int (dI 4)]) 2 = some (.int (dI 4)) := rfl
  generalize lv_args 0 [.ref (33 + 13 * s), .int (dI x1), .int (dI 4)] = Nl at l0 l1 l2 ⊢
  refine dq_iload e_61_0 l1 ?_
  by_cases c1 : x1 < 0
  · rw [if_pos c1] at h
    refine dq_ifT e_61_1 rx1 (decide_eq_true c1) ?_
    exact qX4_at_Lc4_b24 hS h
  · rw [if_neg c1] at h
    refine dq_ifF e_61_1 rx1 (decide_eq_false c1) ?_
    refine dq_iload e_61_4 l1 ?_
    refine dq_aload e_61_5 l0 ?_
    refine dq_getI (key := (67587 + 26624 * s)) e_61_6 hS (ac_33s_4_3_0 s hs) (by omega) ?_
    by_cases c2 : x1 < dG N (67587 + 26624 * s)
    · rw [if_pos c2] at h
      refine dq_icF e_61_9 rx1 (dG_R _ _) (dnf c2) ?_
      refine dq_iload e_61_12 l2 ?_
      refine dq_ifF e_61_13 (⟨by decide, by decide⟩) (by decide +kernel) ?_
      refine dq_iload e_61_16 l2 ?_
      refine dq_aload e_61_17 l0 ?_
      refine dq_getC (e := 5) e_61_18 hS (ac_33s_4_1_1 s hs) rfl ?_
      refine dq_icT e_61_21 (⟨by decide, by decide⟩) (⟨by decide, by decide⟩) (by decide +kernel) ?_
      refine dq_aload e_61_26 l0 ?_
      refine dq_getR e_61_27 hS (ac_33s_4_2_2 s hs) ?_
      refine dq_iload e_61_30 l2 ?_
      refine dq_aal (n := 4) e_61_31 hS ⟨by decide, by decide⟩ (by decide) rfl (ac_34s_101_4_2 s hs) rfl ?_
      refine dq_iload e_61_32 l1 ?_
      obtain ⟨g3, h⟩ := dgd_inv h
      refine dq_ial (key := (79872 + 26624 * s + (x1).toNat)) e_61_33 hS (aa_39s s hs) rx1 g3.1 g3.2 (by omega) ?_
      cases h
      exact dq_reti (ty := .int) e_61_34 rfl rfl hS (dG_R _ _)
    · rw [if_neg c2] at h
      refine dq_icT e_61_9 rx1 (dG_R _ _) (dnt c2) ?_
      exact qX4_at_Lc4_b24 hS h
end DQG6

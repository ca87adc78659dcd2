/-! ===== functions over memory, and that the bodies run so; written by wip/dc ===== -/
section DQG9
variable {xs : Nat → Int32} {Ln : Nat}
noncomputable def fX7_look_Oc16 (N : mMem) : Option dZ := fX7_look_Oc16_b20 N
theorem qX7_look_Oc16 {N : mMem} {z : dZ} (hS : dS N) (h : fX7_look_Oc16 N = some z) : dQ xs Ln 1 1 23 90 (0, lv_args 0 [.ref 0, .int (dI 16)], [], N) z := by
  unfold fX7_look_Oc16 at h
  have l0 : mLk (lv_args 0 [.ref 0, .int (dI 16)]) 0 = some (.ref 0) := rfl
  have l1 : mLk (lv_args 0 [.ref 0, .int (dI 16)]) 1 = some (.int (dI 16)) := rfl
  generalize lv_args 0 [.ref 0, .int (dI 16)] = Nl at l0 l1 ⊢
  refine dq_iload e_90_0 l1 ?_
  refine dq_ifF e_90_1 (⟨by decide, by decide⟩) (by decide +kernel) ?_
  refine dq_iload e_90_4 l1 ?_
  refine dq_iconst e_90_5 ?_
  refine dq_icT e_90_7 (⟨by decide, by decide⟩) (⟨by decide, by decide⟩) (by decide +kernel) ?_
  exact qX7_look_Oc16_b20 hS l0 l1 h
noncomputable def fX3_kindSet_Rc4_b31 (k : mMem → Int → Int → Option dZ) (N : mMem) (x2 : Int) (x3 : Int) : Option dZ := k N x2 (dW (x3 + 1))
theorem qX3_kindSet_Rc4_b31 {k : mMem → Int → Int → Option dZ} (hk : ∀ {Nl : List (Nat × Value)} {N : mMem} {x2 : Int} {x3 : Int} {z : dZ}, dS N → dR x2 → dR x3 → mLk Nl 0 = some (.ref 1) → mLk Nl 1 = some (.int (dI 4)) → mLk Nl 2 = some (.int (dI x2)) → mLk Nl 3 = some (.int (dI x3)) → k N x2 x3 = some z → dQ xs Ln 1 0 0 24 (4, Nl, [], N) z) {Nl : List (Nat × Value)} {N : mMem} {x2 : Int} {x3 : Int} {z : dZ} (hS : dS N) (rx2 : dR x2) (rx3 : dR x3) (l0 : mLk Nl 0 = some (.ref 1)) (l1 : mLk Nl 1 = some (.int (dI 4))) (l2 : mLk Nl 2 = some (.int (dI x2))) (l3 : mLk Nl 3 = some (.int (dI x3))) (h : fX3_kindSet_Rc4_b31 k N x2 x3 = some z) : dQ xs Ln 1 0 0 24 (31, Nl, [], N) z := by
  unfold fX3_kindSet_Rc4_b31 at h
  refine dq_iinc (x := x3) (e := dW (x3 + 1)) e_24_31 l3 rfl rfl (fun K22 m23 mm24 => ?_)
  have m25 := mm24 0 _ (by decide) rfl l0
  have m26 := mm24 1 _ (by decide) rfl l1
  have m27 := mm24 2 _ (by decide) rfl l2
  refine dq_goto e_24_34 ?_
  exact hk hS rx2 (dW_R _) m25 m26 m27 m23 h
noncomputable def fX3_kindSet_Rc4_b4 : Nat → mMem → Int → Int → Option dZ
  | 0, _, _, _ => none
  | n + 1, N, x2, x3 => (if x3 < dG N 2048 then dgd (0 ≤ x3 ∧ x3 < 8) <| dln (x3).toNat fun u14 => (if dG N (57348 + 26624 * u14) = 4 then fX3_kindSet_Rc4_b31 (fX3_kindSet_Rc4_b4 n) N (dOr x2 (dShl 1 x3)) x3 else fX3_kindSet_Rc4_b31 (fX3_kindSet_Rc4_b4 n) N x2 x3) else some (N, x2))
theorem qX3_kindSet_Rc4_b4 : ∀ (n : Nat) {Nl : List (Nat × Value)} {N : mMem} {x2 : Int} {x3 : Int} {z : dZ}, dS N → dR x2 → dR x3 → mLk Nl 0 = some (.ref 1) → mLk Nl 1 = some (.int (dI 4)) → mLk Nl 2 = some (.int (dI x2)) → mLk Nl 3 = some (.int (dI x3)) → fX3_kindSet_Rc4_b4 n N x2 x3 = some z → dQ xs Ln 1 0 0 24 (4, Nl, [], N) z := fun n => by
  induction n with
  | zero =>
    intro Nl N x2 x3 z hS rx2 rx3 l0 l1 l2 l3 h
    cases h
  | succ n ih =>
    intro Nl N x2 x3 z hS rx2 rx3 l0 l1 l2 l3 h
    rw [fX3_kindSet_Rc4_b4] at h
    refine dq_iload e_24_4 l3 ?_
    refine dq_aload e_24_5 l0 ?_
    refine dq_getI (key := 2048) e_24_6 hS ac_1_3_0_0 (by omega) ?_
    by_cases c12 : x3 < dG N 2048
    · rw [if_pos c12] at h
      refine dq_icF e_24_9 rx3 (dG_R _ _) (dnf c12) ?_
      refine dq_aload e_24_12 l0 ?_
      refine dq_getR e_24_13 hS ac_1_3_6_2 ?_
      refine dq_iload e_24_16 l3 ?_
      obtain ⟨g13, h⟩ := dgd_inv h
      refine dq_aals h e_24_17 hS rx3 g13.1 g13.2 (fun u14 hu14 ku14 h => ?_)
      refine dq_getI (key := (57348 + 26624 * u14)) e_24_18 hS (ac_28s_5_4_0 u14 hu14) (by omega) ?_
      refine dq_iload e_24_21 l1 ?_
      by_cases c15 : dG N (57348 + 26624 * u14) = 4
      · rw [if_pos c15] at h
        refine dq_icF e_24_22 (dG_R _ _) (⟨by decide, by decide⟩) (dnf c15) ?_
        refine dq_iload e_24_25 l2 ?_
        refine dq_iconst e_24_26 ?_
        refine dq_iload e_24_27 l3 ?_
        refine dq_ishl e_24_28 ?_
        refine dq_ior e_24_29 ?_
        refine dq_istore e_24_30 rfl (fun K16 m17 mm18 => ?_)
        have m19 := mm18 0 _ (by decide) rfl l0
        have m20 := mm18 1 _ (by decide) rfl l1
        have m21 := mm18 3 _ (by decide) rfl l3
        exact qX3_kindSet_Rc4_b31 ih hS (dOr_R _ _) rx3 m19 m20 m17 m21 h
      · rw [if_neg c15] at h
        refine dq_icT e_24_22 (dG_R _ _) (⟨by decide, by decide⟩) (dnt c15) ?_
        exact qX3_kindSet_Rc4_b31 ih hS rx2 rx3 l0 l1 l2 l3 h
    · rw [if_neg c12] at h
      refine dq_icT e_24_9 rx3 (dG_R _ _) (dnt c12) ?_
      refine dq_iload e_24_37 l2 ?_
      cases h
      exact dq_reti (ty := .int) e_24_38 rfl rfl hS rx2
noncomputable def fX3_kindSet_Rc4 (N : mMem) : Option dZ := fX3_kindSet_Rc4_b4 1000 N 0 0
theorem qX3_kindSet_Rc4 {N : mMem} {z : dZ} (hS : dS N) (h : fX3_kindSet_Rc4 N = some z) : dQ xs Ln 1 0 0 24 (0, lv_args 0 [.ref 1, .int (dI 4)], [], N) z := by
  unfold fX3_kindSet_Rc4 at h
  have l0 : mLk (lv_args 0 [.ref 1, .int (dI 4)]) 0 = some (.ref 1) := rfl
  have l1 : mLk (lv_args 0 [.ref 1, .int (dI 4)]) 1 = some (.int (dI 4)) := rfl
  generalize lv_args 0 [.ref 1, .int (dI 4)] = Nl at l0 l1 ⊢
  refine dq_iconst e_24_0 ?_
  refine dq_istore e_24_1 rfl (fun K1 m2 mm3 => ?_)
  have m4 := mm3 0 _ (by decide) rfl l0
  have m5 := mm3 1 _ (by decide) rfl l1
  refine dq_iconst e_24_2 ?_
  refine dq_istore e_24_3 rfl (fun K6 m7 mm8 => ?_)
  have m9 := mm8 0 _ (by decide) rfl m4
  have m10 := mm8 1 _ (by decide) rfl m5
  have m11 := mm8 2 _ (by decide) rfl m2
  exact qX3_kindSet_Rc4_b4 _ hS (⟨by decide, by decide⟩) (⟨by decide, by decide⟩) m9 m10 m11 m7 h
noncomputable def fX7_look_Oc17_b20 (N : mMem) : Option dZ := dbd (fX3_kindSet_Rc4 N) fun N1 v2 => some (N1, v2)
theorem qX7_look_Oc17_b20 {Nl : List (Nat × Value)} {N : mMem} {z : dZ} (hS : dS N) (l0 : mLk Nl 0 = some (.ref 0)) (l1 : mLk Nl 1 = some (.int (dI 17))) (h : fX7_look_Oc17_b20 N = some z) : dQ xs Ln 1 1 23 90 (20, Nl, [], N) z := by
  unfold fX7_look_Oc17_b20 at h
  refine dq_iload e_90_20 l1 ?_
  refine dq_tsI (c := 17) (q := 182) e_90_21 (⟨by decide, by decide⟩) rfl (by decide +kernel) rfl (by decide +kernel) ?_
  refine dq_aload e_90_182 l0 ?_
  refine dq_getR e_90_183 hS ac_0_7_0_2 ?_
  refine dq_iload e_90_186 l1 ?_
  refine dq_iconst e_90_187 ?_
  refine dq_isub (e := 3) e_90_189 (by decide +kernel) ?_
  refine dq_iconst e_90_190 ?_
  refine dq_iadd (e := 4) e_90_191 (by decide +kernel) ?_
  obtain ⟨N1, v2, c3, h⟩ := dbd_inv h
  have q4 := qX3_kindSet_Rc4 (xs := xs) (Ln := Ln) hS c3
  have S5 : dS N1 := q4.2.1
  refine dq_calli (as := [.int (dI 4)]) (S := []) (nx := 195) e_90_192 rfl rfl rfl hS ak_1_3 rfl rfl rfl rfl q4 rfl ?_
  have r6 : dR v2 := q4.2.2
  cases h
  exact dq_reti (ty := .int) e_90_195 rfl rfl S5 r6
noncomputable def fX7_look_Oc17 (N : mMem) : Option dZ := fX7_look_Oc17_b20 N
theorem qX7_look_Oc17 {N : mMem} {z : dZ} (hS : dS N) (h : fX7_look_Oc17 N = some z) : dQ xs Ln 1 1 23 90 (0, lv_args 0 [.ref 0, .int (dI 17)], [], N) z := by
  unfold fX7_look_Oc17 at h
  have l0 : mLk (lv_args 0 [.ref 0, .int (dI 17)]) 0 = some (.ref 0) := rfl
  have l1 : mLk (lv_args 0 [.ref 0, .int (dI 17)]) 1 = some (.int (dI 17)) := rfl
  generalize lv_args 0 [.ref 0, .int (dI 17)] = Nl at l0 l1 ⊢
  refine dq_iload e_90_0 l1 ?_
  refine dq_ifF e_90_1 (⟨by decide, by decide⟩) (by decide +kernel) ?_
  refine dq_iload e_90_4 l1 ?_
  refine dq_iconst e_90_5 ?_
  refine dq_icT e_90_7 (⟨by decide, by decide⟩) (⟨by decide, by decide⟩) (by decide +kernel) ?_
  exact qX7_look_Oc17_b20 hS l0 l1 h
noncomputable def fX3_before_R (N : mMem) (x1 : Int) : Option dZ := (if 0 < x1 then some (N, dW (x1 - 1)) else some (N, dW ((dG N 2048) - 1)))
theorem qX3_before_R {N : mMem} {x1 : Int} {z : dZ} (hS : dS N) (rx1 : dR x1) (h : fX3_before_R N x1 = some z) : dQ xs Ln 1 0 0 20 (0, lv_args 0 [.ref 1, .int (dI x1)], [], N) z := by
  unfold fX3_before_R at h
  have l0 : mLk (lv_args 0 [.ref 1, .int (dI x1)]) 0 = some (.ref 1) := rfl
  have l1 : mLk (lv_args 0 [.ref 1, .int (dI x1)]) 1 = some (.int (dI x1)) := rfl
  generalize lv_args 0 [.ref 1, .int (dI x1)] = Nl at l0 l1 ⊢
  refine dq_iload e_20_0 l1 ?_
  by_cases c1 : 0 < x1
  · rw [if_pos c1] at h
    refine dq_ifF e_20_1 rx1 (dnf c1) ?_
    refine dq_iload e_20_4 l1 ?_
    refine dq_iconst e_20_5 ?_
    refine dq_isub (e := dW (x1 - 1)) e_20_6 rfl ?_
    refine dq_goto e_20_7 ?_
    cases h
    exact dq_reti (ty := .int) e_20_16 rfl rfl hS (dW_R _)
  · rw [if_neg c1] at h
    refine dq_ifT e_20_1 rx1 (dnt c1) ?_
    refine dq_aload e_20_10 l0 ?_
    refine dq_getI (key := 2048) e_20_11 hS ac_1_3_0_0 (by omega) ?_
    refine dq_iconst e_20_14 ?_
    refine dq_isub (e := dW ((dG N 2048) - 1)) e_20_15 rfl ?_
    cases h
    exact dq_reti (ty := .int) e_20_16 rfl rfl hS (dW_R _)
noncomputable def fX7_suspects_O_b97 (k0 : mMem → Int → Int → Option dZ) (k1 : mMem → Int → Int → Int → Int → Option dZ) (N : mMem) (x1 : Int) (x2 : Int) : Option dZ := k0 N x1 (dW (x2 + 1))
theorem qX7_suspects_O_b97 {k0 : mMem → Int → Int → Option dZ} (hk0 : ∀ {Nl : List (Nat × Value)} {N : mMem} {x1 : Int} {x2 : Int} {z : dZ}, dS N → dR x1 → dR x2 → mLk Nl 0 = some (.ref 0) → mLk Nl 1 = some (.int (dI x1)) → mLk Nl 2 = some (.int (dI x2)) → k0 N x1 x2 = some z → dQ xs Ln 1 1 21 87 (4, Nl, [], N) z) {k1 : mMem → Int → Int → Int → Int → Option dZ} (hk1 : ∀ {Nl : List (Nat × Value)} {N : mMem} {x1 : Int} {x2 : Int} {x3 : Int} {x4 : Int} {z : dZ}, dS N → dR x1 → dR x2 → dR x3 → dR x4 → mLk Nl 0 = some (.ref 0) → mLk Nl 1 = some (.int (dI x1)) → mLk Nl 2 = some (.int (dI x2)) → mLk Nl 3 = some (.int (dI x3)) → mLk Nl 4 = some (.int (dI x4)) → k1 N x1 x2 x3 x4 = some z → dQ xs Ln 1 1 21 87 (49, Nl, [], N) z) {Nl : List (Nat × Value)} {N : mMem} {x1 : Int} {x2 : Int} {z : dZ} (hS : dS N) (rx1 : dR x1) (rx2 : dR x2) (l0 : mLk Nl 0 = some (.ref 0)) (l1 : mLk Nl 1 = some (.int (dI x1))) (l2 : mLk Nl 2 = some (.int (dI x2))) (h : fX7_suspects_O_b97 k0 k1 N x1 x2 = some z) : dQ xs Ln 1 1 21 87 (97, Nl, [], N) z := by
  unfold fX7_suspects_O_b97 at h
  refine dq_iinc (x := x2) (e := dW (x2 + 1)) e_87_97 l2 rfl rfl (fun K43 m44 mm45 => ?_)
  have m46 := mm45 0 _ (by decide) rfl l0
  have m47 := mm45 1 _ (by decide) rfl l1
  refine dq_goto e_87_100 ?_
  exact hk0 hS rx1 (dW_R _) m46 m47 m44 h
noncomputable def fX7_suspects_O_b49 (k0 : mMem → Int → Int → Option dZ) : Nat → mMem → Int → Int → Int → Int → Option dZ
  | 0, _, _, _, _, _ => none
  | n + 1, N, x1, x2, x3, x4 => (if x4 < dG N 2048 then dgd (0 ≤ x3 ∧ x3 < 8) <| dln (x3).toNat fun u41 => (if dG N (57347 + 26624 * u41) = 0 then fX7_suspects_O_b97 k0 (fX7_suspects_O_b49 k0 n) N x1 x2 else dbd (fX3_before_R N x3) fun N48 v49 => fX7_suspects_O_b49 k0 n N48 (dOr x1 (dShl 1 v49)) x2 v49 (dW (x4 + 1))) else fX7_suspects_O_b97 k0 (fX7_suspects_O_b49 k0 n) N x1 x2)
theorem qX7_suspects_O_b49 {k0 : mMem → Int → Int → Option dZ} (hk0 : ∀ {Nl : List (Nat × Value)} {N : mMem} {x1 : Int} {x2 : Int} {z : dZ}, dS N → dR x1 → dR x2 → mLk Nl 0 = some (.ref 0) → mLk Nl 1 = some (.int (dI x1)) → mLk Nl 2 = some (.int (dI x2)) → k0 N x1 x2 = some z → dQ xs Ln 1 1 21 87 (4, Nl, [], N) z) : ∀ (n : Nat) {Nl : List (Nat × Value)} {N : mMem} {x1 : Int} {x2 : Int} {x3 : Int} {x4 : Int} {z : dZ}, dS N → dR x1 → dR x2 → dR x3 → dR x4 → mLk Nl 0 = some (.ref 0) → mLk Nl 1 = some (.int (dI x1)) → mLk Nl 2 = some (.int (dI x2)) → mLk Nl 3 = some (.int (dI x3)) → mLk Nl 4 = some (.int (dI x4)) → fX7_suspects_O_b49 k0 n N x1 x2 x3 x4 = some z → dQ xs Ln 1 1 21 87 (49, Nl, [], N) z := fun n => by
  induction n with
  | zero =>
    intro Nl N x1 x2 x3 x4 z hS rx1 rx2 rx3 rx4 l0 l1 l2 l3 l4 h
    cases h
  | succ n ih =>
    intro Nl N x1 x2 x3 x4 z hS rx1 rx2 rx3 rx4 l0 l1 l2 l3 l4 h
    rw [fX7_suspects_O_b49] at h
    refine dq_iload e_87_49 l4 ?_
    refine dq_aload e_87_51 l0 ?_
    refine dq_getR e_87_52 hS ac_0_7_0_2 ?_
    refine dq_getI (key := 2048) e_87_55 hS ac_1_3_0_0 (by omega) ?_
    by_cases c39 : x4 < dG N 2048
    · rw [if_pos c39] at h
      refine dq_icF e_87_58 rx4 (dG_R _ _) (dnf c39) ?_
      refine dq_aload e_87_61 l0 ?_
      refine dq_getR e_87_62 hS ac_0_7_0_2 ?_
      refine dq_getR e_87_65 hS ac_1_3_6_2 ?_
      refine dq_iload e_87_68 l3 ?_
      obtain ⟨g40, h⟩ := dgd_inv h
      refine dq_aals h e_87_69 hS rx3 g40.1 g40.2 (fun u41 hu41 ku41 h => ?_)
      refine dq_getI (key := (57347 + 26624 * u41)) e_87_70 hS (ac_28s_5_3_0 u41 hu41) (by omega) ?_
      by_cases c42 : dG N (57347 + 26624 * u41) = 0
      · rw [if_pos c42] at h
        refine dq_ifT e_87_73 (dG_R _ _) (decide_eq_true c42) ?_
        exact qX7_suspects_O_b97 hk0 ih hS rx1 rx2 l0 l1 l2 h
      · rw [if_neg c42] at h
        refine dq_ifF e_87_73 (dG_R _ _) (decide_eq_false c42) ?_
        refine dq_aload e_87_76 l0 ?_
        refine dq_getR e_87_77 hS ac_0_7_0_2 ?_
        refine dq_iload e_87_80 l3 ?_
        obtain ⟨N48, v49, c50, h⟩ := dbd_inv h
        have q51 := qX3_before_R (xs := xs) (Ln := Ln) hS rx3 c50
        have S52 : dS N48 := q51.2.1
        refine dq_calli (as := [.int (dI x3)]) (S := []) (nx := 84) e_87_81 rfl rfl rfl hS ak_1_3 rfl rfl rfl rfl q51 rfl ?_
        have r53 : dR v49 := q51.2.2
        refine dq_istore e_87_84 rfl (fun K54 m55 mm56 => ?_)
        have m57 := mm56 0 _ (by decide) rfl l0
        have m58 := mm56 1 _ (by decide) rfl l1
        have m59 := mm56 2 _ (by decide) rfl l2
        have m60 := mm56 4 _ (by decide) rfl l4
        refine dq_iload e_87_85 m58 ?_
        refine dq_iconst e_87_86 ?_
        refine dq_iload e_87_87 m55 ?_
        refine dq_ishl e_87_88 ?_
        refine dq_ior e_87_89 ?_
        refine dq_istore e_87_90 rfl (fun K61 m62 mm63 => ?_)
        have m64 := mm63 0 _ (by decide) rfl m57
        have m65 := mm63 2 _ (by decide) rfl m59
        have m66 := mm63 3 _ (by decide) rfl m55
        have m67 := mm63 4 _ (by decide) rfl m60
        refine dq_iinc (x := x4) (e := dW (x4 + 1)) e_87_91 m67 rfl rfl (fun K68 m69 mm70 => ?_)
        have m71 := mm70 0 _ (by decide) rfl m64
        have m72 := mm70 1 _ (by decide) rfl m62
        have m73 := mm70 2 _ (by decide) rfl m65
        have m74 := mm70 3 _ (by decide) rfl m66
        refine dq_goto e_87_94 ?_
        exact ih S52 (dOr_R _ _) rx2 r53 (dW_R _) m71 m72 m73 m74 m69 h
    · rw [if_neg c39] at h
      refine dq_icT e_87_58 rx4 (dG_R _ _) (dnt c39) ?_
      exact qX7_suspects_O_b97 hk0 ih hS rx1 rx2 l0 l1 l2 h
noncomputable def fX7_suspects_O_b97_2 (k : mMem → Int → Int → Option dZ) (N : mMem) (x1 : Int) (x2 : Int) : Option dZ := k N x1 (dW (x2 + 1))
theorem qX7_suspects_O_b97_2 {k : mMem → Int → Int → Option dZ} (hk : ∀ {Nl : List (Nat × Value)} {N : mMem} {x1 : Int} {x2 : Int} {z : dZ}, dS N → dR x1 → dR x2 → mLk Nl 0 = some (.ref 0) → mLk Nl 1 = some (.int (dI x1)) → mLk Nl 2 = some (.int (dI x2)) → k N x1 x2 = some z → dQ xs Ln 1 1 21 87 (4, Nl, [], N) z) {Nl : List (Nat × Value)} {N : mMem} {x1 : Int} {x2 : Int} {z : dZ} (hS : dS N) (rx1 : dR x1) (rx2 : dR x2) (l0 : mLk Nl 0 = some (.ref 0)) (l1 : mLk Nl 1 = some (.int (dI x1))) (l2 : mLk Nl 2 = some (.int (dI x2))) (h : fX7_suspects_O_b97_2 k N x1 x2 = some z) : dQ xs Ln 1 1 21 87 (97, Nl, [], N) z := by
  unfold fX7_suspects_O_b97_2 at h
  refine dq_iinc (x := x2) (e := dW (x2 + 1)) e_87_97 l2 rfl rfl (fun K75 m76 mm77 => ?_)
  have m78 := mm77 0 _ (by decide) rfl l0
  have m79 := mm77 1 _ (by decide) rfl l1
  refine dq_goto e_87_100 ?_
  exact hk hS rx1 (dW_R _) m78 m79 m76 h
noncomputable def fX7_suspects_O_b4 : Nat → mMem → Int → Int → Option dZ
  | 0, _, _, _ => none
  | n + 1, N, x1, x2 => (if x2 < dG N 2048 then dgd (0 ≤ x2 ∧ x2 < 8) <| dln (x2).toNat fun u12 => (if dG N (57348 + 26624 * u12) = 3 then dbd (fX3_before_R N x2) fun N14 v15 => fX7_suspects_O_b49 (fX7_suspects_O_b4 n) 1000 N14 (dOr x1 (dShl 1 v15)) x2 v15 0 else fX7_suspects_O_b97_2 (fX7_suspects_O_b4 n) N x1 x2) else some (N, x1))
theorem qX7_suspects_O_b4 : ∀ (n : Nat) {Nl : List (Nat × Value)} {N : mMem} {x1 : Int} {x2 : Int} {z : dZ}, dS N → dR x1 → dR x2 → mLk Nl 0 = some (.ref 0) → mLk Nl 1 = some (.int (dI x1)) → mLk Nl 2 = some (.int (dI x2)) → fX7_suspects_O_b4 n N x1 x2 = some z → dQ xs Ln 1 1 21 87 (4, Nl, [], N) z := fun n => by
  induction n with
  | zero =>
    intro Nl N x1 x2 z hS rx1 rx2 l0 l1 l2 h
    cases h
  | succ n ih =>
    intro Nl N x1 x2 z hS rx1 rx2 l0 l1 l2 h
    rw [fX7_suspects_O_b4] at h
    refine dq_iload e_87_4 l2 ?_
    refine dq_aload e_87_5 l0 ?_
    refine dq_getR e_87_6 hS ac_0_7_0_2 ?_
    refine dq_getI (key := 2048) e_87_9 hS ac_1_3_0_0 (by omega) ?_
    by_cases c10 : x2 < dG N 2048
    · rw [if_pos c10] at h
      refine dq_icF e_87_12 rx2 (dG_R _ _) (dnf c10) ?_
      refine dq_aload e_87_15 l0 ?_
      refine dq_getR e_87_16 hS ac_0_7_0_2 ?_
      refine dq_getR e_87_19 hS ac_1_3_6_2 ?_
      refine dq_iload e_87_22 l2 ?_
      obtain ⟨g11, h⟩ := dgd_inv h
      refine dq_aals h e_87_23 hS rx2 g11.1 g11.2 (fun u12 hu12 ku12 h => ?_)
      refine dq_getI (key := (57348 + 26624 * u12)) e_87_24 hS (ac_28s_5_4_0 u12 hu12) (by omega) ?_
      refine dq_iconst e_87_27 ?_
      by_cases c13 : dG N (57348 + 26624 * u12) = 3
      · rw [if_pos c13] at h
        refine dq_icF e_87_28 (dG_R _ _) (⟨by decide, by decide⟩) (dnf c13) ?_
        refine dq_aload e_87_31 l0 ?_
        refine dq_getR e_87_32 hS ac_0_7_0_2 ?_
        refine dq_iload e_87_35 l2 ?_
        obtain ⟨N14, v15, c16, h⟩ := dbd_inv h
        have q17 := qX3_before_R (xs := xs) (Ln := Ln) hS rx2 c16
        have S18 : dS N14 := q17.2.1
        refine dq_calli (as := [.int (dI x2)]) (S := []) (nx := 39) e_87_36 rfl rfl rfl hS ak_1_3 rfl rfl rfl rfl q17 rfl ?_
        have r19 : dR v15 := q17.2.2
        refine dq_istore e_87_39 rfl (fun K20 m21 mm22 => ?_)
        have m23 := mm22 0 _ (by decide) rfl l0
        have m24 := mm22 1 _ (by decide) rfl l1
        have m25 := mm22 2 _ (by decide) rfl l2
        refine dq_iload e_87_40 m24 ?_
        refine dq_iconst e_87_41 ?_
        refine dq_iload e_87_42 m21 ?_
        refine dq_ishl e_87_43 ?_
        refine dq_ior e_87_44 ?_
        refine dq_istore e_87_45 rfl (fun K26 m27 mm28 => ?_)
        have m29 := mm28 0 _ (by decide) rfl m23
        have m30 := mm28 2 _ (by decide) rfl m25
        have m31 := mm28 3 _ (by decide) rfl m21
        refine dq_iconst e_87_46 ?_
        refine dq_istore e_87_47 rfl (fun K32 m33 mm34 => ?_)
        have m35 := mm34 0 _ (by decide) rfl m29
        have m36 := mm34 1 _ (by decide) rfl m27
        have m37 := mm34 2 _ (by decide) rfl m30
        have m38 := mm34 3 _ (by decide) rfl m31
        exact qX7_suspects_O_b49 ih _ S18 (dOr_R _ _) rx2 r19 (⟨by decide, by decide⟩) m35 m36 m37 m38 m33 h
      · rw [if_neg c13] at h
        refine dq_icT e_87_28 (dG_R _ _) (⟨by decide, by decide⟩) (dnt c13) ?_
        exact qX7_suspects_O_b97_2 ih hS rx1 rx2 l0 l1 l2 h
    · rw [if_neg c10] at h
      refine dq_icT e_87_12 rx2 (dG_R _ _) (dnt c10) ?_
      refine dq_iload e_87_103 l1 ?_
      cases h
      exact dq_reti (ty := .int) e_87_104 rfl rfl hS rx1
noncomputable def fX7_suspects_O (N : mMem) : Option dZ := fX7_suspects_O_b4 1000 N 0 0
theorem qX7_suspects_O {N : mMem} {z : dZ} (hS : dS N) (h : fX7_suspects_O N = some z) : dQ xs Ln 1 1 21 87 (0, lv_args 0 [.ref 0], [], N) z := by
  unfold fX7_suspects_O at h
  have l0 : mLk (lv_args 0 [.ref 0]) 0 = some (.ref 0) := rfl
  generalize lv_args 0 [.ref 0] = Nl at l0 ⊢
  refine dq_iconst e_87_0 ?_
  refine dq_istore e_87_1 rfl (fun K1 m2 mm3 => ?_)
  have m4 := mm3 0 _ (by decide) rfl l0
  refine dq_iconst e_87_2 ?_
  refine dq_istore e_87_3 rfl (fun K5 m6 mm7 => ?_)
  have m8 := mm7 0 _ (by decide) rfl m4
  have m9 := mm7 1 _ (by decide) rfl m2
  exact qX7_suspects_O_b4 _ hS (⟨by decide, by decide⟩) (⟨by decide, by decide⟩) m8 m9 m6 h
noncomputable def fL_law_b144 (xs : Nat → Int32) (Ln : Nat) (N : mMem) : Option dZ := some (N, 0)
theorem qL_law_b144 (rLn : dR (Ln : Int)) {Nl : List (Nat × Value)} {N : mMem} {z : dZ} (hS : dS N) (h : fL_law_b144 xs Ln N = some z) : dQ xs Ln 1 8 304 99 (144, Nl, [], N) z := by
  unfold fL_law_b144 at h
  refine dq_iconst e_99_144 ?_
  cases h
  exact dq_reti (ty := .boolean) e_99_145 rfl (by decide +kernel) hS (⟨by decide, by decide⟩)
noncomputable def fL_law_b353 (xs : Nat → Int32) (Ln : Nat) (N : mMem) : Option dZ := some (N, 0)
theorem qL_law_b353 (rLn : dR (Ln : Int)) {Nl : List (Nat × Value)} {N : mMem} {z : dZ} (hS : dS N) (h : fL_law_b353 xs Ln N = some z) : dQ xs Ln 1 8 304 99 (353, Nl, [], N) z := by
  unfold fL_law_b353 at h
  refine dq_iconst e_99_353 ?_
  cases h
  exact dq_reti (ty := .boolean) e_99_354 rfl (by decide +kernel) hS (⟨by decide, by decide⟩)
noncomputable def fL_law_b465 (xs : Nat → Int32) (Ln : Nat) (N : mMem) : Option dZ := some (N, 0)
theorem qL_law_b465 (rLn : dR (Ln : Int)) {Nl : List (Nat × Value)} {N : mMem} {z : dZ} (hS : dS N) (h : fL_law_b465 xs Ln N = some z) : dQ xs Ln 1 8 304 99 (465, Nl, [], N) z := by
  unfold fL_law_b465 at h
  refine dq_iconst e_99_465 ?_
  cases h
  exact dq_reti (ty := .boolean) e_99_466 rfl (by decide +kernel) hS (⟨by decide, by decide⟩)
noncomputable def fL_law_b467 (xs : Nat → Int32) (Ln : Nat) (k0 : mMem → Int → Int → Int → Int → Int → Option dZ) (k1 : mMem → Int → Int → Int → Int → Int → Int → Option dZ) (N : mMem) (x2 : Int) (x3 : Int) (x5 : Int) (x6 : Int) (x7 : Int) (x9 : Int) : Option dZ := k1 N x2 x3 x5 x6 x7 (dW (x9 + 1))
theorem qL_law_b467 (rLn : dR (Ln : Int)) {k0 : mMem → Int → Int → Int → Int → Int → Option dZ} (hk0 : ∀ {Nl : List (Nat × Value)} {N : mMem} {x2 : Int} {x3 : Int} {x5 : Int} {x6 : Int} {x7 : Int} {z : dZ}, dS N → dR x2 → dR x3 → dR x5 → dR x6 → dR x7 → mLk Nl 0 = some (.ref 1000000) → mLk Nl 1 = some (.ref 0) → mLk Nl 2 = some (.int (dI x2)) → mLk Nl 3 = some (.int (dI x3)) → mLk Nl 5 = some (.int (dI x5)) → mLk Nl 6 = some (.int (dI x6)) → mLk Nl 7 = some (.int (dI x7)) → k0 N x2 x3 x5 x6 x7 = some z → dQ xs Ln 1 8 304 99 (186, Nl, [], N) z) {k1 : mMem → Int → Int → Int → Int → Int → Int → Option dZ} (hk1 : ∀ {Nl : List (Nat × Value)} {N : mMem} {x2 : Int} {x3 : Int} {x5 : Int} {x6 : Int} {x7 : Int} {x9 : Int} {z : dZ}, dS N → dR x2 → dR x3 → dR x5 → dR x6 → dR x7 → dR x9 → mLk Nl 0 = some (.ref 1000000) → mLk Nl 1 = some (.ref 0) → mLk Nl 2 = some (.int (dI x2)) → mLk Nl 3 = some (.int (dI x3)) → mLk Nl 5 = some (.int (dI x5)) → mLk Nl 6 = some (.int (dI x6)) → mLk Nl 7 = some (.int (dI x7)) → mLk Nl 9 = some (.int (dI x9)) → k1 N x2 x3 x5 x6 x7 x9 = some z → dQ xs Ln 1 8 304 99 (358, Nl, [], N) z) {Nl : List (Nat × Value)} {N : mMem} {x2 : Int} {x3 : Int} {x5 : Int} {x6 : Int} {x7 : Int} {x9 : Int} {z : dZ} (hS : dS N) (rx2 : dR x2) (rx3 : dR x3) (rx5 : dR x5) (rx6 : dR x6) (rx7 : dR x7) (rx9 : dR x9) (l0 : mLk Nl 0 = some (.ref 1000000)) (l1 : mLk Nl 1 = some (.ref 0)) (l2 : mLk Nl 2 = some (.int (dI x2))) (l3 : mLk Nl 3 = some (.int (dI x3))) (l5 : mLk Nl 5 = some (.int (dI x5))) (l6 : mLk Nl 6 = some (.int (dI x6))) (l7 : mLk Nl 7 = some (.int (dI x7))) (l9 : mLk Nl 9 = some (.int (dI x9))) (h : fL_law_b467 xs Ln k0 k1 N x2 x3 x5 x6 x7 x9 = some z) : dQ xs Ln 1 8 304 99 (467, Nl, [], N) z := by
  unfold fL_law_b467 at h
  refine dq_iinc (x := x9) (e := dW (x9 + 1)) e_99_467 l9 rfl rfl (fun K341 m342 mm343 => ?_)
  have m344 := mm343 0 _ (by decide) rfl l0
  have m345 := mm343 1 _ (by decide) rfl l1
  have m346 := mm343 2 _ (by decide) rfl l2
  have m347 := mm343 3 _ (by decide) rfl l3
  have m348 := mm343 5 _ (by decide) rfl l5
  have m349 := mm343 6 _ (by decide) rfl l6
  have m350 := mm343 7 _ (by decide) rfl l7
  refine dq_goto e_99_470 ?_
  exact hk1 hS rx2 rx3 rx5 rx6 rx7 (dW_R _) m344 m345 m346 m347 m348 m349 m350 m342 h
noncomputable def fL_law_b358 (xs : Nat → Int32) (Ln : Nat) (k0 : mMem → Int → Int → Int → Int → Int → Option dZ) : Nat → mMem → Int → Int → Int → Int → Int → Int → Option dZ
  | 0, _, _, _, _, _, _, _ => none
  | n + 1, N, x2, x3, x5, x6, x7, x9 => (if x9 < x2 then dbd (fX7_station_Oc3 N x9) fun N279 v280 => (if v280 = x5 then dbd (fX7_station_Oc5 N279 x9) fun N286 v287 => (if 1 < v287 then fL_law_b465 xs Ln N286 else dbd (fX7_station_Oc23 N286 x9) fun N293 v294 => (if dW (2 * x5) < v294 then fL_law_b465 xs Ln N293 else dbd (fX7_station_Oc18 N293 x9) fun N300 v301 => (if v301 = 0 then dbd (fX7_station_Oc9 N300 x9) fun N307 v308 => dbd (fX7_station_Oc2 N307 x9) fun N313 v314 => (if v314 < v308 then fL_law_b465 xs Ln N313 else dbd (fX7_station_Oc21 N313 x9) fun N320 v321 => (if 0 < v321 then dbd (fX7_mean_O N320 x9) fun N327 v328 => dbd (fX7_station_Oc23 N327 x9) fun N333 v334 => (if 0 < dCmp v328 (dW6 (1000 * v334)) then fL_law_b465 xs Ln N333 else fL_law_b467 xs Ln k0 (fL_law_b358 xs Ln k0 n) N333 x2 x3 x5 x6 x7 x9) else fL_law_b467 xs Ln k0 (fL_law_b358 xs Ln k0 n) N320 x2 x3 x5 x6 x7 x9)) else fL_law_b465 xs Ln N300))) else fL_law_b465 xs Ln N279) else k0 N x2 x3 x5 x6 (dW (x7 + 1)))
theorem qL_law_b358 (rLn : dR (Ln : Int)) {k0 : mMem → Int → Int → Int → Int → Int → Option dZ} (hk0 : ∀ {Nl : List (Nat × Value)} {N : mMem} {x2 : Int} {x3 : Int} {x5 : Int} {x6 : Int} {x7 : Int} {z : dZ}, dS N → dR x2 → dR x3 → dR x5 → dR x6 → dR x7 → mLk Nl 0 = some (.ref 1000000) → mLk Nl 1 = some (.ref 0) → mLk Nl 2 = some (.int (dI x2)) → mLk Nl 3 = some (.int (dI x3)) → mLk Nl 5 = some (.int (dI x5)) → mLk Nl 6 = some (.int (dI x6)) → mLk Nl 7 = some (.int (dI x7)) → k0 N x2 x3 x5 x6 x7 = some z → dQ xs Ln 1 8 304 99 (186, Nl, [], N) z) : ∀ (n : Nat) {Nl : List (Nat × Value)} {N : mMem} {x2 : Int} {x3 : Int} {x5 : Int} {x6 : Int} {x7 : Int} {x9 : Int} {z : dZ}, dS N → dR x2 → dR x3 → dR x5 → dR x6 → dR x7 → dR x9 → mLk Nl 0 = some (.ref 1000000) → mLk Nl 1 = some (.ref 0) → mLk Nl 2 = some (.int (dI x2)) → mLk Nl 3 = some (.int (dI x3)) → mLk Nl 5 = some (.int (dI x5)) → mLk Nl 6 = some (.int (dI x6)) → mLk Nl 7 = some (.int (dI x7)) → mLk Nl 9 = some (.int (dI x9)) → fL_law_b358 xs Ln k0 n N x2 x3 x5 x6 x7 x9 = some z → dQ xs Ln 1 8 304 99 (358, Nl, [], N) z := fun n => by
  induction n with
  | zero =>
    intro Nl N x2 x3 x5 x6 x7 x9 z hS rx2 rx3 rx5 rx6 rx7 rx9 l0 l1 l2 l3 l5 l6 l7 l9 h
    cases h
  | succ n ih =>
    intro Nl N x2 x3 x5 x6 x7 x9 z hS rx2 rx3 rx5 rx6 rx7 rx9 l0 l1 l2 l3 l5 l6 l7 l9 h
    rw [fL_law_b358] at h
    refine dq_iload e_99_358 l9 ?_
    refine dq_iload e_99_360 l2 ?_
    by_cases c278 : x9 < x2
    · rw [if_pos c278] at h
      refine dq_icF e_99_361 rx9 rx2 (dnf c278) ?_
      refine dq_aload e_99_364 l1 ?_
      refine dq_iload e_99_365 l9 ?_
      refine dq_iconst e_99_367 ?_
      obtain ⟨N279, v280, c281, h⟩ := dbd_inv h
      have q282 := qX7_station_Oc3 (xs := xs) (Ln := Ln) hS rx9 c281
      have S283 : dS N279 := q282.2.1
      refine dq_calli (as := [.int (dI x9), .int (dI 3)]) (S := []) (nx := 371) e_99_368 rfl rfl rfl hS ak_0_7 rfl rfl rfl rfl q282 rfl ?_
      have r284 : dR v280 := q282.2.2
      refine dq_iload e_99_371 l5 ?_
      by_cases c285 : v280 = x5
      · rw [if_pos c285] at h
        refine dq_icF e_99_373 r284 rx5 (dnf c285) ?_
        refine dq_aload e_99_376 l1 ?_
        refine dq_iload e_99_377 l9 ?_
        refine dq_iconst e_99_379 ?_
        obtain ⟨N286, v287, c288, h⟩ := dbd_inv h
        have q289 := qX7_station_Oc5 (xs := xs) (Ln := Ln) S283 rx9 c288
        have S290 : dS N286 := q289.2.1
        refine dq_calli (as := [.int (dI x9), .int (dI 5)]) (S := []) (nx := 383) e_99_380 rfl rfl rfl S283 ak_0_7 rfl rfl rfl rfl q289 rfl ?_
        have r291 : dR v287 := q289.2.2
        refine dq_iconst e_99_383 ?_
        by_cases c292 : 1 < v287
        · rw [if_pos c292] at h
          refine dq_icT e_99_384 r291 (⟨by decide, by decide⟩) (decide_eq_true c292) ?_
          exact qL_law_b465 rLn S290 h
        · rw [if_neg c292] at h
          refine dq_icF e_99_384 r291 (⟨by decide, by decide⟩) (decide_eq_false c292) ?_
          refine dq_aload e_99_387 l1 ?_
          refine dq_iload e_99_388 l9 ?_
          refine dq_iconst e_99_390 ?_
          obtain ⟨N293, v294, c295, h⟩ := dbd_inv h
          have q296 := qX7_station_Oc23 (xs := xs) (Ln := Ln) S290 rx9 c295
          have S297 : dS N293 := q296.2.1
          refine dq_calli (as := [.int (dI x9), .int (dI 23)]) (S := []) (nx := 395) e_99_392 rfl rfl rfl S290 ak_0_7 rfl rfl rfl rfl q296 rfl ?_
          have r298 : dR v294 := q296.2.2
          refine dq_iconst e_99_395 ?_
          refine dq_iload e_99_396 l5 ?_
          refine dq_imul (e := dW (2 * x5)) e_99_398 rfl ?_
          by_cases c299 : dW (2 * x5) < v294
          · rw [if_pos c299] at h
            refine dq_icT e_99_399 r298 (dW_R _) (decide_eq_true c299) ?_
            exact qL_law_b465 rLn S297 h
          · rw [if_neg c299] at h
            refine dq_icF e_99_399 r298 (dW_R _) (decide_eq_false c299) ?_
            refine dq_aload e_99_402 l1 ?_
            refine dq_iload e_99_403 l9 ?_
            refine dq_iconst e_99_405 ?_
            obtain ⟨N300, v301, c302, h⟩ := dbd_inv h
            have q303 := qX7_station_Oc18 (xs := xs) (Ln := Ln) S297 rx9 c302
            have S304 : dS N300 := q303.2.1
            refine dq_calli (as := [.int (dI x9), .int (dI 18)]) (S := []) (nx := 410) e_99_407 rfl rfl rfl S297 ak_0_7 rfl rfl rfl rfl q303 rfl ?_
            have r305 : dR v301 := q303.2.2
            by_cases c306 : v301 = 0
            · rw [if_pos c306] at h
              refine dq_ifF e_99_410 r305 (dnf c306) ?_
              refine dq_aload e_99_413 l1 ?_
              refine dq_iload e_99_414 l9 ?_
              refine dq_iconst e_99_416 ?_
              obtain ⟨N307, v308, c309, h⟩ := dbd_inv h
              have q310 := qX7_station_Oc9 (xs := xs) (Ln := Ln) S304 rx9 c309
              have S311 : dS N307 := q310.2.1
              refine dq_calli (as := [.int (dI x9), .int (dI 9)]) (S := []) (nx := 421) e_99_418 rfl rfl rfl S304 ak_0_7 rfl rfl rfl rfl q310 rfl ?_
              have r312 : dR v308 := q310.2.2
              refine dq_aload e_99_421 l1 ?_
              refine dq_iload e_99_422 l9 ?_
              refine dq_iconst e_99_424 ?_
              obtain ⟨N313, v314, c315, h⟩ := dbd_inv h
              have q316 := qX7_station_Oc2 (xs := xs) (Ln := Ln) S311 rx9 c315
              have S317 : dS N313 := q316.2.1
              refine dq_calli (as := [.int (dI x9), .int (dI 2)]) (S := [.int (dI v308)]) (nx := 428) e_99_425 rfl rfl rfl S311 ak_0_7 rfl rfl rfl rfl q316 rfl ?_
              have r318 : dR v314 := q316.2.2
              by_cases c319 : v314 < v308
              · rw [if_pos c319] at h
                refine dq_icT e_99_428 r312 r318 (decide_eq_true c319) ?_
                exact qL_law_b465 rLn S317 h
              · rw [if_neg c319] at h
                refine dq_icF e_99_428 r312 r318 (decide_eq_false c319) ?_
                refine dq_aload e_99_431 l1 ?_
                refine dq_iload e_99_432 l9 ?_
                refine dq_iconst e_99_434 ?_
                obtain ⟨N320, v321, c322, h⟩ := dbd_inv h
                have q323 := qX7_station_Oc21 (xs := xs) (Ln := Ln) S317 rx9 c322
                have S324 : dS N320 := q323.2.1
                refine dq_calli (as := [.int (dI x9), .int (dI 21)]) (S := []) (nx := 439) e_99_436 rfl rfl rfl S317 ak_0_7 rfl rfl rfl rfl q323 rfl ?_
                have r325 : dR v321 := q323.2.2
                by_cases c326 : 0 < v321
                · rw [if_pos c326] at h
                  refine dq_ifF e_99_439 r325 (dnf c326) ?_
                  refine dq_aload e_99_442 l1 ?_
                  refine dq_iload e_99_443 l9 ?_
                  obtain ⟨N327, v328, c329, h⟩ := dbd_inv h
                  have q330 := qX7_mean_O (xs := xs) (Ln := Ln) S324 rx9 c329
                  have S331 : dS N327 := q330.2.1
                  refine dq_calll (as := [.int (dI x9)]) (S := []) (nx := 448) e_99_445 rfl rfl rfl S324 ak_0_7 rfl rfl rfl rfl q330 rfl ?_
                  have r332 : dR6 v328 := q330.2.2
                  refine dq_lconst e_99_448 ?_
                  refine dq_aload e_99_451 l1 ?_
                  refine dq_iload e_99_452 l9 ?_
                  refine dq_iconst e_99_454 ?_
                  obtain ⟨N333, v334, c335, h⟩ := dbd_inv h
                  have q336 := qX7_station_Oc23 (xs := xs) (Ln := Ln) S331 rx9 c335
                  have S337 : dS N333 := q336.2.1
                  refine dq_calli (as := [.int (dI x9), .int (dI 23)]) (S := [.long (dJ 1000), .long (dJ v328)]) (nx := 459) e_99_456 rfl rfl rfl S331 ak_0_7 rfl rfl rfl rfl q336 rfl ?_
                  have r338 : dR v334 := q336.2.2
                  have r339 : dR6 v334 := ⟨by have := (show dR v334 from r338).1; omega, by have := (show dR v334 from r338).2; omega⟩
                  refine dq_i2l e_99_459 r338 ?_
                  refine dq_lmul e_99_460 rfl ?_
                  refine dq_lcmp e_99_461 r332 (dW6_R _) ?_
                  by_cases c340 : 0 < dCmp v328 (dW6 (1000 * v334))
                  · rw [if_pos c340] at h
                    refine dq_ifF e_99_462 (dCmp_R _ _) (dnf c340) ?_
                    exact qL_law_b465 rLn S337 h
                  · rw [if_neg c340] at h
                    refine dq_ifT e_99_462 (dCmp_R _ _) (dnt c340) ?_
                    exact qL_law_b467 rLn hk0 ih S337 rx2 rx3 rx5 rx6 rx7 rx9 l0 l1 l2 l3 l5 l6 l7 l9 h
                · rw [if_neg c326] at h
                  refine dq_ifT e_99_439 r325 (dnt c326) ?_
                  exact qL_law_b467 rLn hk0 ih S324 rx2 rx3 rx5 rx6 rx7 rx9 l0 l1 l2 l3 l5 l6 l7 l9 h
            · rw [if_neg c306] at h
              refine dq_ifT e_99_410 r305 (dnt c306) ?_
              exact qL_law_b465 rLn S304 h
      · rw [if_neg c285] at h
        refine dq_icT e_99_373 r284 rx5 (dnt c285) ?_
        exact qL_law_b465 rLn S283 h
    · rw [if_neg c278] at h
      refine dq_icT e_99_361 rx9 rx2 (dnt c278) ?_
      refine dq_iinc (x := x7) (e := dW (x7 + 1)) e_99_473 l7 rfl rfl (fun K351 m352 mm353 => ?_)
      have m354 := mm353 0 _ (by decide) rfl l0
      have m355 := mm353 1 _ (by decide) rfl l1
      have m356 := mm353 2 _ (by decide) rfl l2
      have m357 := mm353 3 _ (by decide) rfl l3
      have m358 := mm353 5 _ (by decide) rfl l5
      have m359 := mm353 6 _ (by decide) rfl l6
      refine dq_goto e_99_476 ?_
      exact hk0 hS rx2 rx3 rx5 rx6 (dW_R _) m354 m355 m356 m357 m358 m359 m352 h
noncomputable def fL_law_b285 (xs : Nat → Int32) (Ln : Nat) (k : mMem → Int → Int → Int → Int → Int → Option dZ) (N : mMem) (x2 : Int) (x3 : Int) (x5 : Int) (x6 : Int) (x7 : Int) (x8 : Int) : Option dZ := dbd (fL_between xs Ln N (dShr x8 16) 1 120) fun N214 v215 => dbd (fX7_tick_O N214 v215) fun N220 v221 => dbd (fL_areUpBy_O xs Ln N220 x3) fun N226 v227 => (if v227 = 0 then fL_law_b353 xs Ln N226 else dbd (fX7_look_Oc13 N226) fun N233 v234 => (if v234 = 1 then dbd (fX7_count_Oc5 N233) fun N240 v241 => (if v241 = x6 then dbd (fX7_count_Oc2 N240) fun N247 v248 => (if v248 = 0 then dbd (fX7_count_Oc3 N247) fun N254 v255 => (if v255 = 0 then dbd (fX7_count_Oc1 N254) fun N261 v262 => (if v262 = 0 then fL_law_b358 xs Ln k 1000 N261 x2 x3 x5 x6 x7 0 else fL_law_b353 xs Ln N261) else fL_law_b353 xs Ln N254) else fL_law_b353 xs Ln N247) else fL_law_b353 xs Ln N240) else fL_law_b353 xs Ln N233))
theorem qL_law_b285 (rLn : dR (Ln : Int)) {k : mMem → Int → Int → Int → Int → Int → Option dZ} (hk : ∀ {Nl : List (Nat × Value)} {N : mMem} {x2 : Int} {x3 : Int} {x5 : Int} {x6 : Int} {x7 : Int} {z : dZ}, dS N → dR x2 → dR x3 → dR x5 → dR x6 → dR x7 → mLk Nl 0 = some (.ref 1000000) → mLk Nl 1 = some (.ref 0) → mLk Nl 2 = some (.int (dI x2)) → mLk Nl 3 = some (.int (dI x3)) → mLk Nl 5 = some (.int (dI x5)) → mLk Nl 6 = some (.int (dI x6)) → mLk Nl 7 = some (.int (dI x7)) → k N x2 x3 x5 x6 x7 = some z → dQ xs Ln 1 8 304 99 (186, Nl, [], N) z) {Nl : List (Nat × Value)} {N : mMem} {x2 : Int} {x3 : Int} {x5 : Int} {x6 : Int} {x7 : Int} {x8 : Int} {z : dZ} (hS : dS N) (rx2 : dR x2) (rx3 : dR x3) (rx5 : dR x5) (rx6 : dR x6) (rx7 : dR x7) (rx8 : dR x8) (l0 : mLk Nl 0 = some (.ref 1000000)) (l1 : mLk Nl 1 = some (.ref 0)) (l2 : mLk Nl 2 = some (.int (dI x2))) (l3 : mLk Nl 3 = some (.int (dI x3))) (l5 : mLk Nl 5 = some (.int (dI x5))) (l6 : mLk Nl 6 = some (.int (dI x6))) (l7 : mLk Nl 7 = some (.int (dI x7))) (l8 : mLk Nl 8 = some (.int (dI x8))) (h : fL_law_b285 xs Ln k N x2 x3 x5 x6 x7 x8 = some z) : dQ xs Ln 1 8 304 99 (285, Nl, [], N) z := by
  unfold fL_law_b285 at h
  refine dq_aload e_99_285 l1 ?_
  refine dq_iload e_99_286 l8 ?_
  refine dq_iconst e_99_288 ?_
  refine dq_ishr e_99_290 ?_
  refine dq_iconst e_99_291 ?_
  refine dq_iconst e_99_292 ?_
  obtain ⟨N214, v215, c216, h⟩ := dbd_inv h
  have q217 := qL_between (xs := xs) (Ln := Ln) rLn hS (dShr_R _ _) (⟨by decide, by decide⟩) (⟨by decide, by decide⟩) c216
  have S218 : dS N214 := q217.2.1
  refine dq_callsi (as := [.int (dI (dShr x8 16)), .int (dI 1), .int (dI 120)]) (S := [.ref 0]) (nx := 297) e_99_294 rfl rfl rfl rfl rfl rfl rfl q217 rfl ?_
  have r219 : dR v215 := q217.2.2
  obtain ⟨N220, v221, c222, h⟩ := dbd_inv h
  have q223 := qX7_tick_O (xs := xs) (Ln := Ln) S218 r219 c222
  have S224 : dS N220 := q223.2.1
  refine dq_calli (as := [.int (dI v215)]) (S := []) (nx := 300) e_99_297 rfl rfl rfl S218 ak_0_7 rfl rfl rfl rfl q223 rfl ?_
  have r225 : dR v221 := q223.2.2
  refine dq_pop e_99_300 rfl ?_
  refine dq_aload e_99_301 l1 ?_
  refine dq_iload e_99_302 l3 ?_
  obtain ⟨N226, v227, c228, h⟩ := dbd_inv h
  have q229 := qL_areUpBy_O (xs := xs) (Ln := Ln) rLn S224 rx3 c228
  have S230 : dS N226 := q229.2.1
  refine dq_callsi (as := [.ref 0, .int (dI x3)]) (S := []) (nx := 306) e_99_303 rfl rfl rfl rfl rfl rfl rfl q229 rfl ?_
  have r231 : dR v227 := q229.2.2
  by_cases c232 : v227 = 0
  · rw [if_pos c232] at h
    refine dq_ifT e_99_306 r231 (decide_eq_true c232) ?_
    exact qL_law_b353 rLn S230 h
  · rw [if_neg c232] at h
    refine dq_ifF e_99_306 r231 (decide_eq_false c232) ?_
    refine dq_aload e_99_309 l1 ?_
    refine dq_iconst e_99_310 ?_
    obtain ⟨N233, v234, c235, h⟩ := dbd_inv h
    have q236 := qX7_look_Oc13 (xs := xs) (Ln := Ln) S230 c235
    have S237 : dS N233 := q236.2.1
    refine dq_calli (as := [.int (dI 13)]) (S := []) (nx := 315) e_99_312 rfl rfl rfl S230 ak_0_7 rfl rfl rfl rfl q236 rfl ?_
    have r238 : dR v234 := q236.2.2
    refine dq_iconst e_99_315 ?_
    by_cases c239 : v234 = 1
    · rw [if_pos c239] at h
      refine dq_icF e_99_316 r238 (⟨by decide, by decide⟩) (dnf c239) ?_
      refine dq_aload e_99_319 l1 ?_
      refine dq_iconst e_99_320 ?_
      obtain ⟨N240, v241, c242, h⟩ := dbd_inv h
      have q243 := qX7_count_Oc5 (xs := xs) (Ln := Ln) S237 c242
      have S244 : dS N240 := q243.2.1
      refine dq_calli (as := [.int (dI 5)]) (S := []) (nx := 324) e_99_321 rfl rfl rfl S237 ak_0_7 rfl rfl rfl rfl q243 rfl ?_
      have r245 : dR v241 := q243.2.2
      refine dq_iload e_99_324 l6 ?_
      by_cases c246 : v241 = x6
      · rw [if_pos c246] at h
        refine dq_icF e_99_326 r245 rx6 (dnf c246) ?_
        refine dq_aload e_99_329 l1 ?_
        refine dq_iconst e_99_330 ?_
        obtain ⟨N247, v248, c249, h⟩ := dbd_inv h
        have q250 := qX7_count_Oc2 (xs := xs) (Ln := Ln) S244 c249
        have S251 : dS N247 := q250.2.1
        refine dq_calli (as := [.int (dI 2)]) (S := []) (nx := 334) e_99_331 rfl rfl rfl S244 ak_0_7 rfl rfl rfl rfl q250 rfl ?_
        have r252 : dR v248 := q250.2.2
        by_cases c253 : v248 = 0
        · rw [if_pos c253] at h
          refine dq_ifF e_99_334 r252 (dnf c253) ?_
          refine dq_aload e_99_337 l1 ?_
          refine dq_iconst e_99_338 ?_
          obtain ⟨N254, v255, c256, h⟩ := dbd_inv h
          have q257 := qX7_count_Oc3 (xs := xs) (Ln := Ln) S251 c256
          have S258 : dS N254 := q257.2.1
          refine dq_calli (as := [.int (dI 3)]) (S := []) (nx := 342) e_99_339 rfl rfl rfl S251 ak_0_7 rfl rfl rfl rfl q257 rfl ?_
          have r259 : dR v255 := q257.2.2
          by_cases c260 : v255 = 0
          · rw [if_pos c260] at h
            refine dq_ifF e_99_342 r259 (dnf c260) ?_
            refine dq_aload e_99_345 l1 ?_
            refine dq_iconst e_99_346 ?_
            obtain ⟨N261, v262, c263, h⟩ := dbd_inv h
            have q264 := qX7_count_Oc1 (xs := xs) (Ln := Ln) S258 c263
            have S265 : dS N261 := q264.2.1
            refine dq_calli (as := [.int (dI 1)]) (S := []) (nx := 350) e_99_347 rfl rfl rfl S258 ak_0_7 rfl rfl rfl rfl q264 rfl ?_
            have r266 : dR v262 := q264.2.2
            by_cases c267 : v262 = 0
            · rw [if_pos c267] at h
              refine dq_ifT e_99_350 r266 (decide_eq_true c267) ?_
              refine dq_iconst e_99_355 ?_
              refine dq_istore e_99_356 rfl (fun K268 m269 mm270 => ?_)
              have m271 := mm270 0 _ (by decide) rfl l0
              have m272 := mm270 1 _ (by decide) rfl l1
              have m273 := mm270 2 _ (by decide) rfl l2
              have m274 := mm270 3 _ (by decide) rfl l3
              have m275 := mm270 5 _ (by decide) rfl l5
              have m276 := mm270 6 _ (by decide) rfl l6
              have m277 := mm270 7 _ (by decide) rfl l7
              exact qL_law_b358 rLn hk _ S265 rx2 rx3 rx5 rx6 rx7 (⟨by decide, by decide⟩) m271 m272 m273 m274 m275 m276 m277 m269 h
            · rw [if_neg c267] at h
              refine dq_ifF e_99_350 r266 (decide_eq_false c267) ?_
              exact qL_law_b353 rLn S265 h
          · rw [if_neg c260] at h
            refine dq_ifT e_99_342 r259 (dnt c260) ?_
            exact qL_law_b353 rLn S258 h
        · rw [if_neg c253] at h
          refine dq_ifT e_99_334 r252 (dnt c253) ?_
          exact qL_law_b353 rLn S251 h
      · rw [if_neg c246] at h
        refine dq_icT e_99_326 r245 rx6 (dnt c246) ?_
        exact qL_law_b353 rLn S244 h
    · rw [if_neg c239] at h
      refine dq_icT e_99_316 r238 (⟨by decide, by decide⟩) (dnt c239) ?_
      exact qL_law_b353 rLn S237 h
noncomputable def fL_law_b530 (xs : Nat → Int32) (Ln : Nat) (N : mMem) : Option dZ := some (N, 0)
theorem qL_law_b530 (rLn : dR (Ln : Int)) {Nl : List (Nat × Value)} {N : mMem} {z : dZ} (hS : dS N) (h : fL_law_b530 xs Ln N = some z) : dQ xs Ln 1 8 304 99 (530, Nl, [], N) z := by
  unfold fL_law_b530 at h
  refine dq_iconst e_99_530 ?_
  cases h
  exact dq_reti (ty := .boolean) e_99_531 rfl (by decide +kernel) hS (⟨by decide, by decide⟩)
noncomputable def fL_law_b186 (xs : Nat → Int32) (Ln : Nat) : Nat → mMem → Int → Int → Int → Int → Int → Option dZ
  | 0, _, _, _, _, _, _ => none
  | n + 1, N, x2, x3, x5, x6, x7 => (if x7 < 25 then dbd (fL_cell_X xs Ln N (dW (40 + x7))) fun N185 v186 => (if dAnd v186 3 = 0 then dbd (fL_between xs Ln N185 (dShr v186 2) 1 30) fun N202 v203 => dbd (fX7_storm_O N202 v203) fun N208 v209 => fL_law_b285 xs Ln (fL_law_b186 xs Ln n) N208 x2 x3 x5 x6 x7 v186 else (if dAnd v186 3 = 1 then dbd (fL_between xs Ln N185 (dShr v186 2) 0 (dW (x2 - 1))) fun N361 v362 => dbd (fL_between xs Ln N361 (dShr v186 5) 0 (dW (x2 - 1))) fun N367 v368 => dbd (fL_between xs Ln N367 (dShr v186 8) 1 3) fun N373 v374 => dbd (fL_between xs Ln N373 (dShr v186 10) 1 20) fun N379 v380 => dbd (fX7_frame_O N379 v362 v368 v374 v380) fun N385 v386 => fL_law_b285 xs Ln (fL_law_b186 xs Ln n) N385 x2 x3 x5 x6 x7 v186 else fL_law_b285 xs Ln (fL_law_b186 xs Ln n) N185 x2 x3 x5 x6 x7 v186)) else dbd (fX7_look_Oc22 N) fun N391 v392 => (if dW (2 * x5) < v392 then fL_law_b530 xs Ln N391 else dbd (fX7_look_Oc15 N391) fun N398 v399 => (if v399 = 0 then dbd (fX7_look_Oc16 N398) fun N405 v406 => (if v406 = 0 then dbd (fX7_look_Oc17 N405) fun N412 v413 => (if v413 = 0 then dbd (fX7_suspects_O N412) fun N419 v420 => (if v420 = 0 then some (N419, 1) else fL_law_b530 xs Ln N419) else fL_law_b530 xs Ln N412) else fL_law_b530 xs Ln N405) else fL_law_b530 xs Ln N398)))
theorem qL_law_b186 (rLn : dR (Ln : Int)) : ∀ (n : Nat) {Nl : List (Nat × Value)} {N : mMem} {x2 : Int} {x3 : Int} {x5 : Int} {x6 : Int} {x7 : Int} {z : dZ}, dS N → dR x2 → dR x3 → dR x5 → dR x6 → dR x7 → mLk Nl 0 = some (.ref 1000000) → mLk Nl 1 = some (.ref 0) → mLk Nl 2 = some (.int (dI x2)) → mLk Nl 3 = some (.int (dI x3)) → mLk Nl 5 = some (.int (dI x5)) → mLk Nl 6 = some (.int (dI x6)) → mLk Nl 7 = some (.int (dI x7)) → fL_law_b186 xs Ln n N x2 x3 x5 x6 x7 = some z → dQ xs Ln 1 8 304 99 (186, Nl, [], N) z := fun n => by
  induction n with
  | zero =>
    intro Nl N x2 x3 x5 x6 x7 z hS rx2 rx3 rx5 rx6 rx7 l0 l1 l2 l3 l5 l6 l7 h
    cases h
  | succ n ih =>
    intro Nl N x2 x3 x5 x6 x7 z hS rx2 rx3 rx5 rx6 rx7 l0 l1 l2 l3 l5 l6 l7 h
    rw [fL_law_b186] at h
    refine dq_iload e_99_186 l7 ?_
    refine dq_iconst e_99_188 ?_
    by_cases c184 : x7 < 25
    · rw [if_pos c184] at h
      refine dq_icF e_99_190 rx7 (⟨by decide, by decide⟩) (dnf c184) ?_
      refine dq_aload e_99_193 l0 ?_
      refine dq_iconst e_99_194 ?_
      refine dq_iload e_99_196 l7 ?_
      refine dq_iadd (e := dW (40 + x7)) e_99_198 rfl ?_
      obtain ⟨N185, v186, c187, h⟩ := dbd_inv h
      have q188 := qL_cell_X (xs := xs) (Ln := Ln) rLn hS (dW_R _) c187
      have S189 : dS N185 := q188.2.1
      refine dq_callsi (as := [.ref 1000000, .int (dI (dW (40 + x7)))]) (S := []) (nx := 202) e_99_199 rfl rfl rfl rfl rfl rfl rfl q188 rfl ?_
      have r190 : dR v186 := q188.2.2
      refine dq_istore e_99_202 rfl (fun K191 m192 mm193 => ?_)
      have m194 := mm193 0 _ (by decide) rfl l0
      have m195 := mm193 1 _ (by decide) rfl l1
      have m196 := mm193 2 _ (by decide) rfl l2
      have m197 := mm193 3 _ (by decide) rfl l3
      have m198 := mm193 5 _ (by decide) rfl l5
      have m199 := mm193 6 _ (by decide) rfl l6
      have m200 := mm193 7 _ (by decide) rfl l7
      refine dq_iload e_99_204 m192 ?_
      refine dq_iconst e_99_206 ?_
      refine dq_iand e_99_207 ?_
      by_cases c201 : dAnd v186 3 = 0
      · rw [if_pos c201] at h
        refine dq_ifF e_99_208 (dAnd_R _ _) (dnf c201) ?_
        refine dq_aload e_99_211 m195 ?_
        refine dq_iload e_99_212 m192 ?_
        refine dq_iconst e_99_214 ?_
        refine dq_ishr e_99_215 ?_
        refine dq_iconst e_99_216 ?_
        refine dq_iconst e_99_217 ?_
        obtain ⟨N202, v203, c204, h⟩ := dbd_inv h
        have q205 := qL_between (xs := xs) (Ln := Ln) rLn S189 (dShr_R _ _) (⟨by decide, by decide⟩) (⟨by decide, by decide⟩) c204
        have S206 : dS N202 := q205.2.1
        refine dq_callsi (as := [.int (dI (dShr v186 2)), .int (dI 1), .int (dI 30)]) (S := [.ref 0]) (nx := 222) e_99_219 rfl rfl rfl rfl rfl rfl rfl q205 rfl ?_
        have r207 : dR v203 := q205.2.2
        obtain ⟨N208, v209, c210, h⟩ := dbd_inv h
        have q211 := qX7_storm_O (xs := xs) (Ln := Ln) S206 r207 c210
        have S212 : dS N208 := q211.2.1
        refine dq_calli (as := [.int (dI v203)]) (S := []) (nx := 225) e_99_222 rfl rfl rfl S206 ak_0_7 rfl rfl rfl rfl q211 rfl ?_
        have r213 : dR v209 := q211.2.2
        refine dq_pop e_99_225 rfl ?_
        refine dq_goto e_99_226 ?_
        exact qL_law_b285 rLn ih S212 rx2 rx3 rx5 rx6 rx7 r190 m194 m195 m196 m197 m198 m199 m200 m192 h
      · rw [if_neg c201] at h
        refine dq_ifT e_99_208 (dAnd_R _ _) (dnt c201) ?_
        refine dq_iload e_99_229 m192 ?_
        refine dq_iconst e_99_231 ?_
        refine dq_iand e_99_232 ?_
        refine dq_iconst e_99_233 ?_
        by_cases c360 : dAnd v186 3 = 1
        · rw [if_pos c360] at h
          refine dq_icF e_99_234 (dAnd_R _ _) (⟨by decide, by decide⟩) (dnf c360) ?_
          refine dq_aload e_99_237 m195 ?_
          refine dq_iload e_99_238 m192 ?_
          refine dq_iconst e_99_240 ?_
          refine dq_ishr e_99_241 ?_
          refine dq_iconst e_99_242 ?_
          refine dq_iload e_99_243 m196 ?_
          refine dq_iconst e_99_244 ?_
          refine dq_isub (e := dW (x2 - 1)) e_99_245 rfl ?_
          obtain ⟨N361, v362, c363, h⟩ := dbd_inv h
          have q364 := qL_between (xs := xs) (Ln := Ln) rLn S189 (dShr_R _ _) (⟨by decide, by decide⟩) (dW_R _) c363
          have S365 : dS N361 := q364.2.1
          refine dq_callsi (as := [.int (dI (dShr v186 2)), .int (dI 0), .int (dI (dW (x2 - 1)))]) (S := [.ref 0]) (nx := 249) e_99_246 rfl rfl rfl rfl rfl rfl rfl q364 rfl ?_
          have r366 : dR v362 := q364.2.2
          refine dq_iload e_99_249 m192 ?_
          refine dq_iconst e_99_251 ?_
          refine dq_ishr e_99_252 ?_
          refine dq_iconst e_99_253 ?_
          refine dq_iload e_99_254 m196 ?_
          refine dq_iconst e_99_255 ?_
          refine dq_isub (e := dW (x2 - 1)) e_99_256 rfl ?_
          obtain ⟨N367, v368, c369, h⟩ := dbd_inv h
          have q370 := qL_between (xs := xs) (Ln := Ln) rLn S365 (dShr_R _ _) (⟨by decide, by decide⟩) (dW_R _) c369
          have S371 : dS N367 := q370.2.1
          refine dq_callsi (as := [.int (dI (dShr v186 5)), .int (dI 0), .int (dI (dW (x2 - 1)))]) (S := [.int (dI v362), .ref 0]) (nx := 260) e_99_257 rfl rfl rfl rfl rfl rfl rfl q370 rfl ?_
          have r372 : dR v368 := q370.2.2
          refine dq_iload e_99_260 m192 ?_
          refine dq_iconst e_99_262 ?_
          refine dq_ishr e_99_264 ?_
          refine dq_iconst e_99_265 ?_
          refine dq_iconst e_99_266 ?_
          obtain ⟨N373, v374, c375, h⟩ := dbd_inv h
          have q376 := qL_between (xs := xs) (Ln := Ln) rLn S371 (dShr_R _ _) (⟨by decide, by decide⟩) (⟨by decide, by decide⟩) c375
          have S377 : dS N373 := q376.2.1
          refine dq_callsi (as := [.int (dI (dShr v186 8)), .int (dI 1), .int (dI 3)]) (S := [.int (dI v368), .int (dI v362), .ref 0]) (nx := 270) e_99_267 rfl rfl rfl rfl rfl rfl rfl q376 rfl ?_
          have r378 : dR v374 := q376.2.2
          refine dq_iload e_99_270 m192 ?_
          refine dq_iconst e_99_272 ?_
          refine dq_ishr e_99_274 ?_
          refine dq_iconst e_99_275 ?_
          refine dq_iconst e_99_276 ?_
          obtain ⟨N379, v380, c381, h⟩ := dbd_inv h
          have q382 := qL_between (xs := xs) (Ln := Ln) rLn S377 (dShr_R _ _) (⟨by decide, by decide⟩) (⟨by decide, by decide⟩) c381
          have S383 : dS N379 := q382.2.1
          refine dq_callsi (as := [.int (dI (dShr v186 10)), .int (dI 1), .int (dI 20)]) (S := [.int (dI v374), .int (dI v368), .int (dI v362), .ref 0]) (nx := 281) e_99_278 rfl rfl rfl rfl rfl rfl rfl q382 rfl ?_
          have r384 : dR v380 := q382.2.2
          obtain ⟨N385, v386, c387, h⟩ := dbd_inv h
          have q388 := qX7_frame_O (xs := xs) (Ln := Ln) S383 r366 r372 r378 r384 c387
          have S389 : dS N385 := q388.2.1
          refine dq_calli (as := [.int (dI v362), .int (dI v368), .int (dI v374), .int (dI v380)]) (S := []) (nx := 284) e_99_281 rfl rfl rfl S383 ak_0_7 rfl rfl rfl rfl q388 rfl ?_
          have r390 : dR v386 := q388.2.2
          refine dq_pop e_99_284 rfl ?_
          exact qL_law_b285 rLn ih S389 rx2 rx3 rx5 rx6 rx7 r190 m194 m195 m196 m197 m198 m199 m200 m192 h
        · rw [if_neg c360] at h
          refine dq_icT e_99_234 (dAnd_R _ _) (⟨by decide, by decide⟩) (dnt c360) ?_
          exact qL_law_b285 rLn ih S189 rx2 rx3 rx5 rx6 rx7 r190 m194 m195 m196 m197 m198 m199 m200 m192 h
    · rw [if_neg c184] at h
      refine dq_icT e_99_190 rx7 (⟨by decide, by decide⟩) (dnt c184) ?_
      refine dq_aload e_99_479 l1 ?_
      refine dq_iconst e_99_480 ?_
      obtain ⟨N391, v392, c393, h⟩ := dbd_inv h
      have q394 := qX7_look_Oc22 (xs := xs) (Ln := Ln) hS c393
      have S395 : dS N391 := q394.2.1
      refine dq_calli (as := [.int (dI 22)]) (S := []) (nx := 485) e_99_482 rfl rfl rfl hS ak_0_7 rfl rfl rfl rfl q394 rfl ?_
      have r396 : dR v392 := q394.2.2
      refine dq_iconst e_99_485 ?_
      refine dq_iload e_99_486 l5 ?_
      refine dq_imul (e := dW (2 * x5)) e_99_488 rfl ?_
      by_cases c397 : dW (2 * x5) < v392
      · rw [if_pos c397] at h
        refine dq_icT e_99_489 r396 (dW_R _) (decide_eq_true c397) ?_
        exact qL_law_b530 rLn S395 h
      · rw [if_neg c397] at h
        refine dq_icF e_99_489 r396 (dW_R _) (decide_eq_false c397) ?_
        refine dq_aload e_99_492 l1 ?_
        refine dq_iconst e_99_493 ?_
        obtain ⟨N398, v399, c400, h⟩ := dbd_inv h
        have q401 := qX7_look_Oc15 (xs := xs) (Ln := Ln) S395 c400
        have S402 : dS N398 := q401.2.1
        refine dq_calli (as := [.int (dI 15)]) (S := []) (nx := 498) e_99_495 rfl rfl rfl S395 ak_0_7 rfl rfl rfl rfl q401 rfl ?_
        have r403 : dR v399 := q401.2.2
        by_cases c404 : v399 = 0
        · rw [if_pos c404] at h
          refine dq_ifF e_99_498 r403 (dnf c404) ?_
          refine dq_aload e_99_501 l1 ?_
          refine dq_iconst e_99_502 ?_
          obtain ⟨N405, v406, c407, h⟩ := dbd_inv h
          have q408 := qX7_look_Oc16 (xs := xs) (Ln := Ln) S402 c407
          have S409 : dS N405 := q408.2.1
          refine dq_calli (as := [.int (dI 16)]) (S := []) (nx := 507) e_99_504 rfl rfl rfl S402 ak_0_7 rfl rfl rfl rfl q408 rfl ?_
          have r410 : dR v406 := q408.2.2
          by_cases c411 : v406 = 0
          · rw [if_pos c411] at h
            refine dq_ifF e_99_507 r410 (dnf c411) ?_
            refine dq_aload e_99_510 l1 ?_
            refine dq_iconst e_99_511 ?_
            obtain ⟨N412, v413, c414, h⟩ := dbd_inv h
            have q415 := qX7_look_Oc17 (xs := xs) (Ln := Ln) S409 c414
            have S416 : dS N412 := q415.2.1
            refine dq_calli (as := [.int (dI 17)]) (S := []) (nx := 516) e_99_513 rfl rfl rfl S409 ak_0_7 rfl rfl rfl rfl q415 rfl ?_
            have r417 : dR v413 := q415.2.2
            by_cases c418 : v413 = 0
            · rw [if_pos c418] at h
              refine dq_ifF e_99_516 r417 (dnf c418) ?_
              refine dq_aload e_99_519 l1 ?_
              obtain ⟨N419, v420, c421, h⟩ := dbd_inv h
              have q422 := qX7_suspects_O (xs := xs) (Ln := Ln) S416 c421
              have S423 : dS N419 := q422.2.1
              refine dq_calli (as := []) (S := []) (nx := 523) e_99_520 rfl rfl rfl S416 ak_0_7 rfl rfl rfl rfl q422 rfl ?_
              have r424 : dR v420 := q422.2.2
              by_cases c425 : v420 = 0
              · rw [if_pos c425] at h
                refine dq_ifF e_99_523 r424 (dnf c425) ?_
                refine dq_iconst e_99_526 ?_
                refine dq_goto e_99_527 ?_
                cases h
                exact dq_reti (ty := .boolean) e_99_531 rfl (by decide +kernel) S423 (⟨by decide, by decide⟩)
              · rw [if_neg c425] at h
                refine dq_ifT e_99_523 r424 (dnt c425) ?_
                exact qL_law_b530 rLn S423 h
            · rw [if_neg c418] at h
              refine dq_ifT e_99_516 r417 (dnt c418) ?_
              exact qL_law_b530 rLn S416 h
          · rw [if_neg c411] at h
            refine dq_ifT e_99_507 r410 (dnt c411) ?_
            exact qL_law_b530 rLn S409 h
        · rw [if_neg c404] at h
          refine dq_ifT e_99_498 r403 (dnt c404) ?_
          exact qL_law_b530 rLn S402 h
noncomputable def fL_law_b181 (xs : Nat → Int32) (Ln : Nat) (N : mMem) : Option dZ := some (N, 0)
theorem qL_law_b181 (rLn : dR (Ln : Int)) {Nl : List (Nat × Value)} {N : mMem} {z : dZ} (hS : dS N) (h : fL_law_b181 xs Ln N = some z) : dQ xs Ln 1 8 304 99 (181, Nl, [], N) z := by
  unfold fL_law_b181 at h
  refine dq_iconst e_99_181 ?_
  cases h
  exact dq_reti (ty := .boolean) e_99_182 rfl (by decide +kernel) hS (⟨by decide, by decide⟩)
noncomputable def fL_law_b126 (xs : Nat → Int32) (Ln : Nat) (N : mMem) (x2 : Int) (x3 : Int) : Option dZ := dbd (fL_areUpBy_O xs Ln N x3) fun N120 v121 => (if v121 = 0 then fL_law_b144 xs Ln N120 else dbd (fX7_look_Oc13 N120) fun N127 v128 => (if v128 = 1 then dbd (fX7_station_Oc1 N127 x3) fun N134 v135 => dbd (fX7_count_Oc5 N134) fun N147 v148 => dbd (fX7_count_Oc4 N147) fun N161 v162 => (if v162 = 1 then dbd (fX7_look_Oc23 N161) fun N168 v169 => (if v169 = v135 then fL_law_b186 xs Ln 1000 N168 x2 x3 v135 v148 0 else fL_law_b181 xs Ln N168) else fL_law_b181 xs Ln N161) else fL_law_b144 xs Ln N127))
theorem qL_law_b126 (rLn : dR (Ln : Int)) {Nl : List (Nat × Value)} {N : mMem} {x2 : Int} {x3 : Int} {z : dZ} (hS : dS N) (rx2 : dR x2) (rx3 : dR x3) (l0 : mLk Nl 0 = some (.ref 1000000)) (l1 : mLk Nl 1 = some (.ref 0)) (l2 : mLk Nl 2 = some (.int (dI x2))) (l3 : mLk Nl 3 = some (.int (dI x3))) (h : fL_law_b126 xs Ln N x2 x3 = some z) : dQ xs Ln 1 8 304 99 (126, Nl, [], N) z := by
  unfold fL_law_b126 at h
  refine dq_aload e_99_126 l1 ?_
  refine dq_iload e_99_127 l3 ?_
  obtain ⟨N120, v121, c122, h⟩ := dbd_inv h
  have q123 := qL_areUpBy_O (xs := xs) (Ln := Ln) rLn hS rx3 c122
  have S124 : dS N120 := q123.2.1
  refine dq_callsi (as := [.ref 0, .int (dI x3)]) (S := []) (nx := 131) e_99_128 rfl rfl rfl rfl rfl rfl rfl q123 rfl ?_
  have r125 : dR v121 := q123.2.2
  by_cases c126 : v121 = 0
  · rw [if_pos c126] at h
    refine dq_ifT e_99_131 r125 (decide_eq_true c126) ?_
    exact qL_law_b144 rLn S124 h
  · rw [if_neg c126] at h
    refine dq_ifF e_99_131 r125 (decide_eq_false c126) ?_
    refine dq_aload e_99_134 l1 ?_
    refine dq_iconst e_99_135 ?_
    obtain ⟨N127, v128, c129, h⟩ := dbd_inv h
    have q130 := qX7_look_Oc13 (xs := xs) (Ln := Ln) S124 c129
    have S131 : dS N127 := q130.2.1
    refine dq_calli (as := [.int (dI 13)]) (S := []) (nx := 140) e_99_137 rfl rfl rfl S124 ak_0_7 rfl rfl rfl rfl q130 rfl ?_
    have r132 : dR v128 := q130.2.2
    refine dq_iconst e_99_140 ?_
    by_cases c133 : v128 = 1
    · rw [if_pos c133] at h
      refine dq_icT e_99_141 r132 (⟨by decide, by decide⟩) (decide_eq_true c133) ?_
      refine dq_aload e_99_146 l1 ?_
      refine dq_iload e_99_147 l3 ?_
      refine dq_iconst e_99_148 ?_
      obtain ⟨N134, v135, c136, h⟩ := dbd_inv h
      have q137 := qX7_station_Oc1 (xs := xs) (Ln := Ln) S131 rx3 c136
      have S138 : dS N134 := q137.2.1
      refine dq_calli (as := [.int (dI x3), .int (dI 1)]) (S := []) (nx := 152) e_99_149 rfl rfl rfl S131 ak_0_7 rfl rfl rfl rfl q137 rfl ?_
      have r139 : dR v135 := q137.2.2
      refine dq_istore e_99_152 rfl (fun K140 m141 mm142 => ?_)
      have m143 := mm142 0 _ (by decide) rfl l0
      have m144 := mm142 1 _ (by decide) rfl l1
      have m145 := mm142 2 _ (by decide) rfl l2
      have m146 := mm142 3 _ (by decide) rfl l3
      refine dq_aload e_99_154 m144 ?_
      refine dq_iconst e_99_155 ?_
      obtain ⟨N147, v148, c149, h⟩ := dbd_inv h
      have q150 := qX7_count_Oc5 (xs := xs) (Ln := Ln) S138 c149
      have S151 : dS N147 := q150.2.1
      refine dq_calli (as := [.int (dI 5)]) (S := []) (nx := 159) e_99_156 rfl rfl rfl S138 ak_0_7 rfl rfl rfl rfl q150 rfl ?_
      have r152 : dR v148 := q150.2.2
      refine dq_istore e_99_159 rfl (fun K153 m154 mm155 => ?_)
      have m156 := mm155 0 _ (by decide) rfl m143
      have m157 := mm155 1 _ (by decide) rfl m144
      have m158 := mm155 2 _ (by decide) rfl m145
      have m159 := mm155 3 _ (by decide) rfl m146
      have m160 := mm155 5 _ (by decide) rfl m141
      refine dq_aload e_99_161 m157 ?_
      refine dq_iconst e_99_162 ?_
      obtain ⟨N161, v162, c163, h⟩ := dbd_inv h
      have q164 := qX7_count_Oc4 (xs := xs) (Ln := Ln) S151 c163
      have S165 : dS N161 := q164.2.1
      refine dq_calli (as := [.int (dI 4)]) (S := []) (nx := 166) e_99_163 rfl rfl rfl S151 ak_0_7 rfl rfl rfl rfl q164 rfl ?_
      have r166 : dR v162 := q164.2.2
      refine dq_iconst e_99_166 ?_
      by_cases c167 : v162 = 1
      · rw [if_pos c167] at h
        refine dq_icF e_99_167 r166 (⟨by decide, by decide⟩) (dnf c167) ?_
        refine dq_aload e_99_170 m157 ?_
        refine dq_iconst e_99_171 ?_
        obtain ⟨N168, v169, c170, h⟩ := dbd_inv h
        have q171 := qX7_look_Oc23 (xs := xs) (Ln := Ln) S165 c170
        have S172 : dS N168 := q171.2.1
        refine dq_calli (as := [.int (dI 23)]) (S := []) (nx := 176) e_99_173 rfl rfl rfl S165 ak_0_7 rfl rfl rfl rfl q171 rfl ?_
        have r173 : dR v169 := q171.2.2
        refine dq_iload e_99_176 m160 ?_
        by_cases c174 : v169 = v135
        · rw [if_pos c174] at h
          refine dq_icT e_99_178 r173 r139 (decide_eq_true c174) ?_
          refine dq_iconst e_99_183 ?_
          refine dq_istore e_99_184 rfl (fun K175 m176 mm177 => ?_)
          have m178 := mm177 0 _ (by decide) rfl m156
          have m179 := mm177 1 _ (by decide) rfl m157
          have m180 := mm177 2 _ (by decide) rfl m158
          have m181 := mm177 3 _ (by decide) rfl m159
          have m182 := mm177 5 _ (by decide) rfl m160
          have m183 := mm177 6 _ (by decide) rfl m154
          exact qL_law_b186 rLn _ S172 rx2 rx3 r139 r152 (⟨by decide, by decide⟩) m178 m179 m180 m181 m182 m183 m176 h
        · rw [if_neg c174] at h
          refine dq_icF e_99_178 r173 r139 (decide_eq_false c174) ?_
          exact qL_law_b181 rLn S172 h
      · rw [if_neg c167] at h
        refine dq_icT e_99_167 r166 (⟨by decide, by decide⟩) (dnt c167) ?_
        exact qL_law_b181 rLn S165 h
    · rw [if_neg c133] at h
      refine dq_icF e_99_141 r132 (⟨by decide, by decide⟩) (decide_eq_false c133) ?_
      exact qL_law_b144 rLn S131 h
noncomputable def fL_law_b91 (xs : Nat → Int32) (Ln : Nat) : Nat → mMem → Int → Int → Int → Option dZ
  | 0, _, _, _, _ => none
  | n + 1, N, x2, x3, x4 => dbd (fX7_look_Oc8 N) fun N93 v94 => (if x4 < dW ((dW (3 * v94)) + x2) then dbd (fL_areUpBy_O xs Ln N93 x3) fun N100 v101 => (if v101 = 0 then dbd (fX7_tick_O N100 1) fun N107 v108 => fL_law_b91 xs Ln n N107 x2 x3 (dW (x4 + 1)) else fL_law_b126 xs Ln N100 x2 x3) else fL_law_b126 xs Ln N93 x2 x3)
theorem qL_law_b91 (rLn : dR (Ln : Int)) : ∀ (n : Nat) {Nl : List (Nat × Value)} {N : mMem} {x2 : Int} {x3 : Int} {x4 : Int} {z : dZ}, dS N → dR x2 → dR x3 → dR x4 → mLk Nl 0 = some (.ref 1000000) → mLk Nl 1 = some (.ref 0) → mLk Nl 2 = some (.int (dI x2)) → mLk Nl 3 = some (.int (dI x3)) → mLk Nl 4 = some (.int (dI x4)) → fL_law_b91 xs Ln n N x2 x3 x4 = some z → dQ xs Ln 1 8 304 99 (91, Nl, [], N) z := fun n => by
  induction n with
  | zero =>
    intro Nl N x2 x3 x4 z hS rx2 rx3 rx4 l0 l1 l2 l3 l4 h
    cases h
  | succ n ih =>
    intro Nl N x2 x3 x4 z hS rx2 rx3 rx4 l0 l1 l2 l3 l4 h
    rw [fL_law_b91] at h
    refine dq_iload e_99_91 l4 ?_
    refine dq_iconst e_99_93 ?_
    refine dq_aload e_99_94 l1 ?_
    refine dq_iconst e_99_95 ?_
    obtain ⟨N93, v94, c95, h⟩ := dbd_inv h
    have q96 := qX7_look_Oc8 (xs := xs) (Ln := Ln) hS c95
    have S97 : dS N93 := q96.2.1
    refine dq_calli (as := [.int (dI 8)]) (S := [.int (dI 3), .int (dI x4)]) (nx := 100) e_99_97 rfl rfl rfl hS ak_0_7 rfl rfl rfl rfl q96 rfl ?_
    have r98 : dR v94 := q96.2.2
    refine dq_imul (e := dW (3 * v94)) e_99_100 rfl ?_
    refine dq_iload e_99_101 l2 ?_
    refine dq_iadd (e := dW ((dW (3 * v94)) + x2)) e_99_102 rfl ?_
    by_cases c99 : x4 < dW ((dW (3 * v94)) + x2)
    · rw [if_pos c99] at h
      refine dq_icF e_99_103 rx4 (dW_R _) (dnf c99) ?_
      refine dq_aload e_99_106 l1 ?_
      refine dq_iload e_99_107 l3 ?_
      obtain ⟨N100, v101, c102, h⟩ := dbd_inv h
      have q103 := qL_areUpBy_O (xs := xs) (Ln := Ln) rLn S97 rx3 c102
      have S104 : dS N100 := q103.2.1
      refine dq_callsi (as := [.ref 0, .int (dI x3)]) (S := []) (nx := 111) e_99_108 rfl rfl rfl rfl rfl rfl rfl q103 rfl ?_
      have r105 : dR v101 := q103.2.2
      by_cases c106 : v101 = 0
      · rw [if_pos c106] at h
        refine dq_ifF e_99_111 r105 (dnf c106) ?_
        refine dq_aload e_99_114 l1 ?_
        refine dq_iconst e_99_115 ?_
        obtain ⟨N107, v108, c109, h⟩ := dbd_inv h
        have q110 := qX7_tick_O (xs := xs) (Ln := Ln) S104 (⟨by decide, by decide⟩) c109
        have S111 : dS N107 := q110.2.1
        refine dq_calli (as := [.int (dI 1)]) (S := []) (nx := 119) e_99_116 rfl rfl rfl S104 ak_0_7 rfl rfl rfl rfl q110 rfl ?_
        have r112 : dR v108 := q110.2.2
        refine dq_pop e_99_119 rfl ?_
        refine dq_iinc (x := x4) (e := dW (x4 + 1)) e_99_120 l4 rfl rfl (fun K113 m114 mm115 => ?_)
        have m116 := mm115 0 _ (by decide) rfl l0
        have m117 := mm115 1 _ (by decide) rfl l1
        have m118 := mm115 2 _ (by decide) rfl l2
        have m119 := mm115 3 _ (by decide) rfl l3
        refine dq_goto e_99_123 ?_
        exact ih S111 rx2 rx3 (dW_R _) m116 m117 m118 m119 m114 h
      · rw [if_neg c106] at h
        refine dq_ifT e_99_111 r105 (dnt c106) ?_
        exact qL_law_b126 rLn S104 rx2 rx3 l0 l1 l2 l3 h
    · rw [if_neg c99] at h
      refine dq_icT e_99_103 rx4 (dW_R _) (dnt c99) ?_
      exact qL_law_b126 rLn S97 rx2 rx3 l0 l1 l2 l3 h
end DQG9

/-! ===== a longer script changes nothing in the methods: none but the law asks for its length ===== -/
noncomputable def yXn (e : mE) : Bool := match e with
  | (_, _, _, ni, _, r1, _, _) => match ni with
    | .arraylength => false
    | .invokevirtual _ => !Nat.beq r1 253
    | .invokespecial _ => !Nat.beq r1 253
    | .invokestatic _ => !Nat.beq r1 253
    | _ => true
section YXN
variable {I : Nat → mI} {XN XN2 : Nat → Nat} {XF : Nat → Nat → Int32} {T : Nat → List mE}
theorem mCall_xn {call call2 : Nat → Nat → Nat → List Value → mMem → Option (Option Value × mMem)} {fr lo nx mi : Nat} {L : List (Nat × Value)} {as r : List Value} {M : mMem} {y : mRes} (h : mCall I call fr lo nx mi L as r M = some y)
    (hc : ∀ f l as M r, call mi f l as M = some r → call2 mi f l as M = some r) : mCall I call2 fr lo nx mi L as r M = some y := by
  unfold mCall at h ⊢
  obtain ⟨g, h⟩ := mWhen_inv h
  rw [mWhen_t g]
  cases hq : call mi (fr - 1) (lo - (19 + (I mi).2.2.1)) as M with
  | none => rw [hq] at h; cases h
  | some r =>
    rw [hq] at h
    rw [hc _ _ _ _ _ hq]
    exact h
set_option maxHeartbeats 4000000 in
theorem mDo_xn {call call2 : Nat → Nat → Nat → List Value → mMem → Option (Option Value × mMem)} {fr lo nL : Nat} {rt : Option FieldType} {e : mE} {L : List (Nat × Value)} {S : List Value} {M : mMem} {y : mRes} (hx : ∀ k, XN k ≤ XN2 k) (he : yXn e = true) (h : mDo I XN XF call fr lo nL rt e L S M = some y)
    (hc : ∀ mi, mi ≠ 253 → ∀ f l as M r, call mi f l as M = some r → call2 mi f l as M = some r) : mDo I XN2 XF call2 fr lo nL rt e L S M = some y := by
  obtain ⟨pc, len, ri, ni, v, r1, r2, wi⟩ := e
  have n253 : (!Nat.beq r1 253) = true → r1 ≠ 253 := fun h e => by rw [e] at h; cases h
  cases ni
  case arraylength => cases he
  case iaload =>
    have q : ∃ o i r, S = .int i :: .ref o :: r := by
      have h : mRI S (fun o i r => bif Nat.blt o 1000000 then mWhen (Nat.blt o M.1 && (Nat.beq (mObj M o).1 100 && mInO i (mObj M o).2.1)) (mNx (pc + len) L (.int (mIof (mSlot (mObj M o) i.toNatClampNeg)) :: r) M)
        else mWhen (Nat.blt (o - 1000000) 4 && mInB i (XN (o - 1000000))) (mNx (pc + len) L (.int (XF (o - 1000000) i.toNatClampNeg) :: r) M)) = some y := h
      unfold mRI at h
      split at h
      · exact ⟨_, _, _, rfl⟩
      · cases h
    obtain ⟨o, i, r, rfl⟩ := q
    have h : (bif Nat.blt o 1000000 then mWhen (Nat.blt o M.1 && (Nat.beq (mObj M o).1 100 && mInO i (mObj M o).2.1)) (mNx (pc + len) L (.int (mIof (mSlot (mObj M o) i.toNatClampNeg)) :: r) M)
        else mWhen (Nat.blt (o - 1000000) 4 && mInB i (XN (o - 1000000))) (mNx (pc + len) L (.int (XF (o - 1000000) i.toNatClampNeg) :: r) M)) = some y := h
    show (bif Nat.blt o 1000000 then mWhen (Nat.blt o M.1 && (Nat.beq (mObj M o).1 100 && mInO i (mObj M o).2.1)) (mNx (pc + len) L (.int (mIof (mSlot (mObj M o) i.toNatClampNeg)) :: r) M)
        else mWhen (Nat.blt (o - 1000000) 4 && mInB i (XN2 (o - 1000000))) (mNx (pc + len) L (.int (XF (o - 1000000) i.toNatClampNeg) :: r) M)) = some y
    cases c : Nat.blt o 1000000 with
    | true => rw [c, cond_true] at h; rw [cond_true]; exact h
    | false =>
      rw [c, cond_false] at h
      rw [cond_false]
      obtain ⟨g, h⟩ := mWhen_inv h
      obtain ⟨g1, g2⟩ := and_inv g
      obtain ⟨g3, g4⟩ := and_inv (show (!decide (i < 0) && Nat.blt i.toNatClampNeg (XN (o - 1000000))) = true from g2)
      have g4 := blt_lt g4
      have := hx (o - 1000000)
      rw [mWhen_t (by rw [g1]; unfold mInB; rw [g3, show Nat.blt i.toNatClampNeg (XN2 (o - 1000000)) = true from by rw [Nat.blt_eq]; omega]; rfl)]
      exact h
  case invokevirtual i =>
    have h : (mPop S (I r1).2.2.2.2.2.1 fun as r => match as with
      | .ref o :: _ => mWhen (Nat.blt o M.1 && Nat.beq (mObj M o).1 r2) (mCall I call fr lo (pc + len) r1 L as r M)
      | _ => none) = some y := h
    obtain ⟨g, h⟩ := mPop_g h
    show (mPop S (I r1).2.2.2.2.2.1 fun as r => match as with
      | .ref o :: _ => mWhen (Nat.blt o M.1 && Nat.beq (mObj M o).1 r2) (mCall I call2 fr lo (pc + len) r1 L as r M)
      | _ => none) = some y
    rw [mPop_t g]
    split at h
    · next o as hq =>
      rw [hq] at h ⊢
      obtain ⟨g2, h⟩ := mWhen_inv h
      exact (mWhen_t g2).trans (mCall_xn h (hc r1 (n253 he)))
    · cases h
  case invokespecial i =>
    rcases bif_inv2 h with ⟨c, h⟩ | ⟨c, h⟩
    · show (bif Nat.beq r2 0 then _ else _) = some y
      rw [c, cond_true]
      exact h
    · have h : (mPop S (I r1).2.2.2.2.2.1 fun as r => match as with
        | .ref _ :: _ => mCall I call fr lo (pc + len) r1 L as r M
        | _ => none) = some y := h
      obtain ⟨g, h⟩ := mPop_g h
      show (bif Nat.beq r2 0 then _ else mPop S (I r1).2.2.2.2.2.1 fun as r => match as with
        | .ref _ :: _ => mCall I call2 fr lo (pc + len) r1 L as r M
        | _ => none) = some y
      rw [c, cond_false, mPop_t g]
      split at h
      · next o as hq =>
        rw [hq] at h ⊢
        exact mCall_xn h (hc r1 (n253 he))
      · cases h
  case invokestatic i =>
    rcases bif_inv2 h with ⟨c, h⟩ | ⟨c, h⟩
    · have h : (mPop S (I r1).2.2.2.2.2.1 fun as r => mCall I call fr lo (pc + len) r1 L as r M) = some y := h
      obtain ⟨g, h⟩ := mPop_g h
      show (bif Nat.beq r2 0 then (mPop S (I r1).2.2.2.2.2.1 fun as r => mCall I call2 fr lo (pc + len) r1 L as r M) else _) = some y
      rw [c, cond_true, mPop_t g]
      exact mCall_xn h (hc r1 (n253 he))
    rcases bif_inv2 h with ⟨c1, h⟩ | ⟨c1, h⟩
    · show (bif Nat.beq r2 0 then _ else bif Nat.beq r2 1 then _ else _) = _
      rw [c, c1, cond_false, cond_true]
      split at h
      · next n dp b sp a r _ _ =>
        obtain ⟨g, h⟩ := mWhen_inv h
        rw [mWhen_t g]
        cases ca : Nat.blt a 1000000 with
        | true => rw [ca, cond_true] at h; rw [cond_true]; exact h
        | false =>
          rw [ca, cond_false] at h
          rw [cond_false]
          obtain ⟨g2, h⟩ := mWhen_inv h
          obtain ⟨g3, g4⟩ := and_inv g2
          rw [mWhen_t (by rw [g3, ble_more g4 (hx _)]; rfl)]
          exact h
      · cases h
    · show (bif Nat.beq r2 0 then _ else bif Nat.beq r2 1 then _ else _) = _
      rw [c, c1, cond_false, cond_false]
      exact h
  all_goals exact h
theorem mExec_xn (hx : ∀ k, XN k ≤ XN2 k) (hT : ∀ mi, mi ≠ 253 → ∀ e ∈ T mi, yXn e = true) : ∀ (f fr lo mi : Nat) (x : mCfg) (r : Option Value × mMem), mi ≠ 253 → mExec T I XN XF f fr lo mi x = some r → mExec T I XN2 XF f fr lo mi x = some r
  | 0, _, _, _, _, _, _, h => by cases h
  | f + 1, fr, lo, mi, x, r, hmi, h => by
    have ih := mExec_xn hx hT f
    unfold mExec at h ⊢
    cases he : mFind (T mi) x.1 with
    | none => rw [he] at h; cases h
    | some e =>
      rw [he] at h
      dsimp only at h ⊢
      cases hd : mDo I XN XF (fun mi' fr' lo' as M => mExec T I XN XF f fr' lo' mi' (0, lv_args 0 as, [], M)) fr lo (I mi).2.2.1 (I mi).2.2.2.1 e x.2.1 x.2.2.1 x.2.2.2 with
      | none => rw [hd] at h; cases h
      | some y =>
        rw [hd] at h
        rw [mDo_xn hx (hT mi hmi e (mFind_in he).1) hd (fun mi' hm f1 l1 as M r hr => ih f1 l1 mi' _ r hm hr)]
        cases y with
        | inr w => exact h
        | inl w => exact ih fr lo mi w r hmi h
theorem mRuns_xn (hx : ∀ k, XN k ≤ XN2 k) (hT : ∀ mi, mi ≠ 253 → ∀ e ∈ T mi, yXn e = true) {fr lo mi : Nat} {x : mCfg} {r : Option Value × mMem} (hmi : mi ≠ 253) (h : mRuns T I XN XF fr lo mi x r) : mRuns T I XN2 XF fr lo mi x r := by
  obtain ⟨F, hF⟩ := h
  exact ⟨F, fun f hf => mExec_xn hx hT f fr lo mi x r hmi (hF f hf)⟩
end YXN
set_option maxRecDepth 100000 in
theorem yXn_0 : mTg_0.all (fun t => t.all yXn) = true := by decide +kernel
set_option maxRecDepth 100000 in
theorem yXn_1 : mTg_1.all (fun t => t.all yXn) = true := by decide +kernel
set_option maxRecDepth 100000 in
theorem yXn_2 : mTg_2.all (fun t => t.all yXn) = true := by decide +kernel
set_option maxRecDepth 100000 in
theorem yXn_3 : mTg_3.all (fun t => t.all yXn) = true := by decide +kernel
set_option maxRecDepth 100000 in
theorem yXn_4 : mTg_4.all (fun t => t.all yXn) = true := by decide +kernel
set_option maxRecDepth 100000 in
theorem yXn_5 : mTg_5.all (fun t => t.all yXn) = true := by decide +kernel
set_option maxRecDepth 100000 in
theorem yXn_6 : mTg_6.all (fun t => t.all yXn) = true := by decide +kernel
set_option maxRecDepth 100000 in
theorem yXn_7 : mTg_7.all (fun t => t.all yXn) = true := by decide +kernel
set_option maxRecDepth 100000 in
theorem yXn_8 : mTg_8.all (fun t => t.all yXn) = true := by decide +kernel
set_option maxRecDepth 100000 in
theorem yXn_9 : mTg_9.all (fun t => t.all yXn) = true := by decide +kernel
set_option maxRecDepth 100000 in
theorem yXn_10 : mTg_10.all (fun t => t.all yXn) = true := by decide +kernel
set_option maxRecDepth 100000 in
theorem yXn_11 : mTg_11.all (fun t => t.all yXn) = true := by decide +kernel
set_option maxRecDepth 100000 in
theorem yXn_12 : mTg_12.all (fun t => t.all yXn) = true := by decide +kernel
set_option maxRecDepth 100000 in
theorem yXn_13 : mTg_13.all (fun t => t.all yXn) = true := by decide +kernel
set_option maxRecDepth 100000 in
theorem yXn_14 : mTg_14.all (fun t => t.all yXn) = true := by decide +kernel
set_option maxRecDepth 100000 in
theorem yXn_15 : (mTg_15.take 13).all (fun t => t.all yXn) = true := by decide +kernel
theorem yXn_get {l : List (List mE)} {r : Nat} {e : mE} (h : l.all (fun t => t.all yXn) = true) (he : e ∈ l.getD r []) : yXn e = true := by
  rw [List.getD_eq_getElem?_getD] at he
  cases q : l[r]? with
  | none => rw [q] at he; cases he
  | some t =>
    rw [q] at he
    exact List.all_eq_true.mp (List.all_eq_true.mp h t (List.mem_of_getElem? q)) e he
theorem yXn_tab : ∀ mi, mi ≠ 253 → ∀ e ∈ mTab mi, yXn e = true := by
  intro mi hmi e he
  have hr : mi % 16 < 16 := Nat.mod_lt mi (by omega)
  have hm : mi = 16 * (mi / 16) + mi % 16 := (Nat.div_add_mod mi 16).symm
  by_cases h : mi / 16 < 16
  · generalize mi % 16 = r at hr hm
    generalize mi / 16 = q at h hm
    subst hm
    obtain rfl | rfl | rfl | rfl | rfl | rfl | rfl | rfl | rfl | rfl | rfl | rfl | rfl | rfl | rfl | rfl := (by omega : q = 0 ∨ q = 1 ∨ q = 2 ∨ q = 3 ∨ q = 4 ∨ q = 5 ∨ q = 6 ∨ q = 7 ∨ q = 8 ∨ q = 9 ∨ q = 10 ∨ q = 11 ∨ q = 12 ∨ q = 13 ∨ q = 14 ∨ q = 15)
    · have e1 : 16 * 0 + r = 0 + r := by omega
      rw [e1, mTg_0_at r hr] at he
      exact yXn_get yXn_0 he
    · have e1 : 16 * 1 + r = 16 + r := by omega
      rw [e1, mTg_1_at r hr] at he
      exact yXn_get yXn_1 he
    · have e1 : 16 * 2 + r = 32 + r := by omega
      rw [e1, mTg_2_at r hr] at he
      exact yXn_get yXn_2 he
    · have e1 : 16 * 3 + r = 48 + r := by omega
      rw [e1, mTg_3_at r hr] at he
      exact yXn_get yXn_3 he
    · have e1 : 16 * 4 + r = 64 + r := by omega
      rw [e1, mTg_4_at r hr] at he
      exact yXn_get yXn_4 he
    · have e1 : 16 * 5 + r = 80 + r := by omega
      rw [e1, mTg_5_at r hr] at he
      exact yXn_get yXn_5 he
    · have e1 : 16 * 6 + r = 96 + r := by omega
      rw [e1, mTg_6_at r hr] at he
      exact yXn_get yXn_6 he
    · have e1 : 16 * 7 + r = 112 + r := by omega
      rw [e1, mTg_7_at r hr] at he
      exact yXn_get yXn_7 he
    · have e1 : 16 * 8 + r = 128 + r := by omega
      rw [e1, mTg_8_at r hr] at he
      exact yXn_get yXn_8 he
    · have e1 : 16 * 9 + r = 144 + r := by omega
      rw [e1, mTg_9_at r hr] at he
      exact yXn_get yXn_9 he
    · have e1 : 16 * 10 + r = 160 + r := by omega
      rw [e1, mTg_10_at r hr] at he
      exact yXn_get yXn_10 he
    · have e1 : 16 * 11 + r = 176 + r := by omega
      rw [e1, mTg_11_at r hr] at he
      exact yXn_get yXn_11 he
    · have e1 : 16 * 12 + r = 192 + r := by omega
      rw [e1, mTg_12_at r hr] at he
      exact yXn_get yXn_12 he
    · have e1 : 16 * 13 + r = 208 + r := by omega
      rw [e1, mTg_13_at r hr] at he
      exact yXn_get yXn_13 he
    · have e1 : 16 * 14 + r = 224 + r := by omega
      rw [e1, mTg_14_at r hr] at he
      exact yXn_get yXn_14 he
    · have e1 : 16 * 15 + r = 240 + r := by omega
      rw [e1, mTg_15_at r hr] at he
      by_cases h13 : r < 13
      · refine yXn_get (r := r) yXn_15 ?_
        rw [List.getD_eq_getElem?_getD, List.getElem?_take_of_lt h13, ← List.getD_eq_getElem?_getD]
        exact he
      · rw [mGetD_out (n := r) (by show 14 ≤ r; omega)] at he
        cases he
  · exfalso
    have h2 : mTab mi = [] := by
      unfold mTab
      rw [mGetD_out (n := mi / 16) (by show 16 ≤ mi / 16; omega)]
      rfl
    rw [h2] at he
    cases he

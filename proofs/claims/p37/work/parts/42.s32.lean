/-! ===== a longer script changes nothing in the methods: none but the law asks for its length ===== -/
noncomputable def yPm (m : Nat) : Bool := Nat.blt m 92 || (Nat.beq m 97 || Nat.beq m 98)
noncomputable def yXn (e : mE) : Bool := match e with
  | (_, _, _, ni, _, r1, _, _) => match ni with
    | .arraylength => false
    | .invokevirtual _ => yPm r1
    | .invokespecial _ => yPm r1
    | .invokestatic _ => yPm r1
    | _ => true
section YXN
variable {I : Nat → mI} {XN XN2 : Nat → Nat} {XF : Nat → Nat → Int32} {T : Nat → List mE}
theorem mCall_xn {call call2 : Nat → Nat → Nat → List Value → mMem → Option (Option Value × mMem)} {fr lo nx mi : Nat} {L : List (Nat × Value)} {as r : List Value} {M : mMem} {y : mRes} (h : mCall I call fr lo nx mi L as r M = some y)
    (hc : ∀ f l as M r, call mi f l as M = some r → call2 mi f l as M = some r) : mCall I call2 fr lo nx mi L as r M = some y := by
  unfold mCall at h ⊢
  obtain ⟨g, h⟩ := mWhen_inv h
  rw [mWhen_t g]
  cases hq : call mi (fr - 1) (lo - (19 + (I mi).2.2.1)) as M with
  | none => rw [hq] at h; cases h
  | some r =>
    rw [hq] at h
    rw [hc _ _ _ _ _ hq]
    exact h
set_option maxHeartbeats 4000000 in
theorem mDo_xn {call call2 : Nat → Nat → Nat → List Value → mMem → Option (Option Value × mMem)} {fr lo nL : Nat} {rt : Option FieldType} {e : mE} {L : List (Nat × Value)} {S : List Value} {M : mMem} {y : mRes} (hx : ∀ k, XN k ≤ XN2 k) (he : yXn e = true) (h : mDo I XN XF call fr lo nL rt e L S M = some y)
    (hc : ∀ mi, yPm mi = true → ∀ f l as M r, call mi f l as M = some r → call2 mi f l as M = some r) : mDo I XN2 XF call2 fr lo nL rt e L S M = some y := by
  obtain ⟨pc, len, ri, ni, v, r1, r2, wi⟩ := e
  have n253 : ∀ {m : Nat}, yPm m = true → yPm m = true := fun h => h
  cases ni
  case arraylength => cases he
  case iaload =>
    have q : ∃ o i r, S = .int i :: .ref o :: r := by
      have h : mRI S (fun o i r => bif Nat.blt o 1000000 then mWhen (Nat.blt o M.1 && (Nat.beq (mObj M o).1 100 && mInO i (mObj M o).2.1)) (mNx (pc + len) L (.int (mIof (mSlot (mObj M o) i.toNatClampNeg)) :: r) M)
        else mWhen (Nat.blt (o - 1000000) 4 && mInB i (XN (o - 1000000))) (mNx (pc + len) L (.int (XF (o - 1000000) i.toNatClampNeg) :: r) M)) = some y := h
      unfold mRI at h
      split at h
      · exact ⟨_, _, _, rfl⟩
      · cases h
    obtain ⟨o, i, r, rfl⟩ := q
    have h : (bif Nat.blt o 1000000 then mWhen (Nat.blt o M.1 && (Nat.beq (mObj M o).1 100 && mInO i (mObj M o).2.1)) (mNx (pc + len) L (.int (mIof (mSlot (mObj M o) i.toNatClampNeg)) :: r) M)
        else mWhen (Nat.blt (o - 1000000) 4 && mInB i (XN (o - 1000000))) (mNx (pc + len) L (.int (XF (o - 1000000) i.toNatClampNeg) :: r) M)) = some y := h
    show (bif Nat.blt o 1000000 then mWhen (Nat.blt o M.1 && (Nat.beq (mObj M o).1 100 && mInO i (mObj M o).2.1)) (mNx (pc + len) L (.int (mIof (mSlot (mObj M o) i.toNatClampNeg)) :: r) M)
        else mWhen (Nat.blt (o - 1000000) 4 && mInB i (XN2 (o - 1000000))) (mNx (pc + len) L (.int (XF (o - 1000000) i.toNatClampNeg) :: r) M)) = some y
    cases c : Nat.blt o 1000000 with
    | true => rw [c, cond_true] at h; rw [cond_true]; exact h
    | false =>
      rw [c, cond_false] at h
      rw [cond_false]
      obtain ⟨g, h⟩ := mWhen_inv h
      obtain ⟨g1, g2⟩ := and_inv g
      obtain ⟨g3, g4⟩ := and_inv (show (!decide (i < 0) && Nat.blt i.toNatClampNeg (XN (o - 1000000))) = true from g2)
      have g4 := blt_lt g4
      have := hx (o - 1000000)
      rw [mWhen_t (by rw [g1]; unfold mInB; rw [g3, show Nat.blt i.toNatClampNeg (XN2 (o - 1000000)) = true from by rw [Nat.blt_eq]; omega]; rfl)]
      exact h
  case invokevirtual i =>
    have h : (mPop S (I r1).2.2.2.2.2.1 fun as r => match as with
      | .ref o :: _ => mWhen (Nat.blt o M.1 && Nat.beq (mObj M o).1 r2) (mCall I call fr lo (pc + len) r1 L as r M)
      | _ => none) = some y := h
    obtain ⟨g, h⟩ := mPop_g h
    show (mPop S (I r1).2.2.2.2.2.1 fun as r => match as with
      | .ref o :: _ => mWhen (Nat.blt o M.1 && Nat.beq (mObj M o).1 r2) (mCall I call2 fr lo (pc + len) r1 L as r M)
      | _ => none) = some y
    rw [mPop_t g]
    split at h
    · next o as hq =>
      rw [hq] at h ⊢
      obtain ⟨g2, h⟩ := mWhen_inv h
      exact (mWhen_t g2).trans (mCall_xn h (hc r1 (n253 he)))
    · cases h
  case invokespecial i =>
    rcases bif_inv2 h with ⟨c, h⟩ | ⟨c, h⟩
    · show (bif Nat.beq r2 0 then _ else _) = some y
      rw [c, cond_true]
      exact h
    · have h : (mPop S (I r1).2.2.2.2.2.1 fun as r => match as with
        | .ref _ :: _ => mCall I call fr lo (pc + len) r1 L as r M
        | _ => none) = some y := h
      obtain ⟨g, h⟩ := mPop_g h
      show (bif Nat.beq r2 0 then _ else mPop S (I r1).2.2.2.2.2.1 fun as r => match as with
        | .ref _ :: _ => mCall I call2 fr lo (pc + len) r1 L as r M
        | _ => none) = some y
      rw [c, cond_false, mPop_t g]
      split at h
      · next o as hq =>
        rw [hq] at h ⊢
        exact mCall_xn h (hc r1 (n253 he))
      · cases h
  case invokestatic i =>
    rcases bif_inv2 h with ⟨c, h⟩ | ⟨c, h⟩
    · have h : (mPop S (I r1).2.2.2.2.2.1 fun as r => mCall I call fr lo (pc + len) r1 L as r M) = some y := h
      obtain ⟨g, h⟩ := mPop_g h
      show (bif Nat.beq r2 0 then (mPop S (I r1).2.2.2.2.2.1 fun as r => mCall I call2 fr lo (pc + len) r1 L as r M) else _) = some y
      rw [c, cond_true, mPop_t g]
      exact mCall_xn h (hc r1 (n253 he))
    rcases bif_inv2 h with ⟨c1, h⟩ | ⟨c1, h⟩
    · show (bif Nat.beq r2 0 then _ else bif Nat.beq r2 1 then _ else _) = _
      rw [c, c1, cond_false, cond_true]
      split at h
      · next n dp b sp a r _ _ =>
        obtain ⟨g, h⟩ := mWhen_inv h
        rw [mWhen_t g]
        cases ca : Nat.blt a 1000000 with
        | true => rw [ca, cond_true] at h; rw [cond_true]; exact h
        | false =>
          rw [ca, cond_false] at h
          rw [cond_false]
          obtain ⟨g2, h⟩ := mWhen_inv h
          obtain ⟨g3, g4⟩ := and_inv g2
          rw [mWhen_t (by rw [g3, ble_more g4 (hx _)]; rfl)]
          exact h
      · cases h
    · show (bif Nat.beq r2 0 then _ else bif Nat.beq r2 1 then _ else _) = _
      rw [c, c1, cond_false, cond_false]
      exact h
  all_goals exact h
theorem mExec_xn (hx : ∀ k, XN k ≤ XN2 k) (hT : ∀ mi, yPm mi = true → ∀ e ∈ T mi, yXn e = true) : ∀ (f fr lo mi : Nat) (x : mCfg) (r : Option Value × mMem), yPm mi = true → mExec T I XN XF f fr lo mi x = some r → mExec T I XN2 XF f fr lo mi x = some r
  | 0, _, _, _, _, _, _, h => by cases h
  | f + 1, fr, lo, mi, x, r, hmi, h => by
    have ih := mExec_xn hx hT f
    unfold mExec at h ⊢
    cases he : mFind (T mi) x.1 with
    | none => rw [he] at h; cases h
    | some e =>
      rw [he] at h
      dsimp only at h ⊢
      cases hd : mDo I XN XF (fun mi' fr' lo' as M => mExec T I XN XF f fr' lo' mi' (0, lv_args 0 as, [], M)) fr lo (I mi).2.2.1 (I mi).2.2.2.1 e x.2.1 x.2.2.1 x.2.2.2 with
      | none => rw [hd] at h; cases h
      | some y =>
        rw [hd] at h
        rw [mDo_xn hx (hT mi hmi e (mFind_in he).1) hd (fun mi' hm f1 l1 as M r hr => ih f1 l1 mi' _ r hm hr)]
        cases y with
        | inr w => exact h
        | inl w => exact ih fr lo mi w r hmi h
theorem mRuns_xn (hx : ∀ k, XN k ≤ XN2 k) (hT : ∀ mi, yPm mi = true → ∀ e ∈ T mi, yXn e = true) {fr lo mi : Nat} {x : mCfg} {r : Option Value × mMem} (hmi : yPm mi = true) (h : mRuns T I XN XF fr lo mi x r) : mRuns T I XN2 XF fr lo mi x r := by
  obtain ⟨F, hF⟩ := h
  exact ⟨F, fun f hf => mExec_xn hx hT f fr lo mi x r hmi (hF f hf)⟩
end YXN

set_option maxRecDepth 100000 in
theorem yXn_all : (List.range 100).all (fun mi => !yPm mi || (mTab mi).all yXn) = true := by decide +kernel
theorem yXn_tab : ∀ mi, yPm mi = true → ∀ e ∈ mTab mi, yXn e = true := fun mi h e he => by
  have hlt : mi < 100 := by
    have h := h
    unfold yPm at h
    rw [Bool.or_eq_true, Bool.or_eq_true, Nat.blt_eq, Nat.beq_eq, Nat.beq_eq] at h
    omega
  have q : (!yPm mi || (mTab mi).all yXn) = true := List.all_eq_true.mp yXn_all mi (List.mem_range.mpr hlt)
  rw [h] at q
  have q : (mTab mi).all yXn = true := q
  exact List.all_eq_true.mp q e he
/-! ===== rows ===== -/
section YSP
variable {T : Nat → List mE} {I : Nat → mI} {XN : Nat → Nat} {XF : Nat → Nat → Int32} {fr lo mi pc len : Nat} {ri : ClassFile.Instr} {v : Int} {r1 r2 wi : Nat} {L : List (Nat × Value)} {S : List Value} {M : mMem} {r : Option Value × mMem}
theorem st_0 {e : mE} {y : mCfg} (he : mFind (T mi) pc = some e) (h : ∀ call, mDo I XN XF call fr lo (I mi).2.2.1 (I mi).2.2.2.1 e L S M = some (.inl y)) (k : mRuns T I XN XF fr lo mi y r) : mRuns T I XN XF fr lo mi (pc, L, S, M) r := mRuns_step (F := 0) he (fun _ _ => h _) k
theorem st_dup {x : Value} (he : mFind (T mi) pc = some (pc, len, ri, .dup, v, r1, r2, wi)) (h : x.category = 1) (k : mRuns T I XN XF fr lo mi (pc + len, L, x :: x :: S, M) r) : mRuns T I XN XF fr lo mi (pc, L, x :: S, M) r := st_0 he (fun _ => (mWhen_t (by rw [h]; rfl)).trans rfl) k
theorem st_astore {i o : Nat} (he : mFind (T mi) pc = some (pc, len, ri, .astore i, v, r1, r2, wi)) (h : Nat.blt i (I mi).2.2.1 = true) (k : mRuns T I XN XF fr lo mi (pc + len, mSt1 L i (.ref o), S, M) r) : mRuns T I XN XF fr lo mi (pc, L, .ref o :: S, M) r :=
  st_0 he (fun _ => (mWhen_t h).trans rfl) k
theorem st_new {i : Nat} (he : mFind (T mi) pc = some (pc, len, ri, .new i, v, r1, r2, wi)) (h : Nat.blt M.1 1024 = true) (k : mRuns T I XN XF fr lo mi (pc + len, L, .ref M.1 :: S, mNew M (r1, mNX r1, mDef r1)) r) : mRuns T I XN XF fr lo mi (pc, L, S, M) r := st_0 he (fun _ => (mWhen_t h).trans rfl) k
theorem st_special {i : Nat} {o nx : Nat} {as V : List Value} {w : Option Value} {M1 : mMem} (he : mFind (T mi) pc = some (pc, len, ri, .invokespecial i, v, r1, r2, wi)) (h0 : Nat.beq r2 0 = false) (hn : Nat.ble (I r1).2.2.2.2.2.1 V.length = true) (ha : (V.take (I r1).2.2.2.2.2.1).reverse = .ref o :: as) (hS : V.drop (I r1).2.2.2.2.2.1 = S)
    (g1 : Nat.ble (mCats S) 8 = true) (g2 : Nat.ble 1 fr = true) (g3 : Nat.ble (19 + (I r1).2.2.1) lo = true) (g4 : Nat.ble (mCats (.ref o :: as)) (I r1).2.2.1 = true) (hr : mRuns T I XN XF (fr - 1) (lo - (19 + (I r1).2.2.1)) r1 (0, lv_args 0 (.ref o :: as), [], M) (w, M1)) (hx : nx = pc + len)
    (k : mRuns T I XN XF fr lo mi (nx, L, w.toList ++ S, M1) r) : mRuns T I XN XF fr lo mi (pc, L, V, M) r := by
  obtain ⟨F, hF⟩ := hr
  subst hx
  refine mRuns_step (F := F) he (fun f hf => ?_) k
  show (bif Nat.beq r2 0 then mR1 V fun _ r => mWhen (Nat.ble 1 fr && Nat.ble (mCats r + 12) lo) (mNx (pc + len) L r M)
    else mPop V (I r1).2.2.2.2.2.1 fun as r => match as with
    | .ref _ :: _ => mCall I _ fr lo (pc + len) r1 L as r M
    | _ => none) = _
  rw [h0, cond_false, mPop_t hn, ha, hS]
  show mCall I _ fr lo (pc + len) r1 L (.ref o :: as) S M = _
  unfold mCall
  rw [mWhen_t (by rw [g1, g2, g3, g4]; rfl)]
  exact (congrArg (mBack (pc + len) L S) (hF f hf)).trans rfl
end YSP
theorem h_99_0 : mFind (mTab 99) 0 = some (0, 3, .new 20, .new 20, 0, 7, 0, 12) := dFb_eq (by decide +kernel)
theorem h_99_3 : mFind (mTab 99) 3 = some (3, 1, .dup, .dup, 0, 0, 0, 0) := dFb_eq (by decide +kernel)
theorem h_99_4 : mFind (mTab 99) 4 = some (4, 3, .invokespecial 53, .invokespecial 53, 0, 74, 1, 14) := dFb_eq (by decide +kernel)
theorem h_99_7 : mFind (mTab 99) 7 = some (7, 1, .astore_n 1, .astore 1, 0, 0, 0, 0) := dFb_eq (by decide +kernel)
/-! ===== the start: the constructor, and begin of any number ===== -/
noncomputable def sM0 : sMem := (0, 0, mFill 10 (0, 0, .inl (0, 0), []))
noncomputable def sZero (i : Nat) : Int := match i with
  | 11 => 30000
  | _ => 0
theorem sZero_kn : sKn sZero := ⟨by decide, by decide, by decide, by decide, rfl⟩
theorem sZero_in : sIn sZero ([], []) := by
  refine ⟨fun i q h => ?_, fun q h => (by cases h)⟩
  cases i with
  | zero => cases h; exact ⟨Int.le_refl _, Int.le_refl _⟩
  | succ j => cases h
theorem sZero_X (xs : Nat → Int32) : ∀ a j, a < 4 → j < sXNl 0 a → (sXF xs a j).toInt = sDn sZero (sXX a j) := fun a j _ hj => by
  cases a with
  | zero => exact absurd hj (Nat.not_lt_zero j)
  | succ a =>
    obtain ⟨h1, h2, h3⟩ := sXX_c a j
    show (Int32.ofInt (sXX (a + 1) j).2).toInt = sZero (sXX (a + 1) j).1 + (sXX (a + 1) j).2
    rw [h1, i32_val rfl h2 h3]
    show _ = (0 : Int) + _
    omega
/-- an int known to be v -/
noncomputable def kIs (v : Int) (a : sV) : Bool := match a with
  | .inl x => Nat.beq x.1 0 && sIEq x.2 v
  | _ => false
noncomputable def kInt (a : sV) : Bool := match a with
  | .inl _ => true
  | _ => false
noncomputable def kRef (r : Nat) (a : sV) : Bool := match a with
  | .inr (.inr (some o)) => Nat.beq o r
  | _ => false
theorem kIs_ok {v : Int} {a : sV} {w : Value} (h : kIs v a = true) (hr : sRel sZero a w) : ∃ y, w = .int y ∧ y.toInt = v := by
  unfold kIs at h
  split at h
  · next x =>
    obtain ⟨h1, h2⟩ := and_inv h
    obtain ⟨y, e, hy⟩ := sRel_i hr
    rw [sIEq_d] at h2
    have h2 := of_decide_eq_true h2
    have h1 := Nat.eq_of_beq_eq_true h1
    have hy : y.toInt = sZero x.1 + x.2 := hy
    rw [h1] at hy
    have hy : y.toInt = (0 : Int) + x.2 := hy
    exact ⟨y, e, by omega⟩
  · cases h
noncomputable def kSp (p : Nat × Nat) (a : sV) : Bool := match p.1 with
  | 0 => kInt a
  | 1 => kIs (p.2 : Int) a
  | _ => kRef p.2 a
theorem kSp_ok {p : Nat × Nat} {a : sV} {w : Value} (h : kSp p a = true) (hr : sRel sZero a w) : dSv p w := by
  obtain ⟨t, q⟩ := p
  match t, h with
  | 0, h =>
    have h : kInt a = true := h
    show ∃ x, w = Value.int x
    unfold kInt at h
    split at h
    · obtain ⟨y, e, -⟩ := sRel_i hr
      exact ⟨y, e⟩
    · cases h
  | 1, h =>
    have h : kIs (q : Int) a = true := h
    show w = Value.int (dI (q : Int))
    obtain ⟨y, e, hy⟩ := kIs_ok h hr
    rw [e, ← hy]
    exact congrArg Value.int (Int32.ofInt_toInt y).symm
  | t + 2, h =>
    have h : kRef q a = true := h
    show w = Value.ref q
    unfold kRef at h
    split at h
    · next o =>
      have e := sRel_r hr
      rw [e, Nat.eq_of_beq_eq_true h]
    · cases h
noncomputable def kObj (M : sMem) (o : Nat) : Bool := (Nat.beq (sObj M o).1 (dOb o).1 && Nat.beq (sObj M o).2.1 (dOb o).2) && (List.range (dOb o).2).all fun k => kSp (dSp o k) (sLook (sObj M o) k)
noncomputable def kSh (M : sMem) : Bool := (Nat.ble M.1 1024 && (Nat.ble M.2.1 20000 && Nat.ble 132 M.1)) && (List.range 132).all (kObj M)
theorem kSh_ok {M : sMem} {N : mMem} (h : kSh M = true) (hM : sMR sZero M N) : dS N := by
  obtain ⟨h1, h2⟩ := and_inv h
  obtain ⟨a1, a2⟩ := and_inv h1
  obtain ⟨a2, a3⟩ := and_inv a2
  have a1 := Nat.le_of_ble_eq_true a1
  have a2 := Nat.le_of_ble_eq_true a2
  have a3 := Nat.le_of_ble_eq_true a3
  obtain ⟨m1, m2, m3, m4⟩ := hM
  refine ⟨⟨⟨by omega, by omega⟩, by omega⟩, fun o ho => ?_⟩
  obtain ⟨q1, q2⟩ := and_inv (List.all_eq_true.mp h2 o (List.mem_range.mpr ho))
  obtain ⟨q3, q4⟩ := and_inv q1
  have q3 := Nat.eq_of_beq_eq_true q3
  have q4 := Nat.eq_of_beq_eq_true q4
  obtain ⟨c1, c2, c3, c4⟩ := m4 o (by omega)
  exact ⟨c1.symm.trans q3, c2.symm.trans q4, fun k hk => kSp_ok (List.all_eq_true.mp q2 k (List.mem_range.mpr hk)) (c4 k (by omega))⟩
noncomputable def kAt (M : sMem) (v : Int) (k : Nat) : Bool := (Nat.blt (k / 2048) M.1 && Nat.blt (k % 2048) (sObj M (k / 2048)).2.1) && kIs v (sLook (sObj M (k / 2048)) (k % 2048))
theorem kAt_ok {M : sMem} {N : mMem} {v : Int} {k : Nat} (h : kAt M v k = true) (hM : sMR sZero M N) : dG N k = v := by
  obtain ⟨h1, h2⟩ := and_inv h
  obtain ⟨a1, a2⟩ := and_inv h1
  have a1 := blt_lt a1
  have a2 := blt_lt a2
  obtain ⟨m1, m2, m3, m4⟩ := hM
  obtain ⟨c1, c2, c3, c4⟩ := m4 (k / 2048) a1
  obtain ⟨y, e, hy⟩ := kIs_ok h2 (c4 (k % 2048) a2)
  unfold dG dV
  rw [e]
  exact hy
/-- what begin(n) leaves -/
noncomputable def kSt (M : sMem) (s : Nat) : Bool := (kAt M 2 (6144 + s) && (kAt M 0 (57346 + 26624 * s) && kAt M 60 (57345 + 26624 * s))) && ((kAt M 0 (63489 + 26624 * s) && (kAt M 0 (63490 + 26624 * s) && kAt M 0 (65541 + 26624 * s))) && [3, 4, 8, 9, 8192, 8194, 8195, 8202, 10243, 24579].all fun j => kAt M 0 (57344 + 26624 * s + j))
noncomputable def kBg (n : Nat) (M : sMem) : Bool := ((kAt M (n : Int) 2048 && (kAt M 200 4097 && (kAt M 20 4098 && kAt M 10 4096))) && [2051, 2049, 53249, 53250, 53251, 10243, 53252].all (kAt M 0)) && (List.range 8).all (kSt M)
theorem kBg_ok {n : Nat} {M : sMem} {N : mMem} (h8 : n ≤ 8) (h : kBg n M = true) (hM : sMR sZero M N) : dB0 n N := by
  obtain ⟨h1, h2⟩ := and_inv h
  obtain ⟨h3, h4⟩ := and_inv h1
  obtain ⟨a1, a2⟩ := and_inv h3
  obtain ⟨a2, a3⟩ := and_inv a2
  obtain ⟨a3, a4⟩ := and_inv a3
  have b1 := kAt_ok a1 hM
  have b2 := kAt_ok a2 hM
  have b3 := kAt_ok a3 hM
  have b4 := kAt_ok a4 hM
  have st : ∀ s, s < n → (dG N (6144 + s) = 2 ∧ dG N (57346 + 26624 * s) = 0 ∧ dG N (57345 + 26624 * s) = 60) ∧ (dG N (63489 + 26624 * s) = 0 ∧ dG N (63490 + 26624 * s) = 0 ∧ dG N (65541 + 26624 * s) = 0) ∧ ∀ j, j ∈ [3, 4, 8, 9, 8192, 8194, 8195, 8202, 10243, 24579] → dG N (57344 + 26624 * s + j) = 0 := fun s hs => by
    obtain ⟨c1, c2⟩ := and_inv (show kSt M s = true from List.all_eq_true.mp h2 s (List.mem_range.mpr (by omega)))
    obtain ⟨d1, d2⟩ := and_inv c1
    obtain ⟨d2, d3⟩ := and_inv d2
    obtain ⟨e1, e2⟩ := and_inv c2
    obtain ⟨f1, f2⟩ := and_inv e1
    obtain ⟨f2, f3⟩ := and_inv f2
    exact ⟨⟨kAt_ok d1 hM, kAt_ok d2 hM, kAt_ok d3 hM⟩, ⟨kAt_ok f1 hM, kAt_ok f2 hM, kAt_ok f3 hM⟩, fun j hj => kAt_ok (List.all_eq_true.mp e2 j hj) hM⟩
  have zr : ∀ k, k ∈ [2051, 2049, 53249, 53250, 53251, 10243, 53252] → dG N k = 0 := fun k hk => kAt_ok (List.all_eq_true.mp h4 k hk) hM
  refine ⟨⟨⟨b1, b2, b3⟩, fun k hk => ?_, fun s j hs hj => ?_⟩, ⟨by omega, by omega⟩, fun s hs => ?_, fun s hs => ?_⟩
  · unfold dBz at hk
    obtain rfl | rfl | rfl | rfl | rfl | rfl | rfl := hk <;> exact zr _ (by decide)
  · unfold dBy at hj
    obtain rfl | rfl | rfl | rfl | rfl | rfl | rfl | rfl | rfl | rfl := hj <;> exact (st s hs).2.2 _ (by decide)
  · obtain ⟨⟨c1, c2, c3⟩, ⟨c4, c5, c6⟩, -⟩ := st s hs
    exact ⟨⟨by omega, by omega⟩, ⟨by omega, by omega⟩, ⟨by omega, by omega⟩, ⟨by omega, by omega⟩, ⟨by omega, by omega⟩, by omega⟩
  · have p1 := dPfx_b (f := fun k => dG N (57346 + 26624 * k)) (a := 0) (b := 0) (k := n) (fun i hi => by have := (st i hi).1.2.1; omega)
    have p2 := dPfx_b (f := fun k => dG N (6144 + k)) (a := 2) (b := 2) (k := n) (fun i hi => by have := (st i hi).1.1; omega)
    have p3 := (st s hs).1.2.2
    omega
noncomputable def kNo (a : Option sV) : Bool := match a with
  | none => true
  | _ => false
noncomputable def kOne (a : Option sV) : Bool := match a with
  | some (.inl _) => true
  | _ => false
theorem kNo_ok {ρ : Nat → Int} {a : Option sV} {v : Option Value} (h : sOR ρ a v) (ha : kNo a = true) : v = none := by
  cases a with
  | some a => cases ha
  | none => cases v with
    | none => rfl
    | some v => exact h.elim
theorem kOne_ok {ρ : Nat → Int} {a : Option sV} {v : Option Value} (h : sOR ρ a v) (ha : kOne a = true) : ∃ y, v = some (.int y) := by
  unfold kOne at ha
  split at ha
  · next x => cases v with
    | none => exact h.elim
    | some v =>
      obtain ⟨y, e, -⟩ := sRel_i (show sRel ρ (.inl x) v from h)
      exact ⟨y, by rw [e]⟩
  · cases ha
noncomputable def kB (n : Nat) : sRet := fun _ w => kOne w.1 && (kSh w.2 && kBg n w.2)
noncomputable def kC1 : sRet := fun B w => (kNo w.1 && kSh w.2) && [2, 3, 4, 5, 6, 7, 8].all fun n => sExec mTab mInf (sXNl 0) sXX sNo 100000 6 260 75 (0, sArgs 0 [.inr (.inr (some 0)), .inl (0, Int.ofNat n)], [], w.2) B (kB n)
set_option maxRecDepth 100000 in
theorem start_B : sExec mTab mInf (sXNl 0) sXX sNo 100000 7 284 74 (0, sArgs 0 [.inr (.inr (some 0))], [], sNew sM0 (7, mNX 7, .inr (.inr none), sDef 7)) ([], []) kC1 = true := by decide +kernel
theorem law_start (xs : Nat → Int32) (L : Nat) : ∃ N Nl, dS N ∧ dStart xs L N ∧ mLk Nl 0 = some (.ref 1000000) ∧ mLk Nl 1 = some (.ref 0) ∧ ∀ z, mRuns mTab mInf (sXNl L) (sXF xs) 8 304 99 (8, Nl, [], N) z → mRuns mTab mInf (sXNl L) (sXF xs) 8 304 99 (0, [(0, .ref 1000000)], [], m0) z := by
  have hxn : ∀ k, sXNl 0 k ≤ sXNl L k := fun k => by
    cases k with
    | zero => exact Nat.zero_le _
    | succ k => exact Nat.le_refl _
  have r0 : sMR sZero sM0 m0 := ⟨rfl, rfl, Nat.zero_le _, fun o ho => absurd ho (Nat.not_lt_zero o)⟩
  have r1 : sMR sZero (sNew sM0 (7, mNX 7, .inr (.inr none), sDef 7)) (mNew m0 (7, mNX 7, mDef 7)) := sMR_new r0 (by show 0 < 1024; omega) (sCR_def rfl (by omega))
  obtain ⟨B1, w, ⟨zv, z1⟩, i1, k1, w1, run1⟩ := s_exec (XF := sXF xs) (sZero_X xs) sZero_kn sNo_ok 100000 7 284 74 _ _ kC1 start_B sZero_in (0, lv_args 0 [.ref 0], [], mNew m0 (7, mNX 7, mDef 7)) ⟨rfl, sArgs_rel (S := [.inr (.inr (some 0))]) (V := [.ref 0]) 0 ⟨rfl, trivial⟩, trivial, r1⟩
  obtain ⟨q1, q2⟩ := and_inv k1
  obtain ⟨q1, q3⟩ := and_inv q1
  have ez := kNo_ok w1.1 q1
  have ez : zv = none := ez
  subst ez
  have sh := kSh_ok q3 w1.2
  have x1 := mRuns_more (mRuns_xn hxn yXn_tab (by rfl) run1) (fr2 := 7) (lo2 := 304 - (19 + (mInf 74).2.2.1)) (by omega) (by decide)
  refine ⟨z1, [(1, .ref 0), (0, .ref 1000000)], sh, fun n h2 h8 => ?_, rfl, rfl, fun z hz => ?_⟩
  · have mem : n ∈ [2, 3, 4, 5, 6, 7, 8] := by
      obtain rfl | rfl | rfl | rfl | rfl | rfl | rfl := (by omega : n = 2 ∨ n = 3 ∨ n = 4 ∨ n = 5 ∨ n = 6 ∨ n = 7 ∨ n = 8) <;> decide
    have q := List.all_eq_true.mp q2 n mem
    have eN : (dI (n : Int)).toInt = (0 : Int) + Int.ofNat n := by
      rw [dI_i ⟨by omega, by omega⟩]
      show (n : Int) = 0 + (n : Int)
      omega
    obtain ⟨B2, w2, ⟨zv2, z2⟩, i2, k2, w3, run2⟩ := s_exec (XF := sXF xs) (sZero_X xs) sZero_kn sNo_ok 100000 6 260 75 _ _ (kB n) q i1 (0, lv_args 0 [.ref 0, .int (dI (n : Int))], [], z1) ⟨rfl, sArgs_rel (S := [.inr (.inr (some 0)), .inl (0, Int.ofNat n)]) (V := [.ref 0, .int (dI (n : Int))]) 0 ⟨rfl, eN, trivial⟩, trivial, w1.2⟩
    obtain ⟨p1, p2⟩ := and_inv k2
    obtain ⟨p2, p3⟩ := and_inv p2
    obtain ⟨y, ey⟩ := kOne_ok w3.1 p1
    have ey : zv2 = some (.int y) := ey
    subst ey
    have sh2 := kSh_ok p2 w3.2
    have b0 := kBg_ok h8 p3 w3.2
    have x2 := mRuns_xn hxn yXn_tab (by rfl) run2
    have ex : ∃ z : dZ, dQ xs L 1 6 260 75 (0, lv_args 0 [.ref 0, .int (dI (n : Int))], [], z1) z := by
      refine ⟨(z2, y.toInt), ?_, sh2, dI32_rg y⟩
      show mRuns mTab mInf (sXNl L) (sXF xs) 6 260 75 _ (some (.int (dI y.toInt)), z2)
      rw [show dI y.toInt = y from Int32.ofInt_toInt y]
      exact x2
    have sp := Classical.choose_spec ex
    have e := mRuns_eq sp.1 x2
    have e : (Classical.choose ex).1 = z2 := congrArg Prod.snd e
    refine ⟨(Classical.choose ex).1, (Classical.choose ex).2, ?_, by rw [e]; exact b0⟩
    unfold fX7_begin_O
    exact dif_pos ex
  · refine st_new h_99_0 rfl ?_
    refine st_dup h_99_3 rfl ?_
    refine st_special (o := 0) (as := []) (S := [.ref 0]) (w := none) (M1 := z1) h_99_4 rfl rfl rfl rfl rfl rfl rfl rfl x1 rfl ?_
    refine st_astore h_99_7 rfl ?_
    exact hz
/-- whatever the script: the law ends with 1 -/
noncomputable def sGood (L : Nat) (xs : Nat → Int32) : Prop := ∃ M2 : mMem, mRuns mTab mInf (sXNl L) (sXF xs) 9 324 99 (0, [(0, .ref 1000000)], [], m0) (some (.int 1), M2) ∧ M2.1 ≤ 1024 ∧ M2.2.1 ≤ 20000
theorem law_good {L : Nat} {xs : Nat → Int32} (hL : L ≤ 260) : sGood L xs := by
  obtain ⟨N, Nl, h1, h2, h3, h4, h5⟩ := law_start xs L
  obtain ⟨N1, e1⟩ := sl_law h2
  obtain ⟨r1, r2, -⟩ := qL_law_b8 (xs := xs) (Ln := L) ⟨by omega, by omega⟩ h1 h3 h4 e1
  have r1 : mRuns mTab mInf (sXNl L) (sXF xs) 8 304 99 (8, Nl, [], N) (some (.int (Int32.ofInt 1)), N1) := r1
  have e : Int32.ofInt 1 = 1 := by decide
  rw [e] at r1
  exact ⟨N1, mRuns_more (h5 _ r1) (by omega) (by omega), r2.1.1.1, r2.1.1.2⟩


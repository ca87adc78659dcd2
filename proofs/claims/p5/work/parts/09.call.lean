/-! ===== calls ===== -/
theorem mEnt_i3 {ad : Nat → Nat} {cs : mCs} {a n : Nat} {t : mTr Value 11} (h : a = 100) : mEnt ad cs (a, n, t) = .inl (cs.1, n, .inl (mIs (a, n, t))) := mEnt_i (c := (a, n, t)) h
section MSC
variable {p : Program} {l : Launch} {e0 : Env} {R : Room} {s : State} {m : MethodId} {args : Array Value} {below : List Frame} {meth : Method} {c : Code} {H : Heap} {locs : List Loc} {ls : Array Slot} {Q : State → Prop} {D : va_G} {cs : mCs} {base n0 z0 : Nat} {E XN : Nat → Nat} {XF : Nat → Nat → Int32} {M : mMem} {I : Nat → mI} {mi : Nat}
theorem m_back {M2 : mMem} {v : Option Value} {a : Array Value} {pc : Nat} {st0 rest : List Value} (hr : va_Run p l e0 R s m args below meth c H locs (M.1 - n0) (M.2.1 - z0) (M2.1 - M.1) (M2.2.1 - M.2.1) (F0 m pc ls st0) rest (mQc base E D cs v M2 a) (mA base)) (hS : va_S (mA base) s.heap H locs) (h1 : n0 ≤ M.1) (h2 : M.1 ≤ M2.1) (h3 : z0 ≤ M.2.1) (h4 : M.2.1 ≤ M2.2.1)
    (kk : ∀ (H1 : Heap) (locs1 : List Loc), va_P D vwCl (mWs (mAd base E) cs M2) H1 → va_S (mA base) s.heap H1 locs1 → W p l e0 R s m args below meth c H1 locs1 (M2.1 - n0) (M2.2.1 - z0) Q (F0 m (pc + 3) ls ((v.map (mTv (mAd base E))).toList ++ rest))) : W p l e0 R s m args below meth c H locs (M.1 - n0) (M.2.1 - z0) Q (F0 m pc ls st0) := by
  intro T hT X
  obtain ⟨v1, st₀, t, T', L, g0, X', hL, e1, e2, ⟨hv, hp, hz, hk⟩, st⟩ := hr T hT X
  have hv' : v1 = v.map (mTv (mAd base E)) := Outcome.returned.inj hv
  subst hv'
  rw [g0] at hz hk
  have q1 : M.1 - n0 + (M2.1 - M.1) = M2.1 - n0 := by omega
  have q2 : M.2.1 - z0 + (M2.2.1 - M.2.1) = M2.2.1 - z0 := by omega
  rw [q1, q2] at X'
  obtain ⟨t2, a1, b1⟩ := kk T'.heap (locs ++ L) (by rw [e1]; exact hp) ⟨Nat.le_trans hS.1 (by rw [e1]; exact hz), fun q h5 h6 => by rw [e1, hk q (Nat.lt_of_lt_of_le h5 hS.1) h6]; exact hS.2.1 q h5 h6, fun q hq => by
      rcases List.mem_append.mp hq with h | h
      · exact hS.2.2 q h
      · exact hL q h⟩ T' rfl X'
  exact ⟨t2, st t2 a1, b1⟩
theorem m_blind {av : List Value} : FrameBlind (va_Pc av (mPcond base E XN XF D cs M)) := fun a U g mk h => by
  obtain ⟨h1, h2, h3, h4, h5⟩ := h
  exact ⟨h1, h2, h3, va_K.moved (u := U) (U := U.calling g mk a) (Vm.Alike.refl U.vm) h4, mXt_moved (u := U) (U := U.calling g mk a) rfl (Vm.Alike.refl U.vm) (fun _ _ _ => rfl) (Nat.le_refl _) (fun w h1 h2 => by
    cases w <;> first | (simp [mNest] at h1; done) | exact va_Nw.same rfl rfl h2) h5⟩
theorem m_pre {av : List Value} {U : State} (hK : va_K D vwCl (mTys cs) s) (hXt : mXt base E XN XF s) (hP : va_P D vwCl (mWs (mAd base E) cs M) H) (hS : va_S (mA base) s.heap H locs) (hH : H.size = base + M.1) (hU : U.heap = H) (hW : s.WarmedH U.vm) : va_Pc av (mPcond base E XN XF D cs M) av.toArray U :=
  ⟨rfl, by rw [hU]; exact hH, by rw [hU]; exact hP, va_K.moved hW.alike hK, mXt_moved (u := s) (U := U) rfl hW.alike (fun a h1 h2 => by rw [hU]; exact hS.2.1 a h1 h2) (by rw [hU]; exact hS.1) (fun w h1 h2 => by
    cases w <;> first | (simp [mNest] at h1; done) | exact va_Nw.warmF hW h2 | exact va_Nw.warmM hW h2) hXt⟩
/-- what a method's own row says of it -/
theorem mMok_use {x : mI} (h : mMok x = true) : Cond.code x.1 x.2.1 x.2.2.1 x.2.2.2.1 ∈ mTBL ∧ Cond.initialized x.1.cls ∈ mTBL ∧ plainName x.1.cls = true ∧ (x.1.cls ≠ "java/lang/invoke/MethodHandle" ∧ x.1.cls ≠ "java/lang/invoke/VarHandle") ∧ x.2.2.2.2.1 = x.1.cls ∧
    (parseMethodDescriptor x.1.desc).map (fun d => d.parameters.length + (bif x.2.2.2.2.2.2.1 then 0 else 1)) = some x.2.2.2.2.2.1 ∧ (x.2.2.2.2.2.2.1 = true → Cond.static x.1 ∈ mTBL) ∧ (x.2.2.2.2.2.2.1 = false → Cond.instanceMethod x.1 ∈ mTBL) ∧ (x.2.2.2.2.2.2.1 = false → ¬ x.1.name = "<init>" → Cond.selects x.1.cls x.1 x.1 ∈ mTBL) := by
  obtain ⟨y, bytes, maxL, ret, own, n, st, w0, w1, w2, w3⟩ := x
  simp only [mMok, Bool.and_eq_true, decide_eq_true_eq, Bool.or_eq_true] at h
  obtain ⟨h0, h1, h2, h3, h4, h5, h6, h7, h8⟩ := h
  refine ⟨mW_in h0, mW_in h1, h2, ⟨h3, h4⟩, h5, h6, fun q => ?_, fun q => ?_, fun q q2 => ?_⟩
  · have q : st = true := q
    subst q
    exact mW_in h7
  · have q : st = false := q
    subst q
    exact mW_in h7
  · have q : st = false := q
    subst q
    rcases h8 with h8 | h8 | h8
    · cases h8
    · exact absurd h8 q2
    · exact mW_in h8
theorem m_words {y : MethodName} {bytes : ByteArray} {maxL : Nat} {ret : Option FieldType} (hts : ∀ w ∈ mTBL, w.before args s = true) (h : Cond.code y bytes maxL ret ∈ mTBL) : ∀ w ∈ Cond.code y bytes maxL ret :: mTBL, ∀ (a' : Array Value) (U : State), s.WarmedH U.vm → w.before a' U = true :=
  pay_in hts (mTBL_good _ (fun w hw => by
    rcases List.mem_cons.mp hw with rfl | q
    · exact h
    · exact q))
set_option maxHeartbeats 4000000 in
theorem m_step4 {call : Nat → Nat → Nat → List Value → mMem → Option (Option Value × mMem)} {fr lo pc len : Nat} {rt : Option FieldType} {ri ni : ClassFile.Instr} {v : Int} {r1 r2 wi : Nat} {L : List (Nat × Value)} {S : List Value} {y : mCfg}
    (F : mFr I mi base n0 E XN XF D cs p s m args meth c) (G : mG) (hI : ∀ k, k < mNM → mMok (I k) = true) (he : mOk I mi (pc, len, ri, ni, v, r1, r2, wi) = true)
    (hdo : mDo I XN XF call fr lo (I mi).2.2.1 rt (pc, len, ri, ni, v, r1, r2, wi) L S M = some (.inl y))
    (hcall : ∀ mi' fr' lo' as M1 v M2, M1.1 ≤ 1024 → call mi' fr' lo' as M1 = some (v, M2) → mi' < mNM → mCats as ≤ (I mi').2.2.1 → M1.1 ≤ M2.1 ∧ M1.2.1 ≤ M2.2.1 ∧ mMet l I base E XN XF D cs mi' fr' lo' as M1 v M2)
    (hsm : mClass ni = 4)
    (hM : M.1 ≤ 1024) (hn0 : n0 ≤ M.1) (hz0 : z0 ≤ M.2.1) (hRc : y.2.2.2.1 - n0 ≤ R.cells) (hRs : y.2.2.2.2.1 - z0 ≤ R.slots) (hmm : M.1 ≤ y.2.2.2.1 ∧ M.2.1 ≤ y.2.2.2.2.1) (hRf : R.frames = fr) (hRl : R.locals = lo)
    (hP : va_P D vwCl (mWs (mAd base E) cs M) H) (hS : va_S (mA base) s.heap H locs) (hl : lv_has ls (I mi).2.2.1 (mLv (mAd base E) L))
    (kk : ∀ (H1 : Heap) (locs1 : List Loc) (ls' : Array Slot), va_P D vwCl (mWs (mAd base E) cs y.2.2.2) H1 → va_S (mA base) s.heap H1 locs1 → lv_has ls' (I mi).2.2.1 (mLv (mAd base E) y.2.1) → W p l e0 R s m args below meth c H1 locs1 (y.2.2.2.1 - n0) (y.2.2.2.2.1 - z0) Q (F0 m y.1 ls' (y.2.2.1.map (mTv (mAd base E))))) :
    W p l e0 R s m args below meth c H locs (M.1 - n0) (M.2.1 - z0) Q (F0 m pc ls (S.map (mTv (mAd base E)))) := by
  obtain ⟨hx, hb, hml, hown, hts, hK, hXt, hsz, hnm⟩ := F
  have hD : va_D (mA base) (mWs (mAd base E) cs M) := mWs_D hM
  simp only [mOk, Bool.and_eq_true, decide_eq_true_eq] at he
  obtain ⟨hd, hn⟩ := he
  have lt_of : ∀ {a b : Nat}, Nat.blt a b = true → a < b := fun h => by simpa [Nat.blt_eq] using h
  refine m_known hsz hn0 hP hS hM (fun hHs => ?_)
  cases ni
  case invokevirtual i =>
    simp only [mDo] at hdo
    obtain ⟨as, r, rfl, hlen, h⟩ := mPop_inv hdo
    simp only [mNrm, Bool.and_eq_true, decide_eq_true_eq, Nat.beq_eq, Bool.not_eq_true'] at hn
    obtain ⟨rfl, rfl, n1, n2, n3, n4, n5, n6⟩ := hn
    split at h
    · next o as' =>
      obtain ⟨h1, h⟩ := mWhen_inv h
      simp only [Bool.and_eq_true, Nat.beq_eq] at h1
      obtain ⟨o1, o2⟩ := h1
      obtain ⟨c8, f1, l1, ca, v', M', hcl, hy⟩ := mCall_inv h
      have hy := Sum.inl.inj hy
      subst hy
      obtain ⟨m1, m2, hMet⟩ := hcall _ _ _ _ _ _ _ hM hcl (lt_of n1) ca
      obtain ⟨w0, w1, w2, w3, w4, w5, w6, w7, w8⟩ := mMok_use (hI r1 (lt_of n1))
      have hr2 := lt_of n2
      have hg := mWs_get (ad := mAd base E) (cs := cs) (lt_of o1)
      rw [mEnt_obj (show (mObj M o).1 < 100 by omega), o2] at hg
      have hrest : ((r.map (mTv (mAd base E))).map fun v => v.category).sum ≤ 8 := by rw [mCats_map]; exact c8
      have q1 : M'.1 - n0 ≤ R.cells := hRc
      have q2 : M'.2.1 - z0 ≤ R.slots := hRs
      refine m_back (M2 := M') (v := v') (va_runV (As := as'.map (mTv (mAd base E))) (b := mAd base E o) (C := mRX r2) (n := as'.length) (rest := r.map (mTv (mAd base E))) ⟨hx, hb, hml, hown, hts⟩ hMet
        ⟨⟨rfl, rfl, by show fr - 1 + 1 ≤ _; omega, by show 8 + ((I r1).2.2.1 + 11) + (lo - (19 + (I r1).2.2.1)) ≤ _; omega, m_words hts w0, List.mem_cons_self, hts _ w0, hts _ w1, w3, fun sig hsig => ?_, hts _ (mW_in n6)⟩, hts _ (w7 n4), by rw [← n3]; exact hts _ (w8 n4 n5)⟩
        ⟨m_blind, va_recv hK hP (mCl_get r2 hr2) hg, fun U hU hW => m_pre (av := (Value.ref o :: as').map (mTv (mAd base E))) hK hXt hP hS hHs hU hW⟩ rfl (by rw [List.length_map]) hl.1 ?_ (lv_room hrest) hd ⟨by omega, by omega⟩) hS hn0 m1 hz0 m2 (fun H1 locs1 hP1 hS1 => ?_)
      · rw [hsig, n4] at w5
        simp only [Option.map_some, cond_false, Option.some.injEq] at w5
        rw [List.length_cons] at hlen
        omega
      · show List.map _ _ = _
        simp [mTv]
      · have k := kk H1 locs1 ls hP1 hS1 hl
        have e : ((v'.map (mTv (mAd base E))).toList ++ r.map (mTv (mAd base E))) = (v'.toList ++ r).map (mTv (mAd base E)) := by cases v' <;> rfl
        rw [e]
        exact k
    · cases h
  case invokespecial i =>
    simp only [mDo] at hdo
    cases hr2 : Nat.beq r2 0 with
    | true =>
      have h2 : r2 = 0 := Nat.eq_of_beq_eq_true hr2
      subst h2
      rw [hr2, cond_true] at hdo
      obtain ⟨o, r, rfl, h⟩ := mR1_inv hdo
      obtain ⟨h1, h⟩ := mWhen_inv h
      obtain rfl := mNx_inv h
      simp only [mNrm, Bool.and_eq_true, decide_eq_true_eq, Nat.beq_eq] at hn h1
      obtain ⟨rfl, rfl, n1⟩ := hn
      have f1 := Nat.le_of_ble_eq_true h1.1
      have f2 := Nat.le_of_ble_eq_true h1.2
      exact W.objInit hx hb hown (hts _ (mW_in n1)) (hts _ G.2.1) (hts _ G.2.2.1) rfl (hl.1.trans hml.symm) rfl hd (by omega) (by rw [mCats_map]; show 2 * 0 + _ + _ ≤ _; omega) (kk H locs ls hP hS hl)
    | false =>
      rw [hr2, cond_false] at hdo
      obtain ⟨as, r, rfl, hlen, h⟩ := mPop_inv hdo
      split at h
      · next o as' =>
        obtain ⟨c8, f1, l1, ca, v', M', hcl, hy⟩ := mCall_inv h
        have hy := Sum.inl.inj hy
        subst hy
        have hrest : ((r.map (mTv (mAd base E))).map fun v => v.category).sum ≤ 8 := by rw [mCats_map]; exact c8
        have q1 : M'.1 - n0 ≤ R.cells := hRc
        have q2 : M'.2.1 - z0 ≤ R.slots := hRs
        match r2, hr2, hn with
        | 0, hr2, _ => cases hr2
        | 1, _, hn =>
          simp only [mNrm, Bool.and_eq_true, decide_eq_true_eq, Nat.beq_eq, Bool.not_eq_true'] at hn
          obtain ⟨rfl, rfl, ⟨n1, n4⟩, n5, n7, n6⟩ := hn
          obtain ⟨m1, m2, hMet⟩ := hcall _ _ _ _ _ _ _ hM hcl (lt_of n1) ca
          obtain ⟨w0, w1, w2, w3, w4, w5, w6, w7, w8⟩ := mMok_use (hI r1 (lt_of n1))
          have w0' := w0
          rw [n7] at w0'
          unfold mMet at hMet
          rw [n7] at hMet
          refine m_back (M2 := M') (v := v') (va_runI (As := as'.map (mTv (mAd base E))) (b := mAd base E o) (n := as'.length) (rest := r.map (mTv (mAd base E))) ⟨hx, hb, hml, hown, hts⟩ hMet
            ⟨⟨rfl, rfl, by show fr - 1 + 1 ≤ _; omega, by show 8 + ((I r1).2.2.1 + 11) + (lo - (19 + (I r1).2.2.1)) ≤ _; omega, m_words hts w0', List.mem_cons_self, hts _ w0', hts _ w1, w3, fun sig hsig => ?_, hts _ (mW_in n6)⟩, n5, hts _ (w7 n4)⟩
            ⟨m_blind, fun U hU hW => m_pre (av := (Value.ref o :: as').map (mTv (mAd base E))) hK hXt hP hS hHs hU hW⟩ rfl (by rw [List.length_map]) hl.1 ?_ (lv_room hrest) hd ⟨by omega, by omega⟩) hS hn0 m1 hz0 m2 (fun H1 locs1 hP1 hS1 => ?_)
          · rw [hsig, n4] at w5
            simp only [Option.map_some, cond_false, Option.some.injEq] at w5
            rw [List.length_cons] at hlen
            omega
          · show List.map _ _ = _
            simp [mTv]
          · have k := kk H1 locs1 ls hP1 hS1 hl
            have e : ((v'.map (mTv (mAd base E))).toList ++ r.map (mTv (mAd base E))) = (v'.toList ++ r).map (mTv (mAd base E)) := by cases v' <;> rfl
            rw [e]
            exact k
        | z + 2, _, hn =>
          simp only [mNrm, Bool.and_eq_true, decide_eq_true_eq, Nat.beq_eq, Bool.not_eq_true'] at hn
          obtain ⟨rfl, rfl, ⟨n1, n4⟩, n5, n7, n6⟩ := hn
          obtain ⟨m1, m2, hMet⟩ := hcall _ _ _ _ _ _ _ hM hcl (lt_of n1) ca
          obtain ⟨w0, w1, w2, w3, w4, w5, w6, w7, w8⟩ := mMok_use (hI r1 (lt_of n1))
          have w0' := w0
          rw [n7] at w0'
          unfold mMet at hMet
          rw [n7] at hMet
          refine m_back (M2 := M') (v := v') (va_runIN (host := "EarlyToken") (As := as'.map (mTv (mAd base E))) (b := mAd base E o) (n := as'.length) (rest := r.map (mTv (mAd base E))) ⟨hx, hb, hml, hown, hts⟩ hMet
            ⟨⟨⟨rfl, rfl, by show fr - 1 + 1 ≤ _; omega, by show 8 + ((I r1).2.2.1 + 11) + (lo - (19 + (I r1).2.2.1)) ≤ _; omega, m_words hts w0', List.mem_cons_self⟩, hts _ w0', hts _ w1, w3, fun sig hsig => ?_, va_Nw.use rfl (hXt.2.2.2.2 _ (mWn_in n6).1 (mWn_in n6).2)⟩, n5, hts _ (w7 n4)⟩
            ⟨m_blind, fun U hU hW => m_pre (av := (Value.ref o :: as').map (mTv (mAd base E))) hK hXt hP hS hHs hU hW⟩ rfl (by rw [List.length_map]) hl.1 ?_ (lv_room hrest) hd ⟨by omega, by omega⟩) hS hn0 m1 hz0 m2 (fun H1 locs1 hP1 hS1 => ?_)
          · rw [hsig, n4] at w5
            simp only [Option.map_some, cond_false, Option.some.injEq] at w5
            rw [List.length_cons] at hlen
            omega
          · show List.map _ _ = _
            simp [mTv]
          · have k := kk H1 locs1 ls hP1 hS1 hl
            have e : ((v'.map (mTv (mAd base E))).toList ++ r.map (mTv (mAd base E))) = (v'.toList ++ r).map (mTv (mAd base E)) := by cases v' <;> rfl
            rw [e]
            exact k
      · cases h
  case invokestatic i =>
    simp only [mDo] at hdo
    cases hr2 : Nat.beq r2 0 with
    | true =>
      have h2 : r2 = 0 := Nat.eq_of_beq_eq_true hr2
      subst h2
      rw [hr2, cond_true] at hdo
      obtain ⟨as, r, rfl, hlen, h⟩ := mPop_inv hdo
      obtain ⟨c8, f1, l1, ca, v', M', hcl, hy⟩ := mCall_inv h
      have hy := Sum.inl.inj hy
      subst hy
      have hrest : ((r.map (mTv (mAd base E))).map fun v => v.category).sum ≤ 8 := by rw [mCats_map]; exact c8
      have q1 : M'.1 - n0 ≤ R.cells := hRc
      have q2 : M'.2.1 - z0 ≤ R.slots := hRs
      simp only [mNrm, Bool.and_eq_true, decide_eq_true_eq, Nat.beq_eq, Bool.not_eq_true'] at hn
      obtain ⟨rfl, rfl, n1, n4, n6⟩ := hn
      obtain ⟨m1, m2, hMet⟩ := hcall _ _ _ _ _ _ _ hM hcl (lt_of n1) ca
      obtain ⟨w0, w1, w2, w3, w4, w5, w6, w7, w8⟩ := mMok_use (hI r1 (lt_of n1))
      refine m_back (M2 := M') (v := v') (va_runS (As := as.map (mTv (mAd base E))) (n := as.length) (rest := r.map (mTv (mAd base E))) ⟨hx, hb, hml, hown, hts⟩ hMet
        ⟨⟨rfl, rfl, by show fr - 1 + 1 ≤ _; omega, by show 8 + ((I r1).2.2.1 + 11) + (lo - (19 + (I r1).2.2.1)) ≤ _; omega, m_words hts w0, List.mem_cons_self, hts _ w0, hts _ w1, w3, fun sig hsig => ?_, hts _ (mW_in n6)⟩, hts _ (w6 n4)⟩
        ⟨m_blind, fun U hU hW => m_pre (av := as.map (mTv (mAd base E))) hK hXt hP hS hHs hU hW⟩ rfl (by rw [List.length_map]) hl.1 ?_ (lv_room hrest) hd ⟨by omega, by omega⟩) hS hn0 m1 hz0 m2 (fun H1 locs1 hP1 hS1 => ?_)
      · rw [hsig, n4] at w5
        simp only [Option.map_some, cond_true, Option.some.injEq] at w5
        omega
      · show List.map _ _ = _
        simp
      · have k := kk H1 locs1 ls hP1 hS1 hl
        have e : ((v'.map (mTv (mAd base E))).toList ++ r.map (mTv (mAd base E))) = (v'.toList ++ r).map (mTv (mAd base E)) := by cases v' <;> rfl
        rw [e]
        exact k
    | false =>
      rw [hr2, cond_false] at hdo
      have hcr : M.1 - n0 ≤ R.cells ∧ M.2.1 - z0 ≤ R.slots := by
        obtain ⟨a1, a2⟩ := hmm
        omega
      cases hr1 : Nat.beq r2 1 with
      | true =>
        rw [hr1, cond_true] at hdo
        split at hdo
        · next n dp b sp a r =>
          obtain ⟨h1, h⟩ := mWhen_inv hdo
          simp only [Bool.and_eq_true, Nat.beq_eq, Bool.not_eq_true', decide_eq_false_iff_not] at h1
          obtain ⟨g1, g2, g3, g4, g5, b1, b2, b3, b4⟩ := h1
          have g1 := Nat.le_of_ble_eq_true g1
          have g2 := Nat.le_of_ble_eq_true g2
          have b3 := Nat.le_of_ble_eq_true b3
          have b4 := Nat.le_of_ble_eq_true b4
          have hw : 18 = nativeFrameWords "java/lang/System" "arraycopy" 5 + 11 := by decide
          have hgb := mWs_get (ad := mAd base E) (cs := cs) (lt_of b1)
          rw [mEnt_i b2] at hgb
          have h2 : r2 = 1 := Nat.eq_of_beq_eq_true hr1
          subst h2
          simp only [mNrm, Bool.and_eq_true, decide_eq_true_eq, Nat.beq_eq] at hn
          obtain ⟨rfl, rfl, n1⟩ := hn
          obtain ⟨-, -, -, u1, u2, u3, -⟩ := G
          cases hb0 : Nat.blt a 1000000 with
          | true =>
            rw [hb0, cond_true] at h
            obtain ⟨h1, h⟩ := mWhen_inv h
            obtain rfl := mNx_inv h
            simp only [Bool.and_eq_true, Nat.beq_eq] at h1
            obtain ⟨a1, a2, a3, a4⟩ := h1
            have a3 := Nat.le_of_ble_eq_true a3
            have a4 := Nat.le_of_ble_eq_true a4
            have hga := mWs_get (ad := mAd base E) (cs := cs) (lt_of a1)
            rw [mEnt_i a2] at hga
            have hput := mWs_put (ad := mAd base E) (cs := cs) (c := ((mObj M b).1, (mObj M b).2.1, mCpy (mSlot (mObj M a)) sp.toNatClampNeg dp.toNatClampNeg n.toNatClampNeg (mObj M b).2.2)) hM (lt_of b1) (show (.inl (cs.1, (mObj M b).2.1, .inl (va_cpy (mIs (mObj M a)) (mIs (mObj M b)) sp.toNatClampNeg dp.toNatClampNeg n.toNatClampNeg)) : va_E) = _ by
              rw [mCpy_is (g := mIs (mObj M a)) (c := mObj M b) (sp := sp.toNatClampNeg) (dp := dp.toNatClampNeg) (n := n.toNatClampNeg) (f := mSlot (mObj M a)) (fun j hj => if_pos (by omega)) (by omega)]
              exact (mEnt_i3 b2).symm)
            exact va_copyi (ty := .int) hx hb (hml.trans hl.1.symm) hown (hts _ (mW_in n1)) (hts _ u1) (hts _ u2) (hts _ u3) hK hP hD hS a b 0 0 hga hgb rfl rfl rfl g3 g4 g5 a3 b3 (fun _ _ => rfl) (by omega) (by rw [mCats_map, ← hw]; omega) hd
              (fun H1 locs1 hP1 _ hS1 => kk H1 locs1 ls (by rw [hput] at hP1; exact hP1) hS1 hl)
          | false =>
            rw [hb0, cond_false] at h
            obtain ⟨h1, h⟩ := mWhen_inv h
            obtain rfl := mNx_inv h
            simp only [Bool.and_eq_true] at h1
            obtain ⟨a1, a3⟩ := h1
            have a3 := Nat.le_of_ble_eq_true a3
            have ho : ¬ a < 1000000 := fun q => by rw [Nat.blt_eq.mpr q] at hb0; cases hb0
            obtain ⟨x1, x2, x3⟩ := hXt.2.1 (a - 1000000) (lt_of a1)
            have e : mTv (mAd base E) (.ref a) = .ref (E (a - 1000000)) := by
              show Value.ref (mAd base E a) = _
              unfold mAd
              rw [if_neg ho]
            have hput := mWs_put (ad := mAd base E) (cs := cs) (c := ((mObj M b).1, (mObj M b).2.1, mCpy (fun j => .int (XF (a - 1000000) j)) sp.toNatClampNeg dp.toNatClampNeg n.toNatClampNeg (mObj M b).2.2)) hM (lt_of b1) (show (.inl (cs.1, (mObj M b).2.1, .inl (va_cpy (XF (a - 1000000)) (mIs (mObj M b)) sp.toNatClampNeg dp.toNatClampNeg n.toNatClampNeg)) : va_E) = _ by
              rw [mCpy_is (g := XF (a - 1000000)) (c := mObj M b) (sp := sp.toNatClampNeg) (dp := dp.toNatClampNeg) (n := n.toNatClampNeg) (f := fun j => .int (XF (a - 1000000) j)) (fun j hj => rfl) (by omega)]
              exact (mEnt_i3 b2).symm)
            simp only [List.map_cons, e]
            exact va_copyx hx hb (hml.trans hl.1.symm) hown (hts _ (mW_in n1)) (hts _ u1) (hts _ u2) (hts _ u3) hK hP hD hS x1 x2 (Nat.not_le.mpr x3) b 0 hgb rfl g3 g4 g5 a3 b3 (by omega) (by rw [mCats_map, ← hw]; omega) hd
              (fun H1 locs1 hP1 _ hS1 => kk H1 locs1 ls (by rw [hput] at hP1; exact hP1) hS1 hl)
        · cases hdo
      | false =>
        rw [hr1, cond_false] at hdo
        obtain ⟨x, w, r, rfl, h⟩ := mI2_inv hdo
        obtain ⟨h1, h⟩ := mWhen_inv h
        obtain rfl := mNx_inv h
        simp only [Bool.and_eq_true] at h1
        have g1 := Nat.le_of_ble_eq_true h1.1
        have g2 := Nat.le_of_ble_eq_true h1.2
        obtain ⟨-, -, -, -, -, -, -, v1, ⟨v2, v3⟩, v4, v5⟩ := G
        match r2, hr2, hr1, hn, kk with
        | 0, hr2, _, _, _ => cases hr2
        | 1, _, hr1, _, _ => cases hr1
        | 2, _, _, hn, kk =>
          simp only [mNrm, Bool.and_eq_true, decide_eq_true_eq, Nat.beq_eq] at hn
          obtain ⟨rfl, rfl, n1⟩ := hn
          exact va_mmax hx hb (hml.trans hl.1.symm) hown (hts _ (mW_in n1)) (hts _ v2) (hts _ v1) (hts _ v3) (by omega) (by rw [mCats_map]; omega) hcr.1 hcr.2 hd (kk H locs ls hP hS hl)
        | z + 3, _, _, hn, kk =>
          simp only [mNrm, Bool.and_eq_true, decide_eq_true_eq, Nat.beq_eq] at hn
          obtain ⟨rfl, rfl, n1⟩ := hn
          exact va_mmin hx hb (hml.trans hl.1.symm) hown (hts _ (mW_in n1)) (hts _ v4) (hts _ v1) (hts _ v5) (by omega) (by rw [mCats_map]; omega) hcr.1 hcr.2 hd (kk H locs ls hP hS hl)
  all_goals simp [mClass] at hsm
end MSC

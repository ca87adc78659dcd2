/-! ===== steps that read or write memory, or make cells ===== -/
theorem mEnt_obj {ad : Nat → Nat} {cs : mCs} {c : mCell} (h : c.1 < 100) : mEnt ad cs c = .inr (c.1, mFs ad c) := if_pos h
theorem mEnt_i {ad : Nat → Nat} {cs : mCs} {c : mCell} (h : c.1 = 100) : mEnt ad cs c = .inl (cs.1, c.2.1, .inl (mIs c)) := by
  unfold mEnt
  rw [if_neg (by omega), if_pos h]
theorem mEnt_ii {ad : Nat → Nat} {cs : mCs} {c : mCell} (h : c.1 = 101) : mEnt ad cs c = .inl (cs.2.1, c.2.1, .inr (.inr (.inr (.inr (mQs ad c))))) := by
  unfold mEnt
  rw [if_neg (by omega), if_neg (by omega), if_pos h]
theorem mEnt_q {ad : Nat → Nat} {cs : mCs} {c : mCell} (h : c.1 = 102) : mEnt ad cs c = .inl (cs.2.2, c.2.1, .inr (.inr (.inr (.inr (mQs ad c))))) := by
  unfold mEnt
  rw [if_neg (by omega), if_neg (by omega), if_neg (by omega)]
theorem mQs_rf {ad : Nat → Nat} {c : mCell} {j : Nat} (h : j < 2048) : va_rf (mQs ad c j) = mTv ad (mRv (mSlot c j)) := by
  unfold mQs
  rw [if_pos h]
  exact mRv_tv ad _
section MSM
variable {p : Program} {l : Launch} {e0 : Env} {R : Room} {s : State} {m : MethodId} {args : Array Value} {below : List Frame} {meth : Method} {c : Code} {H : Heap} {locs : List Loc} {ls : Array Slot} {Q : State → Prop} {D : va_G} {cs : mCs} {base n0 z0 : Nat} {E XN : Nat → Nat} {XF : Nat → Nat → Int32} {M : mMem} {I : Nat → mI} {mi : Nat}
set_option maxHeartbeats 4000000 in
theorem m_step2 {call : Nat → Nat → Nat → List Value → mMem → Option (Option Value × mMem)} {fr lo pc len : Nat} {rt : Option FieldType} {ri ni : ClassFile.Instr} {v : Int} {r1 r2 wi : Nat} {L : List (Nat × Value)} {S : List Value} {y : mCfg}
    (F : mFr I mi base n0 E XN XF D cs p s m args meth c) (G : mG) (he : mOk I mi (pc, len, ri, ni, v, r1, r2, wi) = true)
    (hdo : mDo I XN XF call fr lo (I mi).2.2.1 rt (pc, len, ri, ni, v, r1, r2, wi) L S M = some (.inl y))
    (hsm : mClass ni = 2)
    (hM : M.1 ≤ 1024) (hP : va_P D vwCl (mWs (mAd base E) cs M) H) (hS : va_S (mA base) s.heap H locs) (hl : lv_has ls (I mi).2.2.1 (mLv (mAd base E) L))
    (kk : ∀ (H1 : Heap) (locs1 : List Loc) (ls' : Array Slot), va_P D vwCl (mWs (mAd base E) cs y.2.2.2) H1 → va_S (mA base) s.heap H1 locs1 → lv_has ls' (I mi).2.2.1 (mLv (mAd base E) y.2.1) → y.2.2.2.1 = M.1 → y.2.2.2.2.1 = M.2.1 → W p l e0 R s m args below meth c H1 locs1 (M.1 - n0) (M.2.1 - z0) Q (F0 m y.1 ls' (y.2.2.1.map (mTv (mAd base E))))) :
    W p l e0 R s m args below meth c H locs (M.1 - n0) (M.2.1 - z0) Q (F0 m pc ls (S.map (mTv (mAd base E)))) := by
  obtain ⟨hx, hb, hml, hown, hts, hK, hXt, hsz, hnm⟩ := F
  obtain ⟨hZs, hXs, hAO, hAI, hNw⟩ := hXt
  have hD : va_D (mA base) (mWs (mAd base E) cs M) := mWs_D hM
  simp only [mOk, Bool.and_eq_true, decide_eq_true_eq] at he
  obtain ⟨hd, hn⟩ := he
  have lt_of : ∀ {a b : Nat}, Nat.blt a b = true → a < b := fun h => by simpa [Nat.blt_eq] using h
  cases ni
  case getfield i =>
    obtain ⟨o, r, rfl, h⟩ := mR1_inv hdo
    obtain ⟨h1, h⟩ := mWhen_inv h
    obtain rfl := mNx_inv h
    simp only [mNrm, Bool.and_eq_true, decide_eq_true_eq, Nat.beq_eq] at hn h1
    obtain ⟨rfl, rfl, n1, n2, n3⟩ := hn
    obtain ⟨o1, o2, o3⟩ := h1
    have hr1 := lt_of n1
    have hc : (mObj M o).1 < 100 := by omega
    have hg := mWs_get (ad := mAd base E) (cs := cs) (lt_of o1)
    rw [mEnt_obj hc, o2] at hg
    exact va_get (Ts := mTBL) (ref := (mTX r1 r2).1) hx hb hts (G.1 r1 hr1).1 hown hK hP o hg (mCl_get r1 hr1) r2 (lt_of n2) (hts _ (mW_in n3)) (fun x h => h) (mFs_get (lt_of o3)) hd (kk H locs ls hP hS hl rfl rfl)
  case putfield i =>
    obtain ⟨w, o, r, rfl, h⟩ := mVR_inv hdo
    obtain ⟨h1, h⟩ := mWhen_inv h
    obtain rfl := mNx_inv h
    simp only [mNrm, Bool.and_eq_true, decide_eq_true_eq, Nat.beq_eq] at hn h1
    obtain ⟨rfl, rfl, n1, n2, n3, n4⟩ := hn
    obtain ⟨o1, o2, o3, o4, o5⟩ := h1
    have hr1 := lt_of n1
    have hc : (mObj M o).1 < 100 := by omega
    have hle := Nat.le_of_ble_eq_true o4
    have hg := mWs_get (ad := mAd base E) (cs := cs) (lt_of o1)
    rw [mEnt_obj hc, o2] at hg
    have hput := mWs_put (ad := mAd base E) (cs := cs) (c := mCset (mObj M o) r2 w) hM (lt_of o1) (show (.inr (r1, (mFs (mAd base E) (mObj M o)).set r2 (mTv (mAd base E) w)) : va_E) = _ by
      rw [mEnt_obj (show (mCset (mObj M o) r2 w).1 < 100 from hc), mFs_set (lt_of o3) hle]
      show _ = Sum.inr ((mObj M o).1, _)
      rw [o2])
    obtain ⟨f1, f2⟩ := mFit_fits (ad := mAd base E) o5
    cases hfin : (mTX r1 r2).2.2.2 with
    | false =>
      exact va_put (Ts := mTBL) (ref := (mTX r1 r2).1) hx hb hts (G.1 r1 hr1).1 (mTyX r1) (mTy_ok r1 hr1) (mNm_ok r1 hr1) hown hK hP hD hS o hg (mCl_get r1 hr1) r2 (lt_of n2) (hts _ (mW_in n3)) (fun x h => h) hfin (mTy_ok r1 hr1 r2 (lt_of n2)) f1 f2 (by rw [mFs_len]; exact lt_of o3) hd
        (fun H1 locs1 hP1 _ hS1 => kk H1 locs1 ls (by rw [hput] at hP1; exact hP1) hS1 hl rfl rfl)
    | true =>
      rw [hfin] at n4
      simp only [Bool.not_true, Bool.false_or, Bool.and_eq_true, decide_eq_true_eq] at n4
      exact va_putF (Ts := mTBL) (ref := (mTX r1 r2).1) hx hb hts (G.1 r1 hr1).1 (mTyX r1) (mTy_ok r1 hr1) (mNm_ok r1 hr1) hown hK hP hD hS o hg (mCl_get r1 hr1) r2 (lt_of n2) (hts _ (mW_in n3)) (fun x h => h) hfin (hnm.trans n4.1) n4.2 (mTy_ok r1 hr1 r2 (lt_of n2)) f1 f2 (by rw [mFs_len]; exact lt_of o3) hd
        (fun H1 locs1 hP1 _ hS1 => kk H1 locs1 ls (by rw [hput] at hP1; exact hP1) hS1 hl rfl rfl)
  case getstatic i =>
    obtain rfl := mNx_inv hdo
    simp only [mNrm, Bool.and_eq_true, decide_eq_true_eq, Nat.beq_eq] at hn
    obtain ⟨rfl, rfl, n1, n2, n3⟩ := hn
    have k := kk H locs ls hP hS hl rfl rfl
    have e : mTv (mAd base E) (.ref (1000000 + r1)) = .ref (E r1) := by
      show Value.ref (mAd base E (1000000 + r1)) = _
      rw [mAd_ext]
    simp only [List.map_cons, e] at k
    cases hr2 : Nat.beq r2 0 with
    | true =>
      rw [hr2] at n3
      exact va_gets (ref := "EarlyToken") hx hb (hZs r1 (lt_of n1) (lt_of n2)) hS hown (hts _ (mW_in n3)) (fun x h => h) hd k
    | false =>
      rw [hr2] at n3
      exact va_getsN (ref := "EarlyToken") hx hb (hZs r1 (lt_of n1) (lt_of n2)) hS hown (va_Nw.use rfl (hNw _ (mWn_in n3).1 (mWn_in n3).2)) (fun x h => h) hd k
  case iaload =>
    obtain ⟨o, i, r, rfl, h⟩ := mRI_inv hdo
    simp only [mNrm, Bool.and_eq_true, decide_eq_true_eq, Nat.beq_eq] at hn
    obtain ⟨rfl, rfl⟩ := hn
    cases hb0 : Nat.blt o 1000000 with
    | true =>
      rw [hb0, cond_true] at h
      obtain ⟨h1, h⟩ := mWhen_inv h
      obtain rfl := mNx_inv h
      simp only [Bool.and_eq_true, Nat.beq_eq] at h1
      obtain ⟨o1, o2, o3⟩ := h1
      obtain ⟨i1, i2, i3⟩ := mInO_in o3
      have hg := mWs_get (ad := mAd base E) (cs := cs) (lt_of o1)
      rw [mEnt_i o2] at hg
      have e : mIs (mObj M o) i.toNatClampNeg = mIof (mSlot (mObj M o) i.toNatClampNeg) := if_pos (by omega)
      have k := kk H locs ls hP hS hl rfl rfl
      rw [← e] at k
      exact va_iald hx hb hK hP o 0 hg rfl i1 hd k
    | false =>
      rw [hb0, cond_false] at h
      obtain ⟨h1, h⟩ := mWhen_inv h
      obtain rfl := mNx_inv h
      simp only [Bool.and_eq_true] at h1
      obtain ⟨o1, o3⟩ := h1
      have ho : ¬ o < 1000000 := fun q => by rw [Nat.blt_eq.mpr q] at hb0; cases hb0
      obtain ⟨x1, x2, x3⟩ := hXs (o - 1000000) (lt_of o1)
      have e : mTv (mAd base E) (.ref o) = .ref (E (o - 1000000)) := by
        show Value.ref (mAd base E o) = _
        unfold mAd
        rw [if_neg ho]
      rw [List.map_cons, List.map_cons, e]
      exact va_sld hx hb x1 x2 (Nat.not_le.mpr x3) hS (mInB_in o3) hd (kk H locs ls hP hS hl rfl rfl)
  case aaload =>
    obtain ⟨o, i, r, rfl, h⟩ := mRI_inv hdo
    simp only [mNrm, Bool.and_eq_true, decide_eq_true_eq, Nat.beq_eq] at hn
    obtain ⟨rfl, rfl⟩ := hn
    obtain ⟨h1, h⟩ := mWhen_inv h
    obtain rfl := mNx_inv h
    simp only [Bool.and_eq_true, Bool.or_eq_true, Nat.beq_eq] at h1
    obtain ⟨o1, o2, o3⟩ := h1
    obtain ⟨i1, i2, i3⟩ := mInO_in o3
    have hg := mWs_get (ad := mAd base E) (cs := cs) (lt_of o1)
    have e := mQs_rf (ad := mAd base E) (c := mObj M o) (show i.toNatClampNeg < 2048 by omega)
    have k := kk H locs ls hP hS hl rfl rfl
    simp only [List.map_cons] at k
    rw [← e] at k
    rcases o2 with o2 | o2
    · rw [mEnt_ii o2] at hg
      exact W.aald (v := va_rf (mQs (mAd base E) (mObj M o) i.toNatClampNeg)) (ty := .array .int) hx hb (hP o _ hg) ((hK.2 1 _ rfl).1 (mObj M o).2.1 (fun j => va_rf (mQs (mAd base E) (mObj M o) j))) rfl (fun q => by cases q) (by show ¬ (i < 0 ∨ (arrV _ _ _).slots.size ≤ _); rw [arrV_size]; exact i1) (by show (arrV _ _ _).slots[_]? = _; rw [arrV_read _ _ i2]) rfl rfl hd k
    · rw [mEnt_q o2] at hg
      exact va_aldq hx hb hK hP o 2 hg rfl i1 hd k
  case iastore =>
    obtain ⟨o, i, w, r, rfl, h⟩ := mRIV_inv hdo
    simp only [mNrm, Bool.and_eq_true, decide_eq_true_eq, Nat.beq_eq] at hn
    obtain ⟨rfl, rfl⟩ := hn
    obtain ⟨h1, h⟩ := mWhen_inv h
    obtain rfl := mNx_inv h
    simp only [Bool.and_eq_true, Nat.beq_eq] at h1
    obtain ⟨o1, o2, o3, o4⟩ := h1
    obtain ⟨i1, i2, i3⟩ := mInO_in o3
    obtain ⟨x, rfl⟩ : ∃ x : Int32, w = .int x := by
      cases w with
      | int x => exact ⟨x, rfl⟩
      | _ => cases o4
    have hg := mWs_get (ad := mAd base E) (cs := cs) (lt_of o1)
    rw [mEnt_i o2] at hg
    have hput := mWs_put (ad := mAd base E) (cs := cs) (c := mCset (mObj M o) i.toNatClampNeg (.int x)) hM (lt_of o1) (show (.inl (cs.1, (mObj M o).2.1, .inl (upd (mIs (mObj M o)) i.toNatClampNeg x)) : va_E) = _ by
      rw [mEnt_i (show (mCset (mObj M o) i.toNatClampNeg (.int x)).1 = 100 from o2), mIs_set (by omega)]
      rfl)
    exact va_iast hx hb hK hP hD hS o 0 hg rfl i1 hd (fun H1 locs1 hP1 _ hS1 => kk H1 locs1 ls (by rw [hput] at hP1; exact hP1) hS1 hl rfl rfl)
  case aastore =>
    obtain ⟨o, i, w, r, rfl, h⟩ := mRIV_inv hdo
    simp only [mNrm, Bool.and_eq_true, decide_eq_true_eq, Nat.beq_eq] at hn
    obtain ⟨rfl, rfl⟩ := hn
    split at h
    · next u =>
      obtain ⟨h1, h⟩ := mWhen_inv h
      obtain rfl := mNx_inv h
      simp only [Bool.and_eq_true, Nat.beq_eq] at h1
      obtain ⟨o1, o2, o3, o4, o5⟩ := h1
      obtain ⟨i1, i2, i3⟩ := mInO_in o3
      have hg := mWs_get (ad := mAd base E) (cs := cs) (lt_of o1)
      rw [mEnt_q o2] at hg
      have hv := mWs_get (ad := mAd base E) (cs := cs) (lt_of o4)
      rw [mEnt_obj (show (mObj M _).1 < 100 by omega), o5] at hv
      have hput := fun u => mWs_put (ad := mAd base E) (cs := cs) (c := mCset (mObj M o) i.toNatClampNeg (.ref u)) hM (lt_of o1) (show (.inl (cs.2.2, (mObj M o).2.1, .inr (.inr (.inr (.inr (va_up (mQs (mAd base E) (mObj M o)) i.toNatClampNeg (some (mAd base E u))))))) : va_E) = _ by
        rw [mEnt_q (show (mCset (mObj M o) i.toNatClampNeg (.ref u)).1 = 102 from o2), mQs_set (by omega)]
        rfl)
      exact va_astq (r := (RX5, TX5, 19)) hx hb hK hP hD hS o 2 _ 5 hg rfl hv rfl i1 hd (fun H1 locs1 hP1 _ hS1 => kk H1 locs1 ls (by rw [hput] at hP1; exact hP1) hS1 hl rfl rfl)
    · cases h
  case arraylength =>
    obtain ⟨o, r, rfl, h⟩ := mR1_inv hdo
    simp only [mNrm, Bool.and_eq_true, decide_eq_true_eq, Nat.beq_eq] at hn
    obtain ⟨rfl, rfl⟩ := hn
    obtain ⟨h1, h⟩ := mWhen_inv h
    obtain rfl := mNx_inv h
    simp only [Bool.and_eq_true] at h1
    obtain ⟨o1, o3⟩ := h1
    have ho : ¬ o < 1000000 := Nat.not_lt.mpr (Nat.le_of_ble_eq_true o1)
    obtain ⟨x1, x2, x3⟩ := hXs (o - 1000000) (lt_of o3)
    have e : mTv (mAd base E) (.ref o) = .ref (E (o - 1000000)) := by
      show Value.ref (mAd base E o) = _
      unfold mAd
      rw [if_neg ho]
    rw [List.map_cons, e]
    exact va_slen hx hb x1 x2 (Nat.not_le.mpr x3) hS hd (kk H locs ls hP hS hl rfl rfl)
  all_goals simp [mClass] at hsm
end MSM

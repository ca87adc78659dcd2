/-! ===== steps that make cells ===== -/
theorem vr_outer (c : ClassId) (N h0 : Nat) : ∀ i : Nat, Jvm.Free.Multi.outerC c N h0 i = arrV c N (fun j => va_rf (if j < i then some (h0 + 1 + j) else none))
  | 0 => by
    show ({ cls := c, slots := Array.replicate N .null, vm := .none } : Cell) = _
    rw [arrV_new]
    refine congrArg (arrV c N) (funext fun j => ?_)
    simp [va_rf]
  | i + 1 => by
    show (Jvm.Free.Multi.outerC c N h0 i).setSlot i (.ref (h0 + 1 + i)) = _
    rw [vr_outer c N h0 i, arrV_store]
    refine congrArg (arrV c N) (funext fun j => ?_)
    by_cases e : j = i
    · subst e
      simp [updV, va_rf]
    · by_cases h : j < i
      · simp [updV, e, h, Nat.lt_succ_of_lt h]
      · simp [updV, e, h, show ¬ j < i + 1 by omega]
theorem arrV_same {cI : ClassId} {N : Nat} {f g : Nat → Value} (h : ∀ j, j < N → f j = g j) : arrV cI N f = arrV cI N g := by
  unfold arrV
  congr 1
  congr 1
  funext j
  exact h j.val j.isLt
theorem mIs_0 (a n : Nat) : mIs (a, n, mFill 11 (.int 0)) = fun _ => 0 := by
  funext j
  unfold mIs mSlot
  rw [mGet_fill]
  split <;> rfl
theorem mQs_0 (ad : Nat → Nat) (a n : Nat) : mQs ad (a, n, mFill 11 .null) = fun _ => none := by
  funext j
  unfold mQs mSlot
  rw [mGet_fill]
  split <;> rfl
theorem mRefs_get (o : Nat) : ∀ (n j : Nat), n ≤ 2048 → j < n → mGet 11 (mRefs o n) j = .ref (o + j)
  | 0, _, _, h => absurd h (Nat.not_lt_zero _)
  | n + 1, j, hn, h => by
    show mGet 11 (mSet 11 (mRefs o n) n (.ref (o + n))) j = _
    rw [mGet_set 11 _ n j _ (by omega) (by omega)]
    by_cases e : n = j
    · rw [if_pos e, e]
    · rw [if_neg e]
      exact mRefs_get o n j (by omega) (by omega)
theorem mRows_1 (k : Nat) (M : mMem) : ∀ n, (mRows k n M).1 = M.1 + n
  | 0 => rfl
  | n + 1 => by
    show (mRows k n M).1 + 1 = _
    rw [mRows_1 k M n]
    omega
theorem mRows_2 (k : Nat) (M : mMem) : ∀ n, (mRows k n M).2.1 = M.2.1 + n * k
  | 0 => by simp [mRows]
  | n + 1 => by
    show (mRows k n M).2.1 + k = _
    rw [mRows_2 k M n, Nat.succ_mul]
    omega
theorem mRows_obj (k : Nat) (M : mMem) : ∀ (n o : Nat), M.1 + n ≤ 1024 → o < M.1 + n → mObj (mRows k n M) o = if o < M.1 then mObj M o else (100, k, mFill 11 (.int 0))
  | 0, o, _, h => by
    rw [if_pos (by omega)]
    rfl
  | n + 1, o, hn, h => by
    have h1 := mRows_1 k M n
    show mObj (mNew (mRows k n M) _) o = _
    rw [mObj_new (by omega) (by omega), h1]
    by_cases e : M.1 + n = o
    · rw [if_pos e, if_neg (by omega)]
    · rw [if_neg e]
      exact mRows_obj k M n o (by omega) (by omega)
section MSK
variable {p : Program} {l : Launch} {e0 : Env} {R : Room} {s : State} {m : MethodId} {args : Array Value} {below : List Frame} {meth : Method} {c : Code} {H : Heap} {locs : List Loc} {ls : Array Slot} {Q : State → Prop} {D : va_G} {cs : mCs} {base n0 z0 : Nat} {E XN : Nat → Nat} {XF : Nat → Nat → Int32} {M : mMem} {I : Nat → mI} {mi : Nat}
set_option maxHeartbeats 4000000 in
theorem m_step3 {call : Nat → Nat → Nat → List Value → mMem → Option (Option Value × mMem)} {fr lo pc len : Nat} {rt : Option FieldType} {ri ni : ClassFile.Instr} {v : Int} {r1 r2 wi : Nat} {L : List (Nat × Value)} {S : List Value} {y : mCfg}
    (F : mFr I mi base n0 E XN XF D cs p s m args meth c) (G : mG) (he : mOk I mi (pc, len, ri, ni, v, r1, r2, wi) = true)
    (hdo : mDo I XN XF call fr lo (I mi).2.2.1 rt (pc, len, ri, ni, v, r1, r2, wi) L S M = some (.inl y))
    (hsm : mClass ni = 3)
    (hM : M.1 ≤ 1024) (hn0 : n0 ≤ M.1) (hz0 : z0 ≤ M.2.1) (hRc : y.2.2.2.1 - n0 ≤ R.cells) (hRs : y.2.2.2.2.1 - z0 ≤ R.slots)
    (hP : va_P D vwCl (mWs (mAd base E) cs M) H) (hS : va_S (mA base) s.heap H locs) (hl : lv_has ls (I mi).2.2.1 (mLv (mAd base E) L))
    (kk : ∀ (H1 : Heap) (locs1 : List Loc) (ls' : Array Slot), va_P D vwCl (mWs (mAd base E) cs y.2.2.2) H1 → va_S (mA base) s.heap H1 locs1 → lv_has ls' (I mi).2.2.1 (mLv (mAd base E) y.2.1) → W p l e0 R s m args below meth c H1 locs1 (y.2.2.2.1 - n0) (y.2.2.2.2.1 - z0) Q (F0 m y.1 ls' (y.2.2.1.map (mTv (mAd base E))))) :
    W p l e0 R s m args below meth c H locs (M.1 - n0) (M.2.1 - z0) Q (F0 m pc ls (S.map (mTv (mAd base E)))) := by
  obtain ⟨hx, hb, hml, hown, hts, hK, hXt, hsz, hnm⟩ := F
  obtain ⟨hZs, hXs, hAO, hAI, hNw⟩ := hXt
  have hD : va_D (mA base) (mWs (mAd base E) cs M) := mWs_D hM
  have hA : ∀ q : Nat, s.heap.size ≤ q → mA base q := fun q h => by show base ≤ q; omega
  simp only [mOk, Bool.and_eq_true, decide_eq_true_eq] at he
  obtain ⟨hd, hn⟩ := he
  have lt_of : ∀ {a b : Nat}, Nat.blt a b = true → a < b := fun h => by simpa [Nat.blt_eq] using h
  cases ni
  case new i =>
    obtain ⟨h1, h⟩ := mWhen_inv hdo
    obtain rfl := mNx_inv h
    have hM1 : M.1 < 1024 := lt_of h1
    simp only [mNrm, Bool.and_eq_true, decide_eq_true_eq, Nat.beq_eq] at hn
    obtain ⟨rfl, rfl, n1, n2⟩ := hn
    have hr1 := lt_of n1
    have hc1 : M.1 + 1 - n0 ≤ R.cells := hRc
    have hc2 : M.2.1 + mNX r1 - z0 ≤ R.slots := hRs
    have e3 : mTv (mAd base E) (.ref M.1) = .ref (base + M.1) := by
      show Value.ref (mAd base E M.1) = _
      rw [mAd_own (by omega)]
    refine va_new (Ts := mTBL) (ci := r1) (C := mRX r1) (T := mTX r1) (N := mNX r1) (fs := mFs (mAd base E) (r1, mNX r1, mDef r1)) hx hb hts (G.1 r1 hr1).1 (mTyX r1) (mTy_ok r1 hr1) hown (hts _ (mW_in n2)) (hts _ (G.1 r1 hr1).2.1) (hts _ (G.1 r1 hr1).2.2) hK hP hD hS hA (mCl_get r1 hr1) (fun j hj => ?_) (by omega) (by omega) hd (fun q H1 hP1 hD1 hS1 => ?_)
    · unfold vp_V
      rw [List.getD_eq_getElem?_getD, mFs_get (c := (r1, mNX r1, mDef r1)) hj]
      show _ = mTv _ (mGet 11 (mDef r1) j)
      rw [mDef_ok r1 hr1 j hj]
      rcases mDef_tv r1 hr1 j hj with q | q <;> rw [q] <;> rfl
    · intro T hT X
      have hz := X.heapSize
      rw [hT, hsz] at hz
      have hq := m_fresh hP1 hD1 (by omega) hM
      subst hq
      have k := kk H1 locs ls (by rw [mWs_new hM1, mAd_own (by omega), mEnt_obj (show r1 < 100 by omega)]; exact hP1) hS1 hl
      simp only [List.map_cons, e3] at k
      have e1 : M.1 - n0 + 1 = (mNew M (r1, mNX r1, mDef r1)).1 - n0 := by show _ = M.1 + 1 - n0; omega
      have e2 : M.2.1 - z0 + mNX r1 = (mNew M (r1, mNX r1, mDef r1)).2.1 - z0 := by show _ = M.2.1 + mNX r1 - z0; omega
      rw [e1, e2] at X
      exact k T hT X
  case newarray t =>
    obtain ⟨x, r, rfl, h⟩ := mI1_inv hdo
    obtain ⟨h1, h⟩ := mWhen_inv h
    obtain rfl := mNx_inv h
    simp only [Bool.and_eq_true, Bool.not_eq_true', decide_eq_false_iff_not] at h1
    obtain ⟨h0, h2, h3⟩ := h1
    have hM1 : M.1 < 1024 := lt_of h0
    have h3 := Nat.le_of_ble_eq_true h3
    simp only [mNrm, Bool.and_eq_true, decide_eq_true_eq, Nat.beq_eq] at hn
    obtain ⟨rfl, rfl, rfl⟩ := hn
    have hc1 : M.1 + 1 - n0 ≤ R.cells := hRc
    have hc2 : M.2.1 + x.toNatClampNeg - z0 ≤ R.slots := hRs
    have e3 : mTv (mAd base E) (.ref M.1) = .ref (base + M.1) := by
      show Value.ref (mAd base E M.1) = _
      rw [mAd_own (by omega)]
    refine va_newa (atype := .int) (ty := .int) (N' := x.toNatClampNeg) (a0 := (x.toNatClampNeg, .inl (mIs (100, x.toNatClampNeg, mFill 11 (.int 0))))) hx hb (hts _ G.2.2.2.2.2.2.1) rfl hK hP hD hS hA (fun cA => by rw [mIs_0]; rfl) h2 rfl (by show _ * 4 ≤ _; omega) (by omega) (by omega) hd (fun q cA H1 hK1 hP1 hD1 hS1 => ?_)
    intro T hT X
    have hcA : cA = cs.1 := by
      have f1 : s.vm.findClass ("[" ++ FieldType.int.toString) = some cA := (hK1.2 3 (cA, .int) rfl).2
      have f2 : s.vm.findClass ("[" ++ FieldType.int.toString) = some cs.1 := (hK.2 0 (cs.1, .int) rfl).2
      exact Option.some.inj (f1.symm.trans f2)
    subst hcA
    have hz := X.heapSize
    rw [hT, hsz] at hz
    have hq := m_fresh hP1 hD1 (by omega) hM
    subst hq
    have k := kk H1 locs ls (by rw [mWs_new hM1, mAd_own (by omega), mEnt_i rfl]; exact hP1) hS1 hl
    simp only [List.map_cons, e3] at k
    have e1 : M.1 - n0 + 1 = (mNew M (100, x.toNatClampNeg, mFill 11 (.int 0))).1 - n0 := by show _ = M.1 + 1 - n0; omega
    have e2 : M.2.1 - z0 + x.toNatClampNeg = (mNew M (100, x.toNatClampNeg, mFill 11 (.int 0))).2.1 - z0 := by show _ = M.2.1 + x.toNatClampNeg - z0; omega
    rw [e1, e2] at X
    exact k T hT X
  case anewarray i =>
    obtain ⟨x, r, rfl, h⟩ := mI1_inv hdo
    obtain ⟨h1, h⟩ := mWhen_inv h
    obtain rfl := mNx_inv h
    simp only [Bool.and_eq_true, Bool.not_eq_true', decide_eq_false_iff_not] at h1
    obtain ⟨h0, h2, h3⟩ := h1
    have hM1 : M.1 < 1024 := lt_of h0
    have h3 := Nat.le_of_ble_eq_true h3
    simp only [mNrm, Bool.and_eq_true, decide_eq_true_eq, Nat.beq_eq] at hn
    obtain ⟨rfl, rfl, n2⟩ := hn
    have hc1 : M.1 + 1 - n0 ≤ R.cells := hRc
    have hc2 : M.2.1 + x.toNatClampNeg - z0 ≤ R.slots := hRs
    have e3 : mTv (mAd base E) (.ref M.1) = .ref (base + M.1) := by
      show Value.ref (mAd base E M.1) = _
      rw [mAd_own (by omega)]
    refine va_newq (C := RX5) (N' := x.toNatClampNeg) hx hb hown (hts _ (mW_in n2)) hAO hK hP hD hS hA h2 rfl (by omega) (by omega) (by omega) hd (fun q cA H1 hK1 hP1 hD1 hS1 => ?_)
    intro T hT X
    have hcA : cA = cs.2.2 := by
      obtain ⟨-, -, -, -, -, f1⟩ := (hK1.2 3 (cA, .object RX5) rfl).2
      obtain ⟨-, -, -, -, -, f2⟩ := (hK.2 2 (cs.2.2, .object RX5) rfl).2
      exact Option.some.inj (f1.symm.trans f2)
    subst hcA
    have hz := X.heapSize
    rw [hT, hsz] at hz
    have hq := m_fresh hP1 hD1 (by omega) hM
    subst hq
    have k := kk H1 locs ls (by rw [mWs_new hM1, mAd_own (by omega), mEnt_q rfl, mQs_0]; exact hP1) hS1 hl
    simp only [List.map_cons, e3] at k
    have e1 : M.1 - n0 + 1 = (mNew M (102, x.toNatClampNeg, mFill 11 .null)).1 - n0 := by show _ = M.1 + 1 - n0; omega
    have e2 : M.2.1 - z0 + x.toNatClampNeg = (mNew M (102, x.toNatClampNeg, mFill 11 .null)).2.1 - z0 := by show _ = M.2.1 + x.toNatClampNeg - z0; omega
    rw [e1, e2] at X
    exact k T hT X
  case multianewarray i dim =>
    obtain ⟨x, w, r, rfl, h⟩ := mI2_inv hdo
    obtain ⟨h1, h⟩ := mWhen_inv h
    obtain rfl := mNx_inv h
    simp only [Bool.and_eq_true, Bool.not_eq_true', decide_eq_false_iff_not] at h1
    obtain ⟨h2, h3, h4, h5, h6⟩ := h1
    have h4 := Nat.le_of_ble_eq_true h4
    have h5 := Nat.le_of_ble_eq_true h5
    have h6 := Nat.le_of_ble_eq_true h6
    simp only [mNrm, Bool.and_eq_true, decide_eq_true_eq, Nat.beq_eq] at hn
    obtain ⟨rfl, rfl, rfl, n2⟩ := hn
    generalize hN : x.toNatClampNeg = N at *
    generalize hKK : w.toNatClampNeg = K at *
    have hMN : (mNew M (101, N, mRefs (M.1 + 1) N)).1 = M.1 + 1 := rfl
    have hM2 : (mNew M (101, N, mRefs (M.1 + 1) N)).2.1 = M.2.1 + N := rfl
    have hc1 : M.1 + 1 + N - n0 ≤ R.cells := by have := hRc; simp only [mRows_1, hMN] at this; exact this
    have hc2 : M.2.1 + N + N * K - z0 ≤ R.slots := by have := hRs; simp only [mRows_2, hM2] at this; exact this
    have e3 : mTv (mAd base E) (.ref M.1) = .ref (base + M.1) := by
      show Value.ref (mAd base E M.1) = _
      rw [mAd_own (by omega)]
    intro T hT X
    have hHs := m_size X hT hsz hn0 hP hS hM
    obtain ⟨vm₁, cA, comp, -, fA, fC, -, -, X', step⟩ := X.multianewarray2F hx (ty := .int) hown (hts _ (mW_in n2)) hAI (hts _ G.2.2.2.2.2.2.1) (g := F0 m pc ls (.int w :: .int x :: r.map (mTv (mAd base E)))) rfl (by rw [hb]; exact hd) rfl h2 h3 (by omega) (by show _ * 4 ≤ _; omega) (by omega) rfl rfl (by omega) (by rw [hN, hKK]; omega)
    have hcA : cA = cs.2.1 := by
      have f2 : s.vm.findClass ("[" ++ (FieldType.array .int).toString) = some cs.2.1 := (hK.2 1 (cs.2.1, .array .int) rfl).2
      exact Option.some.inj (fA.symm.trans f2)
    have hcm : comp = cs.1 := by
      have f2 : s.vm.findClass ("[" ++ FieldType.int.toString) = some cs.1 := (hK.2 0 (cs.1, .int) rfl).2
      exact Option.some.inj (fC.symm.trans f2)
    subst hcA
    subst hcm
    rw [hN, hKK] at X' step
    generalize hF : Jvm.Free.Multi.fill (T.setVm vm₁) cs.2.1 cs.1 N K (defaultValue .int) N = F at X' step
    have hTh : (T.setVm vm₁).heap = H := hT
    obtain ⟨f1, f2, -, -⟩ := Jvm.Free.Multi.fill_facts (T.setVm vm₁) cs.2.1 cs.1 N K (defaultValue .int) N
    rw [hF, hTh] at f1 f2
    have hold : ∀ z : Nat, z < H.size → F.heap[z]? = H[z]? := fun z hz => by
      have := Jvm.Free.Multi.fill_old (T.setVm vm₁) cs.2.1 cs.1 N K (defaultValue .int) (a := z) (by rw [hTh]; exact hz) N
      rw [hF, hTh] at this
      exact this
    have hrow : ∀ j : Nat, j < N → F.heap[H.size + 1 + j]? = some (Jvm.Free.Multi.innerC cs.1 K (defaultValue .int)) := fun j hj => by
      have := Jvm.Free.Multi.fill_inner (T.setVm vm₁) cs.2.1 cs.1 N K (defaultValue .int) N j hj
      rw [hF, hTh] at this
      exact this
    rw [vr_outer] at f2
    have hP2 : va_P D vwCl (mWs (mAd base E) cs (mRows K N (mNew M (101, N, mRefs (M.1 + 1) N)))) F.heap := by
      intro k9 q9 hq9
      obtain ⟨g1, rfl⟩ := mWs_inv hq9
      rw [mRows_1, hMN] at g1
      rw [mRows_obj K _ N k9 (by rw [hMN]; omega) (by rw [hMN]; omega), hMN]
      rcases Nat.lt_trichotomy k9 M.1 with g2 | g2 | g2
      · rw [if_pos (by omega), mObj_new (by omega) (by omega), if_neg (by omega)]
        exact (hP k9 _ (mWs_get g2)).kept (hold _ (hP k9 _ (mWs_get g2)).lt)
      · rw [if_pos (by omega), mObj_new (by omega) (by omega), if_pos g2.symm, mEnt_ii rfl]
        show F.heap[mAd base E k9]? = some (arrV cs.2.1 N (fun j => va_rf (mQs (mAd base E) (101, N, mRefs (M.1 + 1) N) j)))
        rw [mAd_own (by omega), g2, ← hHs, f2]
        refine congrArg some (arrV_same fun j hj => ?_)
        unfold mQs mSlot
        rw [if_pos hj, if_pos (by omega)]
        show _ = va_rf (mRof (mTv (mAd base E) (mGet 11 (mRefs (M.1 + 1) N) j)))
        rw [mRefs_get _ N j h4 hj]
        show Value.ref (H.size + 1 + j) = Value.ref (mAd base E (M.1 + 1 + j))
        rw [mAd_own (by omega), hHs]
        exact congrArg Value.ref (show (base + M.1 + 1 + j : Nat) = base + (M.1 + 1 + j) by omega)
      · rw [if_neg (by omega), mEnt_i rfl]
        show F.heap[mAd base E k9]? = some (arrV cs.1 K (fun j => .int (mIs (100, K, mFill 11 (.int 0)) j)))
        have := hrow (k9 - (M.1 + 1)) (by omega)
        rw [show H.size + 1 + (k9 - (M.1 + 1)) = mAd base E k9 by rw [mAd_own (by omega)]; omega] at this
        rw [this, mIs_0]
        exact congrArg some (arrV_new cs.1 K (.int 0))
    have k := kk F.heap locs ls hP2 ⟨by rw [f1]; have := hS.1; omega, fun z z1 z2 => by rw [hold z (Nat.lt_of_lt_of_le z1 hS.1)]; exact hS.2.1 z z1 z2, hS.2.2⟩ hl
    simp only [List.map_cons, e3] at k
    have e1 : M.1 - n0 + 1 + N = (mRows K N (mNew M (101, N, mRefs (M.1 + 1) N))).1 - n0 := by rw [mRows_1, hMN]; omega
    have e2 : M.2.1 - z0 + N + N * K = (mRows K N (mNew M (101, N, mRefs (M.1 + 1) N))).2.1 - z0 := by rw [mRows_2, hM2]; omega
    rw [e1, e2] at X'
    obtain ⟨t, a1, b1⟩ := k F rfl X'
    refine ⟨t, step t ?_, b1⟩
    have e : T.heap.size = base + M.1 := by rw [hT]; exact hHs
    rw [e]
    exact a1
  all_goals simp [mClass] at hsm
end MSK

/-! ===== a step of the abstract machine is a step of the machine ===== -/
theorem mCl_get : ∀ ci, ci < 9 → vwCl[ci]? = some (mRX ci, mTX ci, mNX ci) := fun ci h => by
  match ci, h with
  | 0, _ => rfl | 1, _ => rfl | 2, _ => rfl | 3, _ => rfl | 4, _ => rfl | 5, _ => rfl | 6, _ => rfl | 7, _ => rfl | 8, _ => rfl
theorem mTy_ok : ∀ ci, ci < 9 → ∀ k, k < mNX ci → parseFieldDescriptor (mTX ci k).2.2.1 = some (mTyX ci k) := fun ci h => by
  match ci, h with
  | 0, _ => exact tyX0_ok | 1, _ => exact tyX1_ok | 2, _ => exact tyX2_ok | 3, _ => exact tyX3_ok | 4, _ => exact tyX4_ok | 5, _ => exact tyX5_ok | 6, _ => exact tyX6_ok | 7, _ => exact tyX7_ok | 8, _ => exact tyX8_ok
theorem mNm_ok : ∀ ci, ci < 9 → ∀ a, a < mNX ci → ∀ b, b < mNX ci → a ≠ b → (mTX ci a).2.1 ≠ (mTX ci b).2.1 := fun ci h => by
  match ci, h with
  | 0, _ => exact nmX0 | 1, _ => exact nmX1 | 2, _ => exact nmX2 | 3, _ => exact nmX3 | 4, _ => exact nmX4 | 5, _ => exact nmX5 | 6, _ => exact nmX6 | 7, _ => exact nmX7 | 8, _ => exact nmX8
theorem mDef_ok : ∀ ci, ci < 9 → ∀ j, j < mNX ci → mGet 11 (mDef ci) j = defaultValue (mTyX ci j) := by decide +kernel
theorem mDef_tv : ∀ ci, ci < 9 → ∀ j, j < mNX ci → defaultValue (mTyX ci j) = .int 0 ∨ defaultValue (mTyX ci j) = .null := by decide +kernel
theorem mFit_fits {ty : FieldType} {v : Value} {ad : Nat → Nat} (h : mFit ty v = true) : narrow ty (mTv ad v) = mTv ad v ∧ fits ty (mTv ad v) = true := by
  unfold mFit at h
  split at h
  · exact ⟨rfl, rfl⟩
  · next x =>
    simp only [Bool.or_eq_true, decide_eq_true_eq] at h
    rcases h with rfl | rfl
    · exact ⟨(by decide : narrow .boolean (.int 0) = .int 0), (by decide : fits .boolean (.int 0) = true)⟩
    · exact ⟨(by decide : narrow .boolean (.int 1) = .int 1), (by decide : fits .boolean (.int 1) = true)⟩
  · exact ⟨rfl, rfl⟩
  · exact ⟨rfl, rfl⟩
  · cases h
theorem mRv_tv (ad : Nat → Nat) (v : Value) : va_rf (mRof (mTv ad v)) = mTv ad (mRv v) := by cases v <;> rfl
section MST
variable {p : Program} {l : Launch} {e0 : Env} {R : Room} {s : State} {m : MethodId} {args : Array Value} {below : List Frame} {meth : Method} {c : Code} {H : Heap} {locs : List Loc} {ls : Array Slot} {Q : State → Prop} {D : va_G} {cs : mCs} {base n0 z0 : Nat} {E XN : Nat → Nat} {XF : Nat → Nat → Int32} {M : mMem} {I : Nat → mI} {mi : Nat}
set_option maxHeartbeats 4000000 in
/-- instructions that touch neither memory nor methods -/
theorem m_step1 {call : Nat → Nat → Nat → List Value → mMem → Option (Option Value × mMem)} {fr lo pc len : Nat} {rt : Option FieldType} {ri ni : ClassFile.Instr} {v : Int} {r1 r2 wi : Nat} {L : List (Nat × Value)} {S : List Value} {y : mCfg}
    (F : mFr I mi base n0 E XN XF D cs p s m args meth c) (he : mOk I mi (pc, len, ri, ni, v, r1, r2, wi) = true)
    (hdo : mDo I XN XF call fr lo (I mi).2.2.1 rt (pc, len, ri, ni, v, r1, r2, wi) L S M = some (.inl y))
    (hsm : mClass ni = 1)
    (hl : lv_has ls (I mi).2.2.1 (mLv (mAd base E) L))
    (kk : ∀ ls' : Array Slot, lv_has ls' (I mi).2.2.1 (mLv (mAd base E) y.2.1) → y.2.2.2 = M → W p l e0 R s m args below meth c H locs (M.1 - n0) (M.2.1 - z0) Q (F0 m y.1 ls' (y.2.2.1.map (mTv (mAd base E))))) :
    W p l e0 R s m args below meth c H locs (M.1 - n0) (M.2.1 - z0) Q (F0 m pc ls (S.map (mTv (mAd base E)))) := by
  obtain ⟨hx, hb, hml, hown, hts, hK, hXt, hsz, hnm⟩ := F
  simp only [mOk, Bool.and_eq_true, decide_eq_true_eq] at he
  obtain ⟨hd, hn⟩ := he
  cases ni
  case iconst i =>
    obtain rfl := mNx_inv hdo
    simp only [mNrm] at hn
    split at hn
    · simp only [Bool.and_eq_true, decide_eq_true_eq, Nat.beq_eq] at hn
      obtain ⟨rfl, h2⟩ := hn
      exact lv_iconst hx hb hd h2 (kk ls hl rfl)
    · simp only [Bool.and_eq_true, decide_eq_true_eq, Nat.beq_eq] at hn
      obtain ⟨rfl, h2⟩ := hn
      exact lv_bipush hx hb hd h2 (kk ls hl rfl)
    · simp only [Bool.and_eq_true, decide_eq_true_eq, Nat.beq_eq] at hn
      obtain ⟨rfl, h2⟩ := hn
      exact lv_sipush hx hb hd h2 (kk ls hl rfl)
    · simp only [Bool.and_eq_true, decide_eq_true_eq, Nat.beq_eq] at hn
      obtain ⟨rfl, h2⟩ := hn
      exact lv_ldc hx hb hown (hts _ (mW_in h2)) hd (kk ls hl rfl)
    · simp only [Bool.and_eq_true, decide_eq_true_eq, Nat.beq_eq] at hn
      obtain ⟨rfl, h2⟩ := hn
      exact lv_ldcw hx hb hown (hts _ (mW_in h2)) hd (kk ls hl rfl)
    · cases hn
  case lconst i =>
    obtain rfl := mNx_inv hdo
    simp only [mNrm] at hn
    split at hn
    · simp only [Bool.and_eq_true, decide_eq_true_eq, Nat.beq_eq] at hn
      obtain ⟨rfl, h2⟩ := hn
      exact lv_lconst hx hb hd h2 (kk ls hl rfl)
    · simp only [Bool.and_eq_true, decide_eq_true_eq, Nat.beq_eq] at hn
      obtain ⟨rfl, h2⟩ := hn
      exact lv_ldc2 hx hb hown (hts _ (mW_in h2)) hd (kk ls hl rfl)
    · cases hn
  case aconst_null =>
    obtain rfl := mNx_inv hdo
    simp only [mNrm, Bool.and_eq_true, decide_eq_true_eq, Nat.beq_eq] at hn
    obtain ⟨rfl, rfl⟩ := hn
    exact lv_null hx hb hd (kk ls hl rfl)
  case iload i =>
    simp only [mDo] at hdo
    split at hdo
    · next x hk =>
      obtain rfl := mNx_inv hdo
      have hat := mLv_at hl hk
      simp only [mNrm] at hn
      split at hn
      · simp only [Bool.and_eq_true, Nat.beq_eq] at hn
        obtain ⟨rfl, rfl⟩ := hn
        exact lv_iload hx hb hd hat (kk ls hl rfl)
      · simp only [Bool.and_eq_true, Nat.beq_eq] at hn
        obtain ⟨rfl, h2⟩ := hn
        exact lv_iload_n hx hb hd h2 hat (kk ls hl rfl)
      · cases hn
    · cases hdo
  case lload i =>
    simp only [mDo] at hdo
    split at hdo
    · next x hk =>
      obtain rfl := mNx_inv hdo
      have hat := mLv_at hl hk
      simp only [mNrm] at hn
      split at hn
      · simp only [Bool.and_eq_true, Nat.beq_eq] at hn
        obtain ⟨rfl, rfl⟩ := hn
        exact lv_lload hx hb hd hat (kk ls hl rfl)
      · simp only [Bool.and_eq_true, Nat.beq_eq] at hn
        obtain ⟨rfl, h2⟩ := hn
        exact lv_lload_n hx hb hd h2 hat (kk ls hl rfl)
      · cases hn
    · cases hdo
  case aload i =>
    simp only [mDo] at hdo
    split at hdo
    · next x hk =>
      obtain rfl := mNx_inv hdo
      have hat := mLv_at hl hk
      simp only [mNrm] at hn
      split at hn
      · simp only [Bool.and_eq_true, Nat.beq_eq] at hn
        obtain ⟨rfl, rfl⟩ := hn
        exact lv_aload hx hb hd hat (kk ls hl rfl)
      · simp only [Bool.and_eq_true, Nat.beq_eq] at hn
        obtain ⟨rfl, h2⟩ := hn
        exact lv_aload_n hx hb hd h2 hat (kk ls hl rfl)
      · cases hn
    · next hk =>
      obtain rfl := mNx_inv hdo
      have hat := mLv_at hl hk
      simp only [mNrm] at hn
      split at hn
      · simp only [Bool.and_eq_true, Nat.beq_eq] at hn
        obtain ⟨rfl, rfl⟩ := hn
        exact lv_aloadN hx hb hd hat (kk ls hl rfl)
      · simp only [Bool.and_eq_true, Nat.beq_eq] at hn
        obtain ⟨rfl, h2⟩ := hn
        exact lv_aload_nN hx hb hd h2 hat (kk ls hl rfl)
      · cases hn
    · cases hdo
  case istore i =>
    obtain ⟨x, r, rfl, h⟩ := mI1_inv hdo
    obtain ⟨h1, h⟩ := mWhen_inv h
    obtain rfl := mNx_inv h
    have hi : i < (I mi).2.2.1 := by simpa [Nat.blt_eq] using h1
    simp only [mNrm] at hn
    split at hn
    · simp only [Bool.and_eq_true, Nat.beq_eq] at hn
      obtain ⟨rfl, rfl⟩ := hn
      exact lv_istore hx hb hd hl hi (mLv_st1 (v := .int x)) (fun ls' h' => kk ls' h' rfl)
    · simp only [Bool.and_eq_true, Nat.beq_eq] at hn
      obtain ⟨rfl, h2⟩ := hn
      exact lv_istore_n hx hb hd h2 hl hi (mLv_st1 (v := .int x)) (fun ls' h' => kk ls' h' rfl)
    · cases hn
  case lstore i =>
    obtain ⟨x, r, rfl, h⟩ := mL1_inv hdo
    obtain ⟨h1, h⟩ := mWhen_inv h
    obtain rfl := mNx_inv h
    have hi : i + 1 < (I mi).2.2.1 := by simpa [Nat.blt_eq] using h1
    simp only [mNrm] at hn
    split at hn
    · simp only [Bool.and_eq_true, Nat.beq_eq] at hn
      obtain ⟨rfl, rfl⟩ := hn
      exact lv_lstore hx hb hd hl hi (mLv_st2 (v := .long x)) (fun ls' h' => kk ls' h' rfl)
    · simp only [Bool.and_eq_true, Nat.beq_eq] at hn
      obtain ⟨rfl, h2⟩ := hn
      exact lv_lstore_n hx hb hd h2 hl hi (mLv_st2 (v := .long x)) (fun ls' h' => kk ls' h' rfl)
    · cases hn
  case astore i =>
    obtain ⟨x, r, rfl, h⟩ := mV1_inv hdo
    obtain ⟨h1, h⟩ := mWhen_inv h
    have hi : i < (I mi).2.2.1 := by simpa [Nat.blt_eq] using h1
    split at h
    · next x =>
      obtain rfl := mNx_inv h
      simp only [mNrm] at hn
      split at hn
      · simp only [Bool.and_eq_true, Nat.beq_eq] at hn
        obtain ⟨rfl, rfl⟩ := hn
        exact lv_astore hx hb hd hl hi (mLv_st1 (v := .ref _)) (fun ls' h' => kk ls' h' rfl)
      · simp only [Bool.and_eq_true, Nat.beq_eq] at hn
        obtain ⟨rfl, h2⟩ := hn
        exact lv_astore_n hx hb hd h2 hl hi (mLv_st1 (v := .ref _)) (fun ls' h' => kk ls' h' rfl)
      · cases hn
    · obtain rfl := mNx_inv h
      simp only [mNrm] at hn
      split at hn
      · simp only [Bool.and_eq_true, Nat.beq_eq] at hn
        obtain ⟨rfl, rfl⟩ := hn
        exact lv_astoreN hx hb hd hl hi (mLv_st1 (v := .null)) (fun ls' h' => kk ls' h' rfl)
      · simp only [Bool.and_eq_true, Nat.beq_eq] at hn
        obtain ⟨rfl, h2⟩ := hn
        exact lv_astore_nN hx hb hd h2 hl hi (mLv_st1 (v := .null)) (fun ls' h' => kk ls' h' rfl)
      · cases hn
    · cases h
  case iinc i n =>
    simp only [mDo] at hdo
    split at hdo
    · next x hk =>
      obtain ⟨h1, h⟩ := mWhen_inv hdo
      obtain rfl := mNx_inv h
      have hi : i < (I mi).2.2.1 := by simpa [Nat.blt_eq] using h1
      simp only [mNrm, Bool.and_eq_true, decide_eq_true_eq, Nat.beq_eq] at hn
      obtain ⟨rfl, rfl, rfl⟩ := hn
      have hm : (i, Value.int x) ∈ mLv (mAd base E) L := List.mem_map.mpr ⟨(i, .int x), mLk_mem hk, rfl⟩
      obtain ⟨k, hk'⟩ := List.getElem?_of_mem hm
      exact lv_iinc (k := k) hx hb hd hl hk' rfl hi (mLv_st1 (v := .int (x + Int32.ofInt n))) (fun ls' h' => kk ls' h' rfl)
    · cases hdo
  case ifCond cc off =>
    obtain ⟨x, r, rfl, h⟩ := mI1_inv hdo
    obtain rfl := mNx_inv h
    simp only [mNrm, Bool.and_eq_true, decide_eq_true_eq, Nat.beq_eq] at hn
    obtain ⟨rfl, rfl, ht⟩ := hn
    have k := kk ls hl rfl
    cases cc
    · refine lv_if_eq hx hb hd ht (fun q => ?_) (fun q => ?_)
      · rw [show mIf .eq x 0 = true by simp [mIf, q]] at k; exact k
      · rw [show mIf .eq x 0 = false by simp [mIf, q]] at k; exact k
    · refine lv_if_ne hx hb hd ht (fun q => ?_) (fun q => ?_)
      · rw [show mIf .ne x 0 = true by simp [mIf, q]] at k; exact k
      · rw [show mIf .ne x 0 = false by simp [mIf, q]] at k; exact k
    · refine lv_if_lt hx hb hd ht (fun q => ?_) (fun q => ?_)
      · rw [show mIf .lt x 0 = true by simp [mIf, q]] at k; exact k
      · rw [show mIf .lt x 0 = false by simp only [mIf, decide_eq_false_iff_not]; exact q] at k; exact k
    · refine lv_if_ge hx hb hd ht (fun q => ?_) (fun q => ?_)
      · rw [show mIf .ge x 0 = true by simp [mIf, q]] at k; exact k
      · rw [show mIf .ge x 0 = false by simp only [mIf, decide_eq_false_iff_not]; exact q] at k; exact k
    · refine lv_if_gt hx hb hd ht (fun q => ?_) (fun q => ?_)
      · rw [show mIf .gt x 0 = true by simp [mIf, q]] at k; exact k
      · rw [show mIf .gt x 0 = false by simp only [mIf, decide_eq_false_iff_not]; exact q] at k; exact k
    · refine lv_if_le hx hb hd ht (fun q => ?_) (fun q => ?_)
      · rw [show mIf .le x 0 = true by simp [mIf, q]] at k; exact k
      · rw [show mIf .le x 0 = false by simp only [mIf, decide_eq_false_iff_not]; exact q] at k; exact k
  case if_icmp cc off =>
    obtain ⟨x, w, r, rfl, h⟩ := mI2_inv hdo
    obtain rfl := mNx_inv h
    simp only [mNrm, Bool.and_eq_true, decide_eq_true_eq, Nat.beq_eq] at hn
    obtain ⟨rfl, rfl, ht⟩ := hn
    have k := kk ls hl rfl
    cases cc
    · refine lv_icmp_eq hx hb hd ht (fun q => ?_) (fun q => ?_)
      · rw [show mIf .eq x w = true by simp [mIf, q]] at k; exact k
      · rw [show mIf .eq x w = false by simp [mIf, q]] at k; exact k
    · refine lv_icmp_ne hx hb hd ht (fun q => ?_) (fun q => ?_)
      · rw [show mIf .ne x w = true by simp [mIf, q]] at k; exact k
      · rw [show mIf .ne x w = false by simp [mIf, q]] at k; exact k
    · refine lv_icmp_lt hx hb hd ht (fun q => ?_) (fun q => ?_)
      · rw [show mIf .lt x w = true by simp [mIf, q]] at k; exact k
      · rw [show mIf .lt x w = false by simp only [mIf, decide_eq_false_iff_not]; exact q] at k; exact k
    · refine lv_icmp_ge hx hb hd ht (fun q => ?_) (fun q => ?_)
      · rw [show mIf .ge x w = true by simp [mIf, q]] at k; exact k
      · rw [show mIf .ge x w = false by simp only [mIf, decide_eq_false_iff_not]; exact q] at k; exact k
    · refine lv_icmp_gt hx hb hd ht (fun q => ?_) (fun q => ?_)
      · rw [show mIf .gt x w = true by simp [mIf, q]] at k; exact k
      · rw [show mIf .gt x w = false by simp only [mIf, decide_eq_false_iff_not]; exact q] at k; exact k
    · refine lv_icmp_le hx hb hd ht (fun q => ?_) (fun q => ?_)
      · rw [show mIf .le x w = true by simp [mIf, q]] at k; exact k
      · rw [show mIf .le x w = false by simp only [mIf, decide_eq_false_iff_not]; exact q] at k; exact k
  case goto off =>
    obtain rfl := mNx_inv hdo
    simp only [mNrm, Bool.and_eq_true, decide_eq_true_eq, Nat.beq_eq] at hn
    obtain ⟨rfl, rfl, ht⟩ := hn
    exact lv_goto hx hb hd ht (kk ls hl rfl)
  case ifnull off =>
    obtain ⟨x, r, rfl, h⟩ := mV1_inv hdo
    simp only [mNrm, Bool.and_eq_true, decide_eq_true_eq, Nat.beq_eq] at hn
    obtain ⟨rfl, rfl, ht⟩ := hn
    split at h
    · obtain rfl := mNx_inv h
      exact lv_ifnullN hx hb hd ht (kk ls hl rfl)
    · obtain rfl := mNx_inv h
      exact lv_ifnull hx hb hd (kk ls hl rfl)
    · cases h
  case ifnonnull off =>
    obtain ⟨x, r, rfl, h⟩ := mV1_inv hdo
    simp only [mNrm, Bool.and_eq_true, decide_eq_true_eq, Nat.beq_eq] at hn
    obtain ⟨rfl, rfl, ht⟩ := hn
    split at h
    · obtain rfl := mNx_inv h
      exact lv_ifnonnullN hx hb hd (kk ls hl rfl)
    · obtain rfl := mNx_inv h
      exact lv_ifnonnull hx hb hd ht (kk ls hl rfl)
    · cases h
  case tableswitch d lo' hi' offs =>
    obtain ⟨x, r, rfl, h⟩ := mI1_inv hdo
    simp only [mNrm, Bool.and_eq_true, decide_eq_true_eq, Nat.beq_eq] at hn
    obtain ⟨rfl, ht⟩ := hn
    by_cases q : x.toInt < lo' ∨ hi' < x.toInt
    · have e : (decide (x.toInt < lo') || decide (hi' < x.toInt)) = true := by simpa using q
      rw [e] at h
      obtain rfl := mNx_inv h
      exact lv_tableOut hx hb hd q ht (kk ls hl rfl)
    · have e : (decide (x.toInt < lo') || decide (hi' < x.toInt)) = false := by
        simp only [Bool.or_eq_false_iff, decide_eq_false_iff_not]
        exact ⟨fun z => q (Or.inl z), fun z => q (Or.inr z)⟩
      rw [e] at h
      simp only [cond_false] at h
      split at h
      · next off ho =>
        obtain ⟨h1, h⟩ := mWhen_inv h
        obtain rfl := mNx_inv h
        simp only [decide_eq_true_eq] at h1
        exact lv_tableIn hx hb hd (fun z => q (Or.inl z)) (fun z => q (Or.inr z)) ho (show (pc : Int) + off = ((((pc : Int) + off).toNat : Nat) : Int) by omega) (kk ls hl rfl)
      · cases h
  case dup =>
    obtain ⟨x, r, rfl, h⟩ := mV1_inv hdo
    obtain ⟨h1, h⟩ := mWhen_inv h
    obtain rfl := mNx_inv h
    simp only [mNrm, Bool.and_eq_true, decide_eq_true_eq, Nat.beq_eq] at hn h1
    obtain ⟨rfl, rfl⟩ := hn
    exact lv_dup hx hb hd (by rw [mTv_cat]; exact h1) (kk ls hl rfl)
  case pop =>
    obtain ⟨x, r, rfl, h⟩ := mV1_inv hdo
    obtain ⟨h1, h⟩ := mWhen_inv h
    obtain rfl := mNx_inv h
    simp only [mNrm, Bool.and_eq_true, decide_eq_true_eq, Nat.beq_eq] at hn h1
    obtain ⟨rfl, rfl⟩ := hn
    exact lv_pop hx hb hd (by rw [mTv_cat]; exact h1) (kk ls hl rfl)
  case pop2 =>
    obtain ⟨x, r, rfl, h⟩ := mV1_inv hdo
    obtain ⟨h1, h⟩ := mWhen_inv h
    obtain rfl := mNx_inv h
    simp only [mNrm, Bool.and_eq_true, decide_eq_true_eq, Nat.beq_eq] at hn h1
    obtain ⟨rfl, rfl⟩ := hn
    exact lv_pop2_2 hx hb hd (by rw [mTv_cat]; exact h1) (kk ls hl rfl)
  case dup2 =>
    obtain ⟨x, w, r, rfl, h⟩ := mV2_inv hdo
    obtain ⟨h1, h⟩ := mWhen_inv h
    obtain rfl := mNx_inv h
    simp only [mNrm, Bool.and_eq_true, decide_eq_true_eq, Nat.beq_eq] at hn h1
    obtain ⟨rfl, rfl⟩ := hn
    exact lv_dup2_11 hx hb hd (by rw [mTv_cat]; exact h1.1) (by rw [mTv_cat]; exact h1.2) (kk ls hl rfl)
  case iadd =>
    obtain ⟨x, w, r, rfl, h⟩ := mI2_inv hdo
    obtain rfl := mNx_inv h
    simp only [mNrm, Bool.and_eq_true, decide_eq_true_eq, Nat.beq_eq] at hn
    obtain ⟨rfl, rfl⟩ := hn
    exact lv_iadd hx hb hd (kk ls hl rfl)
  case isub =>
    obtain ⟨x, w, r, rfl, h⟩ := mI2_inv hdo
    obtain rfl := mNx_inv h
    simp only [mNrm, Bool.and_eq_true, decide_eq_true_eq, Nat.beq_eq] at hn
    obtain ⟨rfl, rfl⟩ := hn
    exact lv_isub hx hb hd (kk ls hl rfl)
  case imul =>
    obtain ⟨x, w, r, rfl, h⟩ := mI2_inv hdo
    obtain rfl := mNx_inv h
    simp only [mNrm, Bool.and_eq_true, decide_eq_true_eq, Nat.beq_eq] at hn
    obtain ⟨rfl, rfl⟩ := hn
    exact lv_imul hx hb hd (kk ls hl rfl)
  case iand =>
    obtain ⟨x, w, r, rfl, h⟩ := mI2_inv hdo
    obtain rfl := mNx_inv h
    simp only [mNrm, Bool.and_eq_true, decide_eq_true_eq, Nat.beq_eq] at hn
    obtain ⟨rfl, rfl⟩ := hn
    exact lv_iand hx hb hd (kk ls hl rfl)
  case ior =>
    obtain ⟨x, w, r, rfl, h⟩ := mI2_inv hdo
    obtain rfl := mNx_inv h
    simp only [mNrm, Bool.and_eq_true, decide_eq_true_eq, Nat.beq_eq] at hn
    obtain ⟨rfl, rfl⟩ := hn
    exact lv_ior hx hb hd (kk ls hl rfl)
  case ixor =>
    obtain ⟨x, w, r, rfl, h⟩ := mI2_inv hdo
    obtain rfl := mNx_inv h
    simp only [mNrm, Bool.and_eq_true, decide_eq_true_eq, Nat.beq_eq] at hn
    obtain ⟨rfl, rfl⟩ := hn
    exact lv_ixor hx hb hd (kk ls hl rfl)
  case ishl =>
    obtain ⟨x, w, r, rfl, h⟩ := mI2_inv hdo
    obtain rfl := mNx_inv h
    simp only [mNrm, Bool.and_eq_true, decide_eq_true_eq, Nat.beq_eq] at hn
    obtain ⟨rfl, rfl⟩ := hn
    exact lv_ishl hx hb hd (kk ls hl rfl)
  case ishr =>
    obtain ⟨x, w, r, rfl, h⟩ := mI2_inv hdo
    obtain rfl := mNx_inv h
    simp only [mNrm, Bool.and_eq_true, decide_eq_true_eq, Nat.beq_eq] at hn
    obtain ⟨rfl, rfl⟩ := hn
    exact lv_ishr hx hb hd (kk ls hl rfl)
  case iushr =>
    obtain ⟨x, w, r, rfl, h⟩ := mI2_inv hdo
    obtain rfl := mNx_inv h
    simp only [mNrm, Bool.and_eq_true, decide_eq_true_eq, Nat.beq_eq] at hn
    obtain ⟨rfl, rfl⟩ := hn
    exact lv_iushr hx hb hd rfl (kk ls hl rfl)
  case idiv =>
    obtain ⟨x, w, r, rfl, h⟩ := mI2_inv hdo
    obtain ⟨h1, h⟩ := mWhen_inv h
    obtain rfl := mNx_inv h
    simp only [mNrm, Bool.and_eq_true, decide_eq_true_eq, Nat.beq_eq] at hn
    obtain ⟨rfl, rfl⟩ := hn
    exact lv_idiv hx hb hd (by simpa using h1) (kk ls hl rfl)
  case irem =>
    obtain ⟨x, w, r, rfl, h⟩ := mI2_inv hdo
    obtain ⟨h1, h⟩ := mWhen_inv h
    obtain rfl := mNx_inv h
    simp only [mNrm, Bool.and_eq_true, decide_eq_true_eq, Nat.beq_eq] at hn
    obtain ⟨rfl, rfl⟩ := hn
    exact lv_irem hx hb hd (by simpa using h1) (kk ls hl rfl)
  case ladd =>
    obtain ⟨x, w, r, rfl, h⟩ := mL2_inv hdo
    obtain rfl := mNx_inv h
    simp only [mNrm, Bool.and_eq_true, decide_eq_true_eq, Nat.beq_eq] at hn
    obtain ⟨rfl, rfl⟩ := hn
    exact lv_ladd hx hb hd (kk ls hl rfl)
  case lmul =>
    obtain ⟨x, w, r, rfl, h⟩ := mL2_inv hdo
    obtain rfl := mNx_inv h
    simp only [mNrm, Bool.and_eq_true, decide_eq_true_eq, Nat.beq_eq] at hn
    obtain ⟨rfl, rfl⟩ := hn
    exact lv_lmul hx hb hd (kk ls hl rfl)
  case land =>
    obtain ⟨x, w, r, rfl, h⟩ := mL2_inv hdo
    obtain rfl := mNx_inv h
    simp only [mNrm, Bool.and_eq_true, decide_eq_true_eq, Nat.beq_eq] at hn
    obtain ⟨rfl, rfl⟩ := hn
    exact lv_land hx hb hd (kk ls hl rfl)
  case lor =>
    obtain ⟨x, w, r, rfl, h⟩ := mL2_inv hdo
    obtain rfl := mNx_inv h
    simp only [mNrm, Bool.and_eq_true, decide_eq_true_eq, Nat.beq_eq] at hn
    obtain ⟨rfl, rfl⟩ := hn
    exact lv_lor hx hb hd (kk ls hl rfl)
  case ldiv =>
    obtain ⟨x, w, r, rfl, h⟩ := mL2_inv hdo
    obtain ⟨h1, h⟩ := mWhen_inv h
    obtain rfl := mNx_inv h
    simp only [mNrm, Bool.and_eq_true, decide_eq_true_eq, Nat.beq_eq] at hn
    obtain ⟨rfl, rfl⟩ := hn
    exact lv_ldiv hx hb hd (by simpa using h1) (kk ls hl rfl)
  case lcmp =>
    obtain ⟨x, w, r, rfl, h⟩ := mL2_inv hdo
    obtain rfl := mNx_inv h
    simp only [mNrm, Bool.and_eq_true, decide_eq_true_eq, Nat.beq_eq] at hn
    obtain ⟨rfl, rfl⟩ := hn
    exact W.lcmp hx hb hd (kk ls hl rfl)
  case i2l =>
    obtain ⟨x, r, rfl, h⟩ := mI1_inv hdo
    obtain rfl := mNx_inv h
    simp only [mNrm, Bool.and_eq_true, decide_eq_true_eq, Nat.beq_eq] at hn
    obtain ⟨rfl, rfl⟩ := hn
    exact lv_i2l hx hb hd rfl (kk ls hl rfl)
  case l2i =>
    obtain ⟨x, r, rfl, h⟩ := mL1_inv hdo
    obtain rfl := mNx_inv h
    simp only [mNrm, Bool.and_eq_true, decide_eq_true_eq, Nat.beq_eq] at hn
    obtain ⟨rfl, rfl⟩ := hn
    exact lv_l2i hx hb hd rfl (kk ls hl rfl)
  case lshl =>
    obtain ⟨x, w, r, rfl, h⟩ := mLI_inv hdo
    obtain rfl := mNx_inv h
    simp only [mNrm, Bool.and_eq_true, decide_eq_true_eq, Nat.beq_eq] at hn
    obtain ⟨rfl, rfl⟩ := hn
    exact lv_lshl hx hb hd rfl (kk ls hl rfl)
  case ireturn =>
    exfalso
    obtain ⟨x, r, rfl, h⟩ := mI1_inv hdo
    split at h
    · obtain ⟨-, h⟩ := mWhen_inv h
      cases h
    · cases h
  case lreturn =>
    exfalso
    obtain ⟨x, r, rfl, h⟩ := mL1_inv hdo
    split at h
    · cases h
    · cases h
  case return_ =>
    exfalso
    simp only [mDo] at hdo
    split at hdo
    · cases hdo
    · cases hdo
  all_goals first | (simp [mClass] at hsm; done) | (simp only [mDo] at hdo; cases hdo; done)
end MST

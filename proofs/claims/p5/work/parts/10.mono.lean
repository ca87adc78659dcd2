/-! ===== a run of the abstract machine is a run of the machine ===== -/
set_option maxHeartbeats 4000000 in
/-- no step takes an object away -/
theorem m_mono {I : Nat → mI} {XN : Nat → Nat} {XF : Nat → Nat → Int32} {call : Nat → Nat → Nat → List Value → mMem → Option (Option Value × mMem)} {fr lo nL pc len : Nat} {rt : Option FieldType} {ri ni : ClassFile.Instr} {v : Int} {r1 r2 wi : Nat} {L : List (Nat × Value)} {S : List Value} {M : mMem} {y : mCfg}
    (hdo : mDo I XN XF call fr lo nL rt (pc, len, ri, ni, v, r1, r2, wi) L S M = some (.inl y)) (hM : M.1 ≤ 1024)
    (hcall : ∀ mi' fr' lo' as M1 v M2, M1.1 ≤ 1024 → call mi' fr' lo' as M1 = some (v, M2) → M1.1 ≤ M2.1 ∧ M1.2.1 ≤ M2.2.1 ∧ M2.1 ≤ 1024) : M.1 ≤ y.2.2.2.1 ∧ M.2.1 ≤ y.2.2.2.2.1 ∧ y.2.2.2.1 ≤ 1024 := by
  have lt_of : ∀ {a b : Nat}, Nat.blt a b = true → a < b := fun h => by simpa [Nat.blt_eq] using h
  have same : M.1 ≤ M.1 ∧ M.2.1 ≤ M.2.1 ∧ M.1 ≤ 1024 := ⟨Nat.le_refl _, Nat.le_refl _, hM⟩
  cases ni
  case iconst i =>
    obtain rfl := mNx_inv hdo
    exact same
  case lconst i =>
    obtain rfl := mNx_inv hdo
    exact same
  case aconst_null =>
    obtain rfl := mNx_inv hdo
    exact same
  case getstatic i =>
    obtain rfl := mNx_inv hdo
    exact same
  case goto o =>
    obtain rfl := mNx_inv hdo
    exact same
  case iload i =>
    simp only [mDo] at hdo
    split at hdo
    · obtain rfl := mNx_inv hdo
      exact same
    · cases hdo
  case lload i =>
    simp only [mDo] at hdo
    split at hdo
    · obtain rfl := mNx_inv hdo
      exact same
    · cases hdo
  case aload i =>
    simp only [mDo] at hdo
    split at hdo
    · obtain rfl := mNx_inv hdo
      exact same
    · obtain rfl := mNx_inv hdo
      exact same
    · cases hdo
  case istore i =>
    obtain ⟨x, r, rfl, h⟩ := mI1_inv hdo
    obtain ⟨h1, h⟩ := mWhen_inv h
    obtain rfl := mNx_inv h
    exact same
  case lstore i =>
    obtain ⟨x, r, rfl, h⟩ := mL1_inv hdo
    obtain ⟨h1, h⟩ := mWhen_inv h
    obtain rfl := mNx_inv h
    exact same
  case astore i =>
    obtain ⟨x, r, rfl, h⟩ := mV1_inv hdo
    obtain ⟨h1, h⟩ := mWhen_inv h
    split at h
    · obtain rfl := mNx_inv h
      exact same
    · obtain rfl := mNx_inv h
      exact same
    · cases h
  case iinc i n =>
    simp only [mDo] at hdo
    split at hdo
    · obtain ⟨h1, h⟩ := mWhen_inv hdo
      obtain rfl := mNx_inv h
      exact same
    · cases hdo
  case iadd =>
    obtain ⟨x, w, r, rfl, h⟩ := mI2_inv hdo
    obtain rfl := mNx_inv h
    exact same
  case isub =>
    obtain ⟨x, w, r, rfl, h⟩ := mI2_inv hdo
    obtain rfl := mNx_inv h
    exact same
  case imul =>
    obtain ⟨x, w, r, rfl, h⟩ := mI2_inv hdo
    obtain rfl := mNx_inv h
    exact same
  case iand =>
    obtain ⟨x, w, r, rfl, h⟩ := mI2_inv hdo
    obtain rfl := mNx_inv h
    exact same
  case ior =>
    obtain ⟨x, w, r, rfl, h⟩ := mI2_inv hdo
    obtain rfl := mNx_inv h
    exact same
  case ixor =>
    obtain ⟨x, w, r, rfl, h⟩ := mI2_inv hdo
    obtain rfl := mNx_inv h
    exact same
  case ishl =>
    obtain ⟨x, w, r, rfl, h⟩ := mI2_inv hdo
    obtain rfl := mNx_inv h
    exact same
  case ishr =>
    obtain ⟨x, w, r, rfl, h⟩ := mI2_inv hdo
    obtain rfl := mNx_inv h
    exact same
  case iushr =>
    obtain ⟨x, w, r, rfl, h⟩ := mI2_inv hdo
    obtain rfl := mNx_inv h
    exact same
  case if_icmp c o =>
    obtain ⟨x, w, r, rfl, h⟩ := mI2_inv hdo
    obtain rfl := mNx_inv h
    exact same
  case idiv =>
    obtain ⟨x, w, r, rfl, h⟩ := mI2_inv hdo
    obtain ⟨h1, h⟩ := mWhen_inv h
    obtain rfl := mNx_inv h
    exact same
  case irem =>
    obtain ⟨x, w, r, rfl, h⟩ := mI2_inv hdo
    obtain ⟨h1, h⟩ := mWhen_inv h
    obtain rfl := mNx_inv h
    exact same
  case ladd =>
    obtain ⟨x, w, r, rfl, h⟩ := mL2_inv hdo
    obtain rfl := mNx_inv h
    exact same
  case lmul =>
    obtain ⟨x, w, r, rfl, h⟩ := mL2_inv hdo
    obtain rfl := mNx_inv h
    exact same
  case land =>
    obtain ⟨x, w, r, rfl, h⟩ := mL2_inv hdo
    obtain rfl := mNx_inv h
    exact same
  case lor =>
    obtain ⟨x, w, r, rfl, h⟩ := mL2_inv hdo
    obtain rfl := mNx_inv h
    exact same
  case lcmp =>
    obtain ⟨x, w, r, rfl, h⟩ := mL2_inv hdo
    obtain rfl := mNx_inv h
    exact same
  case ldiv =>
    obtain ⟨x, w, r, rfl, h⟩ := mL2_inv hdo
    obtain ⟨h1, h⟩ := mWhen_inv h
    obtain rfl := mNx_inv h
    exact same
  case lshl =>
    obtain ⟨x, w, r, rfl, h⟩ := mLI_inv hdo
    obtain rfl := mNx_inv h
    exact same
  case i2l =>
    obtain ⟨x, r, rfl, h⟩ := mI1_inv hdo
    obtain rfl := mNx_inv h
    exact same
  case ifCond c o =>
    obtain ⟨x, r, rfl, h⟩ := mI1_inv hdo
    obtain rfl := mNx_inv h
    exact same
  case l2i =>
    obtain ⟨x, r, rfl, h⟩ := mL1_inv hdo
    obtain rfl := mNx_inv h
    exact same
  case dup =>
    obtain ⟨x, r, rfl, h⟩ := mV1_inv hdo
    obtain ⟨h1, h⟩ := mWhen_inv h
    obtain rfl := mNx_inv h
    exact same
  case pop =>
    obtain ⟨x, r, rfl, h⟩ := mV1_inv hdo
    obtain ⟨h1, h⟩ := mWhen_inv h
    obtain rfl := mNx_inv h
    exact same
  case pop2 =>
    obtain ⟨x, r, rfl, h⟩ := mV1_inv hdo
    obtain ⟨h1, h⟩ := mWhen_inv h
    obtain rfl := mNx_inv h
    exact same
  case dup2 =>
    obtain ⟨x, w, r, rfl, h⟩ := mV2_inv hdo
    obtain ⟨h1, h⟩ := mWhen_inv h
    obtain rfl := mNx_inv h
    exact same
  case ifnull o =>
    obtain ⟨x, r, rfl, h⟩ := mV1_inv hdo
    split at h
    · obtain rfl := mNx_inv h
      exact same
    · obtain rfl := mNx_inv h
      exact same
    · cases h
  case ifnonnull o =>
    obtain ⟨x, r, rfl, h⟩ := mV1_inv hdo
    split at h
    · obtain rfl := mNx_inv h
      exact same
    · obtain rfl := mNx_inv h
      exact same
    · cases h
  case tableswitch d lo2 hi2 offs =>
    obtain ⟨x, r, rfl, h⟩ := mI1_inv hdo
    cases hq : (decide (x.toInt < lo2) || decide (hi2 < x.toInt)) with
    | true =>
      rw [hq, cond_true] at h
      obtain rfl := mNx_inv h
      exact same
    | false =>
      rw [hq, cond_false] at h
      split at h
      · obtain ⟨h1, h⟩ := mWhen_inv h
        obtain rfl := mNx_inv h
        exact same
      · cases h
  case getfield i =>
    obtain ⟨o, r, rfl, h⟩ := mR1_inv hdo
    obtain ⟨h1, h⟩ := mWhen_inv h
    obtain rfl := mNx_inv h
    exact same
  case arraylength =>
    obtain ⟨o, r, rfl, h⟩ := mR1_inv hdo
    obtain ⟨h1, h⟩ := mWhen_inv h
    obtain rfl := mNx_inv h
    exact same
  case putfield i =>
    obtain ⟨w, o, r, rfl, h⟩ := mVR_inv hdo
    obtain ⟨h1, h⟩ := mWhen_inv h
    obtain rfl := mNx_inv h
    exact same
  case iaload =>
    obtain ⟨o, i, r, rfl, h⟩ := mRI_inv hdo
    cases hb0 : Nat.blt o 1000000 with
    | true =>
      rw [hb0, cond_true] at h
      obtain ⟨h1, h⟩ := mWhen_inv h
      obtain rfl := mNx_inv h
      exact same
    | false =>
      rw [hb0, cond_false] at h
      obtain ⟨h1, h⟩ := mWhen_inv h
      obtain rfl := mNx_inv h
      exact same
  case aaload =>
    obtain ⟨o, i, r, rfl, h⟩ := mRI_inv hdo
    obtain ⟨h1, h⟩ := mWhen_inv h
    obtain rfl := mNx_inv h
    exact same
  case iastore =>
    obtain ⟨o, i, w, r, rfl, h⟩ := mRIV_inv hdo
    obtain ⟨h1, h⟩ := mWhen_inv h
    obtain rfl := mNx_inv h
    exact same
  case aastore =>
    obtain ⟨o, i, w, r, rfl, h⟩ := mRIV_inv hdo
    split at h
    · obtain ⟨h1, h⟩ := mWhen_inv h
      obtain rfl := mNx_inv h
      exact same
    · cases h
  case new i =>
    obtain ⟨h1, h⟩ := mWhen_inv hdo
    obtain rfl := mNx_inv h
    exact ⟨Nat.le_succ _, Nat.le_add_right _ _, lt_of h1⟩
  case newarray t =>
    obtain ⟨x, r, rfl, h⟩ := mI1_inv hdo
    obtain ⟨h1, h⟩ := mWhen_inv h
    obtain rfl := mNx_inv h
    simp only [Bool.and_eq_true] at h1
    exact ⟨Nat.le_succ _, Nat.le_add_right _ _, lt_of h1.1⟩
  case anewarray i =>
    obtain ⟨x, r, rfl, h⟩ := mI1_inv hdo
    obtain ⟨h1, h⟩ := mWhen_inv h
    obtain rfl := mNx_inv h
    simp only [Bool.and_eq_true] at h1
    exact ⟨Nat.le_succ _, Nat.le_add_right _ _, lt_of h1.1⟩
  case multianewarray i d =>
    obtain ⟨x, w, r, rfl, h⟩ := mI2_inv hdo
    obtain ⟨h1, h⟩ := mWhen_inv h
    obtain rfl := mNx_inv h
    simp only [Bool.and_eq_true] at h1
    have h6 := Nat.le_of_ble_eq_true h1.2.2.2.2
    refine ⟨?_, ?_, ?_⟩
    · rw [mRows_1]
      show M.1 ≤ M.1 + 1 + _
      omega
    · rw [mRows_2]
      show M.2.1 ≤ M.2.1 + x.toNatClampNeg + _
      omega
    · rw [mRows_1]
      exact h6
  case invokevirtual i =>
    simp only [mDo] at hdo
    obtain ⟨as, r, rfl, hlen, h⟩ := mPop_inv hdo
    split at h
    · obtain ⟨h1, h⟩ := mWhen_inv h
      obtain ⟨c8, f1, l1, -, v', M', hcl, hy⟩ := mCall_inv h
      have hy := Sum.inl.inj hy
      subst hy
      exact hcall _ _ _ _ _ _ _ hM hcl
    · cases h
  case invokespecial i =>
    simp only [mDo] at hdo
    cases hr2 : Nat.beq r2 0 with
    | true =>
      rw [hr2, cond_true] at hdo
      obtain ⟨o, r, rfl, h⟩ := mR1_inv hdo
      obtain ⟨h1, h⟩ := mWhen_inv h
      obtain rfl := mNx_inv h
      exact same
    | false =>
      rw [hr2, cond_false] at hdo
      obtain ⟨as, r, rfl, hlen, h⟩ := mPop_inv hdo
      split at h
      · obtain ⟨c8, f1, l1, -, v', M', hcl, hy⟩ := mCall_inv h
        have hy := Sum.inl.inj hy
        subst hy
        exact hcall _ _ _ _ _ _ _ hM hcl
      · cases h
  case invokestatic i =>
    simp only [mDo] at hdo
    cases hr2 : Nat.beq r2 0 with
    | true =>
      rw [hr2, cond_true] at hdo
      obtain ⟨as, r, rfl, hlen, h⟩ := mPop_inv hdo
      obtain ⟨c8, f1, l1, -, v', M', hcl, hy⟩ := mCall_inv h
      have hy := Sum.inl.inj hy
      subst hy
      exact hcall _ _ _ _ _ _ _ hM hcl
    | false =>
      rw [hr2, cond_false] at hdo
      cases hr1 : Nat.beq r2 1 with
      | true =>
        rw [hr1, cond_true] at hdo
        split at hdo
        · next n dp b sp a r =>
          obtain ⟨h1, h⟩ := mWhen_inv hdo
          cases hb0 : Nat.blt a 1000000 with
          | true =>
            rw [hb0, cond_true] at h
            obtain ⟨h1, h⟩ := mWhen_inv h
            obtain rfl := mNx_inv h
            exact same
          | false =>
            rw [hb0, cond_false] at h
            obtain ⟨h1, h⟩ := mWhen_inv h
            obtain rfl := mNx_inv h
            exact same
        · cases hdo
      | false =>
        rw [hr1, cond_false] at hdo
        obtain ⟨x, w, r, rfl, h⟩ := mI2_inv hdo
        obtain ⟨h1, h⟩ := mWhen_inv h
        obtain rfl := mNx_inv h
        exact same
  case ireturn =>
    obtain ⟨x, r, rfl, h⟩ := mI1_inv hdo
    split at h
    · obtain ⟨-, h⟩ := mWhen_inv h
      cases h
    · cases h
  case lreturn =>
    obtain ⟨x, r, rfl, h⟩ := mL1_inv hdo
    split at h
    · cases h
    · cases h
  case return_ =>
    simp only [mDo] at hdo
    split at hdo
    · cases hdo
    · cases hdo
  all_goals (simp only [mDo] at hdo; cases hdo)
/-- where a body ends with v -/
noncomputable def mEnd (x : mI) (rt : Option FieldType) (pc : Nat) (v : Option Value) : Prop := match v with
  | some (.int z) => decode x.2.1 pc = .ok (.ireturn, 1) ∧ ∃ ty, rt = some ty ∧ mFit ty (.int z) = true
  | some (.long _) => decode x.2.1 pc = .ok (.lreturn, 1) ∧ rt = some .long
  | none => decode x.2.1 pc = .ok (.return_, 1) ∧ rt = none
  | _ => False
set_option maxHeartbeats 4000000 in
theorem m_end {I : Nat → mI} {mi : Nat} {XN : Nat → Nat} {XF : Nat → Nat → Int32} {call : Nat → Nat → Nat → List Value → mMem → Option (Option Value × mMem)} {fr lo nL pc len : Nat} {rt : Option FieldType} {ri ni : ClassFile.Instr} {v : Int} {r1 r2 wi : Nat} {L : List (Nat × Value)} {S : List Value} {M M2 : mMem} {z : Option Value}
    (he : mOk I mi (pc, len, ri, ni, v, r1, r2, wi) = true) (hdo : mDo I XN XF call fr lo nL rt (pc, len, ri, ni, v, r1, r2, wi) L S M = some (.inr (z, M2))) : M2 = M ∧ S = z.toList ∧ mEnd (I mi) rt pc z := by
  simp only [mOk, Bool.and_eq_true, decide_eq_true_eq] at he
  obtain ⟨hd, hn⟩ := he
  cases ni
  case ireturn =>
    obtain ⟨x, r, rfl, h⟩ := mI1_inv hdo
    simp only [mNrm, Bool.and_eq_true, decide_eq_true_eq, Nat.beq_eq] at hn
    obtain ⟨rfl, rfl⟩ := hn
    split at h
    · next ty =>
      obtain ⟨h1, h⟩ := mWhen_inv h
      cases h
      exact ⟨rfl, rfl, hd, ty, rfl, h1⟩
    · cases h
  case lreturn =>
    obtain ⟨x, r, rfl, h⟩ := mL1_inv hdo
    simp only [mNrm, Bool.and_eq_true, decide_eq_true_eq, Nat.beq_eq] at hn
    obtain ⟨rfl, rfl⟩ := hn
    split at h
    · cases h
      exact ⟨rfl, rfl, hd, rfl⟩
    · cases h
  case return_ =>
    simp only [mDo] at hdo
    simp only [mNrm, Bool.and_eq_true, decide_eq_true_eq, Nat.beq_eq] at hn
    obtain ⟨rfl, rfl⟩ := hn
    split at hdo
    · cases hdo
      exact ⟨rfl, rfl, hd, rfl⟩
    · cases hdo
  case iconst i =>
    exfalso
    exact mNx_no hdo
  case lconst i =>
    exfalso
    exact mNx_no hdo
  case aconst_null =>
    exfalso
    exact mNx_no hdo
  case getstatic i =>
    exfalso
    exact mNx_no hdo
  case goto o =>
    exfalso
    exact mNx_no hdo
  case iload i =>
    exfalso
    simp only [mDo] at hdo
    split at hdo
    · exact mNx_no hdo
    · cases hdo
  case lload i =>
    exfalso
    simp only [mDo] at hdo
    split at hdo
    · exact mNx_no hdo
    · cases hdo
  case aload i =>
    exfalso
    simp only [mDo] at hdo
    split at hdo
    · exact mNx_no hdo
    · exact mNx_no hdo
    · cases hdo
  case istore i =>
    exfalso
    obtain ⟨x, r, rfl, h⟩ := mI1_inv hdo
    obtain ⟨h1, h⟩ := mWhen_inv h
    exact mNx_no h
  case lstore i =>
    exfalso
    obtain ⟨x, r, rfl, h⟩ := mL1_inv hdo
    obtain ⟨h1, h⟩ := mWhen_inv h
    exact mNx_no h
  case astore i =>
    exfalso
    obtain ⟨x, r, rfl, h⟩ := mV1_inv hdo
    obtain ⟨h1, h⟩ := mWhen_inv h
    split at h
    · exact mNx_no h
    · exact mNx_no h
    · cases h
  case iinc i n =>
    exfalso
    simp only [mDo] at hdo
    split at hdo
    · obtain ⟨h1, h⟩ := mWhen_inv hdo
      exact mNx_no h
    · cases hdo
  case iadd =>
    exfalso
    obtain ⟨x, w, r, rfl, h⟩ := mI2_inv hdo
    exact mNx_no h
  case isub =>
    exfalso
    obtain ⟨x, w, r, rfl, h⟩ := mI2_inv hdo
    exact mNx_no h
  case imul =>
    exfalso
    obtain ⟨x, w, r, rfl, h⟩ := mI2_inv hdo
    exact mNx_no h
  case iand =>
    exfalso
    obtain ⟨x, w, r, rfl, h⟩ := mI2_inv hdo
    exact mNx_no h
  case ior =>
    exfalso
    obtain ⟨x, w, r, rfl, h⟩ := mI2_inv hdo
    exact mNx_no h
  case ixor =>
    exfalso
    obtain ⟨x, w, r, rfl, h⟩ := mI2_inv hdo
    exact mNx_no h
  case ishl =>
    exfalso
    obtain ⟨x, w, r, rfl, h⟩ := mI2_inv hdo
    exact mNx_no h
  case ishr =>
    exfalso
    obtain ⟨x, w, r, rfl, h⟩ := mI2_inv hdo
    exact mNx_no h
  case iushr =>
    exfalso
    obtain ⟨x, w, r, rfl, h⟩ := mI2_inv hdo
    exact mNx_no h
  case if_icmp c o =>
    exfalso
    obtain ⟨x, w, r, rfl, h⟩ := mI2_inv hdo
    exact mNx_no h
  case idiv =>
    exfalso
    obtain ⟨x, w, r, rfl, h⟩ := mI2_inv hdo
    obtain ⟨h1, h⟩ := mWhen_inv h
    exact mNx_no h
  case irem =>
    exfalso
    obtain ⟨x, w, r, rfl, h⟩ := mI2_inv hdo
    obtain ⟨h1, h⟩ := mWhen_inv h
    exact mNx_no h
  case ladd =>
    exfalso
    obtain ⟨x, w, r, rfl, h⟩ := mL2_inv hdo
    exact mNx_no h
  case lmul =>
    exfalso
    obtain ⟨x, w, r, rfl, h⟩ := mL2_inv hdo
    exact mNx_no h
  case land =>
    exfalso
    obtain ⟨x, w, r, rfl, h⟩ := mL2_inv hdo
    exact mNx_no h
  case lor =>
    exfalso
    obtain ⟨x, w, r, rfl, h⟩ := mL2_inv hdo
    exact mNx_no h
  case lcmp =>
    exfalso
    obtain ⟨x, w, r, rfl, h⟩ := mL2_inv hdo
    exact mNx_no h
  case ldiv =>
    exfalso
    obtain ⟨x, w, r, rfl, h⟩ := mL2_inv hdo
    obtain ⟨h1, h⟩ := mWhen_inv h
    exact mNx_no h
  case lshl =>
    exfalso
    obtain ⟨x, w, r, rfl, h⟩ := mLI_inv hdo
    exact mNx_no h
  case i2l =>
    exfalso
    obtain ⟨x, r, rfl, h⟩ := mI1_inv hdo
    exact mNx_no h
  case ifCond c o =>
    exfalso
    obtain ⟨x, r, rfl, h⟩ := mI1_inv hdo
    exact mNx_no h
  case l2i =>
    exfalso
    obtain ⟨x, r, rfl, h⟩ := mL1_inv hdo
    exact mNx_no h
  case dup =>
    exfalso
    obtain ⟨x, r, rfl, h⟩ := mV1_inv hdo
    obtain ⟨h1, h⟩ := mWhen_inv h
    exact mNx_no h
  case pop =>
    exfalso
    obtain ⟨x, r, rfl, h⟩ := mV1_inv hdo
    obtain ⟨h1, h⟩ := mWhen_inv h
    exact mNx_no h
  case pop2 =>
    exfalso
    obtain ⟨x, r, rfl, h⟩ := mV1_inv hdo
    obtain ⟨h1, h⟩ := mWhen_inv h
    exact mNx_no h
  case dup2 =>
    exfalso
    obtain ⟨x, w, r, rfl, h⟩ := mV2_inv hdo
    obtain ⟨h1, h⟩ := mWhen_inv h
    exact mNx_no h
  case ifnull o =>
    exfalso
    obtain ⟨x, r, rfl, h⟩ := mV1_inv hdo
    split at h
    · exact mNx_no h
    · exact mNx_no h
    · cases h
  case ifnonnull o =>
    exfalso
    obtain ⟨x, r, rfl, h⟩ := mV1_inv hdo
    split at h
    · exact mNx_no h
    · exact mNx_no h
    · cases h
  case tableswitch d lo2 hi2 offs =>
    exfalso
    obtain ⟨x, r, rfl, h⟩ := mI1_inv hdo
    cases hq : (decide (x.toInt < lo2) || decide (hi2 < x.toInt)) with
    | true =>
      rw [hq, cond_true] at h
      exact mNx_no h
    | false =>
      rw [hq, cond_false] at h
      split at h
      · obtain ⟨h1, h⟩ := mWhen_inv h
        exact mNx_no h
      · cases h
  case getfield i =>
    exfalso
    obtain ⟨o, r, rfl, h⟩ := mR1_inv hdo
    obtain ⟨h1, h⟩ := mWhen_inv h
    exact mNx_no h
  case arraylength =>
    exfalso
    obtain ⟨o, r, rfl, h⟩ := mR1_inv hdo
    obtain ⟨h1, h⟩ := mWhen_inv h
    exact mNx_no h
  case putfield i =>
    exfalso
    obtain ⟨w, o, r, rfl, h⟩ := mVR_inv hdo
    obtain ⟨h1, h⟩ := mWhen_inv h
    exact mNx_no h
  case iaload =>
    exfalso
    obtain ⟨o, i, r, rfl, h⟩ := mRI_inv hdo
    cases hb0 : Nat.blt o 1000000 with
    | true =>
      rw [hb0, cond_true] at h
      obtain ⟨h1, h⟩ := mWhen_inv h
      exact mNx_no h
    | false =>
      rw [hb0, cond_false] at h
      obtain ⟨h1, h⟩ := mWhen_inv h
      exact mNx_no h
  case aaload =>
    exfalso
    obtain ⟨o, i, r, rfl, h⟩ := mRI_inv hdo
    obtain ⟨h1, h⟩ := mWhen_inv h
    exact mNx_no h
  case iastore =>
    exfalso
    obtain ⟨o, i, w, r, rfl, h⟩ := mRIV_inv hdo
    obtain ⟨h1, h⟩ := mWhen_inv h
    exact mNx_no h
  case aastore =>
    exfalso
    obtain ⟨o, i, w, r, rfl, h⟩ := mRIV_inv hdo
    split at h
    · obtain ⟨h1, h⟩ := mWhen_inv h
      exact mNx_no h
    · cases h
  case new i =>
    exfalso
    obtain ⟨h1, h⟩ := mWhen_inv hdo
    exact mNx_no h
  case newarray t =>
    exfalso
    obtain ⟨x, r, rfl, h⟩ := mI1_inv hdo
    obtain ⟨h1, h⟩ := mWhen_inv h
    exact mNx_no h
  case anewarray i =>
    exfalso
    obtain ⟨x, r, rfl, h⟩ := mI1_inv hdo
    obtain ⟨h1, h⟩ := mWhen_inv h
    exact mNx_no h
  case multianewarray i d =>
    exfalso
    obtain ⟨x, w, r, rfl, h⟩ := mI2_inv hdo
    obtain ⟨h1, h⟩ := mWhen_inv h
    exact mNx_no h
  case invokevirtual i =>
    exfalso
    simp only [mDo] at hdo
    obtain ⟨as, r, rfl, hlen, h⟩ := mPop_inv hdo
    split at h
    · obtain ⟨h1, h⟩ := mWhen_inv h
      obtain ⟨c8, f1, l1, -, v', M', hcl, hy⟩ := mCall_inv h
      cases hy
    · cases h
  case invokespecial i =>
    exfalso
    simp only [mDo] at hdo
    cases hr2 : Nat.beq r2 0 with
    | true =>
      rw [hr2, cond_true] at hdo
      obtain ⟨o, r, rfl, h⟩ := mR1_inv hdo
      obtain ⟨h1, h⟩ := mWhen_inv h
      exact mNx_no h
    | false =>
      rw [hr2, cond_false] at hdo
      obtain ⟨as, r, rfl, hlen, h⟩ := mPop_inv hdo
      split at h
      · obtain ⟨c8, f1, l1, -, v', M', hcl, hy⟩ := mCall_inv h
        cases hy
      · cases h
  case invokestatic i =>
    exfalso
    simp only [mDo] at hdo
    cases hr2 : Nat.beq r2 0 with
    | true =>
      rw [hr2, cond_true] at hdo
      obtain ⟨as, r, rfl, hlen, h⟩ := mPop_inv hdo
      obtain ⟨c8, f1, l1, -, v', M', hcl, hy⟩ := mCall_inv h
      cases hy
    | false =>
      rw [hr2, cond_false] at hdo
      cases hr1 : Nat.beq r2 1 with
      | true =>
        rw [hr1, cond_true] at hdo
        split at hdo
        · next n dp b sp a r =>
          obtain ⟨h1, h⟩ := mWhen_inv hdo
          cases hb0 : Nat.blt a 1000000 with
          | true =>
            rw [hb0, cond_true] at h
            obtain ⟨h1, h⟩ := mWhen_inv h
            exact mNx_no h
          | false =>
            rw [hb0, cond_false] at h
            obtain ⟨h1, h⟩ := mWhen_inv h
            exact mNx_no h
        · cases hdo
      | false =>
        rw [hr1, cond_false] at hdo
        obtain ⟨x, w, r, rfl, h⟩ := mI2_inv hdo
        obtain ⟨h1, h⟩ := mWhen_inv h
        exact mNx_no h
  all_goals (simp only [mDo] at hdo; cases hdo)

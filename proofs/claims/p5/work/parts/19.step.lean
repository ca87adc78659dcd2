/-! ===== a symbolic step is a step: all instructions ===== -/
set_option maxHeartbeats 4000000 in
theorem s_do {ρ : Nat → Int} {I : Nat → mI} {XN : Nat → Nat} {XF : Nat → Nat → Int32} {sX : Nat → Nat → sI} {call : sCl} {mc : Nat → Nat → Nat → Nat → List Value → mMem → Option (Option Value × mMem)} {fr lo nL : Nat} {rt : Option FieldType} {e : mE} {L : List (Nat × sV)} {S : List sV} {M : sMem} {B : sB} {k : sK} {N : List (Nat × Value)} {V : List Value} {K : mMem}
    (hX : ∀ a j, a < 4 → j < XN a → (XF a j).toInt = sDn ρ (sX a j)) (hKn : sKn ρ) (hc : sHc ρ call mc) (hdo : sDo I XN sX call fr lo nL rt e L S M B k = true) (hi : sIn ρ B) (hL : sLR ρ L N) (hS : sSR ρ S V) (hM : sMR ρ M K) :
    sOut ρ k (fun f => mDo I XN XF (mc f) fr lo nL rt e N V K) := by
  obtain ⟨pc, len, ri, ni, v, r1, r2, wi⟩ := e
  have e1 := hM.1
  have h0 := sIn_0 hi
  cases ni
  case iconst n =>
    have h := hdo
    obtain ⟨g, h⟩ := and_inv h
    exact sOut_c (.inl (pc + len, N, .int (Int32.ofInt v) :: V, K)) hi h ⟨rfl, hL, ⟨sR32_i hi g, hS⟩, hM⟩ (fun _ => rfl)
  case lconst n =>
    have h := hdo
    obtain ⟨g, h⟩ := and_inv h
    simp only [Bool.and_eq_true, sILe_d, decide_eq_true_eq] at g
    refine sOut_c (.inl (pc + len, N, .long (Int64.ofInt v) :: V, K)) hi h ⟨rfl, hL, ⟨?_, hS⟩, hM⟩ (fun _ => rfl)
    show (Int64.ofInt v).toInt = sDn ρ (0, v)
    rw [sDn_0 hi]
    exact Int64.toInt_ofInt_of_le (by omega) (by omega)
  case aconst_null =>
    have h := hdo
    exact sOut_c (.inl (pc + len, N, .null :: V, K)) hi h ⟨rfl, hL, ⟨trivial, hS⟩, hM⟩ (fun _ => rfl)
  case iload i =>
    have h := hdo
    have h : (match sLk L i with
      | some (.inl x) => k B (.inl (pc + len, L, .inl x :: S, M))
      | _ => false) = true := h
    split at h
    · next x hx =>
      obtain ⟨w, h1, h2⟩ := sLk_rel hL hx
      obtain ⟨y, rfl, hy⟩ := sRel_i h2
      refine sOut_c (.inl (pc + len, N, .int y :: V, K)) hi h ⟨rfl, hL, ⟨hy, hS⟩, hM⟩ (fun _ => ?_)
      show (match mLk N i with
        | some (.int x) => mNx (pc + len) N (.int x :: V) K
        | _ => none) = _
      rw [h1]
      rfl
    · cases h
  case lload i =>
    have h := hdo
    have h : (match sLk L i with
      | some (.inr (.inl x)) => k B (.inl (pc + len, L, .inr (.inl x) :: S, M))
      | _ => false) = true := h
    split at h
    · next x hx =>
      obtain ⟨w, h1, h2⟩ := sLk_rel hL hx
      obtain ⟨y, rfl, hy⟩ := sRel_l h2
      refine sOut_c (.inl (pc + len, N, .long y :: V, K)) hi h ⟨rfl, hL, ⟨hy, hS⟩, hM⟩ (fun _ => ?_)
      show (match mLk N i with
        | some (.long x) => mNx (pc + len) N (.long x :: V) K
        | _ => none) = _
      rw [h1]
      rfl
    · cases h
  case aload i =>
    have h := hdo
    have h : (match sLk L i with
      | some (.inr (.inr x)) => k B (.inl (pc + len, L, .inr (.inr x) :: S, M))
      | _ => false) = true := h
    split at h
    · next x hx =>
      obtain ⟨w, h1, h2⟩ := sLk_rel hL hx
      have hq : mDo I XN XF (mc 0) fr lo nL rt (pc, len, ri, .aload i, v, r1, r2, wi) N V K = mNx (pc + len) N (w :: V) K ∧ True := by
        refine ⟨?_, trivial⟩
        show (match mLk N i with
          | some (.ref x) => mNx (pc + len) N (.ref x :: V) K
          | some .null => mNx (pc + len) N (.null :: V) K
          | _ => none) = _
        rw [h1]
        cases x with
        | none => obtain rfl := sRel_n h2; rfl
        | some o => obtain rfl := sRel_r h2; rfl
      exact sOut_c (.inl (pc + len, N, w :: V, K)) hi h ⟨rfl, hL, ⟨h2, hS⟩, hM⟩ (fun _ => hq.1)
    · cases h
  case istore i =>
    obtain ⟨x, r, rfl, h⟩ := sI1_inv hdo
    obtain ⟨g, h⟩ := and_inv h
    obtain ⟨y, W, rfl, hy, hS⟩ := sSR_i hS
    exact sOut_c (.inl (pc + len, mSt1 N i (.int y), W, K)) hi h ⟨rfl, sSt1_rel hL hy, hS, hM⟩ (fun _ => (mWhen_t g).trans rfl)
  case lstore i =>
    obtain ⟨x, r, rfl, h⟩ := sL1_inv hdo
    obtain ⟨g, h⟩ := and_inv h
    obtain ⟨y, W, rfl, hy, hS⟩ := sSR_l hS
    exact sOut_c (.inl (pc + len, mSt2 N i (.long y), W, K)) hi h ⟨rfl, sSt2_rel hL hy, hS, hM⟩ (fun _ => (mWhen_t g).trans rfl)
  case astore i =>
    obtain ⟨x, r, rfl, h⟩ := sN1_inv hdo
    obtain ⟨g, h⟩ := and_inv h
    cases x with
    | none =>
      obtain ⟨W, rfl, -, hS⟩ := sSR_n hS
      exact sOut_c (.inl (pc + len, mSt1 N i .null, W, K)) hi h ⟨rfl, sSt1_rel hL trivial, hS, hM⟩ (fun _ => (mWhen_t g).trans rfl)
    | some o =>
      obtain ⟨W, rfl, -, hS⟩ := sSR_r hS
      exact sOut_c (.inl (pc + len, mSt1 N i (.ref o), W, K)) hi h ⟨rfl, sSt1_rel hL rfl, hS, hM⟩ (fun _ => (mWhen_t g).trans rfl)
  case iinc i n =>
    have h := hdo
    have h : (match sLk L i with
      | some (.inl x) => (Nat.blt i nL && sR32 v v) && sAdd B x (0, v) fun B1 z => k B1 (.inl (pc + len, sSt1 L i (.inl z), S, M))
      | _ => false) = true := h
    split at h
    · next x hx =>
      obtain ⟨w, h1, h2⟩ := sLk_rel hL hx
      obtain ⟨y, rfl, hy⟩ := sRel_i h2
      obtain ⟨g, h⟩ := and_inv h
      obtain ⟨g1, g2⟩ := and_inv g
      obtain ⟨B1, z, hi1, h, hz⟩ := sAdd_inv h hi hy (sR32_i hi g2)
      refine sOut_c (.inl (pc + len, mSt1 N i (.int (y + Int32.ofInt v)), V, K)) hi1 h ⟨rfl, sSt1_rel hL hz, hS, hM⟩ (fun _ => ?_)
      show (match mLk N i with
        | some (.int x) => mWhen (Nat.blt i nL) (mNx (pc + len) (mSt1 N i (.int (x + Int32.ofInt v))) V K)
        | _ => none) = _
      rw [h1]
      exact (mWhen_t g1).trans rfl
    · cases h
  case iadd =>
    obtain ⟨x, y, r, rfl, h⟩ := sI2_inv hdo
    obtain ⟨Y, V, rfl, hY, hS⟩ := sSR_i hS
    obtain ⟨X, V, rfl, hX, hS⟩ := sSR_i hS
    obtain ⟨B1, z, hi1, h, hz⟩ := sAdd_inv h hi hX hY
    exact sOut_c (.inl (pc + len, N, .int (X + Y) :: V, K)) hi1 h ⟨rfl, hL, ⟨hz, hS⟩, hM⟩ (fun _ => rfl)
  case isub =>
    obtain ⟨x, y, r, rfl, h⟩ := sI2_inv hdo
    obtain ⟨Y, V, rfl, hY, hS⟩ := sSR_i hS
    obtain ⟨X, V, rfl, hX, hS⟩ := sSR_i hS
    rcases bif_inv h with ⟨c, h⟩ | ⟨-, h⟩
    · have hS9 := hS
      obtain ⟨c1, c2⟩ := and_inv c
      have e1 := sEqI_eq c1
      have e2 := sEqI_eq c2
      obtain ⟨l, m, a1, a2, h⟩ := sRg_inv h hi
      obtain ⟨g, h⟩ := and_inv h
      have g := sR32_inv g
      have hk := hKn.2.2.2.2
      have d1 : X.toInt = 30000 := by rw [hX, e1, sDn_0 hi]
      have d2 : Y.toInt = ρ 3 := by rw [hY, e2]; show ρ 3 + 0 = ρ 3; omega
      have d3 : sDn ρ y = ρ 3 := by rw [← hY, d2]
      refine sOut_c (.inl (pc + len, N, .int (X - Y) :: V, K)) (sIn_nar (i := 11) hi (by omega) (by omega)) h ⟨rfl, hL, ⟨?_, hS9⟩, hM⟩ (fun _ => rfl)
      show (X - Y).toInt = ρ 11 + 0
      rw [hk, Int.add_zero]
      exact i32_val (by rw [i32_sub, d1, d2]) (by omega) (by omega)
    · obtain ⟨B1, z, hi1, h, hz⟩ := sSub_inv h hi hX hY
      exact sOut_c (.inl (pc + len, N, .int (X - Y) :: V, K)) hi1 h ⟨rfl, hL, ⟨hz, hS⟩, hM⟩ (fun _ => rfl)
  case imul =>
    obtain ⟨x, y, r, rfl, h⟩ := sI2_inv hdo
    obtain ⟨Y, V, rfl, hY, hS⟩ := sSR_i hS
    obtain ⟨X, V, rfl, hX, hS⟩ := sSR_i hS
    obtain ⟨B1, z, hi1, h, hz⟩ := sMul_inv h hi hX hY
    exact sOut_c (.inl (pc + len, N, .int (X * Y) :: V, K)) hi1 h ⟨rfl, hL, ⟨hz, hS⟩, hM⟩ (fun _ => rfl)
  case idiv =>
    obtain ⟨x, y, r, rfl, h⟩ := sI2_inv hdo
    obtain ⟨Y, V, rfl, hY, hS⟩ := sSR_i hS
    obtain ⟨X, V, rfl, hX, hS⟩ := sSR_i hS
    obtain ⟨B1, hi1, h⟩ := sC2_inv h hi
    obtain ⟨g, h⟩ := and_inv h
    rw [← i32_of hX, ← i32_of hY] at h
    rw [← i32_of hY] at g
    exact sOut_c (.inl (pc + len, N, .int (X / Y) :: V, K)) hi1 h ⟨rfl, hL, ⟨(sDn_0 hi _).symm, hS⟩, hM⟩ (fun _ => (mWhen_t g).trans rfl)
  case irem =>
    obtain ⟨x, y, r, rfl, h⟩ := sI2_inv hdo
    obtain ⟨Y, V, rfl, hY, hS⟩ := sSR_i hS
    obtain ⟨X, V, rfl, hX, hS⟩ := sSR_i hS
    obtain ⟨B1, hi1, h⟩ := sC2_inv h hi
    obtain ⟨g, h⟩ := and_inv h
    rw [← i32_of hX, ← i32_of hY] at h
    rw [← i32_of hY] at g
    exact sOut_c (.inl (pc + len, N, .int (X - X / Y * Y) :: V, K)) hi1 h ⟨rfl, hL, ⟨(sDn_0 hi _).symm, hS⟩, hM⟩ (fun _ => (mWhen_t g).trans rfl)
  case iand =>
    obtain ⟨x, y, r, rfl, h⟩ := sI2_inv hdo
    obtain ⟨Y, V, rfl, hY, hS⟩ := sSR_i hS
    obtain ⟨X, V, rfl, hX, hS⟩ := sSR_i hS
    rcases bif_inv h with ⟨c, h⟩ | ⟨-, h⟩
    · have hS9 := hS
      have h9 := h
      obtain ⟨c1, c2⟩ := and_inv c
      obtain rfl := sEqI_eq c1
      obtain rfl := sEqI_eq c2
      refine sOut_c (.inl (pc + len, N, .int (X &&& Y) :: V, K)) hi h9 ⟨rfl, hL, ⟨?_, hS9⟩, hM⟩ (fun _ => rfl)
      show (X &&& Y).toInt = ρ 2 + 0
      rw [i32_of hX, i32_of hY, sDn_0 hi, hKn.1, Int.add_zero]
      show (Int32.ofInt (ρ 1 + 0) &&& Int32.ofInt 63).toInt = _
      rw [Int.add_zero]
    · obtain ⟨B1, z, hi1, h, hz⟩ := sOp_inv (op := (· &&& ·)) h hi hX hY
      exact sOut_c (.inl (pc + len, N, .int (X &&& Y) :: V, K)) hi1 h ⟨rfl, hL, ⟨hz, hS⟩, hM⟩ (fun _ => rfl)
  case ior =>
    obtain ⟨x, y, r, rfl, h⟩ := sI2_inv hdo
    obtain ⟨Y, V, rfl, hY, hS⟩ := sSR_i hS
    obtain ⟨X, V, rfl, hX, hS⟩ := sSR_i hS
    obtain ⟨B1, z, hi1, h, hz⟩ := sOp_inv (op := (· ||| ·)) h hi hX hY
    exact sOut_c (.inl (pc + len, N, .int (X ||| Y) :: V, K)) hi1 h ⟨rfl, hL, ⟨hz, hS⟩, hM⟩ (fun _ => rfl)
  case ixor =>
    obtain ⟨x, y, r, rfl, h⟩ := sI2_inv hdo
    obtain ⟨Y, V, rfl, hY, hS⟩ := sSR_i hS
    obtain ⟨X, V, rfl, hX, hS⟩ := sSR_i hS
    obtain ⟨B1, z, hi1, h, hz⟩ := sOp_inv (op := (· ^^^ ·)) h hi hX hY
    exact sOut_c (.inl (pc + len, N, .int (X ^^^ Y) :: V, K)) hi1 h ⟨rfl, hL, ⟨hz, hS⟩, hM⟩ (fun _ => rfl)
  case ishl =>
    obtain ⟨x, y, r, rfl, h⟩ := sI2_inv hdo
    obtain ⟨Y, V, rfl, hY, hS⟩ := sSR_i hS
    obtain ⟨X, V, rfl, hX, hS⟩ := sSR_i hS
    obtain ⟨B1, z, hi1, h, hz⟩ := sOp_inv (op := fun x y => x <<< (y &&& 31)) h hi hX hY
    exact sOut_c (.inl (pc + len, N, .int (X <<< (Y &&& 31)) :: V, K)) hi1 h ⟨rfl, hL, ⟨hz, hS⟩, hM⟩ (fun _ => rfl)
  case ishr =>
    obtain ⟨x, y, r, rfl, h⟩ := sI2_inv hdo
    obtain ⟨Y, V, rfl, hY, hS⟩ := sSR_i hS
    obtain ⟨X, V, rfl, hX, hS⟩ := sSR_i hS
    obtain ⟨B1, z, hi1, h, hz⟩ := sOp_inv (op := fun x y => x >>> (y &&& 31)) h hi hX hY
    exact sOut_c (.inl (pc + len, N, .int (X >>> (Y &&& 31)) :: V, K)) hi1 h ⟨rfl, hL, ⟨hz, hS⟩, hM⟩ (fun _ => rfl)
  case iushr =>
    obtain ⟨x, y, r, rfl, h⟩ := sI2_inv hdo
    obtain ⟨Y, V, rfl, hY, hS⟩ := sSR_i hS
    obtain ⟨X, V, rfl, hX, hS⟩ := sSR_i hS
    obtain ⟨B1, z, hi1, h, hz⟩ := sOp_inv (op := fun x y => (x.toUInt32 >>> (y.toUInt32 &&& Int32.toUInt32 31)).toInt32) h hi hX hY
    exact sOut_c (.inl (pc + len, N, .int ((X.toUInt32 >>> (Y.toUInt32 &&& Int32.toUInt32 31)).toInt32) :: V, K)) hi1 h ⟨rfl, hL, ⟨hz, hS⟩, hM⟩ (fun _ => rfl)
  case ladd =>
    obtain ⟨x, y, r, rfl, h⟩ := sL2_inv hdo
    obtain ⟨Y, V, rfl, hY, hS⟩ := sSR_l hS
    obtain ⟨X, V, rfl, hX, hS⟩ := sSR_l hS
    obtain ⟨B1, z, hi1, h, hz⟩ := sOpL_inv (op := (· + ·)) h hi hX hY
    exact sOut_c (.inl (pc + len, N, .long (X + Y) :: V, K)) hi1 h ⟨rfl, hL, ⟨hz, hS⟩, hM⟩ (fun _ => rfl)
  case lmul =>
    obtain ⟨x, y, r, rfl, h⟩ := sL2_inv hdo
    obtain ⟨Y, V, rfl, hY, hS⟩ := sSR_l hS
    obtain ⟨X, V, rfl, hX, hS⟩ := sSR_l hS
    obtain ⟨B1, z, hi1, h, hz⟩ := sMulL_inv h hi hX hY
    exact sOut_c (.inl (pc + len, N, .long (X * Y) :: V, K)) hi1 h ⟨rfl, hL, ⟨hz, hS⟩, hM⟩ (fun _ => rfl)
  case ldiv =>
    obtain ⟨x, y, r, rfl, h⟩ := sL2_inv hdo
    obtain ⟨Y, V, rfl, hY, hS⟩ := sSR_l hS
    obtain ⟨X, V, rfl, hX, hS⟩ := sSR_l hS
    obtain ⟨B1, hi1, h⟩ := sC2_inv h hi
    obtain ⟨g, h⟩ := and_inv h
    rw [← i64_of hX, ← i64_of hY] at h
    rw [← i64_of hY] at g
    exact sOut_c (.inl (pc + len, N, .long (X / Y) :: V, K)) hi1 h ⟨rfl, hL, ⟨(sDn_0 hi _).symm, hS⟩, hM⟩ (fun _ => (mWhen_t g).trans rfl)
  case land =>
    obtain ⟨x, y, r, rfl, h⟩ := sL2_inv hdo
    obtain ⟨Y, V, rfl, hY, hS⟩ := sSR_l hS
    obtain ⟨X, V, rfl, hX, hS⟩ := sSR_l hS
    rcases bif_inv h with ⟨c, h⟩ | ⟨-, h⟩
    · have hS9 := hS
      have h9 := h
      obtain ⟨c1, c2⟩ := and_inv c
      obtain rfl := sEqI_eq c1
      obtain rfl := sEqI_eq c2
      refine sOut_c (.inl (pc + len, N, .long (X &&& Y) :: V, K)) hi h9 ⟨rfl, hL, ⟨?_, hS9⟩, hM⟩ (fun _ => rfl)
      show (X &&& Y).toInt = ρ 8 + 0
      rw [i64_of hX, i64_of hY, sDn_0 hi, hKn.2.2.1, Int.add_zero]
      show (Int64.ofInt (ρ 4 + 0) &&& Int64.ofInt 4294967295).toInt = _
      rw [Int.add_zero]
    · obtain ⟨B1, z, hi1, h, hz⟩ := sOpL_inv (op := (· &&& ·)) h hi hX hY
      exact sOut_c (.inl (pc + len, N, .long (X &&& Y) :: V, K)) hi1 h ⟨rfl, hL, ⟨hz, hS⟩, hM⟩ (fun _ => rfl)
  case lor =>
    obtain ⟨x, y, r, rfl, h⟩ := sL2_inv hdo
    obtain ⟨Y, V, rfl, hY, hS⟩ := sSR_l hS
    obtain ⟨X, V, rfl, hX, hS⟩ := sSR_l hS
    rcases bif_inv h with ⟨c, h⟩ | ⟨-, h⟩
    · have hS9 := hS
      have h9 := h
      obtain ⟨c1, c2⟩ := and_inv c
      obtain rfl := sEqI_eq c1
      obtain rfl := sEqI_eq c2
      refine sOut_c (.inl (pc + len, N, .long (X ||| Y) :: V, K)) hi h9 ⟨rfl, hL, ⟨?_, hS9⟩, hM⟩ (fun _ => rfl)
      show (X ||| Y).toInt = ρ 9 + 0
      rw [i64_of hX, i64_of hY, hKn.2.2.2.1, Int.add_zero]
      show (Int64.ofInt (ρ 7 + 0) ||| Int64.ofInt (ρ 8 + 0)).toInt = _
      rw [Int.add_zero, Int.add_zero]
    · obtain ⟨B1, z, hi1, h, hz⟩ := sOpL_inv (op := (· ||| ·)) h hi hX hY
      exact sOut_c (.inl (pc + len, N, .long (X ||| Y) :: V, K)) hi1 h ⟨rfl, hL, ⟨hz, hS⟩, hM⟩ (fun _ => rfl)
  case lshl =>
    obtain ⟨x, y, r, rfl, h⟩ := sLI_inv hdo
    obtain ⟨Y, V, rfl, hY, hS⟩ := sSR_i hS
    obtain ⟨X, V, rfl, hX, hS⟩ := sSR_l hS
    obtain ⟨c1, h⟩ := and_inv h
    obtain ⟨c2, h9⟩ := and_inv h
    have hS9 := hS
    obtain rfl := sEqI_eq c1
    obtain rfl := sEqI_eq c2
    refine sOut_c (.inl (pc + len, N, .long (X <<< (Y.toInt64 &&& 63)) :: V, K)) hi h9 ⟨rfl, hL, ⟨?_, hS9⟩, hM⟩ (fun _ => rfl)
    show (X <<< (Y.toInt64 &&& 63)).toInt = ρ 7 + 0
    rw [i64_of hX, i32_of hY, sDn_0 hi, hKn.2.1, Int.add_zero]
    show (Int64.ofInt (ρ 3 + 0) <<< _).toInt = _
    rw [Int.add_zero]
  case lcmp =>
    obtain ⟨x, y, r, rfl, h⟩ := sL2_inv hdo
    obtain ⟨Y, V, rfl, hY, hS⟩ := sSR_l hS
    obtain ⟨X, V, rfl, hX, hS⟩ := sSR_l hS
    have ec := lg_cmp_i hX hY
    obtain ⟨B1, hi1, h⟩ := sLt_inv h hi
    rcases bif_inv h with ⟨c, h⟩ | ⟨c, h⟩
    · rw [if_pos (of_decide_eq_true c)] at ec
      refine sOut_c (.inl (pc + len, N, .int (lg_cmp X Y) :: V, K)) hi1 h ⟨rfl, hL, ⟨?_, hS⟩, hM⟩ (fun _ => rfl)
      show (lg_cmp X Y).toInt = sDn ρ (0, 1)
      rw [ec, sDn_0 hi]
      rfl
    · rw [if_neg (of_decide_eq_false c)] at ec
      obtain ⟨B2, hi2, h⟩ := sEq_inv h hi1
      refine sOut_c (.inl (pc + len, N, .int (lg_cmp X Y) :: V, K)) hi2 h ⟨rfl, hL, ⟨?_, hS⟩, hM⟩ (fun _ => rfl)
      show (lg_cmp X Y).toInt = sDn ρ (0, bif decide (sDn ρ x = sDn ρ y) then 0 else -1)
      rw [ec, sDn_0 hi]
      by_cases d : sDn ρ x = sDn ρ y
      · rw [if_pos d, decide_eq_true d]; rfl
      · rw [if_neg d, decide_eq_false d]; rfl
  case i2l =>
    obtain ⟨x, r, rfl, h⟩ := sI1_inv hdo
    obtain ⟨X, V, rfl, hX, hS⟩ := sSR_i hS
    refine sOut_c (.inl (pc + len, N, .long X.toInt64 :: V, K)) hi h ⟨rfl, hL, ⟨?_, hS⟩, hM⟩ (fun _ => rfl)
    show X.toInt64.toInt = _
    rw [Int32.toInt_toInt64]
    exact hX
  case l2i =>
    obtain ⟨x, r, rfl, h⟩ := sL1_inv hdo
    obtain ⟨X, V, rfl, hX, hS⟩ := sSR_l hS
    obtain ⟨l, u, a1, a2, h⟩ := sRg_inv h hi
    obtain ⟨g, h⟩ := and_inv h
    have g := sR32_inv g
    refine sOut_c (.inl (pc + len, N, .int X.toInt32 :: V, K)) hi h ⟨rfl, hL, ⟨?_, hS⟩, hM⟩ (fun _ => rfl)
    show X.toInt32.toInt = _
    rw [i64_of hX, Int64.toInt32_ofInt]
    exact i32_val rfl (by omega) (by omega)
  case dup =>
    obtain ⟨a, r, rfl, h⟩ := sV1_inv hdo
    obtain ⟨w, V, rfl, hw, hS⟩ := sSR_v hS
    obtain ⟨g, h⟩ := and_inv h
    exact sOut_c (.inl (pc + len, N, w :: w :: V, K)) hi h ⟨rfl, hL, ⟨hw, hw, hS⟩, hM⟩ (fun _ => (mWhen_t (by rw [sCat_rel hw]; exact g)).trans rfl)
  case dup2 =>
    obtain ⟨a, b, r, rfl, h⟩ := sV2_inv hdo
    obtain ⟨w, V, rfl, hw, hS⟩ := sSR_v hS
    obtain ⟨u, V, rfl, hu, hS⟩ := sSR_v hS
    obtain ⟨g, h⟩ := and_inv h
    exact sOut_c (.inl (pc + len, N, w :: u :: w :: u :: V, K)) hi h ⟨rfl, hL, ⟨hw, hu, hw, hu, hS⟩, hM⟩ (fun _ => (mWhen_t (by rw [sCat_rel hw, sCat_rel hu]; exact g)).trans rfl)
  case pop =>
    obtain ⟨a, r, rfl, h⟩ := sV1_inv hdo
    obtain ⟨w, V, rfl, hw, hS⟩ := sSR_v hS
    obtain ⟨g, h⟩ := and_inv h
    exact sOut_c (.inl (pc + len, N, V, K)) hi h ⟨rfl, hL, hS, hM⟩ (fun _ => (mWhen_t (by rw [sCat_rel hw]; exact g)).trans rfl)
  case ifCond c off =>
    obtain ⟨x, r, rfl, h⟩ := sI1_inv hdo
    obtain ⟨X, V, rfl, hX, hS⟩ := sSR_i hS
    obtain ⟨B1, hi1, h⟩ := sCond_inv (Y := 0) h hi hX (by rw [sDn_0 hi]; rfl)
    exact sOut_c (.inl (bif mIf c X 0 then r1 else pc + len, N, V, K)) hi1 h ⟨rfl, hL, hS, hM⟩ (fun _ => rfl)
  case if_icmp c off =>
    obtain ⟨x, y, r, rfl, h⟩ := sI2_inv hdo
    obtain ⟨Y, V, rfl, hY, hS⟩ := sSR_i hS
    obtain ⟨X, V, rfl, hX, hS⟩ := sSR_i hS
    obtain ⟨B1, hi1, h⟩ := sCond_inv h hi hX hY
    exact sOut_c (.inl (bif mIf c X Y then r1 else pc + len, N, V, K)) hi1 h ⟨rfl, hL, hS, hM⟩ (fun _ => rfl)
  case goto off =>
    have h := hdo
    exact sOut_c (.inl (r1, N, V, K)) hi h ⟨rfl, hL, hS, hM⟩ (fun _ => rfl)
  case ifnull off =>
    obtain ⟨x, r, rfl, h⟩ := sN1_inv hdo
    cases x with
    | none =>
      obtain ⟨V, rfl, -, hS⟩ := sSR_n hS
      exact sOut_c (.inl (r1, N, V, K)) hi h ⟨rfl, hL, hS, hM⟩ (fun _ => rfl)
    | some o =>
      obtain ⟨V, rfl, -, hS⟩ := sSR_r hS
      exact sOut_c (.inl (pc + len, N, V, K)) hi h ⟨rfl, hL, hS, hM⟩ (fun _ => rfl)
  case ifnonnull off =>
    obtain ⟨x, r, rfl, h⟩ := sN1_inv hdo
    cases x with
    | none =>
      obtain ⟨V, rfl, -, hS⟩ := sSR_n hS
      exact sOut_c (.inl (pc + len, N, V, K)) hi h ⟨rfl, hL, hS, hM⟩ (fun _ => rfl)
    | some o =>
      obtain ⟨V, rfl, -, hS⟩ := sSR_r hS
      exact sOut_c (.inl (r1, N, V, K)) hi h ⟨rfl, hL, hS, hM⟩ (fun _ => rfl)
  case tableswitch d tl th offs =>
    obtain ⟨x, r, rfl, h⟩ := sI1_inv hdo
    obtain ⟨X, V, rfl, hX, hS⟩ := sSR_i hS
    obtain ⟨B1, hi1, h⟩ := sLt_inv h hi
    rw [sDn_0 hi] at h
    have md : ∀ f, mDo I XN XF (mc f) fr lo nL rt (pc, len, ri, .tableswitch d tl th offs, v, r1, r2, wi) N (.int X :: V) K = bif decide (sDn ρ x < tl) || decide (th < sDn ρ x) then mNx r1 N V K else match offs[(sDn ρ x - tl).toNat]? with
      | some off => mWhen (decide (0 ≤ (pc : Int) + off)) (mNx ((pc : Int) + off).toNat N V K)
      | none => none := fun f => by
      show (bif decide (X.toInt < tl) || decide (th < X.toInt) then mNx r1 N V K else match offs[(X.toInt - tl).toNat]? with
        | some off => mWhen (decide (0 ≤ (pc : Int) + off)) (mNx ((pc : Int) + off).toNat N V K)
        | none => none) = _
      rw [hX]
    rcases bif_inv h with ⟨c, h⟩ | ⟨c, h⟩
    · exact sOut_c (.inl (r1, N, V, K)) hi1 h ⟨rfl, hL, hS, hM⟩ (fun f => by rw [md f, c]; rfl)
    · obtain ⟨B2, hi2, h⟩ := sLt_inv h hi1
      rw [sDn_0 hi] at h
      rcases bif_inv h with ⟨c2, h⟩ | ⟨c2, h⟩
      · exact sOut_c (.inl (r1, N, V, K)) hi2 h ⟨rfl, hL, hS, hM⟩ (fun f => by rw [md f, c, c2]; rfl)
      · obtain ⟨B3, hi3, h⟩ := sCst_inv _ _ h hi2
        split at h
        · next off ho =>
          obtain ⟨g, h⟩ := and_inv h
          exact sOut_c (.inl (((pc : Int) + off).toNat, N, V, K)) hi3 h ⟨rfl, hL, hS, hM⟩ (fun f => by rw [md f, c, c2, ho]; exact (mWhen_t g).trans rfl)
        · cases h
  case getfield i =>
    obtain ⟨o, r, rfl, h⟩ := sR1_inv hdo
    obtain ⟨V, rfl, -, hS⟩ := sSR_r hS
    obtain ⟨g, h⟩ := and_inv h
    obtain ⟨g1, g⟩ := and_inv g
    obtain ⟨g2, g⟩ := and_inv g
    obtain ⟨g3, g4⟩ := and_inv g
    have hcell := hM.2.2.2 o (blt_lt g1)
    refine sOut_c (.inl (pc + len, N, mSlot (mObj K o) r2 :: V, K)) hi h ⟨rfl, hL, ⟨hcell.2.2.2 r2 (blt_lt g3), hS⟩, hM⟩ (fun _ => (mWhen_t ?_).trans rfl)
    rw [← e1, ← hcell.1, ← hcell.2.1, g1, g2, g3]
    rfl
  case putfield i =>
    obtain ⟨a, o, r, rfl, h⟩ := sVR_inv hdo
    obtain ⟨w, V, rfl, hw, hS⟩ := sSR_v hS
    obtain ⟨V, rfl, -, hS⟩ := sSR_r hS
    obtain ⟨g, h⟩ := and_inv h
    obtain ⟨g, gf⟩ := and_inv g
    obtain ⟨g1, g⟩ := and_inv g
    obtain ⟨g2, g⟩ := and_inv g
    obtain ⟨g3, g4⟩ := and_inv g
    have hcell := hM.2.2.2 o (blt_lt g1)
    refine sOut_c (.inl (pc + len, N, V, mPut K o (mCset (mObj K o) r2 w))) hi h ⟨rfl, hL, hS, sMR_set hM (blt_lt g1) (blt_lt g3) hw⟩ (fun _ => (mWhen_t ?_).trans rfl)
    rw [← e1, ← hcell.1, ← hcell.2.1, g1, g2, g3, g4, sFit_rel hi gf hw]
    rfl
  case getstatic i =>
    have h := hdo
    exact sOut_c (.inl (pc + len, N, .ref (1000000 + r1) :: V, K)) hi h ⟨rfl, hL, ⟨rfl, hS⟩, hM⟩ (fun _ => rfl)
  case iaload =>
    obtain ⟨o, i, r, rfl, h⟩ := sRI_inv hdo
    obtain ⟨X, V, rfl, hX2, hS⟩ := sSR_i hS
    obtain ⟨V, rfl, -, hS⟩ := sSR_r hS
    obtain ⟨B1, hi1, h⟩ := sCst_inv _ _ h hi
    generalize sDn ρ i = a at h hX2
    rcases bif_inv h with ⟨c, h⟩ | ⟨c, h⟩
    · obtain ⟨g, h⟩ := and_inv h
      obtain ⟨g1, g⟩ := and_inv g
      obtain ⟨g2, g3⟩ := and_inv g
      have hcell := hM.2.2.2 o (blt_lt g1)
      have hv := hcell.2.2.2 a.toNat (sIx_lt g3)
      split at h
      · next x hx =>
        rw [hx] at hv
        obtain ⟨y, hy, hv⟩ := sRel_i hv
        refine sOut_c (.inl (pc + len, N, .int y :: V, K)) hi1 h ⟨rfl, hL, ⟨hv, hS⟩, hM⟩ (fun _ => ?_)
        show (bif Nat.blt o 1000000 then mWhen (Nat.blt o K.1 && (Nat.beq (mObj K o).1 100 && mInO X (mObj K o).2.1)) (mNx (pc + len) N (.int (mIof (mSlot (mObj K o) X.toNatClampNeg)) :: V) K) else _) = _
        rw [c, cond_true, mWhen_t (by rw [← e1, ← hcell.1, ← hcell.2.1, g1, g2, mInO_t hX2 g3]; rfl), i32_nat hX2, hy]
        rfl
      · cases h
    · obtain ⟨g, h⟩ := and_inv h
      obtain ⟨g1, g⟩ := and_inv g
      obtain ⟨g2, g3⟩ := and_inv g
      refine sOut_c (.inl (pc + len, N, .int (XF (o - 1000000) X.toNatClampNeg) :: V, K)) hi1 h ⟨rfl, hL, ⟨?_, hS⟩, hM⟩ (fun _ => ?_)
      · rw [i32_nat hX2]
        exact hX _ _ (blt_lt g1) (blt_lt g3)
      · show (bif Nat.blt o 1000000 then _ else mWhen (Nat.blt (o - 1000000) 4 && mInB X (XN (o - 1000000))) (mNx (pc + len) N (.int (XF (o - 1000000) X.toNatClampNeg) :: V) K)) = _
        rw [c, cond_false, mWhen_t]
        · rfl
        · unfold mInB
          rw [g1, i32_neg hX2 (sILe_t g2), i32_nat hX2, g3]
          rfl
  case iastore =>
    obtain ⟨o, i, a0, r, rfl, h⟩ := sRIV_inv hdo
    obtain ⟨w, V, rfl, hw, hS⟩ := sSR_v hS
    obtain ⟨X, V, rfl, hX2, hS⟩ := sSR_i hS
    obtain ⟨V, rfl, -, hS⟩ := sSR_r hS
    have hS9 := hS
    split at h
    · next x =>
      obtain ⟨y, rfl, hy⟩ := sRel_i hw
      obtain ⟨B1, hi1, h⟩ := sCst_inv _ _ h hi
      generalize sDn ρ i = a at h hX2
      obtain ⟨g, h⟩ := and_inv h
      obtain ⟨g1, g⟩ := and_inv g
      obtain ⟨g2, g3⟩ := and_inv g
      have hcell := hM.2.2.2 o (blt_lt g1)
      refine sOut_c (.inl (pc + len, N, V, mPut K o (mCset (mObj K o) a.toNat (.int y)))) hi1 h ⟨rfl, hL, hS9, sMR_set hM (blt_lt g1) (sIx_lt g3) hw⟩ (fun _ => ?_)
      refine (mWhen_t ?_).trans ?_
      · rw [← e1, ← hcell.1, ← hcell.2.1, g1, g2, mInO_t hX2 g3]
        rfl
      · rw [i32_nat hX2]
        rfl
    · cases h
  case aaload =>
    obtain ⟨o, i, r, rfl, h⟩ := sRI_inv hdo
    obtain ⟨X, V, rfl, hX2, hS⟩ := sSR_i hS
    obtain ⟨V, rfl, -, hS⟩ := sSR_r hS
    obtain ⟨B1, hi1, h⟩ := sCst_inv _ _ h hi
    generalize sDn ρ i = a at h hX2
    obtain ⟨g, h⟩ := and_inv h
    obtain ⟨g1, g⟩ := and_inv g
    obtain ⟨g2, g3⟩ := and_inv g
    have hcell := hM.2.2.2 o (blt_lt g1)
    have hv := hcell.2.2.2 a.toNat (sIx_lt g3)
    split at h
    · next x hx =>
      rw [hx] at hv
      have hq : mRv (mSlot (mObj K o) a.toNat) = mSlot (mObj K o) a.toNat := by
        cases x with
        | none => rw [sRel_n hv]; rfl
        | some u => rw [sRel_r hv]; rfl
      refine sOut_c (.inl (pc + len, N, mSlot (mObj K o) a.toNat :: V, K)) hi1 h ⟨rfl, hL, ⟨hv, hS⟩, hM⟩ (fun _ => ?_)
      refine (mWhen_t ?_).trans ?_
      · rw [← e1, ← hcell.1, ← hcell.2.1, g1, g2, mInO_t hX2 g3]
        rfl
      · rw [i32_nat hX2, hq]
        rfl
    · cases h
  case aastore =>
    obtain ⟨o, i, a0, r, rfl, h⟩ := sRIV_inv hdo
    obtain ⟨w, V, rfl, hw, hS⟩ := sSR_v hS
    obtain ⟨X, V, rfl, hX2, hS⟩ := sSR_i hS
    obtain ⟨V, rfl, -, hS⟩ := sSR_r hS
    have hS9 := hS
    split at h
    · next u =>
      obtain rfl := sRel_r hw
      obtain ⟨B1, hi1, h⟩ := sCst_inv _ _ h hi
      generalize sDn ρ i = a at h hX2
      obtain ⟨g, h⟩ := and_inv h
      obtain ⟨g1, g⟩ := and_inv g
      obtain ⟨g2, g⟩ := and_inv g
      obtain ⟨g3, g⟩ := and_inv g
      obtain ⟨g4, g5⟩ := and_inv g
      have hcell := hM.2.2.2 o (blt_lt g1)
      have hcell2 := hM.2.2.2 u (blt_lt g4)
      refine sOut_c (.inl (pc + len, N, V, mPut K o (mCset (mObj K o) a.toNat (.ref u)))) hi1 h ⟨rfl, hL, hS9, sMR_set hM (blt_lt g1) (sIx_lt g3) hw⟩ (fun _ => ?_)
      refine (mWhen_t ?_).trans ?_
      · rw [← e1, ← hcell.1, ← hcell.2.1, ← hcell2.1, g1, g2, mInO_t hX2 g3, g4, g5]
        rfl
      · rw [i32_nat hX2]
        rfl
    · cases h
  case arraylength =>
    obtain ⟨o, r, rfl, h⟩ := sR1_inv hdo
    obtain ⟨V, rfl, -, hS⟩ := sSR_r hS
    obtain ⟨g, h⟩ := and_inv h
    obtain ⟨g1, g⟩ := and_inv g
    obtain ⟨g2, g3⟩ := and_inv g
    refine sOut_c (.inl (pc + len, N, .int (Int32.ofNat (XN (o - 1000000))) :: V, K)) hi h ⟨rfl, hL, ⟨?_, hS⟩, hM⟩ (fun _ => (mWhen_t (by rw [g1, g2]; rfl)).trans rfl)
    show (Int32.ofNat (XN (o - 1000000))).toInt = sDn ρ (0, (XN (o - 1000000) : Int))
    rw [sDn_0 hi]
    exact Int32.toInt_ofNat_of_lt (blt_lt g3)
  case invokevirtual i =>
    have h := hdo
    obtain ⟨g, h⟩ := and_inv h
    have hlen := sAll_len hS
    have ha := sAll_rev (sAll_take (I r1).2.2.2.2.2.1 hS)
    have hr := sAll_drop (I r1).2.2.2.2.2.1 hS
    dsimp only at h
    split at h
    · next o as hq =>
      rw [hq] at ha
      obtain ⟨W, hW, -, ha2⟩ := sSR_r ha
      obtain ⟨g1, h⟩ := and_inv h
      obtain ⟨g1, g2⟩ := and_inv g1
      have hcell := hM.2.2.2 o (blt_lt g1)
      rw [hq] at h
      refine sOut_e (fun f => mCall I (mc f) fr lo (pc + len) r1 N (.ref o :: W) (V.drop (I r1).2.2.2.2.2.1) K) (fun f => ?_) (s_call hc h hi hL (by rw [hW] at ha; exact ha) hr hM)
      show (mPop V (I r1).2.2.2.2.2.1 fun as r => match as with
        | .ref o :: _ => mWhen (Nat.blt o K.1 && Nat.beq (mObj K o).1 r2) (mCall I (mc f) fr lo (pc + len) r1 N as r K)
        | _ => none) = _
      rw [mPop_t (by rw [hlen]; exact g), hW]
      exact mWhen_t (by rw [← e1, ← hcell.1, g1, g2]; rfl)
    · cases h
  case invokespecial i =>
    have h := hdo
    rcases bif_inv h with ⟨c, h⟩ | ⟨c, h⟩
    · obtain ⟨o, r, rfl, h2⟩ := sR1_inv h
      obtain ⟨V, rfl, -, hS⟩ := sSR_r hS
      obtain ⟨g, h⟩ := and_inv h2
      refine sOut_c (.inl (pc + len, N, V, K)) hi h ⟨rfl, hL, hS, hM⟩ (fun _ => ?_)
      show (bif Nat.beq r2 0 then mWhen (Nat.ble 1 fr && Nat.ble (mCats V + 12) lo) (mNx (pc + len) N V K) else _) = _
      rw [c, cond_true, sCats_rel hS, mWhen_t g]
      rfl
    · obtain ⟨g, h⟩ := and_inv h
      have hlen := sAll_len hS
      have ha := sAll_rev (sAll_take (I r1).2.2.2.2.2.1 hS)
      have hr := sAll_drop (I r1).2.2.2.2.2.1 hS
      dsimp only at h
      split at h
      · next o as hq =>
        rw [hq] at ha h
        obtain ⟨W, hW, -, ha2⟩ := sSR_r ha
        refine sOut_e (fun f => mCall I (mc f) fr lo (pc + len) r1 N (.ref o :: W) (V.drop (I r1).2.2.2.2.2.1) K) (fun f => ?_) (s_call hc h hi hL (by rw [hW] at ha; exact ha) hr hM)
        show (bif Nat.beq r2 0 then _ else mPop V _ _) = _
        rw [c, cond_false, mPop_t (by rw [hlen]; exact g), hW]
      · cases h
  case invokestatic i =>
    have h := hdo
    rcases bif_inv h with ⟨c, h⟩ | ⟨c, h⟩
    · obtain ⟨g, h⟩ := and_inv h
      have hlen := sAll_len hS
      have ha := sAll_rev (sAll_take (I r1).2.2.2.2.2.1 hS)
      have hr := sAll_drop (I r1).2.2.2.2.2.1 hS
      refine sOut_e (fun f => mCall I (mc f) fr lo (pc + len) r1 N (V.take (I r1).2.2.2.2.2.1).reverse (V.drop (I r1).2.2.2.2.2.1) K) (fun f => ?_) (s_call hc h hi hL ha hr hM)
      show (bif Nat.beq r2 0 then mPop V _ _ else _) = _
      rw [c, cond_true, mPop_t (by rw [hlen]; exact g)]
    rcases bif_inv h with ⟨c1, h⟩ | ⟨c1, h⟩
    · split at h
      · next n dp b sp a r _ _ =>
        obtain ⟨Xn, V, rfl, hn, hS⟩ := sSR_i hS
        obtain ⟨Xd, V, rfl, hd, hS⟩ := sSR_i hS
        obtain ⟨V, rfl, -, hS⟩ := sSR_r hS
        obtain ⟨Xs, V, rfl, hs, hS⟩ := sSR_i hS
        obtain ⟨V, rfl, -, hS⟩ := sSR_r hS
        obtain ⟨B1, hi1, h⟩ := sCst_inv _ _ h hi
        obtain ⟨B2, hi2, h⟩ := sCst_inv _ _ h hi1
        obtain ⟨B3, hi3, h⟩ := sCst_inv _ _ h hi2
        generalize sDn ρ n = zn at h hn
        generalize sDn ρ dp = zd at h hd
        generalize sDn ρ sp = zs at h hs
        obtain ⟨g, h⟩ := and_inv h
        obtain ⟨g1, g⟩ := and_inv g
        obtain ⟨g2, g⟩ := and_inv g
        obtain ⟨g3, g⟩ := and_inv g
        obtain ⟨g4, g⟩ := and_inv g
        obtain ⟨g5, g⟩ := and_inv g
        obtain ⟨g6, g⟩ := and_inv g
        obtain ⟨g7, g⟩ := and_inv g
        obtain ⟨g8, g9⟩ := and_inv g
        have hcell := hM.2.2.2 b (blt_lt g6)
        have l8 := Nat.le_of_ble_eq_true g8
        have hguard : (Nat.ble 1 fr && (Nat.ble (mCats V + 18) lo && (!decide (Xs < 0) && (!decide (Xd < 0) && (!decide (Xn < 0) && (Nat.blt b K.1 && (Nat.beq (mObj K b).1 100 && (Nat.ble (Xd.toNatClampNeg + Xn.toNatClampNeg) (mObj K b).2.1 && Nat.ble (mObj K b).2.1 2048)))))))) = true := by
          rw [← e1, ← hcell.1, ← hcell.2.1, sCats_rel hS, i32_neg hs (sILe_t g3), i32_neg hd (sILe_t g4), i32_neg hn (sILe_t g5), i32_nat hd, i32_nat hn, g1, g2, g6, g7, g8, g9]
          rfl
        rcases bif_inv h with ⟨ca, h⟩ | ⟨ca, h⟩
        · obtain ⟨gg, h⟩ := and_inv h
          obtain ⟨q1, gg⟩ := and_inv gg
          obtain ⟨q2, gg⟩ := and_inv gg
          obtain ⟨q3, q4⟩ := and_inv gg
          have hcella := hM.2.2.2 a (blt_lt q1)
          have l3 := Nat.le_of_ble_eq_true q3
          obtain ⟨c9, hk, -, hc9⟩ := sCpy_rel (g := mSlot (mObj K a)) _ h hcell (fun j hj => hcella.2.2.2 _ (by omega)) l8
          refine sOut_c (.inl (pc + len, N, V, mPut K b ((mObj K b).1, (mObj K b).2.1, mCpy (mSlot (mObj K a)) Xs.toNatClampNeg Xd.toNatClampNeg Xn.toNatClampNeg (mObj K b).2.2))) hi3 hk ⟨rfl, hL, hS, sMR_put hM (blt_lt g6) (by rw [i32_nat hd, i32_nat hn, i32_nat hs]; exact hc9)⟩ (fun _ => ?_)
          show (bif Nat.beq r2 0 then _ else bif Nat.beq r2 1 then mWhen (Nat.ble 1 fr && _) (bif Nat.blt a 1000000 then mWhen (Nat.blt a K.1 && (Nat.beq (mObj K a).1 100 && (Nat.ble (Xs.toNatClampNeg + Xn.toNatClampNeg) (mObj K a).2.1 && Nat.ble (mObj K a).2.1 2048))) _ else _) else _) = _
          rw [c, c1, cond_false, cond_true, mWhen_t hguard, ca, cond_true, mWhen_t (by rw [← e1, ← hcella.1, ← hcella.2.1, i32_nat hs, i32_nat hn, q1, q2, q3, q4]; rfl)]
          rfl
        · obtain ⟨gg, h⟩ := and_inv h
          obtain ⟨q1, q2⟩ := and_inv gg
          have l2 := Nat.le_of_ble_eq_true q2
          obtain ⟨c9, hk, -, hc9⟩ := sCpy_rel (g := fun j => .int (XF (a - 1000000) j)) _ h hcell (fun j hj => hX _ _ (blt_lt q1) (by omega)) l8
          refine sOut_c (.inl (pc + len, N, V, mPut K b ((mObj K b).1, (mObj K b).2.1, mCpy (fun j => .int (XF (a - 1000000) j)) Xs.toNatClampNeg Xd.toNatClampNeg Xn.toNatClampNeg (mObj K b).2.2))) hi3 hk ⟨rfl, hL, hS, sMR_put hM (blt_lt g6) (by rw [i32_nat hd, i32_nat hn, i32_nat hs]; exact hc9)⟩ (fun _ => ?_)
          show (bif Nat.beq r2 0 then _ else bif Nat.beq r2 1 then mWhen (Nat.ble 1 fr && _) (bif Nat.blt a 1000000 then _ else mWhen (Nat.blt (a - 1000000) 4 && Nat.ble (Xs.toNatClampNeg + Xn.toNatClampNeg) (XN (a - 1000000))) _) else _) = _
          rw [c, c1, cond_false, cond_true, mWhen_t hguard, ca, cond_false, mWhen_t (by rw [i32_nat hs, i32_nat hn, q1, q2]; rfl)]
          rfl
      · cases h
    · obtain ⟨x, y, r, rfl, h2⟩ := sI2_inv h
      obtain ⟨Y, V, rfl, hY, hS⟩ := sSR_i hS
      obtain ⟨X, V, rfl, hX2, hS⟩ := sSR_i hS
      obtain ⟨g, h⟩ := and_inv h2
      have md : ∀ f, mDo I XN XF (mc f) fr lo nL rt (pc, len, ri, .invokestatic i, v, r1, r2, wi) N (.int Y :: .int X :: V) K = mNx (pc + len) N (.int (bif Nat.beq r2 2 then (if X < Y then Y else X) else if Y < X then Y else X) :: V) K := fun f => by
        show (bif Nat.beq r2 0 then _ else bif Nat.beq r2 1 then _ else mWhen (Nat.ble 1 fr && Nat.ble (mCats V + 13) lo) _) = _
        rw [c, c1, cond_false, cond_false, sCats_rel hS, mWhen_t g]
      have lt1 : (X < Y) = (sDn ρ x < sDn ρ y) := by rw [← hX2, ← hY]; exact propext Int32.lt_iff_toInt_lt
      have lt2 : (Y < X) = (sDn ρ y < sDn ρ x) := by rw [← hX2, ← hY]; exact propext Int32.lt_iff_toInt_lt
      rcases bif_inv h with ⟨c2, h⟩ | ⟨c2, h⟩
      · obtain ⟨B1, hi1, h⟩ := sLt_inv h hi
        refine sOut_c (.inl (pc + len, N, .int (bif Nat.beq r2 2 then (if X < Y then Y else X) else if Y < X then Y else X) :: V, K)) hi1 h ⟨rfl, hL, ⟨?_, hS⟩, hM⟩ (fun f => (md f).trans rfl)
        show Int32.toInt (bif Nat.beq r2 2 then _ else _) = _
        rw [c2, cond_true]
        by_cases d : sDn ρ x < sDn ρ y
        · rw [if_pos (by rw [lt1]; exact d), decide_eq_true d]; exact hY
        · rw [if_neg (by rw [lt1]; exact d), decide_eq_false d]; exact hX2
      · obtain ⟨B1, hi1, h⟩ := sLt_inv h hi
        refine sOut_c (.inl (pc + len, N, .int (bif Nat.beq r2 2 then (if X < Y then Y else X) else if Y < X then Y else X) :: V, K)) hi1 h ⟨rfl, hL, ⟨?_, hS⟩, hM⟩ (fun f => (md f).trans rfl)
        show Int32.toInt (bif Nat.beq r2 2 then _ else _) = _
        rw [c2, cond_false]
        by_cases d : sDn ρ y < sDn ρ x
        · rw [if_pos (by rw [lt2]; exact d), decide_eq_true d]; exact hY
        · rw [if_neg (by rw [lt2]; exact d), decide_eq_false d]; exact hX2
  case new i =>
    have h := hdo
    obtain ⟨g, h⟩ := and_inv h
    obtain ⟨g1, g2⟩ := and_inv g
    refine sOut_c (.inl (pc + len, N, .ref K.1 :: V, mNew K (r1, mNX r1, mDef r1))) hi h ⟨rfl, hL, ⟨e1.symm, hS⟩, sMR_new hM (blt_lt g1) (sCR_def h0 (blt_lt g2))⟩ (fun _ => (mWhen_t (by rw [← e1]; exact g1)).trans rfl)
  case newarray t =>
    obtain ⟨n, r, rfl, h⟩ := sI1_inv hdo
    obtain ⟨X, V, rfl, hX2, hS⟩ := sSR_i hS
    obtain ⟨B1, hi1, h⟩ := sCst_inv _ _ h hi
    generalize sDn ρ n = a at h hX2
    obtain ⟨g, h⟩ := and_inv h
    obtain ⟨g1, g⟩ := and_inv g
    obtain ⟨g2, g3⟩ := and_inv g
    refine sOut_c (.inl (pc + len, N, .ref K.1 :: V, mNew K (100, a.toNat, mFill 11 (.int 0)))) hi1 h ⟨rfl, hL, ⟨e1.symm, hS⟩, sMR_new hM (blt_lt g1) (sCR_ints h0 (Nat.le_of_ble_eq_true g3))⟩ (fun _ => ?_)
    refine (mWhen_t ?_).trans ?_
    · rw [← e1, g1, i32_neg hX2 (sILe_t g2), i32_nat hX2, g3]
      rfl
    · rw [i32_nat hX2]
      rfl
  case anewarray t =>
    obtain ⟨n, r, rfl, h⟩ := sI1_inv hdo
    obtain ⟨X, V, rfl, hX2, hS⟩ := sSR_i hS
    obtain ⟨B1, hi1, h⟩ := sCst_inv _ _ h hi
    generalize sDn ρ n = a at h hX2
    obtain ⟨g, h⟩ := and_inv h
    obtain ⟨g1, g⟩ := and_inv g
    obtain ⟨g2, g3⟩ := and_inv g
    refine sOut_c (.inl (pc + len, N, .ref K.1 :: V, mNew K (102, a.toNat, mFill 11 .null))) hi1 h ⟨rfl, hL, ⟨e1.symm, hS⟩, sMR_new hM (blt_lt g1) (sCR_refs (Nat.le_of_ble_eq_true g3))⟩ (fun _ => ?_)
    refine (mWhen_t ?_).trans ?_
    · rw [← e1, g1, i32_neg hX2 (sILe_t g2), i32_nat hX2, g3]
      rfl
    · rw [i32_nat hX2]
      rfl
  case multianewarray t dd =>
    obtain ⟨n, q, r, rfl, h⟩ := sI2_inv hdo
    obtain ⟨Y, V, rfl, hY, hS⟩ := sSR_i hS
    obtain ⟨X, V, rfl, hX2, hS⟩ := sSR_i hS
    obtain ⟨B1, hi1, h⟩ := sC2_inv h hi
    generalize sDn ρ n = a at h hX2
    generalize sDn ρ q = b at h hY
    obtain ⟨g, h⟩ := and_inv h
    obtain ⟨g1, g⟩ := and_inv g
    obtain ⟨g2, g⟩ := and_inv g
    obtain ⟨g3, g⟩ := and_inv g
    obtain ⟨g4, g5⟩ := and_inv g
    have l3 := Nat.le_of_ble_eq_true g3
    have l4 := Nat.le_of_ble_eq_true g4
    have l5 := Nat.le_of_ble_eq_true g5
    have hM1 : sMR ρ (sNew M (101, a.toNat, .inr (.inr none), sRefs (M.1 + 1) a.toNat 0)) (mNew K (101, a.toNat, mRefs (K.1 + 1) a.toNat)) := by
      rw [← e1]
      exact sMR_new hM (by omega) (sCR_outer l3)
    refine sOut_c (.inl (pc + len, N, .ref K.1 :: V, mRows b.toNat a.toNat (mNew K (101, a.toNat, mRefs (K.1 + 1) a.toNat)))) hi1 h ⟨rfl, hL, ⟨e1.symm, hS⟩, sMR_rows h0 l4 hM1 _ (by show M.1 + 1 + a.toNat ≤ 1024; exact l5)⟩ (fun _ => ?_)
    refine (mWhen_t ?_).trans ?_
    · rw [← e1, i32_neg hX2 (sILe_t g1), i32_neg hY (sILe_t g2), i32_nat hX2, i32_nat hY, g3, g4, g5]
      rfl
    · rw [i32_nat hX2, i32_nat hY]
      rfl
  case ireturn =>
    obtain ⟨x, r, rfl, h⟩ := sI1_inv hdo
    obtain ⟨X, V, rfl, hX2, hS⟩ := sSR_i hS
    split at h
    · next ty =>
      obtain rfl := sAll_nil hS
      obtain ⟨g, h⟩ := and_inv h
      exact sOut_c (.inr (some (.int X), K)) hi h ⟨hX2, hM⟩ (fun _ => (mWhen_t (sFit_rel hi g (show sRel ρ (.inl x) (.int X) from hX2))).trans rfl)
    · cases h
  case lreturn =>
    obtain ⟨x, r, rfl, h⟩ := sL1_inv hdo
    obtain ⟨X, V, rfl, hX2, hS⟩ := sSR_l hS
    split at h
    · obtain rfl := sAll_nil hS
      exact sOut_c (.inr (some (.long X), K)) hi h ⟨hX2, hM⟩ (fun _ => rfl)
    · cases h
  case return_ =>
    cases S with
    | nil =>
      cases rt with
      | none =>
        obtain rfl := sAll_nil hS
        exact sOut_c (.inr (none, K)) hi hdo ⟨trivial, hM⟩ (fun _ => rfl)
      | some ty => exact no_inv hdo
    | cons a S => cases rt <;> exact no_inv hdo
  all_goals exact no_inv hdo

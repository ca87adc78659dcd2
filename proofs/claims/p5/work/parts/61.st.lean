/-! ===== rows of a body one by one, for the few loops that are walked by hand ===== -/
section YST
variable {T : Nat → List mE} {I : Nat → mI} {XN : Nat → Nat} {XF : Nat → Nat → Int32} {fr lo mi pc len : Nat} {ri : ClassFile.Instr} {v : Int} {r1 r2 wi : Nat} {L : List (Nat × Value)} {S : List Value} {M : mMem} {r : Option Value × mMem}
theorem st_0 {e : mE} {y : mCfg} (he : mFind (T mi) pc = some e) (h : ∀ call, mDo I XN XF call fr lo (I mi).2.2.1 (I mi).2.2.2.1 e L S M = some (.inl y)) (k : mRuns T I XN XF fr lo mi y r) : mRuns T I XN XF fr lo mi (pc, L, S, M) r := mRuns_step (F := 0) he (fun _ _ => h _) k
theorem st_iconst {n : Int} (he : mFind (T mi) pc = some (pc, len, ri, .iconst n, v, r1, r2, wi)) (k : mRuns T I XN XF fr lo mi (pc + len, L, .int (Int32.ofInt v) :: S, M) r) : mRuns T I XN XF fr lo mi (pc, L, S, M) r := st_0 he (fun _ => rfl) k
theorem st_iload {i : Nat} {x : Int32} (he : mFind (T mi) pc = some (pc, len, ri, .iload i, v, r1, r2, wi)) (h : mLk L i = some (.int x)) (k : mRuns T I XN XF fr lo mi (pc + len, L, .int x :: S, M) r) : mRuns T I XN XF fr lo mi (pc, L, S, M) r :=
  st_0 he (fun _ => by
    show (match mLk L i with
      | some (.int x) => mNx (pc + len) L (.int x :: S) M
      | _ => none) = _
    rw [h]
    rfl) k
theorem st_aload {i o : Nat} (he : mFind (T mi) pc = some (pc, len, ri, .aload i, v, r1, r2, wi)) (h : mLk L i = some (.ref o)) (k : mRuns T I XN XF fr lo mi (pc + len, L, .ref o :: S, M) r) : mRuns T I XN XF fr lo mi (pc, L, S, M) r :=
  st_0 he (fun _ => by
    show (match mLk L i with
      | some (.ref x) => mNx (pc + len) L (.ref x :: S) M
      | some .null => mNx (pc + len) L (.null :: S) M
      | _ => none) = _
    rw [h]
    rfl) k
theorem st_istore {i : Nat} {x : Int32} (he : mFind (T mi) pc = some (pc, len, ri, .istore i, v, r1, r2, wi)) (h : Nat.blt i (I mi).2.2.1 = true) (k : mRuns T I XN XF fr lo mi (pc + len, mSt1 L i (.int x), S, M) r) : mRuns T I XN XF fr lo mi (pc, L, .int x :: S, M) r :=
  st_0 he (fun _ => (mWhen_t h).trans rfl) k
theorem st_astore {i o : Nat} (he : mFind (T mi) pc = some (pc, len, ri, .astore i, v, r1, r2, wi)) (h : Nat.blt i (I mi).2.2.1 = true) (k : mRuns T I XN XF fr lo mi (pc + len, mSt1 L i (.ref o), S, M) r) : mRuns T I XN XF fr lo mi (pc, L, .ref o :: S, M) r :=
  st_0 he (fun _ => (mWhen_t h).trans rfl) k
theorem st_iinc {i : Nat} {n : Int} {x : Int32} (he : mFind (T mi) pc = some (pc, len, ri, .iinc i n, v, r1, r2, wi)) (h1 : mLk L i = some (.int x)) (h : Nat.blt i (I mi).2.2.1 = true) (k : mRuns T I XN XF fr lo mi (pc + len, mSt1 L i (.int (x + Int32.ofInt v)), S, M) r) : mRuns T I XN XF fr lo mi (pc, L, S, M) r :=
  st_0 he (fun _ => by
    show (match mLk L i with
      | some (.int x) => mWhen (Nat.blt i (I mi).2.2.1) (mNx (pc + len) (mSt1 L i (.int (x + Int32.ofInt v))) S M)
      | _ => none) = _
    rw [h1]
    exact (mWhen_t h).trans rfl) k
theorem st_iadd {x y : Int32} (he : mFind (T mi) pc = some (pc, len, ri, .iadd, v, r1, r2, wi)) (k : mRuns T I XN XF fr lo mi (pc + len, L, .int (x + y) :: S, M) r) : mRuns T I XN XF fr lo mi (pc, L, .int y :: .int x :: S, M) r := st_0 he (fun _ => rfl) k
theorem st_isub {x y : Int32} (he : mFind (T mi) pc = some (pc, len, ri, .isub, v, r1, r2, wi)) (k : mRuns T I XN XF fr lo mi (pc + len, L, .int (x - y) :: S, M) r) : mRuns T I XN XF fr lo mi (pc, L, .int y :: .int x :: S, M) r := st_0 he (fun _ => rfl) k
theorem st_imul {x y : Int32} (he : mFind (T mi) pc = some (pc, len, ri, .imul, v, r1, r2, wi)) (k : mRuns T I XN XF fr lo mi (pc + len, L, .int (x * y) :: S, M) r) : mRuns T I XN XF fr lo mi (pc, L, .int y :: .int x :: S, M) r := st_0 he (fun _ => rfl) k
theorem st_goto {n : Int} (he : mFind (T mi) pc = some (pc, len, ri, .goto n, v, r1, r2, wi)) (k : mRuns T I XN XF fr lo mi (r1, L, S, M) r) : mRuns T I XN XF fr lo mi (pc, L, S, M) r := st_0 he (fun _ => rfl) k
theorem st_if {c : ClassFile.Cond} {n : Int} {x : Int32} (he : mFind (T mi) pc = some (pc, len, ri, .ifCond c n, v, r1, r2, wi)) (k : mRuns T I XN XF fr lo mi (bif mIf c x 0 then r1 else pc + len, L, S, M) r) : mRuns T I XN XF fr lo mi (pc, L, .int x :: S, M) r := st_0 he (fun _ => rfl) k
theorem st_icmp {c : ClassFile.Cond} {n : Int} {x y : Int32} (he : mFind (T mi) pc = some (pc, len, ri, .if_icmp c n, v, r1, r2, wi)) (k : mRuns T I XN XF fr lo mi (bif mIf c x y then r1 else pc + len, L, S, M) r) : mRuns T I XN XF fr lo mi (pc, L, .int y :: .int x :: S, M) r := st_0 he (fun _ => rfl) k
theorem st_pop {x : Value} (he : mFind (T mi) pc = some (pc, len, ri, .pop, v, r1, r2, wi)) (h : x.category = 1) (k : mRuns T I XN XF fr lo mi (pc + len, L, S, M) r) : mRuns T I XN XF fr lo mi (pc, L, x :: S, M) r := st_0 he (fun _ => (mWhen_t (by rw [h]; rfl)).trans rfl) k
theorem st_dup {x : Value} (he : mFind (T mi) pc = some (pc, len, ri, .dup, v, r1, r2, wi)) (h : x.category = 1) (k : mRuns T I XN XF fr lo mi (pc + len, L, x :: x :: S, M) r) : mRuns T I XN XF fr lo mi (pc, L, x :: S, M) r := st_0 he (fun _ => (mWhen_t (by rw [h]; rfl)).trans rfl) k
theorem st_getfield {i : Nat} {o : Nat} {w : Value} (he : mFind (T mi) pc = some (pc, len, ri, .getfield i, v, r1, r2, wi)) (h1 : Nat.blt o M.1 = true) (h2 : Nat.beq (mObj M o).1 r1 = true) (h3 : Nat.blt r2 (mObj M o).2.1 = true) (h4 : mSlot (mObj M o) r2 = w) (k : mRuns T I XN XF fr lo mi (pc + len, L, w :: S, M) r) : mRuns T I XN XF fr lo mi (pc, L, .ref o :: S, M) r :=
  st_0 he (fun _ => (mWhen_t (by rw [h1, h2, h3]; rfl)).trans (by rw [h4]; rfl)) k
theorem st_iaload {o : Nat} {i x : Int32} (he : mFind (T mi) pc = some (pc, len, ri, .iaload, v, r1, r2, wi)) (h0 : Nat.blt o 1000000 = true) (h1 : Nat.blt o M.1 = true) (h2 : Nat.beq (mObj M o).1 100 = true) (h3 : mInO i (mObj M o).2.1 = true) (h4 : mSlot (mObj M o) i.toNatClampNeg = .int x) (k : mRuns T I XN XF fr lo mi (pc + len, L, .int x :: S, M) r) : mRuns T I XN XF fr lo mi (pc, L, .int i :: .ref o :: S, M) r :=
  st_0 he (fun _ => by
    show (bif Nat.blt o 1000000 then mWhen (Nat.blt o M.1 && (Nat.beq (mObj M o).1 100 && mInO i (mObj M o).2.1)) (mNx (pc + len) L (.int (mIof (mSlot (mObj M o) i.toNatClampNeg)) :: S) M) else _) = _
    rw [h0, cond_true, mWhen_t (by rw [h1, h2, h3]; rfl), h4]
    rfl) k
theorem st_iastore {o : Nat} {i x : Int32} (he : mFind (T mi) pc = some (pc, len, ri, .iastore, v, r1, r2, wi)) (h1 : Nat.blt o M.1 = true) (h2 : Nat.beq (mObj M o).1 100 = true) (h3 : mInO i (mObj M o).2.1 = true) (k : mRuns T I XN XF fr lo mi (pc + len, L, S, mPut M o (mCset (mObj M o) i.toNatClampNeg (.int x))) r) : mRuns T I XN XF fr lo mi (pc, L, .int x :: .int i :: .ref o :: S, M) r :=
  st_0 he (fun _ => (mWhen_t (by rw [h1, h2, h3]; rfl)).trans rfl) k
theorem st_return {i : mE} (he : mFind (T mi) pc = some (pc, len, ri, .return_, v, r1, r2, wi)) (h : (I mi).2.2.2.1 = none) : mRuns T I XN XF fr lo mi (pc, L, [], M) (none, M) := mRuns_end (F := 0) he (fun _ _ => by rw [h]; rfl)
theorem st_ireturn {x : Int32} {ty : FieldType} (he : mFind (T mi) pc = some (pc, len, ri, .ireturn, v, r1, r2, wi)) (h : (I mi).2.2.2.1 = some ty) (h2 : mFit ty (.int x) = true) : mRuns T I XN XF fr lo mi (pc, L, [.int x], M) (some (.int x), M) := mRuns_end (F := 0) he (fun _ _ => by rw [h]; exact (mWhen_t h2).trans rfl)
theorem st_call {i : Nat} {o nx : Nat} {as V : List Value} {w : Option Value} {M1 : mMem} (he : mFind (T mi) pc = some (pc, len, ri, .invokevirtual i, v, r1, r2, wi)) (hn : Nat.ble (I r1).2.2.2.2.2.1 V.length = true) (ha : (V.take (I r1).2.2.2.2.2.1).reverse = .ref o :: as) (hS : V.drop (I r1).2.2.2.2.2.1 = S)
    (h1 : Nat.blt o M.1 = true) (h2 : Nat.beq (mObj M o).1 r2 = true) (g1 : Nat.ble (mCats S) 8 = true) (g2 : Nat.ble 1 fr = true) (g3 : Nat.ble (19 + (I r1).2.2.1) lo = true) (g4 : Nat.ble (mCats (.ref o :: as)) (I r1).2.2.1 = true) (hr : mRuns T I XN XF (fr - 1) (lo - (19 + (I r1).2.2.1)) r1 (0, lv_args 0 (.ref o :: as), [], M) (w, M1)) (hx : nx = pc + len)
    (k : mRuns T I XN XF fr lo mi (nx, L, w.toList ++ S, M1) r) : mRuns T I XN XF fr lo mi (pc, L, V, M) r := by
  obtain ⟨F, hF⟩ := hr
  subst hx
  refine mRuns_step (F := F) he (fun f hf => ?_) k
  show (mPop V (I r1).2.2.2.2.2.1 fun as r => match as with
    | .ref o :: _ => mWhen (Nat.blt o M.1 && Nat.beq (mObj M o).1 r2) (mCall I _ fr lo (pc + len) r1 L as r M)
    | _ => none) = _
  rw [mPop_t hn, ha, hS]
  refine (mWhen_t (by rw [h1, h2]; rfl)).trans ?_
  unfold mCall
  rw [mWhen_t (by rw [g1, g2, g3, g4]; rfl)]
  exact (congrArg (mBack (pc + len) L S) (hF f hf)).trans rfl
end YST

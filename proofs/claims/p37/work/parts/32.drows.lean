/-! ===== rows of a body one by one ===== -/
section DQR
variable {xs : Nat → Int32} {Ln t fr lo mi pc len : Nat} {ri : ClassFile.Instr} {v0 : Int} {r1 r2 wi : Nat} {L : List (Nat × Value)} {S : List Value} {M : mMem} {z : dZ}
theorem dq_0 {e : mE} {y : mCfg} (he : mFind (mTab mi) pc = some e) (h : ∀ call, mDo mInf (sXNl Ln) (sXF xs) call fr lo (mInf mi).2.2.1 (mInf mi).2.2.2.1 e L S M = some (.inl y)) (k : dQ xs Ln t fr lo mi y z) : dQ xs Ln t fr lo mi (pc, L, S, M) z := ⟨mRuns_step (F := 0) he (fun _ _ => h _) k.1, k.2⟩
theorem dq_iconst {n : Int} (he : mFind (mTab mi) pc = some (pc, len, ri, .iconst n, v0, r1, r2, wi)) (k : dQ xs Ln t fr lo mi (pc + len, L, .int (dI v0) :: S, M) z) : dQ xs Ln t fr lo mi (pc, L, S, M) z := dq_0 he (fun _ => rfl) k
theorem dq_lconst {n : Fin 2} (he : mFind (mTab mi) pc = some (pc, len, ri, .lconst n, v0, r1, r2, wi)) (k : dQ xs Ln t fr lo mi (pc + len, L, .long (dJ v0) :: S, M) z) : dQ xs Ln t fr lo mi (pc, L, S, M) z := dq_0 he (fun _ => rfl) k
theorem dq_null (he : mFind (mTab mi) pc = some (pc, len, ri, .aconst_null, v0, r1, r2, wi)) (k : dQ xs Ln t fr lo mi (pc + len, L, .null :: S, M) z) : dQ xs Ln t fr lo mi (pc, L, S, M) z := dq_0 he (fun _ => rfl) k
theorem dq_iload {i : Nat} {x : Int32} (he : mFind (mTab mi) pc = some (pc, len, ri, .iload i, v0, r1, r2, wi)) (h : mLk L i = some (.int x)) (k : dQ xs Ln t fr lo mi (pc + len, L, .int x :: S, M) z) : dQ xs Ln t fr lo mi (pc, L, S, M) z :=
  dq_0 he (fun _ => by
    show (match mLk L i with
      | some (.int x) => mNx (pc + len) L (.int x :: S) M
      | _ => none) = _
    rw [h]
    rfl) k
theorem dq_aload {i o : Nat} (he : mFind (mTab mi) pc = some (pc, len, ri, .aload i, v0, r1, r2, wi)) (h : mLk L i = some (.ref o)) (k : dQ xs Ln t fr lo mi (pc + len, L, .ref o :: S, M) z) : dQ xs Ln t fr lo mi (pc, L, S, M) z :=
  dq_0 he (fun _ => by
    show (match mLk L i with
      | some (.ref x) => mNx (pc + len) L (.ref x :: S) M
      | some .null => mNx (pc + len) L (.null :: S) M
      | _ => none) = _
    rw [h]
    rfl) k
theorem dq_aloadn {i : Nat} (he : mFind (mTab mi) pc = some (pc, len, ri, .aload i, v0, r1, r2, wi)) (h : mLk L i = some .null) (k : dQ xs Ln t fr lo mi (pc + len, L, .null :: S, M) z) : dQ xs Ln t fr lo mi (pc, L, S, M) z :=
  dq_0 he (fun _ => by
    show (match mLk L i with
      | some (.ref x) => mNx (pc + len) L (.ref x :: S) M
      | some .null => mNx (pc + len) L (.null :: S) M
      | _ => none) = _
    rw [h]
    rfl) k
theorem dq_istore {i : Nat} {x : Int32} (he : mFind (mTab mi) pc = some (pc, len, ri, .istore i, v0, r1, r2, wi)) (h : Nat.blt i (mInf mi).2.2.1 = true) (k : ∀ K : List (Nat × Value), mLk K i = some (.int x) → (∀ (j : Nat) (w : Value), j ≠ i → w.category = 1 → mLk L j = some w → mLk K j = some w) → dQ xs Ln t fr lo mi (pc + len, K, S, M) z) : dQ xs Ln t fr lo mi (pc, L, .int x :: S, M) z := dq_0 he (fun _ => (mWhen_t h).trans rfl) (k (mSt1 L i (.int x)) dLk_same (fun j w hn hw h => dLk_ne h hn hw))
theorem dq_astore {i o : Nat} (he : mFind (mTab mi) pc = some (pc, len, ri, .astore i, v0, r1, r2, wi)) (h : Nat.blt i (mInf mi).2.2.1 = true) (k : ∀ K : List (Nat × Value), mLk K i = some (.ref o) → (∀ (j : Nat) (w : Value), j ≠ i → w.category = 1 → mLk L j = some w → mLk K j = some w) → dQ xs Ln t fr lo mi (pc + len, K, S, M) z) : dQ xs Ln t fr lo mi (pc, L, .ref o :: S, M) z := dq_0 he (fun _ => (mWhen_t h).trans rfl) (k (mSt1 L i (.ref o)) dLk_same (fun j w hn hw h => dLk_ne h hn hw))
theorem dq_iinc {i : Nat} {n x e : Int} (he : mFind (mTab mi) pc = some (pc, len, ri, .iinc i n, v0, r1, r2, wi)) (h1 : mLk L i = some (.int (dI x))) (h : Nat.blt i (mInf mi).2.2.1 = true) (hv : dW (x + v0) = e) (k : ∀ K : List (Nat × Value), mLk K i = some (.int (dI e)) → (∀ (j : Nat) (w : Value), j ≠ i → w.category = 1 → mLk L j = some w → mLk K j = some w) → dQ xs Ln t fr lo mi (pc + len, K, S, M) z) : dQ xs Ln t fr lo mi (pc, L, S, M) z :=
  dq_0 he (fun _ => by
    show (match mLk L i with
      | some (.int x) => mWhen (Nat.blt i (mInf mi).2.2.1) (mNx (pc + len) (mSt1 L i (.int (x + Int32.ofInt v0))) S M)
      | _ => none) = _
    rw [h1]
    refine (mWhen_t h).trans ?_
    rw [← Int32.ofInt_add, ← hv, dI_W]
    rfl) (k (mSt1 L i (.int (dI e))) dLk_same (fun j w hn hw h => dLk_ne h hn hw))
theorem dq_iadd {x y e : Int} (he : mFind (mTab mi) pc = some (pc, len, ri, .iadd, v0, r1, r2, wi)) (hv : dW (x + y) = e) (k : dQ xs Ln t fr lo mi (pc + len, L, .int (dI e) :: S, M) z) : dQ xs Ln t fr lo mi (pc, L, .int (dI y) :: .int (dI x) :: S, M) z := dq_0 he (fun _ => by
  show mNx (pc + len) L (.int (dI x + dI y) :: S) M = _
  rw [← Int32.ofInt_add, ← hv, dI_W]
  rfl) k
theorem dq_isub {x y e : Int} (he : mFind (mTab mi) pc = some (pc, len, ri, .isub, v0, r1, r2, wi)) (hv : dW (x - y) = e) (k : dQ xs Ln t fr lo mi (pc + len, L, .int (dI e) :: S, M) z) : dQ xs Ln t fr lo mi (pc, L, .int (dI y) :: .int (dI x) :: S, M) z := dq_0 he (fun _ => by
  show mNx (pc + len) L (.int (dI x - dI y) :: S) M = _
  rw [← Int32.ofInt_sub, ← hv, dI_W]
  rfl) k
theorem dq_imul {x y e : Int} (he : mFind (mTab mi) pc = some (pc, len, ri, .imul, v0, r1, r2, wi)) (hv : dW (x * y) = e) (k : dQ xs Ln t fr lo mi (pc + len, L, .int (dI e) :: S, M) z) : dQ xs Ln t fr lo mi (pc, L, .int (dI y) :: .int (dI x) :: S, M) z := dq_0 he (fun _ => by
  show mNx (pc + len) L (.int (dI x * dI y) :: S) M = _
  rw [← Int32.ofInt_mul, ← hv, dI_W]
  rfl) k
/-- what remains; both are 0 at least, the second above 0 -/
theorem d_tdiv {x y : Int} (hx : dR x) (hy : dR y) (h : 0 ≤ x) (h2 : 0 < y) : dI x / dI y = dI (x / y) := by
  apply Int32.toInt_inj.mp
  rw [dI_i (x := x / y) ⟨by have := Int.ediv_nonneg h (Int.le_of_lt h2); omega, by have := Int.ediv_le_self y h; have := hx.2; omega⟩]
  rw [Int32.toInt_div, dI_i hx, dI_i hy, Int.tdiv_eq_ediv_of_nonneg h]
  have a := Int.ediv_nonneg h (Int.le_of_lt h2)
  have b := Int.ediv_le_self y h
  have c := hx.2
  exact Int.bmod_eq_of_le (by omega) (by omega)
theorem dq_irem {x y e : Int} (he : mFind (mTab mi) pc = some (pc, len, ri, .irem, v0, r1, r2, wi)) (hx : dR x) (hy : dR y) (h : 0 ≤ x) (h2 : 0 < y) (hv : x % y = e) (k : dQ xs Ln t fr lo mi (pc + len, L, .int (dI e) :: S, M) z) : dQ xs Ln t fr lo mi (pc, L, .int (dI y) :: .int (dI x) :: S, M) z := dq_0 he (fun _ => by
  show mWhen (!decide (dI y = 0)) (mNx (pc + len) L (.int (dI x - dI x / dI y * dI y) :: S) M) = _
  have n : ¬ dI y = 0 := fun q => by
    have := congrArg Int32.toInt q
    rw [dI_i hy] at this
    have : y = 0 := this
    omega
  rw [mWhen_t (dnt n), d_tdiv hx hy h h2, ← Int32.ofInt_mul, ← Int32.ofInt_sub, ← hv, show x - x / y * y = x % y by have := Int.mul_ediv_add_emod x y; rw [Int.mul_comm] at this; omega]
  rfl) k
theorem dq_idiv {x y e : Int} (he : mFind (mTab mi) pc = some (pc, len, ri, .idiv, v0, r1, r2, wi)) (hx : dR x) (hy : dR y) (h : 0 ≤ x) (h2 : 0 < y) (hv : x / y = e) (k : dQ xs Ln t fr lo mi (pc + len, L, .int (dI e) :: S, M) z) : dQ xs Ln t fr lo mi (pc, L, .int (dI y) :: .int (dI x) :: S, M) z := dq_0 he (fun _ => by
  show mWhen (!decide (dI y = 0)) (mNx (pc + len) L (.int (dI x / dI y) :: S) M) = _
  have n : ¬ dI y = 0 := fun q => by
    have := congrArg Int32.toInt q
    rw [dI_i hy] at this
    have : y = 0 := this
    omega
  rw [mWhen_t (dnt n), d_tdiv hx hy h h2, ← hv]
  rfl) k
noncomputable def dAnd (x y : Int) : Int := (dI x &&& dI y).toInt
noncomputable def dOr (x y : Int) : Int := (dI x ||| dI y).toInt
noncomputable def dXor (x y : Int) : Int := (dI x ^^^ dI y).toInt
noncomputable def dShl (x y : Int) : Int := (dI x <<< (dI y &&& 31)).toInt
noncomputable def dShr (x y : Int) : Int := (dI x >>> (dI y &&& 31)).toInt
noncomputable def dUsh (x y : Int) : Int := (((dI x).toUInt32 >>> ((dI y).toUInt32 &&& Int32.toUInt32 31)).toInt32).toInt
theorem dAnd_R (x y : Int) : dR (dAnd x y) := dI32_rg _
theorem dOr_R (x y : Int) : dR (dOr x y) := dI32_rg _
theorem dXor_R (x y : Int) : dR (dXor x y) := dI32_rg _
theorem dShl_R (x y : Int) : dR (dShl x y) := dI32_rg _
theorem dShr_R (x y : Int) : dR (dShr x y) := dI32_rg _
theorem dUsh_R (x y : Int) : dR (dUsh x y) := dI32_rg _
theorem dI_t (X : Int32) : dI X.toInt = X := Int32.ofInt_toInt X
theorem dq_iand {x y : Int} (he : mFind (mTab mi) pc = some (pc, len, ri, .iand, v0, r1, r2, wi)) (k : dQ xs Ln t fr lo mi (pc + len, L, .int (dI (dAnd x y)) :: S, M) z) : dQ xs Ln t fr lo mi (pc, L, .int (dI y) :: .int (dI x) :: S, M) z := dq_0 he (fun _ => by unfold dAnd; rw [dI_t]; rfl) k
theorem dq_ior {x y : Int} (he : mFind (mTab mi) pc = some (pc, len, ri, .ior, v0, r1, r2, wi)) (k : dQ xs Ln t fr lo mi (pc + len, L, .int (dI (dOr x y)) :: S, M) z) : dQ xs Ln t fr lo mi (pc, L, .int (dI y) :: .int (dI x) :: S, M) z := dq_0 he (fun _ => by unfold dOr; rw [dI_t]; rfl) k
theorem dq_ixor {x y : Int} (he : mFind (mTab mi) pc = some (pc, len, ri, .ixor, v0, r1, r2, wi)) (k : dQ xs Ln t fr lo mi (pc + len, L, .int (dI (dXor x y)) :: S, M) z) : dQ xs Ln t fr lo mi (pc, L, .int (dI y) :: .int (dI x) :: S, M) z := dq_0 he (fun _ => by unfold dXor; rw [dI_t]; rfl) k
theorem dq_ishl {x y : Int} (he : mFind (mTab mi) pc = some (pc, len, ri, .ishl, v0, r1, r2, wi)) (k : dQ xs Ln t fr lo mi (pc + len, L, .int (dI (dShl x y)) :: S, M) z) : dQ xs Ln t fr lo mi (pc, L, .int (dI y) :: .int (dI x) :: S, M) z := dq_0 he (fun _ => by unfold dShl; rw [dI_t]; rfl) k
theorem dq_ishr {x y : Int} (he : mFind (mTab mi) pc = some (pc, len, ri, .ishr, v0, r1, r2, wi)) (k : dQ xs Ln t fr lo mi (pc + len, L, .int (dI (dShr x y)) :: S, M) z) : dQ xs Ln t fr lo mi (pc, L, .int (dI y) :: .int (dI x) :: S, M) z := dq_0 he (fun _ => by unfold dShr; rw [dI_t]; rfl) k
theorem dq_iushr {x y : Int} (he : mFind (mTab mi) pc = some (pc, len, ri, .iushr, v0, r1, r2, wi)) (k : dQ xs Ln t fr lo mi (pc + len, L, .int (dI (dUsh x y)) :: S, M) z) : dQ xs Ln t fr lo mi (pc, L, .int (dI y) :: .int (dI x) :: S, M) z := dq_0 he (fun _ => by unfold dUsh; rw [dI_t]; rfl) k
theorem dq_goto {n : Int} (he : mFind (mTab mi) pc = some (pc, len, ri, .goto n, v0, r1, r2, wi)) (k : dQ xs Ln t fr lo mi (r1, L, S, M) z) : dQ xs Ln t fr lo mi (pc, L, S, M) z := dq_0 he (fun _ => rfl) k
theorem dq_icT {c : ClassFile.Cond} {n x y : Int} (he : mFind (mTab mi) pc = some (pc, len, ri, .if_icmp c n, v0, r1, r2, wi)) (hx : dR x) (hy : dR y) (h : dC c x y = true) (k : dQ xs Ln t fr lo mi (r1, L, S, M) z) : dQ xs Ln t fr lo mi (pc, L, .int (dI y) :: .int (dI x) :: S, M) z := dq_0 he (fun _ => by
  show mNx (bif mIf c (dI x) (dI y) then r1 else pc + len) L S M = _
  rw [dC_ok hx hy, h]
  rfl) k
theorem dq_icF {c : ClassFile.Cond} {n x y : Int} (he : mFind (mTab mi) pc = some (pc, len, ri, .if_icmp c n, v0, r1, r2, wi)) (hx : dR x) (hy : dR y) (h : dC c x y = false) (k : dQ xs Ln t fr lo mi (pc + len, L, S, M) z) : dQ xs Ln t fr lo mi (pc, L, .int (dI y) :: .int (dI x) :: S, M) z := dq_0 he (fun _ => by
  show mNx (bif mIf c (dI x) (dI y) then r1 else pc + len) L S M = _
  rw [dC_ok hx hy, h]
  rfl) k
theorem dq_ifT {c : ClassFile.Cond} {n x : Int} (he : mFind (mTab mi) pc = some (pc, len, ri, .ifCond c n, v0, r1, r2, wi)) (hx : dR x) (h : dC c x 0 = true) (k : dQ xs Ln t fr lo mi (r1, L, S, M) z) : dQ xs Ln t fr lo mi (pc, L, .int (dI x) :: S, M) z := dq_0 he (fun _ => by
  show mNx (bif mIf c (dI x) (dI 0) then r1 else pc + len) L S M = _
  rw [dC_ok hx (by decide), h]
  rfl) k
theorem dq_ifF {c : ClassFile.Cond} {n x : Int} (he : mFind (mTab mi) pc = some (pc, len, ri, .ifCond c n, v0, r1, r2, wi)) (hx : dR x) (h : dC c x 0 = false) (k : dQ xs Ln t fr lo mi (pc + len, L, S, M) z) : dQ xs Ln t fr lo mi (pc, L, .int (dI x) :: S, M) z := dq_0 he (fun _ => by
  show mNx (bif mIf c (dI x) (dI 0) then r1 else pc + len) L S M = _
  rw [dC_ok hx (by decide), h]
  rfl) k
theorem dq_nullT {n : Int} (he : mFind (mTab mi) pc = some (pc, len, ri, .ifnull n, v0, r1, r2, wi)) (k : dQ xs Ln t fr lo mi (r1, L, S, M) z) : dQ xs Ln t fr lo mi (pc, L, .null :: S, M) z := dq_0 he (fun _ => rfl) k
theorem dq_nullF {n : Int} {o : Nat} (he : mFind (mTab mi) pc = some (pc, len, ri, .ifnull n, v0, r1, r2, wi)) (k : dQ xs Ln t fr lo mi (pc + len, L, S, M) z) : dQ xs Ln t fr lo mi (pc, L, .ref o :: S, M) z := dq_0 he (fun _ => rfl) k
theorem dq_tsI {d : Int} {tl th : Int} {offs : Array Int} {x c off : Int} {q : Nat} (he : mFind (mTab mi) pc = some (pc, len, ri, .tableswitch d tl th offs, v0, r1, r2, wi)) (hx : dR x) (hc : x = c) (h1 : (decide (c < tl) || decide (th < c)) = false) (h2 : offs[(c - tl).toNat]? = some off) (h3 : (pc : Int) + off = (q : Int)) (k : dQ xs Ln t fr lo mi (q, L, S, M) z) : dQ xs Ln t fr lo mi (pc, L, .int (dI x) :: S, M) z := dq_0 he (fun _ => by
  show (bif decide ((dI x).toInt < tl) || decide (th < (dI x).toInt) then mNx r1 L S M else match offs[((dI x).toInt - tl).toNat]? with
    | some off => mWhen (decide (0 ≤ (pc : Int) + off)) (mNx ((pc : Int) + off).toNat L S M)
    | none => none) = _
  rw [dI_i hx, hc, h1, cond_false, h2]
  dsimp only
  rw [mWhen_t (decide_eq_true (by omega)), h3]
  rfl) k
theorem dq_tsD {d : Int} {tl th : Int} {offs : Array Int} {x : Int} (he : mFind (mTab mi) pc = some (pc, len, ri, .tableswitch d tl th offs, v0, r1, r2, wi)) (hx : dR x) (h1 : (decide (x < tl) || decide (th < x)) = true) (k : dQ xs Ln t fr lo mi (r1, L, S, M) z) : dQ xs Ln t fr lo mi (pc, L, .int (dI x) :: S, M) z := dq_0 he (fun _ => by
  show (bif decide ((dI x).toInt < tl) || decide (th < (dI x).toInt) then mNx r1 L S M else _) = _
  rw [dI_i hx, h1]
  rfl) k
theorem dq_pop {x : Value} (he : mFind (mTab mi) pc = some (pc, len, ri, .pop, v0, r1, r2, wi)) (h : x.category = 1) (k : dQ xs Ln t fr lo mi (pc + len, L, S, M) z) : dQ xs Ln t fr lo mi (pc, L, x :: S, M) z := dq_0 he (fun _ => (mWhen_t (by rw [h]; rfl)).trans rfl) k
theorem dq_dup {x : Value} (he : mFind (mTab mi) pc = some (pc, len, ri, .dup, v0, r1, r2, wi)) (h : x.category = 1) (k : dQ xs Ln t fr lo mi (pc + len, L, x :: x :: S, M) z) : dQ xs Ln t fr lo mi (pc, L, x :: S, M) z := dq_0 he (fun _ => (mWhen_t (by rw [h]; rfl)).trans rfl) k
theorem dq_dup2 {x y : Value} (he : mFind (mTab mi) pc = some (pc, len, ri, .dup2, v0, r1, r2, wi)) (h : x.category = 1) (h2 : y.category = 1) (k : dQ xs Ln t fr lo mi (pc + len, L, x :: y :: x :: y :: S, M) z) : dQ xs Ln t fr lo mi (pc, L, x :: y :: S, M) z := dq_0 he (fun _ => (mWhen_t (by rw [h, h2]; rfl)).trans rfl) k
/-- an object's place -/
theorem d_fld {o c k tg w : Nat} (hS : dS M) (ha : dAt o c k tg w = true) : (Nat.blt o M.1 && (Nat.beq (mObj M o).1 c && Nat.blt k (mObj M o).2.1)) = true ∧ Nat.ble (mObj M o).2.1 2048 = true := by
  obtain ⟨a1, a2, a3, a4, -, -⟩ := dAt_inv ha
  obtain ⟨b1, b2, -⟩ := hS.2 o a1
  have e1 : Nat.blt o M.1 = true := by rw [Nat.blt_eq]; have := hS.1.2; omega
  have e2 : Nat.blt k (dOb o).2 = true := by rw [Nat.blt_eq]; exact a3
  rw [b1, b2, a2, e1, e2, Nat.beq_refl]
  exact ⟨rfl, Nat.ble_eq.mpr a4⟩
theorem dq_getI {i o key : Nat} (he : mFind (mTab mi) pc = some (pc, len, ri, .getfield i, v0, r1, r2, wi)) (hS : dS M) (ha : dAt o r1 r2 0 0 = true) (hk : o * 2048 + r2 = key) (k : dQ xs Ln t fr lo mi (pc + len, L, .int (dI (dG M key)) :: S, M) z) : dQ xs Ln t fr lo mi (pc, L, .ref o :: S, M) z := dq_0 he (fun _ => by
  refine (mWhen_t (d_fld hS ha).1).trans ?_
  rw [dG_int hS ha hk]
  rfl) k
theorem dq_getC {i o w : Nat} {e : Int} (he : mFind (mTab mi) pc = some (pc, len, ri, .getfield i, v0, r1, r2, wi)) (hS : dS M) (ha : dAt o r1 r2 1 w = true) (hw : (w : Int) = e) (k : dQ xs Ln t fr lo mi (pc + len, L, .int (dI e) :: S, M) z) : dQ xs Ln t fr lo mi (pc, L, .ref o :: S, M) z := dq_0 he (fun _ => by
  refine (mWhen_t (d_fld hS ha).1).trans ?_
  obtain ⟨a1, a2, a3, a4, a5, a6⟩ := dAt_inv ha
  have q := dS_v hS a1 a3
  unfold dSv at q
  rw [a5] at q
  have q : mSlot (mObj M o) r2 = .int (dI ((dSp o r2).2 : Int)) := q
  rw [q, show (dSp o r2).2 = w by omega, hw]
  rfl) k
theorem dq_getR {i o w : Nat} (he : mFind (mTab mi) pc = some (pc, len, ri, .getfield i, v0, r1, r2, wi)) (hS : dS M) (ha : dAt o r1 r2 2 w = true) (k : dQ xs Ln t fr lo mi (pc + len, L, .ref w :: S, M) z) : dQ xs Ln t fr lo mi (pc, L, .ref o :: S, M) z := dq_0 he (fun _ => by
  refine (mWhen_t (d_fld hS ha).1).trans ?_
  obtain ⟨a1, a2, a3, a4, a5, a6⟩ := dAt_inv ha
  have q := dS_v hS a1 a3
  unfold dSv at q
  rw [a5] at q
  have q : mSlot (mObj M o) r2 = .ref (dSp o r2).2 := q
  rw [q, show (dSp o r2).2 = w by omega]
  rfl) k
theorem dq_put {i o key : Nat} {x : Int} (he : mFind (mTab mi) pc = some (pc, len, ri, .putfield i, v0, r1, r2, wi)) (hS : dS M) (ha : dAt o r1 r2 0 0 = true) (hf : mFit (mTyX r1 r2) (.int (dI x)) = true) (hk : o * 2048 + r2 = key) (k : dQ xs Ln t fr lo mi (pc + len, L, S, dP M key x) z) : dQ xs Ln t fr lo mi (pc, L, .int (dI x) :: .ref o :: S, M) z := dq_0 he (fun _ => by
  obtain ⟨g1, g2⟩ := d_fld hS ha
  obtain ⟨g3, g4⟩ := dand g1
  obtain ⟨g4, g5⟩ := dand g4
  refine (mWhen_t (by rw [g3, g4, g5, g2, hf]; rfl)).trans ?_
  obtain ⟨a1, a2, a3, a4, -, -⟩ := dAt_inv ha
  unfold dP
  rw [show key / 2048 = o by omega, show key % 2048 = r2 by omega]
  rfl) k
theorem d_ino {i : Int} {n : Nat} (hr : dR i) (h0 : 0 ≤ i) (h1 : i < (n : Int)) (hn : n ≤ 2048) : mInO (dI i) n = true ∧ (dI i).toNatClampNeg = i.toNat := by
  have e : (dI i).toNatClampNeg = i.toNat := by
    show (dI i).toInt.toNat = _
    rw [dI_i hr]
  refine ⟨?_, e⟩
  unfold mInO
  rw [e, show Nat.blt i.toNat n = true by rw [Nat.blt_eq]; omega, Nat.ble_eq.mpr hn]
  rw [decide_eq_false (by rw [show (0 : Int32) = dI 0 from rfl, dlt_iff hr (by decide)]; omega)]
  rfl
theorem d_arr {o n : Nat} (hS : dS M) (ha : dAa o n = true) : Nat.blt o M.1 = true ∧ Nat.beq (mObj M o).1 100 = true ∧ (mObj M o).2.1 = n := by
  obtain ⟨a1, a2, a3, a4⟩ := dAa_inv ha
  obtain ⟨b1, b2, -⟩ := hS.2 o a1
  refine ⟨by rw [Nat.blt_eq]; have := hS.1.2; omega, by rw [b1, a2]; rfl, b2.trans a3⟩
theorem dq_ial {o n key : Nat} {i : Int} (he : mFind (mTab mi) pc = some (pc, len, ri, .iaload, v0, r1, r2, wi)) (hS : dS M) (ha : dAa o n = true) (hr : dR i) (h0 : 0 ≤ i) (h1 : i < (n : Int)) (hk : o * 2048 + i.toNat = key) (k : dQ xs Ln t fr lo mi (pc + len, L, .int (dI (dG M key)) :: S, M) z) : dQ xs Ln t fr lo mi (pc, L, .int (dI i) :: .ref o :: S, M) z := dq_0 he (fun _ => by
  obtain ⟨b1, b2, b3⟩ := d_arr hS ha
  obtain ⟨a1, a2, a3, a4⟩ := dAa_inv ha
  obtain ⟨c1, c2⟩ := d_ino hr h0 h1 a4
  show (bif Nat.blt o 1000000 then mWhen (Nat.blt o M.1 && (Nat.beq (mObj M o).1 100 && mInO (dI i) (mObj M o).2.1)) (mNx (pc + len) L (.int (mIof (mSlot (mObj M o) (dI i).toNatClampNeg)) :: S) M) else _) = _
  rw [show Nat.blt o 1000000 = true by rw [Nat.blt_eq]; omega, cond_true, b3, mWhen_t (by rw [b1, b2, c1]; rfl), c2, dG_arr hS ha (by omega) hk]
  rfl) k
theorem dq_ias {o n key : Nat} {i x : Int} (he : mFind (mTab mi) pc = some (pc, len, ri, .iastore, v0, r1, r2, wi)) (hS : dS M) (ha : dAa o n = true) (hr : dR i) (h0 : 0 ≤ i) (h1 : i < (n : Int)) (hk : o * 2048 + i.toNat = key) (k : dQ xs Ln t fr lo mi (pc + len, L, S, dP M key x) z) : dQ xs Ln t fr lo mi (pc, L, .int (dI x) :: .int (dI i) :: .ref o :: S, M) z := dq_0 he (fun _ => by
  obtain ⟨b1, b2, b3⟩ := d_arr hS ha
  obtain ⟨a1, a2, a3, a4⟩ := dAa_inv ha
  obtain ⟨c1, c2⟩ := d_ino hr h0 h1 a4
  show mWhen (Nat.blt o M.1 && (Nat.beq (mObj M o).1 100 && (mInO (dI i) (mObj M o).2.1 && mFit .int (.int (dI x))))) (mNx (pc + len) L S (mPut M o (mCset (mObj M o) (dI i).toNatClampNeg (.int (dI x))))) = _
  rw [b3, mWhen_t (by rw [b1, b2, c1]; rfl), c2]
  unfold dP
  rw [show key / 2048 = o by omega, show key % 2048 = i.toNat by omega]
  rfl) k
theorem dq_aal {o c n w : Nat} {i : Int} (he : mFind (mTab mi) pc = some (pc, len, ri, .aaload, v0, r1, r2, wi)) (hS : dS M) (hr : dR i) (h0 : 0 ≤ i) (hn : i.toNat = n) (ha : dAt o c n 2 w = true) (hc : (Nat.beq c 101 || Nat.beq c 102) = true) (k : dQ xs Ln t fr lo mi (pc + len, L, .ref w :: S, M) z) : dQ xs Ln t fr lo mi (pc, L, .int (dI i) :: .ref o :: S, M) z := dq_0 he (fun _ => by
  obtain ⟨a1, a2, a3, a4, a5, a6⟩ := dAt_inv ha
  obtain ⟨b1, b2, -⟩ := hS.2 o a1
  obtain ⟨c1, c2⟩ := d_ino (n := (dOb o).2) hr h0 (by omega) a4
  have e1 : Nat.blt o M.1 = true := by rw [Nat.blt_eq]; have := hS.1.2; omega
  show mWhen (Nat.blt o M.1 && ((Nat.beq (mObj M o).1 101 || Nat.beq (mObj M o).1 102) && mInO (dI i) (mObj M o).2.1)) (mNx (pc + len) L (mRv (mSlot (mObj M o) (dI i).toNatClampNeg) :: S) M) = _
  rw [b1, b2, a2, mWhen_t (by rw [e1, hc, c1]; rfl), c2, hn]
  have q := dS_v hS a1 a3
  unfold dSv at q
  rw [a5] at q
  have q : mSlot (mObj M o) n = .ref (dSp o n).2 := q
  rw [q, show (dSp o n).2 = w by omega]
  rfl) k
theorem dq_scr {i : Int} (he : mFind (mTab mi) pc = some (pc, len, ri, .iaload, v0, r1, r2, wi)) (hr : dR i) (h0 : 0 ≤ i) (h1 : i < (Ln : Int)) (k : dQ xs Ln t fr lo mi (pc + len, L, .int (dI (dX xs i)) :: S, M) z) : dQ xs Ln t fr lo mi (pc, L, .int (dI i) :: .ref 1000000 :: S, M) z := dq_0 he (fun _ => by
  have e : (dI i).toNatClampNeg = i.toNat := by
    show (dI i).toInt.toNat = _
    rw [dI_i hr]
  have g : mInB (dI i) Ln = true := by
    unfold mInB
    rw [e, show Nat.blt i.toNat Ln = true by rw [Nat.blt_eq]; omega, decide_eq_false (by rw [show (0 : Int32) = dI 0 from rfl, dlt_iff hr (by decide)]; omega)]
    rfl
  show mWhen (Nat.blt (1000000 - 1000000) 4 && mInB (dI i) Ln) (mNx (pc + len) L (.int (xs (dI i).toNatClampNeg) :: S) M) = _
  rw [g, e]
  unfold dX
  rw [dI_t]
  rfl) k
/-- an entry of one of the class's own tables -/
noncomputable def dXs (a : Nat) (i : Int) : Int := (sXX a i.toNat).2
theorem dXs_R (a : Nat) (i : Int) : dR (dXs a i) := by
  unfold dXs sXX
  split
  · split <;> exact ⟨by decide, by decide⟩
  · split <;> exact ⟨by decide, by decide⟩
  · split <;> exact ⟨by decide, by decide⟩
  · split <;> exact ⟨by decide, by decide⟩
theorem dq_gets {i : Nat} (he : mFind (mTab mi) pc = some (pc, len, ri, .getstatic i, v0, r1, r2, wi)) (k : dQ xs Ln t fr lo mi (pc + len, L, .ref (1000000 + r1) :: S, M) z) : dQ xs Ln t fr lo mi (pc, L, S, M) z := dq_0 he (fun _ => rfl) k
theorem dq_sta {a : Nat} {i : Int} (he : mFind (mTab mi) pc = some (pc, len, ri, .iaload, v0, r1, r2, wi)) (hr : dR i) (h0 : 0 ≤ i) (h1 : i < 6) (ha : 0 < a) (ha2 : a < 4) (k : dQ xs Ln t fr lo mi (pc + len, L, .int (dI (dXs a i)) :: S, M) z) : dQ xs Ln t fr lo mi (pc, L, .int (dI i) :: .ref (1000000 + a) :: S, M) z := dq_0 he (fun _ => by
  have e : (dI i).toNatClampNeg = i.toNat := by
    show (dI i).toInt.toNat = _
    rw [dI_i hr]
  obtain ⟨b, rfl⟩ : ∃ b, a = b + 1 := ⟨a - 1, by omega⟩
  have g : mInB (dI i) 6 = true := by
    unfold mInB
    rw [e, show Nat.blt i.toNat 6 = true by rw [Nat.blt_eq]; omega, decide_eq_false (by rw [show (0 : Int32) = dI 0 from rfl, dlt_iff hr (by decide)]; omega)]
    rfl
  show (bif Nat.blt (1000000 + (b + 1)) 1000000 then _ else mWhen (Nat.blt (1000000 + (b + 1) - 1000000) 4 && mInB (dI i) (sXNl Ln (1000000 + (b + 1) - 1000000))) (mNx (pc + len) L (.int (sXF xs (1000000 + (b + 1) - 1000000) (dI i).toNatClampNeg) :: S) M)) = _
  rw [show Nat.blt (1000000 + (b + 1)) 1000000 = false from Bool.eq_false_iff.mpr (fun q => by rw [Nat.blt_eq] at q; omega), cond_false, show 1000000 + (b + 1) - 1000000 = b + 1 by omega, e]
  show mWhen (Nat.blt (b + 1) 4 && mInB (dI i) 6) (mNx (pc + len) L (.int (Int32.ofInt (sXX (b + 1) i.toNat).2) :: S) M) = _
  rw [show Nat.blt (b + 1) 4 = true by rw [Nat.blt_eq]; omega, g]
  rfl) k
theorem dq_len (he : mFind (mTab mi) pc = some (pc, len, ri, .arraylength, v0, r1, r2, wi)) (k : dQ xs Ln t fr lo mi (pc + len, L, .int (dI (Ln : Int)) :: S, M) z) : dQ xs Ln t fr lo mi (pc, L, .ref 1000000 :: S, M) z := dq_0 he (fun _ => rfl) k
theorem d_when1 {β : Type} {b c : Bool} {x : Option β} (hb : b = true) (hc : c = true) : mWhen (b && c) x = x := mWhen_t (by rw [hb, hc]; rfl)
theorem dq_max {x y e : Int} {n : Nat} (he : mFind (mTab mi) pc = some (pc, len, ri, .invokestatic n, v0, r1, 2, wi)) (hx : dR x) (hy : dR y) (g1 : Nat.ble 1 fr = true) (g2 : Nat.ble (mCats S + 13) lo = true) (hv : dMx x y = e) (k : dQ xs Ln t fr lo mi (pc + len, L, .int (dI e) :: S, M) z) : dQ xs Ln t fr lo mi (pc, L, .int (dI y) :: .int (dI x) :: S, M) z := dq_0 he (fun _ => by
  show mWhen (Nat.ble 1 fr && Nat.ble (mCats S + 13) lo) (mNx (pc + len) L (.int (bif Nat.beq 2 2 then (if dI x < dI y then dI y else dI x) else if dI y < dI x then dI y else dI x) :: S) M) = _
  rw [d_when1 g1 g2, ← hv]
  unfold dMx
  rw [show Nat.beq 2 2 = true from rfl, cond_true]
  by_cases c : x < y
  · rw [if_pos c, if_pos ((dlt_iff hx hy).mpr c)]; rfl
  · rw [if_neg c, if_neg (fun q => c ((dlt_iff hx hy).mp q))]; rfl) k
theorem dq_min {x y e : Int} {n : Nat} (he : mFind (mTab mi) pc = some (pc, len, ri, .invokestatic n, v0, r1, 3, wi)) (hx : dR x) (hy : dR y) (g1 : Nat.ble 1 fr = true) (g2 : Nat.ble (mCats S + 13) lo = true) (hv : dMn x y = e) (k : dQ xs Ln t fr lo mi (pc + len, L, .int (dI e) :: S, M) z) : dQ xs Ln t fr lo mi (pc, L, .int (dI y) :: .int (dI x) :: S, M) z := dq_0 he (fun _ => by
  show mWhen (Nat.ble 1 fr && Nat.ble (mCats S + 13) lo) (mNx (pc + len) L (.int (bif Nat.beq 3 2 then (if dI x < dI y then dI y else dI x) else if dI y < dI x then dI y else dI x) :: S) M) = _
  rw [d_when1 g1 g2, ← hv]
  unfold dMn
  rw [show Nat.beq 3 2 = false from rfl, cond_false]
  by_cases c : y < x
  · rw [if_pos c, if_pos ((dlt_iff hy hx).mpr c)]; rfl
  · rw [if_neg c, if_neg (fun q => c ((dlt_iff hy hx).mp q))]; rfl) k
theorem dq_acp {n a b m ma : Nat} {cn dp sp : Int} (he : mFind (mTab mi) pc = some (pc, len, ri, .invokestatic n, v0, r1, 1, wi)) (hS : dS M) (ha : dAa a ma = true) (hb : dAa b m = true) (g1 : Nat.ble 1 fr = true) (g2 : Nat.ble (mCats S + 18) lo = true) (r3 : dR sp) (r4 : dR dp) (r5 : dR cn) (h1 : 0 ≤ sp) (h2 : 0 ≤ dp) (h3 : 0 ≤ cn) (h4 : sp + cn ≤ (ma : Int)) (h5 : dp + cn ≤ (m : Int)) (k : dQ xs Ln t fr lo mi (pc + len, L, S, dCp M a sp.toNat b dp.toNat cn.toNat) z) : dQ xs Ln t fr lo mi (pc, L, .int (dI cn) :: .int (dI dp) :: .ref b :: .int (dI sp) :: .ref a :: S, M) z := dq_0 he (fun _ => by
  obtain ⟨b1, b2, b3⟩ := d_arr hS ha
  obtain ⟨c1, c2, c3⟩ := d_arr hS hb
  obtain ⟨a1, -, -, a4⟩ := dAa_inv ha
  obtain ⟨e1, -, -, e4⟩ := dAa_inv hb
  have tn : ∀ {i : Int}, dR i → (dI i).toNatClampNeg = i.toNat := fun {i} hi => by
    show (dI i).toInt.toNat = _
    rw [dI_i hi]
  have ng : ∀ {i : Int}, dR i → 0 ≤ i → (!decide (dI i < 0)) = true := fun {i} hi h0 => dnt (by rw [show (0 : Int32) = dI 0 from rfl, dlt_iff hi (by decide)]; omega)
  show mWhen (Nat.ble 1 fr && (Nat.ble (mCats S + 18) lo && (!decide (dI sp < 0) && (!decide (dI dp < 0) && (!decide (dI cn < 0) && (Nat.blt b M.1 && (Nat.beq (mObj M b).1 100 && (Nat.ble ((dI dp).toNatClampNeg + (dI cn).toNatClampNeg) (mObj M b).2.1 && Nat.ble (mObj M b).2.1 2048))))))))
    (bif Nat.blt a 1000000 then mWhen (Nat.blt a M.1 && (Nat.beq (mObj M a).1 100 && (Nat.ble ((dI sp).toNatClampNeg + (dI cn).toNatClampNeg) (mObj M a).2.1 && Nat.ble (mObj M a).2.1 2048))) (mNx (pc + len) L S (mPut M b ((mObj M b).1, (mObj M b).2.1, mCpy (mSlot (mObj M a)) (dI sp).toNatClampNeg (dI dp).toNatClampNeg (dI cn).toNatClampNeg (mObj M b).2.2))) else _) = _
  rw [tn r3, tn r4, tn r5, show Nat.blt a 1000000 = true by rw [Nat.blt_eq]; omega, cond_true]
  have q1 : Nat.ble (dp.toNat + cn.toNat) (mObj M b).2.1 = true := Nat.ble_eq.mpr (by omega)
  have q2 : Nat.ble (sp.toNat + cn.toNat) (mObj M a).2.1 = true := Nat.ble_eq.mpr (by omega)
  have q3 : Nat.ble (mObj M b).2.1 2048 = true := Nat.ble_eq.mpr (by omega)
  have q4 : Nat.ble (mObj M a).2.1 2048 = true := Nat.ble_eq.mpr (by omega)
  rw [mWhen_t (by rw [g1, g2, ng r3 h1, ng r4 h2, ng r5 h3, c1, c2, q1, q3]; rfl), mWhen_t (by rw [b1, b2, q2, q4]; rfl)]
  rfl) k
theorem dq_retv (he : mFind (mTab mi) pc = some (pc, len, ri, .return_, v0, r1, r2, wi)) (h : (mInf mi).2.2.2.1 = none) (hS : dS M) {v : Int} : dQ xs Ln 0 fr lo mi (pc, L, [], M) (M, v) := ⟨mRuns_end (F := 0) he (fun _ _ => by rw [h]; rfl), hS, trivial⟩
theorem dq_reti {ty : FieldType} {x : Int} (he : mFind (mTab mi) pc = some (pc, len, ri, .ireturn, v0, r1, r2, wi)) (h : (mInf mi).2.2.2.1 = some ty) (h2 : mFit ty (.int (dI x)) = true) (hS : dS M) (hx : dR x) : dQ xs Ln 1 fr lo mi (pc, L, [.int (dI x)], M) (M, x) := ⟨mRuns_end (F := 0) he (fun _ _ => by rw [h]; exact (mWhen_t h2).trans rfl), hS, hx⟩
theorem dq_retl {x : Int} (he : mFind (mTab mi) pc = some (pc, len, ri, .lreturn, v0, r1, r2, wi)) (h : (mInf mi).2.2.2.1 = some .long) (hS : dS M) (hx : dR6 x) : dQ xs Ln 2 fr lo mi (pc, L, [.long (dJ x)], M) (M, x) := ⟨mRuns_end (F := 0) he (fun _ _ => by rw [h]; rfl), hS, hx⟩
theorem d_call {ts fs ls o nx i : Nat} {as V : List Value} {N1 : mMem} {v : Int} (he : mFind (mTab mi) pc = some (pc, len, ri, .invokevirtual i, v0, r1, r2, wi)) (hn : Nat.ble (mInf r1).2.2.2.2.2.1 V.length = true) (ha : (V.take (mInf r1).2.2.2.2.2.1).reverse = .ref o :: as) (hS1 : V.drop (mInf r1).2.2.2.2.2.1 = S) (hS : dS M) (hk : dAk o r2 = true) (g1 : Nat.ble (mCats S) 8 = true) (g2 : Nat.ble (fs + 1) fr = true) (g3 : Nat.ble (19 + (mInf r1).2.2.1 + ls) lo = true) (g4 : Nat.ble (mCats (.ref o :: as)) (mInf r1).2.2.1 = true)
    (hq : dQ xs Ln ts fs ls r1 (0, lv_args 0 (.ref o :: as), [], M) (N1, v)) (hx : nx = pc + len) (k : dQ xs Ln t fr lo mi (nx, L, (dRv ts v).toList ++ S, N1) z) : dQ xs Ln t fr lo mi (pc, L, V, M) z := by
  have g2' := Nat.le_of_ble_eq_true g2
  have g3' := Nat.le_of_ble_eq_true g3
  obtain ⟨F, hF⟩ := dRuns_more hq.1 (show fs ≤ fr - 1 by omega) (show ls ≤ lo - (19 + (mInf r1).2.2.1) by omega)
  subst hx
  refine ⟨mRuns_step (F := F) he (fun f hf => ?_) k.1, k.2⟩
  show (mPop V (mInf r1).2.2.2.2.2.1 fun as r => match as with
    | .ref o :: _ => mWhen (Nat.blt o M.1 && Nat.beq (mObj M o).1 r2) (mCall mInf _ fr lo (pc + len) r1 L as r M)
    | _ => none) = _
  rw [mPop_t hn, ha, hS1]
  obtain ⟨k1, k2⟩ := dand hk
  rw [Nat.blt_eq] at k1
  have e1 : Nat.blt o M.1 = true := by rw [Nat.blt_eq]; have := hS.1.2; omega
  refine (mWhen_t (by rw [e1, (hS.2 o k1).1, k2]; rfl)).trans ?_
  unfold mCall
  rw [mWhen_t (by rw [g1, Nat.ble_eq.mpr (show 1 ≤ fr by omega), Nat.ble_eq.mpr (show 19 + (mInf r1).2.2.1 ≤ lo by omega), g4]; rfl)]
  exact (congrArg (mBack (pc + len) L S) (hF f hf)).trans rfl
theorem dq_callv {fs ls o nx i : Nat} {as V : List Value} {N1 : mMem} {v : Int} (he : mFind (mTab mi) pc = some (pc, len, ri, .invokevirtual i, v0, r1, r2, wi)) (hn : Nat.ble (mInf r1).2.2.2.2.2.1 V.length = true) (ha : (V.take (mInf r1).2.2.2.2.2.1).reverse = .ref o :: as) (hS1 : V.drop (mInf r1).2.2.2.2.2.1 = S) (hS : dS M) (hk : dAk o r2 = true) (g1 : Nat.ble (mCats S) 8 = true) (g2 : Nat.ble (fs + 1) fr = true) (g3 : Nat.ble (19 + (mInf r1).2.2.1 + ls) lo = true) (g4 : Nat.ble (mCats (.ref o :: as)) (mInf r1).2.2.1 = true)
    (hq : dQ xs Ln 0 fs ls r1 (0, lv_args 0 (.ref o :: as), [], M) (N1, v)) (hx : pc + len = nx) (k : dQ xs Ln t fr lo mi (nx, L, S, N1) z) : dQ xs Ln t fr lo mi (pc, L, V, M) z := d_call he hn ha hS1 hS hk g1 g2 g3 g4 hq hx.symm k
theorem dq_calli {fs ls o nx i : Nat} {as V : List Value} {N1 : mMem} {v : Int} (he : mFind (mTab mi) pc = some (pc, len, ri, .invokevirtual i, v0, r1, r2, wi)) (hn : Nat.ble (mInf r1).2.2.2.2.2.1 V.length = true) (ha : (V.take (mInf r1).2.2.2.2.2.1).reverse = .ref o :: as) (hS1 : V.drop (mInf r1).2.2.2.2.2.1 = S) (hS : dS M) (hk : dAk o r2 = true) (g1 : Nat.ble (mCats S) 8 = true) (g2 : Nat.ble (fs + 1) fr = true) (g3 : Nat.ble (19 + (mInf r1).2.2.1 + ls) lo = true) (g4 : Nat.ble (mCats (.ref o :: as)) (mInf r1).2.2.1 = true)
    (hq : dQ xs Ln 1 fs ls r1 (0, lv_args 0 (.ref o :: as), [], M) (N1, v)) (hx : pc + len = nx) (k : dQ xs Ln t fr lo mi (nx, L, .int (dI v) :: S, N1) z) : dQ xs Ln t fr lo mi (pc, L, V, M) z := d_call he hn ha hS1 hS hk g1 g2 g3 g4 hq hx.symm k
theorem dq_calll {fs ls o nx i : Nat} {as V : List Value} {N1 : mMem} {v : Int} (he : mFind (mTab mi) pc = some (pc, len, ri, .invokevirtual i, v0, r1, r2, wi)) (hn : Nat.ble (mInf r1).2.2.2.2.2.1 V.length = true) (ha : (V.take (mInf r1).2.2.2.2.2.1).reverse = .ref o :: as) (hS1 : V.drop (mInf r1).2.2.2.2.2.1 = S) (hS : dS M) (hk : dAk o r2 = true) (g1 : Nat.ble (mCats S) 8 = true) (g2 : Nat.ble (fs + 1) fr = true) (g3 : Nat.ble (19 + (mInf r1).2.2.1 + ls) lo = true) (g4 : Nat.ble (mCats (.ref o :: as)) (mInf r1).2.2.1 = true)
    (hq : dQ xs Ln 2 fs ls r1 (0, lv_args 0 (.ref o :: as), [], M) (N1, v)) (hx : pc + len = nx) (k : dQ xs Ln t fr lo mi (nx, L, .long (dJ v) :: S, N1) z) : dQ xs Ln t fr lo mi (pc, L, V, M) z := d_call he hn ha hS1 hS hk g1 g2 g3 g4 hq hx.symm k
theorem d_calls {ts fs ls nx i : Nat} {as V : List Value} {N1 : mMem} {v : Int} (he : mFind (mTab mi) pc = some (pc, len, ri, .invokestatic i, v0, r1, 0, wi)) (hn : Nat.ble (mInf r1).2.2.2.2.2.1 V.length = true) (ha : (V.take (mInf r1).2.2.2.2.2.1).reverse = as) (hS1 : V.drop (mInf r1).2.2.2.2.2.1 = S) (g1 : Nat.ble (mCats S) 8 = true) (g2 : Nat.ble (fs + 1) fr = true) (g3 : Nat.ble (19 + (mInf r1).2.2.1 + ls) lo = true) (g4 : Nat.ble (mCats as) (mInf r1).2.2.1 = true)
    (hq : dQ xs Ln ts fs ls r1 (0, lv_args 0 as, [], M) (N1, v)) (hx : nx = pc + len) (k : dQ xs Ln t fr lo mi (nx, L, (dRv ts v).toList ++ S, N1) z) : dQ xs Ln t fr lo mi (pc, L, V, M) z := by
  have g2' := Nat.le_of_ble_eq_true g2
  have g3' := Nat.le_of_ble_eq_true g3
  obtain ⟨F, hF⟩ := dRuns_more hq.1 (show fs ≤ fr - 1 by omega) (show ls ≤ lo - (19 + (mInf r1).2.2.1) by omega)
  subst hx
  refine ⟨mRuns_step (F := F) he (fun f hf => ?_) k.1, k.2⟩
  show (mPop V (mInf r1).2.2.2.2.2.1 fun as r => mCall mInf _ fr lo (pc + len) r1 L as r M) = _
  rw [mPop_t hn, ha, hS1]
  unfold mCall
  rw [mWhen_t (by rw [g1, Nat.ble_eq.mpr (show 1 ≤ fr by omega), Nat.ble_eq.mpr (show 19 + (mInf r1).2.2.1 ≤ lo by omega), g4]; rfl)]
  exact (congrArg (mBack (pc + len) L S) (hF f hf)).trans rfl
theorem dq_callsi {fs ls nx i : Nat} {as V : List Value} {N1 : mMem} {v : Int} (he : mFind (mTab mi) pc = some (pc, len, ri, .invokestatic i, v0, r1, 0, wi)) (hn : Nat.ble (mInf r1).2.2.2.2.2.1 V.length = true) (ha : (V.take (mInf r1).2.2.2.2.2.1).reverse = as) (hS1 : V.drop (mInf r1).2.2.2.2.2.1 = S) (g1 : Nat.ble (mCats S) 8 = true) (g2 : Nat.ble (fs + 1) fr = true) (g3 : Nat.ble (19 + (mInf r1).2.2.1 + ls) lo = true) (g4 : Nat.ble (mCats as) (mInf r1).2.2.1 = true)
    (hq : dQ xs Ln 1 fs ls r1 (0, lv_args 0 as, [], M) (N1, v)) (hx : pc + len = nx) (k : dQ xs Ln t fr lo mi (nx, L, .int (dI v) :: S, N1) z) : dQ xs Ln t fr lo mi (pc, L, V, M) z := d_calls he hn ha hS1 g1 g2 g3 g4 hq hx.symm k
theorem dq_i2l {x : Int} (he : mFind (mTab mi) pc = some (pc, len, ri, .i2l, v0, r1, r2, wi)) (hx : dR x) (k : dQ xs Ln t fr lo mi (pc + len, L, .long (dJ x) :: S, M) z) : dQ xs Ln t fr lo mi (pc, L, .int (dI x) :: S, M) z := dq_0 he (fun _ => by
  show mNx (pc + len) L (.long (dI x).toInt64 :: S) M = _
  rw [show (dI x).toInt64 = dJ x from Int64.toInt_inj.mp (by rw [Int32.toInt_toInt64, dI_i hx, dJ_i ⟨by have := hx.1; omega, by have := hx.2; omega⟩])]
  rfl) k
theorem dq_lmul {x y e : Int} (he : mFind (mTab mi) pc = some (pc, len, ri, .lmul, v0, r1, r2, wi)) (hv : dW6 (x * y) = e) (k : dQ xs Ln t fr lo mi (pc + len, L, .long (dJ e) :: S, M) z) : dQ xs Ln t fr lo mi (pc, L, .long (dJ y) :: .long (dJ x) :: S, M) z := dq_0 he (fun _ => by
  show mNx (pc + len) L (.long (dJ x * dJ y) :: S) M = _
  rw [← Int64.ofInt_mul, ← hv, dJ_W]
  rfl) k
theorem d_tdiv6 {x y : Int} (hx : dR6 x) (hy : dR6 y) (h : 0 ≤ x) (h2 : 0 < y) : dJ x / dJ y = dJ (x / y) := by
  apply Int64.toInt_inj.mp
  rw [dJ_i (x := x / y) ⟨by have := Int.ediv_nonneg h (Int.le_of_lt h2); omega, by have := Int.ediv_le_self y h; have := hx.2; omega⟩]
  rw [Int64.toInt_div, dJ_i hx, dJ_i hy, Int.tdiv_eq_ediv_of_nonneg h]
  have a := Int.ediv_nonneg h (Int.le_of_lt h2)
  have b := Int.ediv_le_self y h
  have c := hx.2
  exact Int.bmod_eq_of_le (by omega) (by omega)
theorem dq_ldiv {x y e : Int} (he : mFind (mTab mi) pc = some (pc, len, ri, .ldiv, v0, r1, r2, wi)) (hx : dR6 x) (hy : dR6 y) (h : 0 ≤ x) (h2 : 0 < y) (hv : x / y = e) (k : dQ xs Ln t fr lo mi (pc + len, L, .long (dJ e) :: S, M) z) : dQ xs Ln t fr lo mi (pc, L, .long (dJ y) :: .long (dJ x) :: S, M) z := dq_0 he (fun _ => by
  show mWhen (!decide (dJ y = 0)) (mNx (pc + len) L (.long (dJ x / dJ y) :: S) M) = _
  have n : ¬ dJ y = 0 := fun q => by
    have := congrArg Int64.toInt q
    rw [dJ_i hy] at this
    have : y = 0 := this
    omega
  rw [mWhen_t (dnt n), d_tdiv6 hx hy h h2, ← hv]
  rfl) k
noncomputable def dCmp (x y : Int) : Int := (lg_cmp (dJ x) (dJ y)).toInt
theorem dCmp_R (x y : Int) : dR (dCmp x y) := dI32_rg _
theorem dq_lcmp {x y : Int} (he : mFind (mTab mi) pc = some (pc, len, ri, .lcmp, v0, r1, r2, wi)) (hx : dR6 x) (hy : dR6 y) (k : dQ xs Ln t fr lo mi (pc + len, L, .int (dI (dCmp x y)) :: S, M) z) : dQ xs Ln t fr lo mi (pc, L, .long (dJ y) :: .long (dJ x) :: S, M) z := dq_0 he (fun _ => by unfold dCmp; rw [dI_t]; rfl) k
theorem dq_let {k : mMem → Option dZ} (h : dlt M k = some z) (hS : dS M) (H : ∀ N1, dS N1 → k N1 = some z → dQ xs Ln t fr lo mi (pc, L, S, N1) z) : dQ xs Ln t fr lo mi (pc, L, S, M) z := H M hS h
theorem ac_st : ∀ u, u < 8 → dAt 4 102 u 2 (28 + 13 * u) = true := by decide +kernel
theorem dq_aals {i : Int} {k : Nat → Option dZ} (h : dln i.toNat k = some z) (he : mFind (mTab mi) pc = some (pc, len, ri, .aaload, v0, r1, r2, wi)) (hS : dS M) (hr : dR i) (h0 : 0 ≤ i) (h1 : i < 8) (H : ∀ u : Nat, u < 8 → i = (u : Int) → k u = some z → dQ xs Ln t fr lo mi (pc + len, L, .ref (28 + 13 * u) :: S, M) z) : dQ xs Ln t fr lo mi (pc, L, .int (dI i) :: .ref 4 :: S, M) z :=
  dq_aal (n := i.toNat) (w := 28 + 13 * i.toNat) he hS hr h0 rfl (ac_st i.toNat (by omega)) rfl (H i.toNat (by omega) (by omega) h)
theorem dFitB {x : Int} (h : x = 0 ∨ x = 1) : mFit .boolean (.int (dI x)) = true := by
  rcases h with h | h <;> rw [h] <;> decide +kernel
end DQR

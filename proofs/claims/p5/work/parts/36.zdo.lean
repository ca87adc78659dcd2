/-! ===== a step of the box machine is a step ===== -/
/-- the static arrays -/
noncomputable def zSx (XN : Nat → Nat) (XF : Nat → Nat → Int32) (sX : Nat → Nat → sI) : Prop := (∀ a, 0 < a → a < 4 → XN a = 6) ∧ ∀ a j, 0 < a → a < 4 → j < 6 → ∀ ρ : List Int, zAt ρ (sX a j) = some (XF a j).toInt
section ZDO
variable {W : zW} {X : mMem → mMem → Prop} {R : zR} {T : Nat → List mE} {I : Nat → mI} {XN : Nat → Nat} {XF : Nat → Nat → Int32} {sX : Nat → Nat → sI} {xs : Bool} {Ne : mMem}
noncomputable def zGR (W : zW) (X : mMem → mMem → Prop) (c0 : Nat) (T : Nat → List mE) (I : Nat → mI) (XN : Nat → Nat) (XF : Nat → Nat → Int32) (Ne : mMem) (ρ : List Int) (x : zCfg) (y : mCfg) : Prop := x.1 = y.1 ∧ zLR ρ x.2.1 y.2.1 ∧ zSR ρ x.2.2.1 y.2.2.1 ∧ zMR W X c0 T I XN XF Ne ρ x.2.2.2 y.2.2.2
noncomputable def zWR (W : zW) (X : mMem → mMem → Prop) (c0 : Nat) (T : Nat → List mE) (I : Nat → mI) (XN : Nat → Nat) (XF : Nat → Nat → Int32) (Ne : mMem) (ρ : List Int) (w : Option sV × zM) (z : Option Value × mMem) : Prop := zOR ρ w.1 z.1 ∧ zMR W X c0 T I XN XF Ne ρ w.2 z.2
noncomputable def zRR (W : zW) (X : mMem → mMem → Prop) (c0 : Nat) (T : Nat → List mE) (I : Nat → mI) (XN : Nat → Nat) (XF : Nat → Nat → Int32) (Ne : mMem) (ρ : List Int) (r : zRes) (s : mRes) : Prop := match r, s with
  | .inl x, .inl y => zGR W X c0 T I XN XF Ne ρ x y
  | .inr w, .inr z => zWR W X c0 T I XN XF Ne ρ w z
  | _, _ => False
noncomputable def zOut (W : zW) (X : mMem → mMem → Prop) (c0 : Nat) (T : Nat → List mE) (I : Nat → mI) (XN : Nat → Nat) (XF : Nat → Nat → Int32) (Ne : mMem) (ρ : List Int) (k : zK) (md : Nat → Option mRes) : Prop := ∃ e B1 r s, zIn (ρ ++ e) B1 ∧ k B1 r = true ∧ zRR W X c0 T I XN XF Ne (ρ ++ e) r s ∧ ∃ F, ∀ f, F ≤ f → md f = some s
theorem zOut_c {c0 : Nat} {ρ : List Int} {k : zK} {md : Nat → Option mRes} {B : zB} {r : zRes} (e : List Int) (s : mRes) (hi : zIn (ρ ++ e) B) (hk : k B r = true) (hr : zRR W X c0 T I XN XF Ne (ρ ++ e) r s) (he : ∀ f, md f = some s) : zOut W X c0 T I XN XF Ne ρ k md := ⟨e, B, r, s, hi, hk, hr, 0, fun f _ => he f⟩
theorem zOut_0 {c0 : Nat} {ρ : List Int} {k : zK} {md : Nat → Option mRes} {B : zB} {r : zRes} (s : mRes) (hi : zIn ρ B) (hk : k B r = true) (hr : zRR W X c0 T I XN XF Ne ρ r s) (he : ∀ f, md f = some s) : zOut W X c0 T I XN XF Ne ρ k md := ⟨[], B, r, s, by rw [List.append_nil]; exact hi, hk, by rw [List.append_nil]; exact hr, 0, fun f _ => he f⟩
theorem zOut_e {c0 : Nat} {ρ : List Int} {k : zK} {md : Nat → Option mRes} (md2 : Nat → Option mRes) (h : ∀ f, md f = md2 f) (h2 : zOut W X c0 T I XN XF Ne ρ k md2) : zOut W X c0 T I XN XF Ne ρ k md := by
  obtain ⟨e, B1, r, s, a, b, c, F, d⟩ := h2
  exact ⟨e, B1, r, s, a, b, c, F, fun f hf => (h f).trans (d f hf)⟩
/-- what a call that isn't agreed on must keep -/
noncomputable def zHc (W : zW) (X : mMem → mMem → Prop) (c0 : Nat) (T : Nat → List mE) (I : Nat → mI) (XN : Nat → Nat) (XF : Nat → Nat → Int32) (xs : Bool) (Ne : mMem) (call : zCl) : Prop :=
  ∀ (ρ : List Int) (mi fr lo : Nat) (as : List sV) (M : zM) (B : zB) (k : zRet), call mi fr lo as M B k = true → zIn ρ B → zXs XN XF xs ρ → ∀ (bs : List Value) (K : mMem), zSR ρ as bs → zMR W X c0 T I XN XF Ne ρ M K → ∃ e B1 w z, zIn (ρ ++ e) B1 ∧ k B1 w = true ∧ zWR W X c0 T I XN XF Ne (ρ ++ e) w z ∧ mRuns T I XN XF fr lo mi (0, lv_args 0 bs, [], K) z
theorem zOR_list {ρ : List Int} {a : Option sV} {v : Option Value} (h : zOR ρ a v) : zSR ρ a.toList v.toList := by
  cases a <;> cases v
  · exact trivial
  · exact h.elim
  · exact h.elim
  · exact ⟨h, trivial⟩
theorem zAsp_inv {ρ : List Int} : ∀ (as : List zA) (S : List sV) (V : List Value) (B : zB) (k : zB → Bool), zAsp as S B k = true → zIn ρ B → zSR ρ S V → ∃ B1, zIn ρ B1 ∧ k B1 = true
  | [], S, V, B, k, h, hi, _ => ⟨B, hi, h⟩
  | a :: as, [], V, B, k, h, hi, _ => ⟨B, hi, h⟩
  | a :: as, s :: S, V, B, k, h, hi, hS => by
    obtain ⟨v, V2, rfl, h1, hS2⟩ := zSR_v hS
    cases s with
    | inr s => exact zAsp_inv as S V2 B k h hi hS2
    | inl x =>
      have h : (bif Nat.beq a.1 0 && sIEq a.2.2.1 a.2.2.2 then zCst B x (fun B1 _ => zAsp as S B1 k) else zAsp as S B k) = true := h
      rcases bif_inv h with ⟨-, h⟩ | ⟨-, h⟩
      · obtain ⟨y, -, hy⟩ := zRel_i h1
        obtain ⟨B1, hi1, h⟩ := zCst_inv h hi hy
        exact zAsp_inv as S V2 B1 k h hi1 hS2
      · exact zAsp_inv as S V2 B k h hi hS2
theorem z_call {ρ : List Int} {call : zCl} {fr lo nx mi : Nat} {L : List (Nat × sV)} {as r : List sV} {M : zM} {B : zB} {k : zK} {N : List (Nat × Value)} {bs V : List Value} {K : mMem} (hW : zWok W) (hX : zXok W X R.1) (hR : zRoom W R.2.1 Ne) (hv : ∀ mi, ∀ i ∈ zWi W mi, zVal W X T I XN XF mi i)
    (hc : zHc W X R.1 T I XN XF xs Ne call) (h : zCall I W R call fr lo nx mi L as r M B k = true) (hi : zIn ρ B) (hxs : zXs XN XF xs ρ) (hL : zLR ρ L N) (ha : zSR ρ as bs) (hr : zSR ρ r V) (hM : zMR W X R.1 T I XN XF Ne ρ M K) :
    zOut W X R.1 T I XN XF Ne ρ k (fun f => mCall I (fun mi1 fr1 lo1 as M => mExec T I XN XF f fr1 lo1 mi1 (0, lv_args 0 as, [], M)) fr lo nx mi N bs V K) := by
  unfold zCall at h
  obtain ⟨g, h⟩ := and_inv h
  have q : ∃ (e : List Int) (B1 : zB) (w : Option sV × zM) (z : Option Value × mMem), zIn (ρ ++ e) B1 ∧ k B1 (.inl (nx, L, w.1.toList ++ r, w.2)) = true ∧ zOR (ρ ++ e) w.1 z.1 ∧ zMR W X R.1 T I XN XF Ne (ρ ++ e) w.2 z.2 ∧ mRuns T I XN XF (fr - 1) (lo - (19 + (I mi).2.2.1)) mi (0, lv_args 0 bs, [], K) z := by
    cases hw : zWi W mi with
    | nil =>
      rw [hw] at h
      obtain ⟨e, B1, w, z, a1, a2, ⟨a3, a4⟩, a5⟩ := hc ρ _ _ _ _ _ _ _ h hi hxs bs K ha hM
      exact ⟨e, B1, w, z, a1, a2, a3, a4, a5⟩
    | cons i is =>
      rw [hw] at h
      obtain ⟨h1, h⟩ := and_inv (show (zFl W B M.1 && zAsp (zSa i) as B fun B0 => zAgr W R B0 M mi (fr - 1) (lo - (19 + (I mi).2.2.1)) as (fun B1 w => k B1 (.inl (nx, L, w.1.toList ++ r, w.2))) (i :: is)) = true from h)
      have hg := zFl_inv hW h1 hi hM
      obtain ⟨B0, hi0, h⟩ := zAsp_inv _ _ _ _ _ h hi ha
      obtain ⟨e, B1, w, z, a1, a2, a3, a4, a5⟩ := zAgr_inv hW hX hR hi0 ha hM hg (i :: is) (fun j hj => hv mi j (by rw [hw]; exact hj)) h
      exact ⟨e, B1, w, z, a1, a2, a3, a4, a5⟩
  obtain ⟨e, B1, w, z, a1, a2, a3, a4, F, hF⟩ := q
  refine ⟨e, B1, _, .inl (nx, N, z.1.toList ++ V, z.2), a1, a2, ⟨rfl, zLR_ext e hL, sAll_app (zOR_list a3) (zSR_ext e hr), a4⟩, F, fun f hf => ?_⟩
  show mCall I _ fr lo nx mi N bs V K = _
  unfold mCall
  rw [zCats_rel hr, zCats_rel ha, mWhen_t g]
  exact (congrArg (mBack nx N V) (hF f hf)).trans rfl
theorem zFit_rel {ρ : List Int} {B : zB} {ty : FieldType} {a : sV} {v : Value} (hi : zIn ρ B) (h : zFit B ty a = true) (ha : zRel ρ a v) : mFit ty v = true := by
  unfold zFit at h
  split at h
  · obtain ⟨y, rfl, -⟩ := zRel_i ha
    rfl
  · obtain ⟨y, rfl, hy⟩ := zRel_i ha
    obtain ⟨l, u, h1, h2, h⟩ := zRg_inv h hi hy
    obtain ⟨c1, c2⟩ := and_inv h
    have c1 := sILe_t c1
    have c2 := sILe_t c2
    have e : y = Int32.ofInt 0 ∨ y = Int32.ofInt 1 := by
      have : y.toInt = 0 ∨ y.toInt = 1 := by omega
      rcases this with e | e
      · exact .inl (i32_of e)
      · exact .inr (i32_of e)
    rcases e with rfl | rfl <;> rfl
  · obtain rfl := zRel_r ha
    rfl
  · obtain rfl := zRel_r ha
    rfl
  · cases h
theorem zIx_inv {ρ : List Int} {B : zB} {i : sI} {X : Int32} {n : Nat} (hi : zIn ρ B) (h : zIx B i n = true) (hX : zAt ρ i = some X.toInt) : mInO X n = true ∧ X.toNatClampNeg < n ∧ n ≤ 2048 ∧ (X.toNatClampNeg : Int) = X.toInt := by
  obtain ⟨h1, h⟩ := and_inv h
  obtain ⟨h2, h3⟩ := and_inv h
  have h2 := zLo_inv h2 hi hX
  have h3 := zHi_inv h3 hi hX
  have h1 := Nat.le_of_ble_eq_true h1
  have e : X.toNatClampNeg = X.toInt.toNat := rfl
  have e2 : (X.toNatClampNeg : Int) = X.toInt := by rw [e]; omega
  refine ⟨?_, by omega, h1, e2⟩
  unfold mInO
  rw [i32_neg rfl h2, show Nat.blt X.toNatClampNeg n = true from by rw [Nat.blt_eq]; omega, Nat.ble_eq.mpr h1]
  rfl
theorem i32_nz {Y : Int32} (h : Y.toInt ≠ 0) : (!decide (Y = 0)) = true := by
  have : ¬ Y = 0 := fun e => h (by rw [e]; rfl)
  rw [decide_eq_false this]
  rfl
theorem i64_nz {Y : Int64} (h : Y.toInt ≠ 0) : (!decide (Y = 0)) = true := by
  have : ¬ Y = 0 := fun e => h (by rw [e]; rfl)
  rw [decide_eq_false this]
  rfl
theorem zMR_shape {c0 : Nat} {ρ : List Int} {M : zM} {K : mMem} (h : zMR W X c0 T I XN XF Ne ρ M K) : zShape W K := by
  obtain ⟨N0, -, h, -⟩ := h
  exact h
theorem sR32_z {ρ : List Int} {v : Int} (h : sR32 v v = true) : zAt ρ (0, v) = some (Int32.ofInt v).toInt := by
  have h := sR32_inv h
  rw [show (Int32.ofInt v).toInt = v from i32_val rfl h.1 h.2]
  rfl
set_option maxHeartbeats 4000000 in
theorem z_do {ρ : List Int} {call : zCl} {fr lo nL : Nat} {rt : Option FieldType} {e : mE} {L : List (Nat × sV)} {S : List sV} {M : zM} {B : zB} {k : zK} {N : List (Nat × Value)} {V : List Value} {K : mMem} (hW : zWok W) (hX : zXok W X R.1) (hR : zRoom W R.2.1 Ne) (hv : ∀ mi, ∀ i ∈ zWi W mi, zVal W X T I XN XF mi i)
    (hsX : zSx XN XF sX) (hc : zHc W X R.1 T I XN XF xs Ne call) (hdo : zDo I W R xs sX call fr lo nL rt e L S M B k = true) (hi : zIn ρ B) (hxs : zXs XN XF xs ρ) (hL : zLR ρ L N) (hS : zSR ρ S V) (hM : zMR W X R.1 T I XN XF Ne ρ M K) :
    zOut W X R.1 T I XN XF Ne ρ k (fun f => mDo I XN XF (fun mi1 fr1 lo1 as M => mExec T I XN XF f fr1 lo1 mi1 (0, lv_args 0 as, [], M)) fr lo nL rt e N V K) := by
  obtain ⟨pc, len, ri, ni, v, r1, r2, wi⟩ := e
  have hsh := zMR_shape hM
  have e1 := hsh.1
  have nz : ∀ (z : Int32), zAt ρ (0, 0) = some (0 : Int32).toInt := fun _ => rfl
  cases ni
  case iconst n =>
    have h := hdo
    obtain ⟨g, h⟩ := and_inv h
    exact zOut_0 (.inl (pc + len, N, .int (Int32.ofInt v) :: V, K)) hi h ⟨rfl, hL, ⟨sR32_z g, hS⟩, hM⟩ (fun _ => rfl)
  case lconst n =>
    have h := hdo
    obtain ⟨g, h⟩ := and_inv h
    simp only [Bool.and_eq_true, sILe_d, decide_eq_true_eq] at g
    refine zOut_0 (.inl (pc + len, N, .long (Int64.ofInt v) :: V, K)) hi h ⟨rfl, hL, ⟨?_, hS⟩, hM⟩ (fun _ => rfl)
    show some v = some (Int64.ofInt v).toInt
    rw [Int64.toInt_ofInt_of_le (by omega) (by omega)]
  case aconst_null =>
    have h := hdo
    exact zOut_0 (.inl (pc + len, N, .null :: V, K)) hi h ⟨rfl, hL, ⟨trivial, hS⟩, hM⟩ (fun _ => rfl)
  case iload i =>
    have h := hdo
    have h : (match sLk L i with
      | some (.inl x) => k B (.inl (pc + len, L, .inl x :: S, M))
      | _ => false) = true := h
    split at h
    · next x hx =>
      obtain ⟨w, h1, h2⟩ := hL _ _ hx
      obtain ⟨y, rfl, hy⟩ := zRel_i h2
      refine zOut_0 (.inl (pc + len, N, .int y :: V, K)) hi h ⟨rfl, hL, ⟨hy, hS⟩, hM⟩ (fun _ => ?_)
      show (match mLk N i with
        | some (.int x) => mNx (pc + len) N (.int x :: V) K
        | _ => none) = _
      rw [h1]
      rfl
    · cases h
  case lload i =>
    have h := hdo
    have h : (match sLk L i with
      | some (.inr (.inl x)) => k B (.inl (pc + len, L, .inr (.inl x) :: S, M))
      | _ => false) = true := h
    split at h
    · next x hx =>
      obtain ⟨w, h1, h2⟩ := hL _ _ hx
      obtain ⟨y, rfl, hy⟩ := zRel_l h2
      refine zOut_0 (.inl (pc + len, N, .long y :: V, K)) hi h ⟨rfl, hL, ⟨hy, hS⟩, hM⟩ (fun _ => ?_)
      show (match mLk N i with
        | some (.long x) => mNx (pc + len) N (.long x :: V) K
        | _ => none) = _
      rw [h1]
      rfl
    · cases h
  case aload i =>
    have h := hdo
    have h : (match sLk L i with
      | some (.inr (.inr x)) => k B (.inl (pc + len, L, .inr (.inr x) :: S, M))
      | _ => false) = true := h
    split at h
    · next x hx =>
      obtain ⟨w, h1, h2⟩ := hL _ _ hx
      refine zOut_0 (.inl (pc + len, N, w :: V, K)) hi h ⟨rfl, hL, ⟨h2, hS⟩, hM⟩ (fun _ => ?_)
      show (match mLk N i with
        | some (.ref x) => mNx (pc + len) N (.ref x :: V) K
        | some .null => mNx (pc + len) N (.null :: V) K
        | _ => none) = _
      rw [h1]
      cases x with
      | none => obtain rfl := zRel_n h2; rfl
      | some o => obtain rfl := zRel_r h2; rfl
    · cases h
  case istore i =>
    obtain ⟨x, r, rfl, h⟩ := sI1_inv hdo
    obtain ⟨g, h⟩ := and_inv h
    obtain ⟨y, V, rfl, hy, hS⟩ := zSR_i hS
    exact zOut_0 (.inl (pc + len, mSt1 N i (.int y), V, K)) hi h ⟨rfl, zSt1_rel hL hy, hS, hM⟩ (fun _ => (mWhen_t g).trans rfl)
  case lstore i =>
    obtain ⟨x, r, rfl, h⟩ := sL1_inv hdo
    obtain ⟨g, h⟩ := and_inv h
    obtain ⟨y, V, rfl, hy, hS⟩ := zSR_l hS
    exact zOut_0 (.inl (pc + len, mSt2 N i (.long y), V, K)) hi h ⟨rfl, zSt2_rel hL hy, hS, hM⟩ (fun _ => (mWhen_t g).trans rfl)
  case astore i =>
    obtain ⟨x, r, rfl, h⟩ := sN1_inv hdo
    obtain ⟨g, h⟩ := and_inv h
    cases x with
    | none =>
      obtain ⟨V, rfl, -, hS⟩ := zSR_n hS
      exact zOut_0 (.inl (pc + len, mSt1 N i .null, V, K)) hi h ⟨rfl, zSt1_rel hL trivial, hS, hM⟩ (fun _ => (mWhen_t g).trans rfl)
    | some o =>
      obtain ⟨V, rfl, -, hS⟩ := zSR_r hS
      exact zOut_0 (.inl (pc + len, mSt1 N i (.ref o), V, K)) hi h ⟨rfl, zSt1_rel hL rfl, hS, hM⟩ (fun _ => (mWhen_t g).trans rfl)
  case iinc i n =>
    have h := hdo
    have h : (match sLk L i with
      | some (.inl x) => (Nat.blt i nL && sR32 v v) && zAdd B x (0, v) fun B1 z => k B1 (.inl (pc + len, zSt1 L i (.inl z), S, M))
      | _ => false) = true := h
    split at h
    · next x hx =>
      obtain ⟨w, h1, h2⟩ := hL _ _ hx
      obtain ⟨y, rfl, hy⟩ := zRel_i h2
      obtain ⟨g, h⟩ := and_inv h
      obtain ⟨g1, g2⟩ := and_inv g
      obtain ⟨e, B1, z, hi1, h, hz⟩ := zAdd_inv h hi hy (sR32_z g2)
      refine zOut_c e (.inl (pc + len, mSt1 N i (.int (y + Int32.ofInt v)), V, K)) hi1 h ⟨rfl, zSt1_rel (zLR_ext e hL) hz, zSR_ext e hS, zMR_ext e hM⟩ (fun _ => ?_)
      show (match mLk N i with
        | some (.int x) => mWhen (Nat.blt i nL) (mNx (pc + len) (mSt1 N i (.int (x + Int32.ofInt v))) V K)
        | _ => none) = _
      rw [h1]
      exact (mWhen_t g1).trans rfl
    · cases h
  case iadd =>
    obtain ⟨x, y, r, rfl, h⟩ := sI2_inv hdo
    obtain ⟨Y, V, rfl, hY, hS⟩ := zSR_i hS
    obtain ⟨A, V, rfl, hA, hS⟩ := zSR_i hS
    obtain ⟨e, B1, z, hi1, h, hz⟩ := zAdd_inv h hi hA hY
    exact zOut_c e (.inl (pc + len, N, .int (A + Y) :: V, K)) hi1 h ⟨rfl, zLR_ext e hL, ⟨hz, zSR_ext e hS⟩, zMR_ext e hM⟩ (fun _ => rfl)
  case isub =>
    obtain ⟨x, y, r, rfl, h⟩ := sI2_inv hdo
    obtain ⟨Y, V, rfl, hY, hS⟩ := zSR_i hS
    obtain ⟨A, V, rfl, hA, hS⟩ := zSR_i hS
    obtain ⟨e, B1, z, hi1, h, hz⟩ := zSub_inv h hi hA hY
    exact zOut_c e (.inl (pc + len, N, .int (A - Y) :: V, K)) hi1 h ⟨rfl, zLR_ext e hL, ⟨hz, zSR_ext e hS⟩, zMR_ext e hM⟩ (fun _ => rfl)
  case imul =>
    obtain ⟨x, y, r, rfl, h⟩ := sI2_inv hdo
    obtain ⟨Y, V, rfl, hY, hS⟩ := zSR_i hS
    obtain ⟨A, V, rfl, hA, hS⟩ := zSR_i hS
    obtain ⟨e, B1, z, hi1, h, hz⟩ := zMul_inv h hi hA hY
    exact zOut_c e (.inl (pc + len, N, .int (A * Y) :: V, K)) hi1 h ⟨rfl, zLR_ext e hL, ⟨hz, zSR_ext e hS⟩, zMR_ext e hM⟩ (fun _ => rfl)
  case idiv =>
    obtain ⟨x, y, r, rfl, h⟩ := sI2_inv hdo
    obtain ⟨Y, V, rfl, hY, hS⟩ := zSR_i hS
    obtain ⟨A, V, rfl, hA, hS⟩ := zSR_i hS
    obtain ⟨g, e, B1, z, hi1, h, hz⟩ := zDiv_inv h hi hA hY
    exact zOut_c e (.inl (pc + len, N, .int (A / Y) :: V, K)) hi1 h ⟨rfl, zLR_ext e hL, ⟨hz, zSR_ext e hS⟩, zMR_ext e hM⟩ (fun _ => (mWhen_t (i32_nz g)).trans rfl)
  case irem =>
    obtain ⟨x, y, r, rfl, h⟩ := sI2_inv hdo
    obtain ⟨Y, V, rfl, hY, hS⟩ := zSR_i hS
    obtain ⟨A, V, rfl, hA, hS⟩ := zSR_i hS
    obtain ⟨g, e, B1, z, hi1, h, hz⟩ := zRem_inv h hi hA hY
    exact zOut_c e (.inl (pc + len, N, .int (A - A / Y * Y) :: V, K)) hi1 h ⟨rfl, zLR_ext e hL, ⟨hz, zSR_ext e hS⟩, zMR_ext e hM⟩ (fun _ => (mWhen_t (i32_nz g)).trans rfl)
  case iand =>
    obtain ⟨x, y, r, rfl, h⟩ := sI2_inv hdo
    obtain ⟨Y, V, rfl, hY, hS⟩ := zSR_i hS
    obtain ⟨A, V, rfl, hA, hS⟩ := zSR_i hS
    obtain ⟨e, B1, z, hi1, h, hz⟩ := zAnd_inv h hi hA hY
    exact zOut_c e (.inl (pc + len, N, .int (A &&& Y) :: V, K)) hi1 h ⟨rfl, zLR_ext e hL, ⟨hz, zSR_ext e hS⟩, zMR_ext e hM⟩ (fun _ => rfl)
  case ior =>
    obtain ⟨x, y, r, rfl, h⟩ := sI2_inv hdo
    obtain ⟨Y, V, rfl, hY, hS⟩ := zSR_i hS
    obtain ⟨A, V, rfl, hA, hS⟩ := zSR_i hS
    obtain ⟨e, B1, z, hi1, h, hz⟩ := zF32_inv (A ||| Y) h hi
    exact zOut_c e (.inl (pc + len, N, .int (A ||| Y) :: V, K)) hi1 h ⟨rfl, zLR_ext e hL, ⟨hz, zSR_ext e hS⟩, zMR_ext e hM⟩ (fun _ => rfl)
  case ixor =>
    obtain ⟨x, y, r, rfl, h⟩ := sI2_inv hdo
    obtain ⟨Y, V, rfl, hY, hS⟩ := zSR_i hS
    obtain ⟨A, V, rfl, hA, hS⟩ := zSR_i hS
    obtain ⟨e, B1, z, hi1, h, hz⟩ := zF32_inv (A ^^^ Y) h hi
    exact zOut_c e (.inl (pc + len, N, .int (A ^^^ Y) :: V, K)) hi1 h ⟨rfl, zLR_ext e hL, ⟨hz, zSR_ext e hS⟩, zMR_ext e hM⟩ (fun _ => rfl)
  case ishl =>
    obtain ⟨x, y, r, rfl, h⟩ := sI2_inv hdo
    obtain ⟨Y, V, rfl, hY, hS⟩ := zSR_i hS
    obtain ⟨A, V, rfl, hA, hS⟩ := zSR_i hS
    obtain ⟨e, B1, z, hi1, h, hz⟩ := zF32_inv (A <<< (Y &&& 31)) h hi
    exact zOut_c e (.inl (pc + len, N, .int (A <<< (Y &&& 31)) :: V, K)) hi1 h ⟨rfl, zLR_ext e hL, ⟨hz, zSR_ext e hS⟩, zMR_ext e hM⟩ (fun _ => rfl)
  case ishr =>
    obtain ⟨x, y, r, rfl, h⟩ := sI2_inv hdo
    obtain ⟨Y, V, rfl, hY, hS⟩ := zSR_i hS
    obtain ⟨A, V, rfl, hA, hS⟩ := zSR_i hS
    obtain ⟨e, B1, z, hi1, h, hz⟩ := zF32_inv (A >>> (Y &&& 31)) h hi
    exact zOut_c e (.inl (pc + len, N, .int (A >>> (Y &&& 31)) :: V, K)) hi1 h ⟨rfl, zLR_ext e hL, ⟨hz, zSR_ext e hS⟩, zMR_ext e hM⟩ (fun _ => rfl)
  case iushr =>
    obtain ⟨x, y, r, rfl, h⟩ := sI2_inv hdo
    obtain ⟨Y, V, rfl, hY, hS⟩ := zSR_i hS
    obtain ⟨A, V, rfl, hA, hS⟩ := zSR_i hS
    obtain ⟨e, B1, z, hi1, h, hz⟩ := zUsh_inv (X := A) h hi hY
    exact zOut_c e (.inl (pc + len, N, .int ((A.toUInt32 >>> (Y.toUInt32 &&& Int32.toUInt32 31)).toInt32) :: V, K)) hi1 h ⟨rfl, zLR_ext e hL, ⟨hz, zSR_ext e hS⟩, zMR_ext e hM⟩ (fun _ => rfl)
  case ladd =>
    obtain ⟨x, y, r, rfl, h⟩ := sL2_inv hdo
    obtain ⟨Y, V, rfl, hY, hS⟩ := zSR_l hS
    obtain ⟨A, V, rfl, hA, hS⟩ := zSR_l hS
    obtain ⟨e, B1, z, hi1, h, hz⟩ := zF64_inv (A + Y) h hi
    exact zOut_c e (.inl (pc + len, N, .long (A + Y) :: V, K)) hi1 h ⟨rfl, zLR_ext e hL, ⟨hz, zSR_ext e hS⟩, zMR_ext e hM⟩ (fun _ => rfl)
  case lmul =>
    obtain ⟨x, y, r, rfl, h⟩ := sL2_inv hdo
    obtain ⟨Y, V, rfl, hY, hS⟩ := zSR_l hS
    obtain ⟨A, V, rfl, hA, hS⟩ := zSR_l hS
    obtain ⟨e, B1, z, hi1, h, hz⟩ := zF64_inv (A * Y) h hi
    exact zOut_c e (.inl (pc + len, N, .long (A * Y) :: V, K)) hi1 h ⟨rfl, zLR_ext e hL, ⟨hz, zSR_ext e hS⟩, zMR_ext e hM⟩ (fun _ => rfl)
  case ldiv =>
    obtain ⟨x, y, r, rfl, h⟩ := sL2_inv hdo
    obtain ⟨Y, V, rfl, hY, hS⟩ := zSR_l hS
    obtain ⟨A, V, rfl, hA, hS⟩ := zSR_l hS
    obtain ⟨g, B0, hi0, h⟩ := zNz_inv h hi hY
    obtain ⟨e, B1, z, hi1, h, hz⟩ := zF64_inv (A / Y) h hi0
    exact zOut_c e (.inl (pc + len, N, .long (A / Y) :: V, K)) hi1 h ⟨rfl, zLR_ext e hL, ⟨hz, zSR_ext e hS⟩, zMR_ext e hM⟩ (fun _ => (mWhen_t (i64_nz g)).trans rfl)
  case land =>
    obtain ⟨x, y, r, rfl, h⟩ := sL2_inv hdo
    obtain ⟨Y, V, rfl, hY, hS⟩ := zSR_l hS
    obtain ⟨A, V, rfl, hA, hS⟩ := zSR_l hS
    obtain ⟨e, B1, z, hi1, h, hz⟩ := zF64_inv (A &&& Y) h hi
    exact zOut_c e (.inl (pc + len, N, .long (A &&& Y) :: V, K)) hi1 h ⟨rfl, zLR_ext e hL, ⟨hz, zSR_ext e hS⟩, zMR_ext e hM⟩ (fun _ => rfl)
  case lor =>
    obtain ⟨x, y, r, rfl, h⟩ := sL2_inv hdo
    obtain ⟨Y, V, rfl, hY, hS⟩ := zSR_l hS
    obtain ⟨A, V, rfl, hA, hS⟩ := zSR_l hS
    obtain ⟨e, B1, z, hi1, h, hz⟩ := zF64_inv (A ||| Y) h hi
    exact zOut_c e (.inl (pc + len, N, .long (A ||| Y) :: V, K)) hi1 h ⟨rfl, zLR_ext e hL, ⟨hz, zSR_ext e hS⟩, zMR_ext e hM⟩ (fun _ => rfl)
  case lshl =>
    obtain ⟨x, y, r, rfl, h⟩ := sLI_inv hdo
    obtain ⟨Y, V, rfl, hY, hS⟩ := zSR_i hS
    obtain ⟨A, V, rfl, hA, hS⟩ := zSR_l hS
    obtain ⟨e, B1, z, hi1, h, hz⟩ := zF64_inv (A <<< (Y.toInt64 &&& 63)) h hi
    exact zOut_c e (.inl (pc + len, N, .long (A <<< (Y.toInt64 &&& 63)) :: V, K)) hi1 h ⟨rfl, zLR_ext e hL, ⟨hz, zSR_ext e hS⟩, zMR_ext e hM⟩ (fun _ => rfl)
  case lcmp =>
    obtain ⟨x, y, r, rfl, h⟩ := sL2_inv hdo
    obtain ⟨Y, V, rfl, hY, hS⟩ := zSR_l hS
    obtain ⟨A, V, rfl, hA, hS⟩ := zSR_l hS
    have ec := lg_cmp_i (X := A) (Y := Y) rfl rfl
    obtain ⟨B1, hi1, h⟩ := zLt_inv h hi hY hA
    rcases bif_inv h with ⟨c, h⟩ | ⟨c, h⟩
    · rw [if_pos (of_decide_eq_true c)] at ec
      refine zOut_0 (.inl (pc + len, N, .int (lg_cmp A Y) :: V, K)) hi1 h ⟨rfl, hL, ⟨?_, hS⟩, hM⟩ (fun _ => rfl)
      show some (1 : Int) = some (lg_cmp A Y).toInt
      rw [ec]
      rfl
    · rw [if_neg (of_decide_eq_false c)] at ec
      obtain ⟨B2, hi2, h⟩ := zEq_inv h hi1 hA hY
      refine zOut_0 (.inl (pc + len, N, .int (lg_cmp A Y) :: V, K)) hi2 h ⟨rfl, hL, ⟨?_, hS⟩, hM⟩ (fun _ => rfl)
      show some (bif decide (A.toInt = Y.toInt) then (0 : Int) else -1) = some (lg_cmp A Y).toInt
      rw [ec]
      by_cases d : A.toInt = Y.toInt
      · rw [if_pos d, decide_eq_true d]; rfl
      · rw [if_neg d, decide_eq_false d]; rfl
  case i2l =>
    obtain ⟨x, r, rfl, h⟩ := sI1_inv hdo
    obtain ⟨A, V, rfl, hA, hS⟩ := zSR_i hS
    refine zOut_0 (.inl (pc + len, N, .long A.toInt64 :: V, K)) hi h ⟨rfl, hL, ⟨?_, hS⟩, hM⟩ (fun _ => rfl)
    show zAt ρ x = some A.toInt64.toInt
    rw [Int32.toInt_toInt64]
    exact hA
  case l2i =>
    obtain ⟨x, r, rfl, h⟩ := sL1_inv hdo
    obtain ⟨A, V, rfl, hA, hS⟩ := zSR_l hS
    obtain ⟨l, u, a1, a2, h⟩ := zRg_inv h hi hA
    rcases bif_inv h with ⟨g, h⟩ | ⟨-, h⟩
    · have g := sR32_inv g
      refine zOut_0 (.inl (pc + len, N, .int A.toInt32 :: V, K)) hi h ⟨rfl, hL, ⟨?_, hS⟩, hM⟩ (fun _ => rfl)
      show zAt ρ x = some A.toInt32.toInt
      rw [show A.toInt32.toInt = A.toInt from ?_]
      · exact hA
      · have e : A.toInt32 = Int32.ofInt A.toInt := by
          rw [i64_of (show A.toInt = A.toInt from rfl), Int64.toInt32_ofInt, Int64.ofInt_toInt]
        exact i32_val e (by omega) (by omega)
    · obtain ⟨e, B1, z, hi1, h, hz⟩ := zF32_inv A.toInt32 h hi
      exact zOut_c e (.inl (pc + len, N, .int A.toInt32 :: V, K)) hi1 h ⟨rfl, zLR_ext e hL, ⟨hz, zSR_ext e hS⟩, zMR_ext e hM⟩ (fun _ => rfl)
  case dup =>
    obtain ⟨a, r, rfl, h⟩ := sV1_inv hdo
    obtain ⟨w, V, rfl, hw, hS⟩ := zSR_v hS
    obtain ⟨g, h⟩ := and_inv h
    exact zOut_0 (.inl (pc + len, N, w :: w :: V, K)) hi h ⟨rfl, hL, ⟨hw, hw, hS⟩, hM⟩ (fun _ => (mWhen_t (by rw [zCat_rel hw]; exact g)).trans rfl)
  case dup2 =>
    obtain ⟨a, b, r, rfl, h⟩ := sV2_inv hdo
    obtain ⟨w, V, rfl, hw, hS⟩ := zSR_v hS
    obtain ⟨u, V, rfl, hu, hS⟩ := zSR_v hS
    obtain ⟨g, h⟩ := and_inv h
    exact zOut_0 (.inl (pc + len, N, w :: u :: w :: u :: V, K)) hi h ⟨rfl, hL, ⟨hw, hu, hw, hu, hS⟩, hM⟩ (fun _ => (mWhen_t (by rw [zCat_rel hw, zCat_rel hu]; exact g)).trans rfl)
  case pop =>
    obtain ⟨a, r, rfl, h⟩ := sV1_inv hdo
    obtain ⟨w, V, rfl, hw, hS⟩ := zSR_v hS
    obtain ⟨g, h⟩ := and_inv h
    exact zOut_0 (.inl (pc + len, N, V, K)) hi h ⟨rfl, hL, hS, hM⟩ (fun _ => (mWhen_t (by rw [zCat_rel hw]; exact g)).trans rfl)
  case pop2 =>
    obtain ⟨a, r, rfl, h⟩ := sV1_inv hdo
    obtain ⟨w, V, rfl, hw, hS⟩ := zSR_v hS
    obtain ⟨g, h⟩ := and_inv h
    exact zOut_0 (.inl (pc + len, N, V, K)) hi h ⟨rfl, hL, hS, hM⟩ (fun _ => (mWhen_t (by rw [zCat_rel hw]; exact g)).trans rfl)
  case ifCond c off =>
    obtain ⟨x, r, rfl, h⟩ := sI1_inv hdo
    obtain ⟨A, V, rfl, hA, hS⟩ := zSR_i hS
    obtain ⟨B1, hi1, h⟩ := zCond_inv (Y := 0) h hi hA rfl
    exact zOut_0 (.inl (bif mIf c A 0 then r1 else pc + len, N, V, K)) hi1 h ⟨rfl, hL, hS, hM⟩ (fun _ => rfl)
  case if_icmp c off =>
    obtain ⟨x, y, r, rfl, h⟩ := sI2_inv hdo
    obtain ⟨Y, V, rfl, hY, hS⟩ := zSR_i hS
    obtain ⟨A, V, rfl, hA, hS⟩ := zSR_i hS
    obtain ⟨B1, hi1, h⟩ := zCond_inv h hi hA hY
    exact zOut_0 (.inl (bif mIf c A Y then r1 else pc + len, N, V, K)) hi1 h ⟨rfl, hL, hS, hM⟩ (fun _ => rfl)
  case goto off =>
    have h := hdo
    exact zOut_0 (.inl (r1, N, V, K)) hi h ⟨rfl, hL, hS, hM⟩ (fun _ => rfl)
  case ifnull off =>
    obtain ⟨x, r, rfl, h⟩ := sN1_inv hdo
    cases x with
    | none =>
      obtain ⟨V, rfl, -, hS⟩ := zSR_n hS
      exact zOut_0 (.inl (r1, N, V, K)) hi h ⟨rfl, hL, hS, hM⟩ (fun _ => rfl)
    | some o =>
      obtain ⟨V, rfl, -, hS⟩ := zSR_r hS
      exact zOut_0 (.inl (pc + len, N, V, K)) hi h ⟨rfl, hL, hS, hM⟩ (fun _ => rfl)
  case ifnonnull off =>
    obtain ⟨x, r, rfl, h⟩ := sN1_inv hdo
    cases x with
    | none =>
      obtain ⟨V, rfl, -, hS⟩ := zSR_n hS
      exact zOut_0 (.inl (pc + len, N, V, K)) hi h ⟨rfl, hL, hS, hM⟩ (fun _ => rfl)
    | some o =>
      obtain ⟨V, rfl, -, hS⟩ := zSR_r hS
      exact zOut_0 (.inl (r1, N, V, K)) hi h ⟨rfl, hL, hS, hM⟩ (fun _ => rfl)
  case tableswitch d tl th offs =>
    obtain ⟨x, r, rfl, h⟩ := sI1_inv hdo
    obtain ⟨A, V, rfl, hA, hS⟩ := zSR_i hS
    obtain ⟨B1, hi1, h⟩ := zLt_inv h hi hA (zAt_0 ρ tl)
    have md : ∀ f, mDo I XN XF (fun mi1 fr1 lo1 as M => mExec T I XN XF f fr1 lo1 mi1 (0, lv_args 0 as, [], M)) fr lo nL rt (pc, len, ri, .tableswitch d tl th offs, v, r1, r2, wi) N (.int A :: V) K = bif decide (A.toInt < tl) || decide (th < A.toInt) then mNx r1 N V K else match offs[(A.toInt - tl).toNat]? with
      | some off => mWhen (decide (0 ≤ (pc : Int) + off)) (mNx ((pc : Int) + off).toNat N V K)
      | none => none := fun f => rfl
    rcases bif_inv h with ⟨c, h⟩ | ⟨c, h⟩
    · exact zOut_0 (.inl (r1, N, V, K)) hi1 h ⟨rfl, hL, hS, hM⟩ (fun f => by rw [md f, c]; rfl)
    · obtain ⟨B2, hi2, h⟩ := zLt_inv h hi1 (zAt_0 ρ th) hA
      rcases bif_inv h with ⟨c2, h⟩ | ⟨c2, h⟩
      · exact zOut_0 (.inl (r1, N, V, K)) hi2 h ⟨rfl, hL, hS, hM⟩ (fun f => by rw [md f, c, c2]; rfl)
      · obtain ⟨B3, hi3, h⟩ := zCst_inv h hi2 hA
        split at h
        · next off ho =>
          obtain ⟨g, h⟩ := and_inv h
          exact zOut_0 (.inl (((pc : Int) + off).toNat, N, V, K)) hi3 h ⟨rfl, hL, hS, hM⟩ (fun f => by rw [md f, c, c2, ho]; exact (mWhen_t g).trans rfl)
        · cases h
  case getfield i =>
    obtain ⟨o, r, rfl, h⟩ := sR1_inv hdo
    obtain ⟨V, rfl, -, hS⟩ := zSR_r hS
    obtain ⟨g, h⟩ := and_inv h
    obtain ⟨g1, g⟩ := and_inv g
    obtain ⟨g2, g⟩ := and_inv g
    obtain ⟨g3, g4⟩ := and_inv g
    have lo1 := blt_lt g1
    have lk := blt_lt g4
    obtain ⟨s1, s2, -⟩ := hsh.2 o lo1
    obtain ⟨e, B1, M1, w, hi1, h, hM1, hw⟩ := zRead_inv hW h hi (by omega) hM hR
    rw [mAtk_key K lk] at hw
    refine zOut_c e (.inl (pc + len, N, mSlot (mObj K o) r2 :: V, K)) hi1 h ⟨rfl, zLR_ext e hL, ⟨hw, zSR_ext e hS⟩, hM1⟩ (fun _ => (mWhen_t ?_).trans rfl)
    rw [e1, s1, s2, g1, g2, g3]
    rfl
  case putfield i =>
    obtain ⟨a, o, r, rfl, h⟩ := sVR_inv hdo
    obtain ⟨w, V, rfl, hw, hS⟩ := zSR_v hS
    obtain ⟨V, rfl, -, hS⟩ := zSR_r hS
    obtain ⟨g, h⟩ := and_inv h
    obtain ⟨g, gf⟩ := and_inv g
    obtain ⟨g1, g⟩ := and_inv g
    obtain ⟨g2, g⟩ := and_inv g
    obtain ⟨g3, g⟩ := and_inv g
    obtain ⟨g4, g5⟩ := and_inv g
    have lo1 := blt_lt g1
    have lk := blt_lt g3
    have l4 := Nat.le_of_ble_eq_true g4
    obtain ⟨s1, s2, -⟩ := hsh.2 o lo1
    have hty : (zWo W o).1 = 100 ∨ (zWo W o).1 < 100 := .inr (by rw [Nat.eq_of_beq_eq_true g2]; exact blt_lt g5)
    obtain ⟨M1, h, hM1⟩ := zWrite_inv hW hX h lo1 (by omega) hty hw hM
    refine zOut_0 (.inl (pc + len, N, V, mPut K o (mCset (mObj K o) r2 w))) hi h ⟨rfl, hL, hS, hM1⟩ (fun _ => (mWhen_t ?_).trans rfl)
    rw [e1, s1, s2, g1, g2, g3, g4, zFit_rel hi gf hw]
    rfl
  case getstatic i =>
    have h := hdo
    exact zOut_0 (.inl (pc + len, N, .ref (1000000 + r1) :: V, K)) hi h ⟨rfl, hL, ⟨rfl, hS⟩, hM⟩ (fun _ => rfl)
  case iaload =>
    obtain ⟨o, i, r, rfl, h⟩ := sRI_inv hdo
    obtain ⟨A, V, rfl, hA, hS⟩ := zSR_i hS
    obtain ⟨V, rfl, -, hS⟩ := zSR_r hS
    rcases bif_inv h with ⟨c, h⟩ | ⟨c, h⟩
    · obtain ⟨g, h⟩ := and_inv h
      obtain ⟨g1, g⟩ := and_inv g
      obtain ⟨g2, g3⟩ := and_inv g
      have lo1 := blt_lt g1
      have k1 := Nat.eq_of_beq_eq_true g2
      obtain ⟨s1, s2, s3⟩ := hsh.2 o lo1
      obtain ⟨i1, i2, i3, i4⟩ := zIx_inv hi g3 hA
      obtain ⟨y, hy⟩ := s3 k1 A.toNatClampNeg i2 (by omega)
      have md : ∀ f, mDo I XN XF (fun mi1 fr1 lo1 as M => mExec T I XN XF f fr1 lo1 mi1 (0, lv_args 0 as, [], M)) fr lo nL rt (pc, len, ri, .iaload, v, r1, r2, wi) N (.int A :: .ref o :: V) K = some (.inl (pc + len, N, .int y :: V, K)) := fun f => by
        show (bif Nat.blt o 1000000 then mWhen (Nat.blt o K.1 && (Nat.beq (mObj K o).1 100 && mInO A (mObj K o).2.1)) (mNx (pc + len) N (.int (mIof (mSlot (mObj K o) A.toNatClampNeg)) :: V) K) else _) = _
        rw [c, cond_true, mWhen_t (by rw [e1, s1, s2, g1, g2, i1]; rfl), hy]
        rfl
      obtain ⟨l, u, a1, a2, h⟩ := zRg_inv h hi hA
      rcases bif_inv h with ⟨cw, h⟩ | ⟨cw, h⟩
      · have fresh : (zF32 B fun B1 x => k B1 (.inl (pc + len, L, .inl x :: r, M))) = true → zOut W X R.1 T I XN XF Ne ρ k (fun f => mDo I XN XF (fun mi1 fr1 lo1 as M => mExec T I XN XF f fr1 lo1 mi1 (0, lv_args 0 as, [], M)) fr lo nL rt (pc, len, ri, .iaload, v, r1, r2, wi) N (.int A :: .ref o :: V) K) := fun h => by
          obtain ⟨e, B1, z, hi1, h, hz⟩ := zF32_inv y h hi
          exact zOut_c e (.inl (pc + len, N, .int y :: V, K)) hi1 h ⟨rfl, zLR_ext e hL, ⟨hz, zSR_ext e hS⟩, zMR_ext e hM⟩ md
        rcases bif_inv h with ⟨cc, h⟩ | ⟨-, h⟩
        · rw [sIEq_d] at cc
          have cc := of_decide_eq_true cc
          have ek : l.toNat = A.toNatClampNeg := by omega
          rw [ek] at h
          have hyk : mAtk K (o * 2048 + A.toNatClampNeg) = .int y := (mAtk_key K (by omega)).trans hy
          split at h
          · next x d hx =>
            obtain ⟨N0, b1, b2, b3, b4, b5⟩ := hM
            obtain ⟨-, d2, -⟩ := b3.2 _ _ _ hx
            rw [hyk] at d2
            exact zOut_0 (.inl (pc + len, N, .int y :: V, K)) hi h ⟨rfl, hL, ⟨d2, hS⟩, ⟨N0, b1, b2, b3, b4, b5⟩⟩ md
          · cases h
          · next hn =>
            obtain ⟨e, B1, z, hi1, h, hz⟩ := zF32_inv y h hi
            obtain ⟨N0, b1, b2, b3, b4, b5⟩ := zMR_ext e hM
            exact zOut_c e (.inl (pc + len, N, .int y :: V, K)) hi1 h ⟨rfl, zLR_ext e hL, ⟨hz, zSR_ext e hS⟩, ⟨N0, b1, b2, zOv_push b3 hn (by omega) (by rw [hyk]; exact hz), b4, b5⟩⟩ md
        · exact fresh h
      rcases bif_inv h with ⟨-, h⟩ | ⟨-, h⟩
      · obtain ⟨e, B1, z, hi1, h, hz⟩ := zF32_inv y h hi
        exact zOut_c e (.inl (pc + len, N, .int y :: V, K)) hi1 h ⟨rfl, zLR_ext e hL, ⟨hz, zSR_ext e hS⟩, zMR_ext e hM⟩ md
      · obtain ⟨B1, hi1, h⟩ := zCst_inv h hi hA
        have ek : A.toInt.toNat = A.toNatClampNeg := rfl
        rw [ek] at h
        obtain ⟨e, B2, M1, w, hi2, h, hM1, hw⟩ := zRead_inv hW h hi1 (by omega) hM hR
        rw [mAtk_key K (by omega), hy] at hw
        split at h
        · next x => exact zOut_c e (.inl (pc + len, N, .int y :: V, K)) hi2 h ⟨rfl, zLR_ext e hL, ⟨hw, zSR_ext e hS⟩, hM1⟩ md
        · cases h
    · rcases bif_inv h with ⟨c0, h⟩ | ⟨c0, h⟩
      · obtain ⟨g0, h⟩ := and_inv h
        obtain ⟨g1, h⟩ := and_inv h
        obtain ⟨g2, h⟩ := and_inv h
        obtain ⟨g3, h9⟩ := and_inv h
        have hS9 := hS
        have c0 := Nat.eq_of_beq_eq_true c0
        have g1 := Nat.eq_of_beq_eq_true g1
        have g2 := sILe_t g2
        have g3 := sILe_t g3
        subst c0
        obtain ⟨j, x1, x2, x3⟩ := hxs g0
        have hA2 := zAt_c 0 (show zAt ρ (i.1, i.2) = some A.toInt from hA)
        rw [g1, x1] at hA2
        have hA2 := Option.some.inj hA2
        have eA : A.toNatClampNeg = j + i.2.toNat := by
          show A.toInt.toNat = _
          omega
        have x4 := x3 i.2.toNat (by omega)
        refine zOut_0 (.inl (pc + len, N, .int (XF 0 A.toNatClampNeg) :: V, K)) hi h9 ⟨rfl, hL, ⟨by rw [eA]; exact x4, hS9⟩, hM⟩ (fun _ => ?_)
        show mWhen (Nat.blt (1000000 - 1000000) 4 && mInB A (XN (1000000 - 1000000))) (mNx (pc + len) N (.int (XF (1000000 - 1000000) A.toNatClampNeg) :: V) K) = _
        rw [mWhen_t]
        · rfl
        · unfold mInB
          rw [i32_neg rfl (by omega), show Nat.blt A.toNatClampNeg (XN (1000000 - 1000000)) = true from by rw [Nat.blt_eq, eA]; show _ < XN 0; omega]
          rfl
      · obtain ⟨B1, hi1, h⟩ := zCst_inv h hi hA
        obtain ⟨g, h⟩ := and_inv h
        obtain ⟨g1, g⟩ := and_inv g
        obtain ⟨g2, g3⟩ := and_inv g
        have l1 := blt_lt g1
        have hlo : ¬ o < 1000000 := fun h => by
          rw [show Nat.blt o 1000000 = true from by rw [Nat.blt_eq]; exact h] at c
          cases c
        have h0 : 0 < o - 1000000 := by
          have : o ≠ 1000000 := fun e => by rw [e, Nat.beq_refl] at c0; cases c0
          omega
        refine zOut_0 (.inl (pc + len, N, .int (XF (o - 1000000) A.toNatClampNeg) :: V, K)) hi1 h ⟨rfl, hL, ⟨?_, hS⟩, hM⟩ (fun _ => ?_)
        · exact hsX.2 _ _ h0 l1 (blt_lt g3) ρ
        · show (bif Nat.blt o 1000000 then _ else mWhen (Nat.blt (o - 1000000) 4 && mInB A (XN (o - 1000000))) (mNx (pc + len) N (.int (XF (o - 1000000) A.toNatClampNeg) :: V) K)) = _
          rw [c, cond_false, mWhen_t]
          · rfl
          · unfold mInB
            rw [g1, i32_neg rfl (sILe_t g2), show Nat.blt A.toNatClampNeg (XN (o - 1000000)) = true from by rw [hsX.1 _ h0 l1]; exact g3]
            rfl
  case iastore =>
    obtain ⟨o, i, a0, r, rfl, h⟩ := sRIV_inv hdo
    obtain ⟨w, V, rfl, hw, hS⟩ := zSR_v hS
    obtain ⟨A, V, rfl, hA, hS⟩ := zSR_i hS
    obtain ⟨V, rfl, -, hS⟩ := zSR_r hS
    have hS9 := hS
    cases a0 with
    | inr a0 => exact no_inv h
    | inl x =>
      obtain ⟨y, rfl, hy⟩ := zRel_i hw
      obtain ⟨g, h⟩ := and_inv (show (_ && _) = true from h)
      obtain ⟨g1, g⟩ := and_inv g
      obtain ⟨g2, g3⟩ := and_inv g
      have lo1 := blt_lt g1
      have k1 := Nat.eq_of_beq_eq_true g2
      obtain ⟨s1, s2, s3⟩ := hsh.2 o lo1
      obtain ⟨i1, i2, i3, i4⟩ := zIx_inv hi g3 hA
      have md : ∀ f, mDo I XN XF (fun mi1 fr1 lo1 as M => mExec T I XN XF f fr1 lo1 mi1 (0, lv_args 0 as, [], M)) fr lo nL rt (pc, len, ri, .iastore, v, r1, r2, wi) N (.int y :: .int A :: .ref o :: V) K = some (.inl (pc + len, N, V, mPut K o (mCset (mObj K o) A.toNatClampNeg (.int y)))) := fun f => by
        refine (mWhen_t ?_).trans rfl
        rw [e1, s1, s2, g1, g2, i1]
        rfl
      rcases bif_inv h with ⟨cw, h⟩ | ⟨cw, h⟩
      · obtain ⟨n1, h⟩ := and_inv h
        have n1 : R.1 ≠ 1 := fun e => by rw [e, Nat.beq_refl] at n1; cases n1
        refine zOut_0 (.inl (pc + len, N, V, mPut K o (mCset (mObj K o) A.toNatClampNeg (.int y)))) hi h ⟨rfl, hL, hS9, zWeak_inv hW hX lo1 cw n1 rfl rfl (fun j j1 j2 => ?_) hM⟩ md
        rw [mSlot_set (by omega) j2]
        by_cases e : A.toNatClampNeg = j
        · rw [if_pos e]; exact ⟨y, rfl⟩
        · rw [if_neg e]; exact s3 k1 j j1 j2
      · obtain ⟨B1, hi1, h⟩ := zCst_inv h hi hA
        obtain ⟨M1, h, hM1⟩ := zWrite_inv (v := .int y) hW hX h lo1 (show A.toInt.toNat < 2048 from by show A.toNatClampNeg < 2048; omega) (.inl k1) hw hM
        exact zOut_0 (.inl (pc + len, N, V, mPut K o (mCset (mObj K o) A.toNatClampNeg (.int y)))) hi1 h ⟨rfl, hL, hS9, hM1⟩ md
  case aaload =>
    obtain ⟨o, i, r, rfl, h⟩ := sRI_inv hdo
    obtain ⟨A, V, rfl, hA, hS⟩ := zSR_i hS
    obtain ⟨V, rfl, -, hS⟩ := zSR_r hS
    obtain ⟨g, h⟩ := and_inv h
    obtain ⟨g1, g⟩ := and_inv g
    obtain ⟨g2, g3⟩ := and_inv g
    have lo1 := blt_lt g1
    obtain ⟨s1, s2, s3⟩ := hsh.2 o lo1
    obtain ⟨i1, i2, i3, i4⟩ := zIx_inv hi g3 hA
    obtain ⟨B1, hi1, h⟩ := zCst_inv h hi hA
    obtain ⟨e, B2, M1, w, hi2, h, hM1, hw⟩ := zRead_inv hW h hi1 (show o * 2048 + A.toInt.toNat < 2097152 from by show o * 2048 + A.toNatClampNeg < _; omega) hM hR
    rw [mAtk_key K (show A.toInt.toNat < 2048 from by show A.toNatClampNeg < 2048; omega)] at hw
    split at h
    · next x =>
      have hq : mRv (mSlot (mObj K o) A.toNatClampNeg) = mSlot (mObj K o) A.toNatClampNeg := by
        cases x with
        | none =>
          have hw := zRel_n hw
          have hw : mSlot (mObj K o) A.toNatClampNeg = .null := hw
          rw [hw]; rfl
        | some u =>
          have hw := zRel_r hw
          have hw : mSlot (mObj K o) A.toNatClampNeg = .ref u := hw
          rw [hw]; rfl
      refine zOut_c e (.inl (pc + len, N, mSlot (mObj K o) A.toNatClampNeg :: V, K)) hi2 h ⟨rfl, zLR_ext e hL, ⟨hw, zSR_ext e hS⟩, hM1⟩ (fun _ => ?_)
      refine (mWhen_t ?_).trans ?_
      · rw [e1, s1, s2, g1, g2, i1]
        rfl
      · rw [hq]
        rfl
    · cases h
  case invokevirtual i =>
    have h := hdo
    obtain ⟨g, h⟩ := and_inv h
    have hlen := sAll_len hS
    have ha := sAll_rev (sAll_take (I r1).2.2.2.2.2.1 hS)
    have hr := sAll_drop (I r1).2.2.2.2.2.1 hS
    dsimp only at h
    split at h
    · next o as hq =>
      rw [hq] at ha
      obtain ⟨W2, hW2, -, ha2⟩ := zSR_r ha
      obtain ⟨g1, h⟩ := and_inv h
      obtain ⟨g1, g2⟩ := and_inv g1
      have lo1 := blt_lt g1
      obtain ⟨s1, s2, s3⟩ := hsh.2 o lo1
      rw [hq] at h
      refine zOut_e (fun f => mCall I (fun mi1 fr1 lo1 as M => mExec T I XN XF f fr1 lo1 mi1 (0, lv_args 0 as, [], M)) fr lo (pc + len) r1 N (.ref o :: W2) (V.drop (I r1).2.2.2.2.2.1) K) (fun f => ?_) (z_call hW hX hR hv hc h hi hxs hL (by rw [hW2] at ha; exact ha) hr hM)
      show (mPop V (I r1).2.2.2.2.2.1 fun as r => match as with
        | .ref o :: _ => mWhen (Nat.blt o K.1 && Nat.beq (mObj K o).1 r2) (mCall I _ fr lo (pc + len) r1 N as r K)
        | _ => none) = _
      rw [mPop_t (by rw [hlen]; exact g), hW2]
      exact mWhen_t (by rw [e1, s1, g1, g2]; rfl)
    · cases h
  case invokespecial i =>
    have h := hdo
    rcases bif_inv h with ⟨c, h⟩ | ⟨c, h⟩
    · obtain ⟨o, r, rfl, h2⟩ := sR1_inv h
      obtain ⟨V, rfl, -, hS⟩ := zSR_r hS
      obtain ⟨g, h⟩ := and_inv h2
      refine zOut_0 (.inl (pc + len, N, V, K)) hi h ⟨rfl, hL, hS, hM⟩ (fun _ => ?_)
      show (bif Nat.beq r2 0 then mWhen (Nat.ble 1 fr && Nat.ble (mCats V + 12) lo) (mNx (pc + len) N V K) else _) = _
      rw [c, cond_true, zCats_rel hS, mWhen_t g]
      rfl
    · obtain ⟨g, h⟩ := and_inv h
      have hlen := sAll_len hS
      have ha := sAll_rev (sAll_take (I r1).2.2.2.2.2.1 hS)
      have hr := sAll_drop (I r1).2.2.2.2.2.1 hS
      dsimp only at h
      split at h
      · next o as hq =>
        rw [hq] at ha h
        obtain ⟨W2, hW2, -, ha2⟩ := zSR_r ha
        refine zOut_e (fun f => mCall I (fun mi1 fr1 lo1 as M => mExec T I XN XF f fr1 lo1 mi1 (0, lv_args 0 as, [], M)) fr lo (pc + len) r1 N (.ref o :: W2) (V.drop (I r1).2.2.2.2.2.1) K) (fun f => ?_) (z_call hW hX hR hv hc h hi hxs hL (by rw [hW2] at ha; exact ha) hr hM)
        show (bif Nat.beq r2 0 then _ else mPop V _ _) = _
        rw [c, cond_false, mPop_t (by rw [hlen]; exact g), hW2]
      · cases h
  case invokestatic i =>
    have h := hdo
    rcases bif_inv h with ⟨c, h⟩ | ⟨c, h⟩
    · obtain ⟨g, h⟩ := and_inv h
      have hlen := sAll_len hS
      have ha := sAll_rev (sAll_take (I r1).2.2.2.2.2.1 hS)
      have hr := sAll_drop (I r1).2.2.2.2.2.1 hS
      refine zOut_e (fun f => mCall I (fun mi1 fr1 lo1 as M => mExec T I XN XF f fr1 lo1 mi1 (0, lv_args 0 as, [], M)) fr lo (pc + len) r1 N (V.take (I r1).2.2.2.2.2.1).reverse (V.drop (I r1).2.2.2.2.2.1) K) (fun f => ?_) (z_call hW hX hR hv hc h hi hxs hL ha hr hM)
      show (bif Nat.beq r2 0 then mPop V _ _ else _) = _
      rw [c, cond_true, mPop_t (by rw [hlen]; exact g)]
    rcases bif_inv h with ⟨c1, h⟩ | ⟨c1, h⟩
    · split at h
      · next n dp b sp a r _ _ =>
        obtain ⟨Xn, V, rfl, hn, hS⟩ := zSR_i hS
        obtain ⟨Xd, V, rfl, hd, hS⟩ := zSR_i hS
        obtain ⟨V, rfl, -, hS⟩ := zSR_r hS
        obtain ⟨Xs, V, rfl, hs, hS⟩ := zSR_i hS
        obtain ⟨V, rfl, -, hS⟩ := zSR_r hS
        obtain ⟨gg, h⟩ := and_inv h
        obtain ⟨g, ga⟩ := and_inv gg
        obtain ⟨g1, g⟩ := and_inv g
        obtain ⟨g2, g⟩ := and_inv g
        obtain ⟨g3, g⟩ := and_inv g
        obtain ⟨g4, g⟩ := and_inv g
        obtain ⟨g5, g⟩ := and_inv g
        obtain ⟨g6, g⟩ := and_inv g
        obtain ⟨g7, g⟩ := and_inv g
        obtain ⟨g8, g⟩ := and_inv g
        obtain ⟨g9, g10⟩ := and_inv g
        have n1 : R.1 ≠ 1 := fun e => by rw [e, Nat.beq_refl] at g10; cases g10
        have g3 := zFits_inv g3 hi hs
        have g4 := zFits_inv g4 hi hd
        have g5 := zFits_inv g5 hi hn
        have lb := blt_lt g6
        obtain ⟨s1, s2, s3⟩ := hsh.2 b lb
        have kb := Nat.eq_of_beq_eq_true g7
        obtain ⟨ea, B1, z1, hi1, h, hz1⟩ := zAdd_inv h hi hd hn
        obtain ⟨q1, h⟩ := and_inv h
        have q1 := zHi_inv q1 hi1 hz1
        rw [show (Xd + Xn).toInt = Xd.toInt + Xn.toInt from i32_val (by rw [i32_add]) (by omega) (by omega)] at q1
        obtain ⟨eb, B2, z2, hi2, h, hz2⟩ := zAdd_inv h hi1 (zAt_ext ea hs) (zAt_ext ea hn)
        obtain ⟨q2, h⟩ := and_inv h
        have q2 := zHi_inv q2 hi2 hz2
        rw [show (Xs + Xn).toInt = Xs.toInt + Xn.toInt from i32_val (by rw [i32_add]) (by omega) (by omega)] at q2
        rw [List.append_assoc] at hi2
        have en : Xn.toNatClampNeg = Xn.toInt.toNat := rfl
        have ed : Xd.toNatClampNeg = Xd.toInt.toNat := rfl
        have es : Xs.toNatClampNeg = Xs.toInt.toNat := rfl
        have b9 := Nat.le_of_ble_eq_true g9
        have hguard : (Nat.ble 1 fr && (Nat.ble (mCats V + 18) lo && (!decide (Xs < 0) && (!decide (Xd < 0) && (!decide (Xn < 0) && (Nat.blt b K.1 && (Nat.beq (mObj K b).1 100 && (Nat.ble (Xd.toNatClampNeg + Xn.toNatClampNeg) (mObj K b).2.1 && Nat.ble (mObj K b).2.1 2048)))))))) = true := by
          rw [e1, s1, s2, zCats_rel hS, i32_neg rfl g3.1, i32_neg rfl g4.1, i32_neg rfl g5.1, g1, g2, g6, g7, g9, Nat.ble_eq.mpr (show Xd.toNatClampNeg + Xn.toNatClampNeg ≤ (zWo W b).2.1 by omega)]
          rfl
        have hwk : ∀ f : Nat → Value, zMR W X R.1 T I XN XF Ne (ρ ++ (ea ++ eb)) (zRo b M.1, (M.2.1, none)) (mPut K b ((mObj K b).1, (mObj K b).2.1, mCpy f Xs.toNatClampNeg Xd.toNatClampNeg Xn.toNatClampNeg (mObj K b).2.2)) := fun f => by
          refine zWeak_inv hW hX lb g8 n1 rfl rfl (fun j j1 j2 => ?_) (zMR_ext _ hM)
          show ∃ x, mGet 11 (mCpy f Xs.toNatClampNeg Xd.toNatClampNeg Xn.toNatClampNeg (mObj K b).2.2) j = .int x
          rw [mCpy_get f _ _ _ _ _ (by omega) j2]
          by_cases c9 : Xd.toNatClampNeg ≤ j ∧ j < Xd.toNatClampNeg + Xn.toNatClampNeg
          · rw [if_pos c9]; exact ⟨_, rfl⟩
          · rw [if_neg c9]; exact s3 kb j j1 j2
        rcases bif_inv ga with ⟨ca, ga⟩ | ⟨ca, ga⟩
        · rw [ca] at q2
          have q2 : Xs.toInt + Xn.toInt ≤ ((zWo W a).2.1 : Nat) := q2
          obtain ⟨p1, ga⟩ := and_inv ga
          obtain ⟨p2, p3⟩ := and_inv ga
          obtain ⟨t1, t2, -⟩ := hsh.2 a (blt_lt p1)
          refine zOut_c (ea ++ eb) (.inl (pc + len, N, V, mPut K b ((mObj K b).1, (mObj K b).2.1, mCpy (mSlot (mObj K a)) Xs.toNatClampNeg Xd.toNatClampNeg Xn.toNatClampNeg (mObj K b).2.2))) hi2 h ⟨rfl, zLR_ext _ hL, zSR_ext _ hS, hwk _⟩ (fun _ => ?_)
          show (bif Nat.beq r2 0 then _ else bif Nat.beq r2 1 then mWhen (Nat.ble 1 fr && _) (bif Nat.blt a 1000000 then mWhen (Nat.blt a K.1 && (Nat.beq (mObj K a).1 100 && (Nat.ble (Xs.toNatClampNeg + Xn.toNatClampNeg) (mObj K a).2.1 && Nat.ble (mObj K a).2.1 2048))) _ else _) else _) = _
          rw [c, c1, cond_false, cond_true, mWhen_t hguard, ca, cond_true, mWhen_t (by rw [e1, t1, t2, p1, p2, p3, Nat.ble_eq.mpr (show Xs.toNatClampNeg + Xn.toNatClampNeg ≤ (zWo W a).2.1 by omega)]; rfl)]
          rfl
        · rw [ca] at q2
          have q2 : Xs.toInt + Xn.toInt ≤ 6 := q2
          obtain ⟨p1, p2⟩ := and_inv ga
          have a0 : 0 < a - 1000000 := by
            have h1 : ¬ a < 1000000 := fun h => by
              rw [show Nat.blt a 1000000 = true from by rw [Nat.blt_eq]; exact h] at ca
              cases ca
            have h2 : a ≠ 1000000 := fun e => by rw [e, Nat.beq_refl] at p2; cases p2
            omega
          have x6 := hsX.1 _ a0 (blt_lt p1)
          refine zOut_c (ea ++ eb) (.inl (pc + len, N, V, mPut K b ((mObj K b).1, (mObj K b).2.1, mCpy (fun j => .int (XF (a - 1000000) j)) Xs.toNatClampNeg Xd.toNatClampNeg Xn.toNatClampNeg (mObj K b).2.2))) hi2 h ⟨rfl, zLR_ext _ hL, zSR_ext _ hS, hwk _⟩ (fun _ => ?_)
          show (bif Nat.beq r2 0 then _ else bif Nat.beq r2 1 then mWhen (Nat.ble 1 fr && _) (bif Nat.blt a 1000000 then _ else mWhen (Nat.blt (a - 1000000) 4 && Nat.ble (Xs.toNatClampNeg + Xn.toNatClampNeg) (XN (a - 1000000))) _) else _) = _
          rw [c, c1, cond_false, cond_true, mWhen_t hguard, ca, cond_false, mWhen_t (by rw [p1, Nat.ble_eq.mpr (show Xs.toNatClampNeg + Xn.toNatClampNeg ≤ XN (a - 1000000) by omega)]; rfl)]
          rfl
      · cases h
    · obtain ⟨x, y, r, rfl, h2⟩ := sI2_inv h
      obtain ⟨Y, V, rfl, hY, hS⟩ := zSR_i hS
      obtain ⟨A, V, rfl, hA, hS⟩ := zSR_i hS
      obtain ⟨g, h⟩ := and_inv h2
      have md : ∀ f, mDo I XN XF (fun mi1 fr1 lo1 as M => mExec T I XN XF f fr1 lo1 mi1 (0, lv_args 0 as, [], M)) fr lo nL rt (pc, len, ri, .invokestatic i, v, r1, r2, wi) N (.int Y :: .int A :: V) K = mNx (pc + len) N (.int (bif Nat.beq r2 2 then (if A < Y then Y else A) else if Y < A then Y else A) :: V) K := fun f => by
        show (bif Nat.beq r2 0 then _ else bif Nat.beq r2 1 then _ else mWhen (Nat.ble 1 fr && Nat.ble (mCats V + 13) lo) _) = _
        rw [c, c1, cond_false, cond_false, zCats_rel hS, mWhen_t g]
      have lt1 : (A < Y) = (A.toInt < Y.toInt) := propext Int32.lt_iff_toInt_lt
      have lt2 : (Y < A) = (Y.toInt < A.toInt) := propext Int32.lt_iff_toInt_lt
      rcases bif_inv h with ⟨c2, h⟩ | ⟨c2, h⟩
      · obtain ⟨B1, hi1, h⟩ := zLt_inv h hi hA hY
        refine zOut_0 (.inl (pc + len, N, .int (bif Nat.beq r2 2 then (if A < Y then Y else A) else if Y < A then Y else A) :: V, K)) hi1 h ⟨rfl, hL, ⟨?_, hS⟩, hM⟩ (fun f => (md f).trans rfl)
        show zAt ρ _ = some (Int32.toInt (bif Nat.beq r2 2 then _ else _))
        rw [c2, cond_true]
        by_cases d : A.toInt < Y.toInt
        · rw [if_pos (by rw [lt1]; exact d), decide_eq_true d]; exact hY
        · rw [if_neg (by rw [lt1]; exact d), decide_eq_false d]; exact hA
      · obtain ⟨B1, hi1, h⟩ := zLt_inv h hi hY hA
        refine zOut_0 (.inl (pc + len, N, .int (bif Nat.beq r2 2 then (if A < Y then Y else A) else if Y < A then Y else A) :: V, K)) hi1 h ⟨rfl, hL, ⟨?_, hS⟩, hM⟩ (fun f => (md f).trans rfl)
        show zAt ρ _ = some (Int32.toInt (bif Nat.beq r2 2 then _ else _))
        rw [c2, cond_false]
        by_cases d : Y.toInt < A.toInt
        · rw [if_pos (by rw [lt2]; exact d), decide_eq_true d]; exact hY
        · rw [if_neg (by rw [lt2]; exact d), decide_eq_false d]; exact hA
  case ireturn =>
    obtain ⟨x, r, rfl, h⟩ := sI1_inv hdo
    obtain ⟨A, V, rfl, hA, hS⟩ := zSR_i hS
    split at h
    · next ty =>
      obtain rfl := sAll_nil hS
      obtain ⟨g, h⟩ := and_inv h
      exact zOut_0 (.inr (some (.int A), K)) hi h ⟨hA, hM⟩ (fun _ => (mWhen_t (zFit_rel hi g (show zRel ρ (.inl x) (.int A) from hA))).trans rfl)
    · cases h
  case lreturn =>
    obtain ⟨x, r, rfl, h⟩ := sL1_inv hdo
    obtain ⟨A, V, rfl, hA, hS⟩ := zSR_l hS
    split at h
    · obtain rfl := sAll_nil hS
      exact zOut_0 (.inr (some (.long A), K)) hi h ⟨hA, hM⟩ (fun _ => rfl)
    · cases h
  case return_ =>
    cases S with
    | nil =>
      cases rt with
      | none =>
        obtain rfl := sAll_nil hS
        exact zOut_0 (.inr (none, K)) hi hdo ⟨trivial, hM⟩ (fun _ => rfl)
      | some ty => exact no_inv hdo
    | cons a S => cases rt <;> exact no_inv hdo
  all_goals exact no_inv hdo
end ZDO

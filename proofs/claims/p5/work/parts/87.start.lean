/-! ===== the start: both constructors; written by wip/box/gen87r.py ===== -/
theorem h_253_0 : mFind (mTab 253) 0 = some (0, 3, .new 7, .new 7, 0, 7, 0, 104) := mFb_eq (by decide +kernel)
theorem h_253_3 : mFind (mTab 253) 3 = some (3, 1, .dup, .dup, 0, 0, 0, 0) := mFb_eq (by decide +kernel)
theorem h_253_4 : mFind (mTab 253) 4 = some (4, 3, .invokespecial 9, .invokespecial 9, 0, 89, 1, 106) := mFb_eq (by decide +kernel)
theorem h_253_7 : mFind (mTab 253) 7 = some (7, 1, .astore_n 1, .astore 1, 0, 0, 0, 0) := mFb_eq (by decide +kernel)
theorem h_253_8 : mFind (mTab 253) 8 = some (8, 3, .new 10, .new 10, 0, 8, 0, 965) := mFb_eq (by decide +kernel)
theorem h_253_11 : mFind (mTab 253) 11 = some (11, 1, .dup, .dup, 0, 0, 0, 0) := mFb_eq (by decide +kernel)
theorem h_253_12 : mFind (mTab 253) 12 = some (12, 3, .invokespecial 12, .invokespecial 12, 0, 125, 1, 967) := mFb_eq (by decide +kernel)
theorem h_253_15 : mFind (mTab 253) 15 = some (15, 1, .astore_n 2, .astore 2, 0, 0, 0, 0) := mFb_eq (by decide +kernel)
theorem h_253_16 : mFind (mTab 253) 16 = some (16, 1, .iconst 0, .iconst 0, 0, 0, 0, 0) := mFb_eq (by decide +kernel)
theorem h_253_17 : mFind (mTab 253) 17 = some (17, 1, .istore_n 3, .istore 3, 0, 0, 0, 0) := mFb_eq (by decide +kernel)
noncomputable def sM0 : sMem := (0, 0, mFill 10 (0, 0, .inl (0, 0), []))
noncomputable def sZero (i : Nat) : Int := match i with
  | 11 => 30000
  | _ => 0
theorem sZero_kn : sKn sZero := ⟨by decide, by decide, by decide, by decide, rfl⟩
theorem sZero_in : sIn sZero ([], []) := by
  refine ⟨fun i q h => ?_, fun q h => (by cases h)⟩
  cases i with
  | zero => cases h; exact ⟨Int.le_refl _, Int.le_refl _⟩
  | succ j => cases h
theorem sZero_X (xs : Nat → Int32) : ∀ a j, a < 4 → j < sXNl 0 a → (sXF xs a j).toInt = sDn sZero (sXX a j) := fun a j _ hj => by
  cases a with
  | zero => exact absurd hj (Nat.not_lt_zero j)
  | succ a =>
    obtain ⟨h1, h2, h3⟩ := sXX_c a j
    show (Int32.ofInt (sXX (a + 1) j).2).toInt = sZero (sXX (a + 1) j).1 + (sXX (a + 1) j).2
    rw [h1, i32_val rfl h2 h3]
    show _ = (0 : Int) + _
    omega
/-- a slot is as it must be at the start -/
noncomputable def sSp (s : Option ((Int × Int) ⊕ Nat)) (v : sV) : Bool := match s, v with
  | none, _ => true
  | some (.inl q), .inl x => Nat.beq x.1 0 && (sILe q.1 x.2 && sILe x.2 q.2)
  | some (.inr r), .inr (.inr (some o)) => Nat.beq o r
  | _, _ => false
noncomputable def sIsI (v : sV) : Bool := match v with
  | .inl _ => true
  | _ => false
noncomputable def sIs0 (v : sV) : Bool := match v with
  | .inl x => Nat.beq x.1 0 && sIEq x.2 0
  | _ => false
noncomputable def sGdS (o k : Nat) (v : sV) : Bool := sSp (zSc1 o k) v && (sSp (zRs1 o k) v && ((!(Nat.beq (zObj o).1 100) || sIsI v) && (!(Nat.beq o 526 || (Nat.beq o 525 && Nat.beq k 5)) || sIs0 v)))
noncomputable def sGdO (M : sMem) (o : Nat) : Bool := (Nat.beq (sObj M o).1 (zObj o).1 && Nat.beq (sObj M o).2.1 (zObj o).2.1) && (List.range (zObj o).2.1).all fun k => sGdS o k (sLook (sObj M o) k)
noncomputable def sGd (M : sMem) : Bool := (Nat.beq M.1 529 && Nat.ble M.2.1 20000) && (List.range 529).all (sGdO M)
noncomputable def sIsN (a : Option sV) : Bool := match a with
  | none => true
  | _ => false
noncomputable def sIsC (c : Int) (v : sV) : Bool := match v with
  | .inl x => Nat.beq x.1 0 && sIEq x.2 c
  | _ => false
noncomputable def sCe (M : sMem) (o k : Nat) (c : Int) : Bool := (Nat.blt o M.1 && Nat.blt k (sObj M o).2.1) && sIsC c (sLook (sObj M o) k)
/-- what both sides agree about, at the start -/
noncomputable def sGdR (M : sMem) : Bool := (sCe M 0 4 0 && (sCe M 525 5 0 && sCe M 1 0 3)) && (([1, 2, 3] : List Nat).all (fun k => sCe M 1 k 0 && sCe M 132 k 0) && (List.range 1850).all fun k => sCe M 526 k 0)
noncomputable def kC2 : sRet := fun _ w => sIsN w.1 && (sGd w.2 && sGdR w.2)
noncomputable def kC1 : sRet := fun B w => sIsN w.1 && (Nat.beq w.2.1 525 && sExec mTab mInf (sXNl 0) sXX sNo 100000 10 400 125 (0, sArgs 0 [.inr (.inr (some 525))], [], sNew w.2 (8, mNX 8, .inr (.inr none), sDef 8)) B kC2)
set_option maxRecDepth 100000 in
theorem start_B : sExec mTab mInf (sXNl 0) sXX sNo 100000 10 400 89 (0, sArgs 0 [.inr (.inr (some 0))], [], sNew sM0 (7, mNX 7, .inr (.inr none), sDef 7)) ([], []) kC1 = true := by decide +kernel
theorem sOR_none {ρ : Nat → Int} {a : Option sV} {v : Option Value} (h : sOR ρ a v) (ha : sIsN a = true) : v = none := by
  cases a with
  | some a => cases ha
  | none => cases v with
    | none => rfl
    | some v => exact h.elim
theorem sSp_inv {s : (Int × Int) ⊕ Nat} {a : sV} {v : Value} (h : sSp (some s) a = true) (hr : sRel sZero a v) : zSp s v := by
  unfold sSp at h
  split at h
  · next e => cases e
  · next q x e =>
    cases e
    obtain ⟨h1, h2⟩ := and_inv h
    obtain ⟨h2, h3⟩ := and_inv h2
    have h1 := Nat.eq_of_beq_eq_true h1
    rw [sILe_d] at h2 h3
    obtain ⟨y, e, hy⟩ := sRel_i hr
    have hy : y.toInt = sZero x.1 + x.2 := hy
    rw [h1] at hy
    have hy : y.toInt = (0 : Int) + x.2 := hy
    have h2 := of_decide_eq_true h2
    have h3 := of_decide_eq_true h3
    exact ⟨y, e, by omega, by omega⟩
  · next r o e =>
    cases e
    have h := Nat.eq_of_beq_eq_true h
    subst h
    cases v with
    | ref p => exact congrArg Value.ref hr
    | _ => exact hr.elim
  · cases h
theorem sIs0_inv {a : sV} {v : Value} (h : sIs0 a = true) (hr : sRel sZero a v) : v = .int 0 := by
  unfold sIs0 at h
  split at h
  · next x =>
    obtain ⟨h1, h2⟩ := and_inv h
    obtain ⟨y, e, hy⟩ := sRel_i hr
    rw [sIEq_d] at h2
    have h2 := of_decide_eq_true h2
    have h1 := Nat.eq_of_beq_eq_true h1
    have hy : y.toInt = sZero x.1 + x.2 := hy
    rw [h1] at hy
    have hy : y.toInt = (0 : Int) + x.2 := hy
    rw [e, Int32.toInt_inj.mp (show y.toInt = (0 : Int32).toInt by rw [hy, h2]; rfl)]
  · cases h
theorem sGd_ok {M : sMem} {N : mMem} (h : sGd M = true) (hM : sMR sZero M N) : zAll 0 N ∧ N.2.1 ≤ 20000 := by
  obtain ⟨h1, h2⟩ := and_inv h
  obtain ⟨a1, a2⟩ := and_inv h1
  have a1 := Nat.eq_of_beq_eq_true a1
  have a2 := Nat.le_of_ble_eq_true a2
  obtain ⟨m1, m2, m3, m4⟩ := hM
  have obj : ∀ o, o < 529 → (mObj N o).1 = (zObj o).1 ∧ (mObj N o).2.1 = (zObj o).2.1 ∧ ∀ k, k < (zObj o).2.1 → ∃ a, sGdS o k a = true ∧ sRel sZero a (mSlot (mObj N o) k) := fun o ho => by
    obtain ⟨q1, q2⟩ := and_inv (List.all_eq_true.mp h2 o (List.mem_range.mpr ho))
    obtain ⟨q3, q4⟩ := and_inv q1
    have q3 := Nat.eq_of_beq_eq_true q3
    have q4 := Nat.eq_of_beq_eq_true q4
    obtain ⟨c1, c2, c3, c4⟩ := m4 o (by omega)
    exact ⟨c1.symm.trans q3, c2.symm.trans q4, fun k hk => ⟨_, List.all_eq_true.mp q2 k (List.mem_range.mpr hk), c4 k (by omega)⟩⟩
  have shape : ∀ o, o < 529 → (mObj N o).1 = (zObj o).1 ∧ (mObj N o).2.1 = (zObj o).2.1 ∧ ((zObj o).1 = 100 → ∀ k, k < (zObj o).2.1 → k < 2048 → ∃ x, mSlot (mObj N o) k = .int x) := fun o ho => by
    obtain ⟨b1, b2, b3⟩ := obj o ho
    refine ⟨b1, b2, fun e k hk _ => ?_⟩
    obtain ⟨a, g, r⟩ := b3 k hk
    obtain ⟨-, g⟩ := and_inv g
    obtain ⟨-, g⟩ := and_inv g
    obtain ⟨g, -⟩ := and_inv g
    rw [e] at g
    have g : sIsI a = true := g
    unfold sIsI at g
    split at g
    · obtain ⟨y, e, -⟩ := sRel_i r
      exact ⟨y, e⟩
    · cases g
  have h529 : N.1 = 529 := m1.symm.trans a1
  have zero : ∀ k, k < 1850 → mSlot (mObj N 526) k = .int 0 := fun k hk => by
    obtain ⟨b1, b2, b3⟩ := obj 526 (by omega)
    obtain ⟨a, g, r⟩ := b3 k hk
    obtain ⟨-, g⟩ := and_inv g
    obtain ⟨-, g⟩ := and_inv g
    obtain ⟨-, g⟩ := and_inv g
    exact sIs0_inv g r
  have row : ∀ k, k < 1850 → zRow N 526 k = zNew 3 k := fun k hk => by
    rw [zRow_int (zero k hk)]
    unfold zNew
    cases Nat.beq k 6 <;> rfl
  have ok := zNew_ok (m := 3) (by omega) (by omega) 0
  have hb := zBcl_ext row ok.1
  have img : mAtk N 1075205 = .int 0 := by
    obtain ⟨b1, b2, b3⟩ := obj 525 (by omega)
    obtain ⟨a, g, r⟩ := b3 5 (by show 5 < 7; omega)
    obtain ⟨-, g⟩ := and_inv g
    obtain ⟨-, g⟩ := and_inv g
    obtain ⟨-, g⟩ := and_inv g
    rw [show 1075205 = 525 * 2048 + 5 by decide, mAtk_key N (by omega)]
    exact sIs0_inv g r
  refine ⟨⟨⟨⟨h529, shape⟩, fun key hk s hs => ?_, fun key hk c hc => (by cases hc)⟩, ⟨⟨h529, shape⟩, fun key hk s hs => ?_, fun key hk c hc => ?_⟩, zRok_ext row ok, .inl img⟩, by rw [← m2]; exact a2⟩
  · have hs : zSc1 (key / 2048) (key % 2048) = some s := hs
    have q : key / 2048 < 525 ∧ key % 2048 < (zObj (key / 2048)).2.1 := by
      have q := hs
      unfold zSc1 at q
      cases c : (Nat.blt (key / 2048) 525 && Nat.blt (key % 2048) (zObj (key / 2048)).2.1) with
      | false => rw [c] at q; cases q
      | true => exact ⟨blt_lt (and_inv c).1, blt_lt (and_inv c).2⟩
    obtain ⟨b1, b2, b3⟩ := obj (key / 2048) (by omega)
    obtain ⟨a, g, r⟩ := b3 (key % 2048) q.2
    obtain ⟨g, -⟩ := and_inv g
    rw [hs] at g
    exact sSp_inv g r
  · have hs : zRs1 (key / 2048) (key % 2048) = some s := hs
    have q : key / 2048 < 529 ∧ key % 2048 < (zObj (key / 2048)).2.1 := by
      have q := hs
      unfold zRs1 at q
      by_cases e : key / 2048 = 526
      · rw [e] at q ⊢
        by_cases e2 : key % 2048 < 1850
        · exact ⟨by omega, e2⟩
        · rw [Nat.beq_refl, cond_true, show Nat.blt (key % 2048) 1850 = false from by
            cases c : Nat.blt (key % 2048) 1850 with
            | false => rfl
            | true => exact absurd (blt_lt c) e2] at q
          cases q
      · by_cases e2 : key / 2048 = 525
        · rw [e2] at q ⊢
          rw [nbeq_f (show (525 : Nat) ≠ 526 by omega), Nat.beq_refl, cond_false, cond_true] at q
          refine ⟨by omega, ?_⟩
          show key % 2048 < 7
          generalize key % 2048 = k at q
          split at q
          · omega
          · omega
          · omega
          · omega
          · omega
          · omega
          · omega
          · cases q
        · rw [nbeq_f e, nbeq_f e2] at q
          cases q
    obtain ⟨b1, b2, b3⟩ := obj (key / 2048) q.1
    obtain ⟨a, g, r⟩ := b3 (key % 2048) q.2
    obtain ⟨-, g⟩ := and_inv g
    obtain ⟨g, -⟩ := and_inv g
    rw [hs] at g
    exact sSp_inv g r
  · have q : c ∈ (bif Nat.beq (key / 2048) 526 then zRc1 (key % 2048) else []) := hc
    cases e : Nat.beq (key / 2048) 526 with
    | false => rw [e] at q; cases q
    | true =>
      rw [e, cond_true] at q
      have z := hb.2 (key % 2048) (by omega) c q
      obtain ⟨n1, n2, a1, e1, a2, b1, e2, b2⟩ := zRc_at (k := key % 2048) (by omega) q
      intro x y hx hy
      rw [a1, y_at N (by omega)] at hx
      rw [b1, y_at N (by omega)] at hy
      unfold zChv at z
      rw [e1, e2, zRow_int hx, zRow_int hy] at z
      exact z
theorem sIsC_inv {c : Int} {a : sV} {v : Value} (hc : c = 0 ∨ c = 3) (h : sIsC c a = true) (hr : sRel sZero a v) : v = .int (Int32.ofInt c) := by
  unfold sIsC at h
  split at h
  · next x =>
    obtain ⟨h1, h2⟩ := and_inv h
    obtain ⟨y, e, hy⟩ := sRel_i hr
    rw [sIEq_d] at h2
    have h2 := of_decide_eq_true h2
    have h1 := Nat.eq_of_beq_eq_true h1
    have hy : y.toInt = sZero x.1 + x.2 := hy
    rw [h1] at hy
    have hy : y.toInt = (0 : Int) + x.2 := hy
    rw [e, Int32.toInt_inj.mp (show y.toInt = (Int32.ofInt c).toInt by
      rw [hy, h2]
      rcases hc with rfl | rfl <;> decide)]
  · cases h
theorem sCe_ok {M : sMem} {N : mMem} {o k : Nat} {c : Int} (h : sCe M o k c = true) (hM : sMR sZero M N) (hk : k < 2048) (hc : c = 0 ∨ c = 3) : mAtk N (o * 2048 + k) = .int (Int32.ofInt c) := by
  obtain ⟨h1, h2⟩ := and_inv h
  obtain ⟨h1, h3⟩ := and_inv h1
  have h1 := blt_lt h1
  have h3 := blt_lt h3
  obtain ⟨c1, c2, c3, c4⟩ := hM.2.2.2 o h1
  rw [mAtk_key N hk]
  exact sIsC_inv hc h2 (c4 k (by omega))
theorem sGdR_ok {M : sMem} {N : mMem} (h : sGdR M = true) (hM : sMR sZero M N) : lRel N := by
  obtain ⟨h1, h2⟩ := and_inv h
  obtain ⟨a, h1⟩ := and_inv h1
  obtain ⟨b, c⟩ := and_inv h1
  obtain ⟨d, e⟩ := and_inv h2
  have k4 : mAtk N 4 = .int (Int32.ofInt 0) := sCe_ok (o := 0) (k := 4) a hM (by omega) (.inl rfl)
  have k5 : mAtk N 1075205 = .int (Int32.ofInt 0) := sCe_ok (o := 525) (k := 5) b hM (by omega) (.inl rfl)
  have k3 : mAtk N 2048 = .int (Int32.ofInt 3) := sCe_ok (o := 1) (k := 0) c hM (by omega) (.inr rfl)
  have row : ∀ k, k < 1850 → mAtk N (1077248 + k) = .int (Int32.ofInt 0) := fun k hk => by
    rw [show 1077248 + k = 526 * 2048 + k by omega]
    exact sCe_ok (List.all_eq_true.mp e k (List.mem_range.mpr hk)) hM (by omega) (.inl rfl)
  have sm : ∀ k, 1 ≤ k → k < 4 → sCe M 1 k 0 = true ∧ sCe M 132 k 0 = true := fun k u v => and_inv (List.all_eq_true.mp d k (by
    simp only [List.mem_cons, List.not_mem_nil, or_false]
    omega))
  refine ⟨k5.trans k4.symm, fun k u v => ?_, lSide_0 (n := Int32.ofInt 3) (x := Int32.ofInt 0) (by decide) k3 (fun k u v => ?_) (row 6 (by omega)) (fun k hk _ => row k hk), fun q => absurd k4 q⟩
  · rw [show 270336 + k = 132 * 2048 + k by omega]
    exact sCe_ok (sm k u v).2 hM (by omega) (.inl rfl)
  · show mAtk N (2048 + k) = _
    rw [show 2048 + k = 1 * 2048 + k by omega]
    exact sCe_ok (sm k u v).1 hM (by omega) (.inl rfl)
section YSP
variable {T : Nat → List mE} {I : Nat → mI} {XN : Nat → Nat} {XF : Nat → Nat → Int32} {fr lo mi pc len : Nat} {ri : ClassFile.Instr} {v : Int} {r1 r2 wi : Nat} {L : List (Nat × Value)} {S : List Value} {M : mMem} {r : Option Value × mMem}
theorem st_new {i : Nat} (he : mFind (T mi) pc = some (pc, len, ri, .new i, v, r1, r2, wi)) (h : Nat.blt M.1 1024 = true) (k : mRuns T I XN XF fr lo mi (pc + len, L, .ref M.1 :: S, mNew M (r1, mNX r1, mDef r1)) r) : mRuns T I XN XF fr lo mi (pc, L, S, M) r := st_0 he (fun _ => (mWhen_t h).trans rfl) k
theorem st_special {i : Nat} {o nx : Nat} {as V : List Value} {w : Option Value} {M1 : mMem} (he : mFind (T mi) pc = some (pc, len, ri, .invokespecial i, v, r1, r2, wi)) (h0 : Nat.beq r2 0 = false) (hn : Nat.ble (I r1).2.2.2.2.2.1 V.length = true) (ha : (V.take (I r1).2.2.2.2.2.1).reverse = .ref o :: as) (hS : V.drop (I r1).2.2.2.2.2.1 = S)
    (g1 : Nat.ble (mCats S) 8 = true) (g2 : Nat.ble 1 fr = true) (g3 : Nat.ble (19 + (I r1).2.2.1) lo = true) (g4 : Nat.ble (mCats (.ref o :: as)) (I r1).2.2.1 = true) (hr : mRuns T I XN XF (fr - 1) (lo - (19 + (I r1).2.2.1)) r1 (0, lv_args 0 (.ref o :: as), [], M) (w, M1)) (hx : nx = pc + len)
    (k : mRuns T I XN XF fr lo mi (nx, L, w.toList ++ S, M1) r) : mRuns T I XN XF fr lo mi (pc, L, V, M) r := by
  obtain ⟨F, hF⟩ := hr
  subst hx
  refine mRuns_step (F := F) he (fun f hf => ?_) k
  show (bif Nat.beq r2 0 then mR1 V fun _ r => mWhen (Nat.ble 1 fr && Nat.ble (mCats r + 12) lo) (mNx (pc + len) L r M)
    else mPop V (I r1).2.2.2.2.2.1 fun as r => match as with
    | .ref _ :: _ => mCall I _ fr lo (pc + len) r1 L as r M
    | _ => none) = _
  rw [h0, cond_false, mPop_t hn, ha, hS]
  show mCall I _ fr lo (pc + len) r1 L (.ref o :: as) S M = _
  unfold mCall
  rw [mWhen_t (by rw [g1, g2, g3, g4]; rfl)]
  exact (congrArg (mBack (pc + len) L S) (hF f hf)).trans rfl
end YSP
theorem law_start (xs : Nat → Int32) (L : Nat) : ∃ N Nl, zAll 0 N ∧ lRel N ∧ N.2.1 ≤ 20000 ∧ lNo 0 Nl ∧ ∀ z, mRuns mTab mInf (sXNl L) (sXF xs) 12 460 253 (18, Nl, [], N) z → mRuns mTab mInf (sXNl L) (sXF xs) 12 460 253 (0, [(0, .ref 1000000)], [], m0) z := by
  have hxn : ∀ k, sXNl 0 k ≤ sXNl L k := fun k => by
    cases k with
    | zero => exact Nat.zero_le _
    | succ k => exact Nat.le_refl _
  have r0 : sMR sZero sM0 m0 := ⟨rfl, rfl, Nat.zero_le _, fun o ho => absurd ho (Nat.not_lt_zero o)⟩
  have r1 : sMR sZero (sNew sM0 (7, mNX 7, .inr (.inr none), sDef 7)) (mNew m0 (7, mNX 7, mDef 7)) := sMR_new r0 (by show 0 < 1024; omega) (sCR_def rfl (by omega))
  obtain ⟨B1, w, ⟨zv, z1⟩, i1, k1, w1, run1⟩ := s_exec (XF := sXF xs) (sZero_X xs) sZero_kn sNo_ok 100000 10 400 89 _ _ kC1 start_B sZero_in (0, lv_args 0 [.ref 0], [], mNew m0 (7, mNX 7, mDef 7)) ⟨rfl, sArgs_rel (S := [.inr (.inr (some 0))]) (V := [.ref 0]) 0 ⟨rfl, trivial⟩, trivial, r1⟩
  obtain ⟨q1, q2⟩ := and_inv k1
  obtain ⟨q2, q3⟩ := and_inv q2
  have q2 := Nat.eq_of_beq_eq_true q2
  have ez := sOR_none w1.1 q1
  have ez : zv = none := ez
  subst ez
  have m1 : z1.1 = 525 := w1.2.1.symm.trans q2
  have r2 : sMR sZero (sNew w.2 (8, mNX 8, .inr (.inr none), sDef 8)) (mNew z1 (8, mNX 8, mDef 8)) := sMR_new w1.2 (by omega) (sCR_def rfl (by omega))
  obtain ⟨B2, w2, ⟨zv2, z2⟩, i2, k2, w3, run2⟩ := s_exec (XF := sXF xs) (sZero_X xs) sZero_kn sNo_ok 100000 10 400 125 _ _ kC2 q3 i1 (0, lv_args 0 [.ref 525], [], mNew z1 (8, mNX 8, mDef 8)) ⟨rfl, sArgs_rel (S := [.inr (.inr (some 525))]) (V := [.ref 525]) 0 ⟨rfl, trivial⟩, trivial, r2⟩
  obtain ⟨p1, p2⟩ := and_inv k2
  have ez := sOR_none w3.1 p1
  have ez : zv2 = none := ez
  subst ez
  obtain ⟨p2, p3⟩ := and_inv p2
  obtain ⟨ok1, ok2⟩ := sGd_ok p2 w3.2
  have x1 := mRuns_more (mRuns_xn hxn yXn_tab (by omega) run1) (fr2 := 11) (lo2 := 460 - (19 + (mInf 89).2.2.1)) (by omega) (by decide)
  have x2 := mRuns_more (mRuns_xn hxn yXn_tab (by omega) run2) (fr2 := 11) (lo2 := 460 - (19 + (mInf 125).2.2.1)) (by omega) (by decide)
  refine ⟨z2, [(3, .int (Int32.ofInt 0)), (2, .ref 525), (1, .ref 0), (0, .ref 1000000)], ok1, sGdR_ok p3 w3.2, ok2, ⟨rfl, rfl, rfl, rfl⟩, fun z hz => ?_⟩
  refine st_new h_253_0 rfl ?_
  refine st_dup h_253_3 rfl ?_
  refine st_special (o := 0) (as := []) (S := [.ref 0]) (w := none) (M1 := z1) h_253_4 rfl rfl rfl rfl rfl rfl rfl rfl x1 rfl ?_
  refine st_astore h_253_7 rfl ?_
  refine st_new h_253_8 (by rw [m1]; rfl) ?_
  rw [m1]
  refine st_dup h_253_11 rfl ?_
  refine st_special (o := 525) (as := []) (S := [.ref 525]) (w := none) (M1 := z2) h_253_12 rfl rfl rfl rfl rfl rfl rfl rfl x2 rfl ?_
  refine st_astore h_253_15 rfl ?_
  refine st_iconst h_253_16 ?_
  refine st_istore h_253_17 rfl ?_
  exact hz

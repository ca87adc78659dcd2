/-! ===== memory by places, as ints; rows of a body one by one over it ===== -/
theorem dI32_rg (X : Int32) : -2147483648 ≤ X.toInt ∧ X.toInt ≤ 2147483647 := by
  have h1 := X.toInt_lt
  have h2 := X.le_toInt
  omega
theorem dI64_rg (X : Int64) : -9223372036854775808 ≤ X.toInt ∧ X.toInt ≤ 9223372036854775807 := by
  have h1 := X.toInt_lt
  have h2 := X.le_toInt
  omega
abbrev dR (x : Int) : Prop := -2147483648 ≤ x ∧ x ≤ 2147483647
abbrev dR6 (x : Int) : Prop := -9223372036854775808 ≤ x ∧ x ≤ 9223372036854775807
abbrev dI (x : Int) : Int32 := Int32.ofInt x
abbrev dJ (x : Int) : Int64 := Int64.ofInt x
noncomputable def dW (x : Int) : Int := (Int32.ofInt x).toInt
noncomputable def dW6 (x : Int) : Int := (Int64.ofInt x).toInt
theorem dW_R (x : Int) : dR (dW x) := dI32_rg _
theorem dW6_R (x : Int) : dR6 (dW6 x) := dI64_rg _
theorem dW_id {x : Int} (h : dR x) : dW x = x := Int32.toInt_ofInt_of_le (by have := h.1; omega) (by have := h.2; omega)
theorem dW6_id {x : Int} (h : dR6 x) : dW6 x = x := Int64.toInt_ofInt_of_le (by have := h.1; omega) (by have := h.2; omega)
theorem dI_W (x : Int) : dI (dW x) = dI x := Int32.ofInt_toInt _
theorem dJ_W (x : Int) : dJ (dW6 x) = dJ x := Int64.ofInt_toInt _
theorem dI_i {x : Int} (h : dR x) : (dI x).toInt = x := dW_id h
theorem dJ_i {x : Int} (h : dR6 x) : (dJ x).toInt = x := dW6_id h
theorem deq_iff {x y : Int} (hx : dR x) (hy : dR y) : dI x = dI y ↔ x = y := ⟨fun h => by
  have := congrArg Int32.toInt h
  rwa [dI_i hx, dI_i hy] at this, fun h => by rw [h]⟩
theorem dlt_iff {x y : Int} (hx : dR x) (hy : dR y) : dI x < dI y ↔ x < y := by rw [Int32.lt_iff_toInt_lt, dI_i hx, dI_i hy]
theorem dle_iff {x y : Int} (hx : dR x) (hy : dR y) : dI x ≤ dI y ↔ x ≤ y := by rw [Int32.le_iff_toInt_le, dI_i hx, dI_i hy]
noncomputable def dC (c : ClassFile.Cond) (x y : Int) : Bool := match c with
  | .eq => decide (x = y)
  | .ne => !decide (x = y)
  | .lt => decide (x < y)
  | .ge => !decide (x < y)
  | .gt => decide (y < x)
  | .le => !decide (y < x)
theorem dC_ok {c : ClassFile.Cond} {x y : Int} (hx : dR x) (hy : dR y) : mIf c (dI x) (dI y) = dC c x y := by
  cases c
  · exact decide_eq_decide.mpr (deq_iff hx hy)
  · exact congrArg (!·) (decide_eq_decide.mpr (deq_iff hx hy))
  · exact decide_eq_decide.mpr (dlt_iff hx hy)
  · show decide (dI y ≤ dI x) = !decide (x < y)
    rw [← decide_not]
    exact decide_eq_decide.mpr ((dle_iff hy hx).trans (by omega))
  · exact decide_eq_decide.mpr (dlt_iff hy hx)
  · show decide (dI x ≤ dI y) = !decide (y < x)
    rw [← decide_not]
    exact decide_eq_decide.mpr ((dle_iff hx hy).trans (by omega))
theorem dnt {p : Prop} [Decidable p] (h : ¬ p) : (!decide p) = true := by rw [decide_eq_false h]; rfl
theorem dnf {p : Prop} [Decidable p] (h : p) : (!decide p) = false := by rw [decide_eq_true h]; rfl
noncomputable def dMx (a b : Int) : Int := if a < b then b else a
noncomputable def dMn (a b : Int) : Int := if b < a then b else a
theorem dMx_R {a b : Int} (ha : dR a) (hb : dR b) : dR (dMx a b) := by
  unfold dMx
  split
  · exact hb
  · exact ha
theorem dMn_R {a b : Int} (ha : dR a) (hb : dR b) : dR (dMn a b) := by
  unfold dMn
  split
  · exact hb
  · exact ha
/-! ===== values by places ===== -/
noncomputable def dV (N : mMem) (k : Nat) : Value := mSlot (mObj N (k / 2048)) (k % 2048)
noncomputable def dG (N : mMem) (k : Nat) : Int := (mIof (dV N k)).toInt
noncomputable def dP (N : mMem) (k : Nat) (v : Int) : mMem := mPut N (k / 2048) (mCset (mObj N (k / 2048)) (k % 2048) (.int (dI v)))
theorem dG_R (N : mMem) (k : Nat) : dR (dG N k) := dI32_rg _
theorem dV_P {N : mMem} {k j : Nat} {v : Int} (hk : k < 2097152) (hj : j < 2097152) : dV (dP N k v) j = if j = k then .int (dI v) else dV N j := by
  unfold dV dP
  rw [mObj_put (by omega) (by omega)]
  by_cases e : k / 2048 = j / 2048
  · rw [if_pos e, mSlot_set (by omega) (by omega)]
    by_cases e2 : k % 2048 = j % 2048
    · rw [if_pos e2, if_pos (by omega)]
    · rw [if_neg e2, if_neg (by omega), e]
  · rw [if_neg e, if_neg (by omega)]
theorem dG_P {N : mMem} {k j : Nat} {v : Int} (hk : k < 2097152) (hj : j < 2097152) : dG (dP N k v) j = if j = k then dW v else dG N j := by
  unfold dG
  rw [dV_P hk hj]
  split <;> rfl
theorem dG_e {N : mMem} {k : Nat} {v : Int} (hk : k < 2097152) : dG (dP N k v) k = dW v := by rw [dG_P hk hk, if_pos rfl]
theorem dG_n {N : mMem} {k j : Nat} {v : Int} (h : j ≠ k) (hk : k < 2097152) (hj : j < 2097152) : dG (dP N k v) j = dG N j := by rw [dG_P hk hj, if_neg h]
/-! ===== what the objects of the object and its ring are: kind, size; what a place holds: 0 an int, 1 that int, 2 that object ===== -/
noncomputable def dO1 : List (Nat × Nat) := [(3, 13), (100, 6), (100, 8), (102, 8), (4, 4), (101, 6), (100, 100), (100, 100), (100, 100), (100, 100), (100, 100), (100, 100), (2, 4), (101, 4), (100, 60), (100, 60), (100, 60), (100, 60), (2, 4), (101, 5), (100, 40), (100, 40), (100, 40), (100, 40), (100, 40), (100, 8), (0, 3)]
noncomputable def dO2 : List (Nat × Nat) := [(5, 19), (0, 3), (0, 3), (6, 3), (1, 12), (4, 4), (101, 5), (100, 8), (100, 8), (100, 8), (100, 8), (100, 8), (100, 9)]
noncomputable def dOb (o : Nat) : Nat × Nat := bif Nat.beq o 0 then (7, 5) else bif Nat.blt o 28 then dO1.getD (o - 1) (200, 0) else dO2.getD ((o - 28) % 13) (200, 0)
noncomputable def dSp (o k : Nat) : Nat × Nat := match (dOb o).1 with
  | 7 => bif Nat.blt k 4 then (2, 1 + 131 * k) else (0, 0)
  | 3 => (match k with | 4 => (2, 2) | 5 => (2, 3) | 6 => (2, 4) | 7 => (2, 5) | 8 => (2, 13) | 9 => (2, 19) | 10 => (2, 26) | 11 => (2, 27) | _ => (0, 0))
  | 102 => (2, 28 + 13 * k)
  | 101 => (2, o + 1 + k)
  | 4 => bif Nat.beq o 5 then (match k with | 0 => (1, 100) | 1 => (1, 6) | 2 => (2, o + 1) | _ => (0, 0)) else (match k with | 0 => (1, 8) | 1 => (1, 5) | 2 => (2, o + 1) | _ => (0, 0))
  | 2 => bif Nat.beq o 13 then (match k with | 0 => (1, 60) | 1 => (1, 4) | 2 => (2, o + 1) | _ => (0, 0)) else (match k with | 0 => (1, 40) | 1 => (1, 5) | 2 => (2, o + 1) | _ => (0, 0))
  | 5 => (match k with | 0 => (1, (o - 28) / 13) | 6 => (2, o + 1) | 7 => (2, o + 2) | 15 => (2, o + 3) | 16 => (2, o + 4) | 17 => (2, o + 5) | 18 => (2, o + 12) | _ => (0, 0))
  | _ => (0, 0)
noncomputable def dSv (p : Nat × Nat) (v : Value) : Prop := match p.1 with
  | 0 => ∃ x, v = .int x
  | 1 => v = .int (dI (p.2 : Int))
  | _ => v = .ref p.2
noncomputable def dS (N : mMem) : Prop := ((N.1 ≤ 1024 ∧ N.2.1 ≤ 20000) ∧ 132 ≤ N.1) ∧ ∀ o, o < 132 → (mObj N o).1 = (dOb o).1 ∧ (mObj N o).2.1 = (dOb o).2 ∧ ∀ k, k < (dOb o).2 → dSv (dSp o k) (mSlot (mObj N o) k)
noncomputable def dAt (o c k t v : Nat) : Bool := Nat.blt o 132 && (Nat.beq (dOb o).1 c && (Nat.blt k (dOb o).2 && (Nat.ble (dOb o).2 2048 && (Nat.beq (dSp o k).1 t && (Nat.beq t 0 || Nat.beq (dSp o k).2 v)))))
noncomputable def dAa (o n : Nat) : Bool := Nat.blt o 132 && (Nat.beq (dOb o).1 100 && (Nat.beq (dOb o).2 n && Nat.ble n 2048))
noncomputable def dAk (o c : Nat) : Bool := Nat.blt o 132 && Nat.beq (dOb o).1 c
theorem dand {a b : Bool} (h : (a && b) = true) : a = true ∧ b = true := by cases a <;> cases b <;> simp at h ⊢
theorem dAt_inv {o c k t v : Nat} (h : dAt o c k t v = true) : o < 132 ∧ (dOb o).1 = c ∧ k < (dOb o).2 ∧ (dOb o).2 ≤ 2048 ∧ (dSp o k).1 = t ∧ (t = 0 ∨ (dSp o k).2 = v) := by
  obtain ⟨h1, h⟩ := dand h
  obtain ⟨h2, h⟩ := dand h
  obtain ⟨h3, h⟩ := dand h
  obtain ⟨h4, h⟩ := dand h
  obtain ⟨h5, h⟩ := dand h
  rw [Nat.blt_eq] at h1 h3
  refine ⟨h1, Nat.eq_of_beq_eq_true h2, h3, Nat.le_of_ble_eq_true h4, Nat.eq_of_beq_eq_true h5, ?_⟩
  rcases Bool.or_eq_true_iff.mp h with h | h
  · exact .inl (Nat.eq_of_beq_eq_true h)
  · exact .inr (Nat.eq_of_beq_eq_true h)
theorem dAa_inv {o n : Nat} (h : dAa o n = true) : o < 132 ∧ (dOb o).1 = 100 ∧ (dOb o).2 = n ∧ n ≤ 2048 := by
  obtain ⟨h1, h⟩ := dand h
  obtain ⟨h2, h⟩ := dand h
  obtain ⟨h3, h⟩ := dand h
  rw [Nat.blt_eq] at h1
  exact ⟨h1, Nat.eq_of_beq_eq_true h2, Nat.eq_of_beq_eq_true h3, Nat.le_of_ble_eq_true h⟩
theorem dSp_a {o k : Nat} (h : (dOb o).1 = 100) : dSp o k = (0, 0) := by
  unfold dSp
  rw [h]
  rfl
theorem dOb_le : ∀ o, o < 132 → (dOb o).2 ≤ 2048 := by decide +kernel
section DSH
variable {N : mMem}
theorem dS_v {o k : Nat} (h : dS N) (ho : o < 132) (hk : k < (dOb o).2) : dSv (dSp o k) (mSlot (mObj N o) k) := (h.2 o ho).2.2 k hk
theorem dV_k {o k key : Nat} (hk : k < 2048) (he : o * 2048 + k = key) : dV N key = mSlot (mObj N o) k := by
  subst he
  unfold dV
  rw [show (o * 2048 + k) / 2048 = o by omega, show (o * 2048 + k) % 2048 = k by omega]
theorem dS_put {o k : Nat} {v : Value} (h : dS N) (ho : o < 132) (hk : k < (dOb o).2) (hk2 : k < 2048) (hv : dSv (dSp o k) v) : dS (mPut N o (mCset (mObj N o) k v)) := by
  refine ⟨h.1, fun q hq => ?_⟩
  obtain ⟨a, b, c⟩ := h.2 q hq
  rw [mObj_put (by omega) (by omega)]
  by_cases e : o = q
  · subst e
    rw [if_pos rfl]
    refine ⟨a, b, fun j hj => ?_⟩
    by_cases e2 : k = j
    · subst e2
      rw [mSlot_set hk2 hk2, if_pos rfl]
      exact hv
    · by_cases hj2 : j < 2048
      · rw [mSlot_set hk2 hj2, if_neg e2]
        exact c j hj
      · exfalso
        have : (dOb o).2 ≤ 2048 := by
          have := dOb_le o ho
          omega
        omega
  · rw [if_neg e]
    exact ⟨a, b, c⟩
theorem dS_P {o c k key : Nat} {v : Int} (h : dS N) (ha : dAt o c k 0 0 = true) (he : o * 2048 + k = key) : dS (dP N key v) := by
  obtain ⟨a1, a2, a3, a4, a5, -⟩ := dAt_inv ha
  subst he
  unfold dP
  rw [show (o * 2048 + k) / 2048 = o by omega, show (o * 2048 + k) % 2048 = k by omega]
  refine dS_put h a1 a3 (by omega) ?_
  unfold dSv
  rw [a5]
  exact ⟨_, rfl⟩
theorem dS_A {o n key : Nat} {k : Nat} {v : Int} (h : dS N) (ha : dAa o n = true) (hk : k < n) (he : o * 2048 + k = key) : dS (dP N key v) := by
  obtain ⟨a1, a2, a3, a4⟩ := dAa_inv ha
  subst he
  unfold dP
  rw [show (o * 2048 + k) / 2048 = o by omega, show (o * 2048 + k) % 2048 = k by omega]
  refine dS_put h a1 (by omega) (by omega) ?_
  rw [dSp_a a2]
  exact ⟨_, rfl⟩
/-- int places of an array laid one behind the other: n places of object a from place sp on go to object b, place dp on -/
noncomputable def dCp (M : mMem) (a sp b dp n : Nat) : mMem := mPut M b ((mObj M b).1, (mObj M b).2.1, mCpy (mSlot (mObj M a)) sp dp n (mObj M b).2.2)
theorem mGet_cpy (f : Nat → Value) (sp dp : Nat) : ∀ (n : Nat) (t : mTr Value 11) (j : Nat), dp + n ≤ 2048 → j < 2048 → mGet 11 (mCpy f sp dp n t) j = if dp ≤ j ∧ j < dp + n then .int (mIof (f (sp + (j - dp)))) else mGet 11 t j
  | 0, t, j, _, _ => by rw [if_neg (by omega)]; rfl
  | n + 1, t, j, h, hj => by
    have ih := mGet_cpy f sp dp n t j (by omega) hj
    show mGet 11 (mSet 11 (mCpy f sp dp n t) (dp + n) (.int (mIof (f (sp + n))))) j = _
    rw [mGet_set 11 _ _ _ _ (show dp + n < 2 ^ 11 by omega) (show j < 2 ^ 11 by omega)]
    by_cases e : dp + n = j
    · rw [if_pos e, if_pos (by omega), show j - dp = n by omega]
    · rw [if_neg e, ih]
      by_cases c : dp ≤ j ∧ j < dp + n
      · rw [if_pos c, if_pos (by omega)]
      · rw [if_neg c, if_neg (by omega)]
theorem dV_cp {a sp b dp n key : Nat} (hb : b < 1024) (hd : dp + n ≤ 2048) (hk : key < 2097152) : dV (dCp N a sp b dp n) key = if b * 2048 + dp ≤ key ∧ key < b * 2048 + dp + n then .int (mIof (mSlot (mObj N a) (sp + (key - (b * 2048 + dp))))) else dV N key := by
  unfold dCp dV
  rw [mObj_put hb (by omega)]
  by_cases e : b = key / 2048
  · subst e
    rw [if_pos rfl]
    show mGet 11 (mCpy _ sp dp n _) _ = _
    rw [mGet_cpy _ sp dp n _ _ hd (by omega)]
    by_cases c : dp ≤ key % 2048 ∧ key % 2048 < dp + n
    · rw [if_pos c, if_pos (by omega), show key % 2048 - dp = key - (key / 2048 * 2048 + dp) by omega]
    · rw [if_neg c, if_neg (by omega)]
      rfl
  · rw [if_neg e, if_neg (by omega)]
theorem dG_cp {a sp b dp n key : Nat} (ha : a < 1024) (hs : sp + n ≤ 2048) (hb : b < 1024) (hd : dp + n ≤ 2048) (hk : key < 2097152) : dG (dCp N a sp b dp n) key = if b * 2048 + dp ≤ key ∧ key < b * 2048 + dp + n then dG N (a * 2048 + sp + (key - (b * 2048 + dp))) else dG N key := by
  unfold dG
  rw [dV_cp hb hd hk]
  by_cases c : b * 2048 + dp ≤ key ∧ key < b * 2048 + dp + n
  · rw [if_pos c, if_pos c, dV_k (o := a) (k := sp + (key - (b * 2048 + dp))) (by omega) (by omega)]
    rfl
  · rw [if_neg c, if_neg c]
theorem dS_cp {a sp b dp n m : Nat} (h : dS N) (hb : dAa b m = true) (hd : dp + n ≤ m) : dS (dCp N a sp b dp n) := by
  obtain ⟨a1, a2, a3, a4⟩ := dAa_inv hb
  refine ⟨h.1, fun q hq => ?_⟩
  obtain ⟨x, y, w⟩ := h.2 q hq
  unfold dCp
  rw [mObj_put (by omega) (by omega)]
  by_cases e : b = q
  · subst e
    rw [if_pos rfl]
    refine ⟨x, y, fun j hj => ?_⟩
    have w := w j hj
    rw [dSp_a a2] at w ⊢
    obtain ⟨v, w⟩ := w
    show ∃ v, mGet 11 (mCpy _ sp dp n _) j = .int v
    rw [mGet_cpy _ sp dp n _ _ (by omega) (by omega)]
    split
    · exact ⟨_, rfl⟩
    · exact ⟨v, w⟩
  · rw [if_neg e]
    exact ⟨x, y, w⟩
theorem dG_int {o c k key : Nat} (h : dS N) (ha : dAt o c k 0 0 = true) (he : o * 2048 + k = key) : mSlot (mObj N o) k = .int (dI (dG N key)) := by
  obtain ⟨a1, a2, a3, a4, a5, -⟩ := dAt_inv ha
  have q := dS_v h a1 a3
  unfold dSv at q
  rw [a5] at q
  obtain ⟨x, hx⟩ := q
  unfold dG
  rw [dV_k (by omega) he, hx]
  exact congrArg Value.int (Int32.ofInt_toInt x).symm
theorem dG_arr {o n k key : Nat} (h : dS N) (ha : dAa o n = true) (hk : k < n) (he : o * 2048 + k = key) : mSlot (mObj N o) k = .int (dI (dG N key)) := by
  obtain ⟨a1, a2, a3, a4⟩ := dAa_inv ha
  have q := dS_v h a1 (show k < (dOb o).2 by omega)
  rw [dSp_a a2] at q
  obtain ⟨x, hx⟩ := q
  unfold dG
  rw [dV_k (by omega) he, hx]
  exact congrArg Value.int (Int32.ofInt_toInt x).symm
end DSH
/-! ===== runs ===== -/
noncomputable def dRv (t : Nat) (v : Int) : Option Value := match t with
  | 0 => none
  | 1 => some (.int (dI v))
  | _ => some (.long (dJ v))
noncomputable def dRr (t : Nat) (v : Int) : Prop := match t with
  | 0 => True
  | 1 => dR v
  | _ => dR6 v
noncomputable def dX (xs : Nat → Int32) (i : Int) : Int := (xs i.toNat).toInt
theorem dX_R (xs : Nat → Int32) (i : Int) : dR (dX xs i) := dI32_rg _
abbrev dZ : Type := mMem × Int
noncomputable def dQ (xs : Nat → Int32) (Ln t fr lo mi : Nat) (x : mCfg) (z : dZ) : Prop := mRuns mTab mInf (sXNl Ln) (sXF xs) fr lo mi x (dRv t z.2, z.1) ∧ dS z.1 ∧ dRr t z.2
noncomputable def dgd (c : Prop) [Decidable c] (x : Option dZ) : Option dZ := if c then x else none
theorem dgd_inv {c : Prop} [Decidable c] {x : Option dZ} {z : dZ} (h : dgd c x = some z) : c ∧ x = some z := by
  unfold dgd at h
  split at h
  · next hc => exact ⟨hc, h⟩
  · cases h
theorem dgd_t {c : Prop} [Decidable c] {x : Option dZ} (h : c) : dgd c x = x := if_pos h
noncomputable def dbd (x : Option dZ) (k : mMem → Int → Option dZ) : Option dZ := match x with
  | some z => k z.1 z.2
  | none => none
theorem dbd_inv {x : Option dZ} {k : mMem → Int → Option dZ} {z : dZ} (h : dbd x k = some z) : ∃ N v, x = some (N, v) ∧ k N v = some z := by
  cases x with
  | none => cases h
  | some q => exact ⟨q.1, q.2, rfl, h⟩
theorem dbd_s {N : mMem} {v : Int} {x : Option dZ} {k : mMem → Int → Option dZ} (h : x = some (N, v)) : dbd x k = k N v := by rw [h]; rfl
noncomputable def dlt (M : mMem) (k : mMem → Option dZ) : Option dZ := k M
noncomputable def dln (n : Nat) (k : Nat → Option dZ) : Option dZ := k n
noncomputable def dEb (a b : mE) : Bool := Nat.beq a.1 b.1 && (Nat.beq a.2.1 b.2.1 && (decide (a.2.2.1 = b.2.2.1) && (decide (a.2.2.2.1 = b.2.2.2.1) && (sIEq a.2.2.2.2.1 b.2.2.2.2.1 && (Nat.beq a.2.2.2.2.2.1 b.2.2.2.2.2.1 && (Nat.beq a.2.2.2.2.2.2.1 b.2.2.2.2.2.2.1 && Nat.beq a.2.2.2.2.2.2.2 b.2.2.2.2.2.2.2))))))
theorem dEb_eq {a b : mE} (h : dEb a b = true) : a = b := by
  obtain ⟨a1, a2, a3, a4, a5, a6, a7, a8⟩ := a
  obtain ⟨b1, b2, b3, b4, b5, b6, b7, b8⟩ := b
  unfold dEb at h
  simp only [Bool.and_eq_true, decide_eq_true_eq, Nat.beq_eq, sIEq_d] at h
  obtain ⟨h1, h2, h3, h4, h5, h6, h7, h8⟩ := h
  rw [h1, h2, h3, h4, h5, h6, h7, h8]
noncomputable def dFb (mi pc : Nat) (b : mE) : Bool := match mFind (mTab mi) pc with
  | some a => dEb a b
  | none => false
theorem dFb_eq {mi pc : Nat} {b : mE} (h : dFb mi pc b = true) : mFind (mTab mi) pc = some b := by
  unfold dFb at h
  split at h
  · next a ha => rw [ha, dEb_eq h]
  · cases h
theorem dLk_cons (q : Nat × Value) (N : List (Nat × Value)) (i : Nat) : mLk (q :: N) i = bif Nat.beq q.1 i then some q.2 else mLk N i := by
  unfold mLk
  rw [List.find?_cons]
  cases Nat.beq q.1 i <;> rfl
theorem dLk_fil {p : Nat × Value → Bool} {j : Nat} {w : Value} : ∀ {N : List (Nat × Value)}, mLk N j = some w → p (j, w) = true → mLk (N.filter p) j = some w
  | [], h, _ => h
  | q :: N, h, hp => by
    have ih := dLk_fil (p := p) (j := j) (w := w) (N := N)
    rw [dLk_cons] at h
    rw [List.filter_cons]
    cases c : Nat.beq q.1 j with
    | true =>
      rw [c, cond_true] at h
      have e : q = (j, w) := Prod.ext (Nat.eq_of_beq_eq_true c) (Option.some.inj h)
      subst e
      rw [if_pos hp, dLk_cons, c]
      rfl
    | false =>
      rw [c, cond_false] at h
      split
      · rw [dLk_cons, c]
        exact ih h hp
      · exact ih h hp
theorem dLk_same {L : List (Nat × Value)} {i : Nat} {v : Value} : mLk (mSt1 L i v) i = some v := by
  unfold mSt1
  rw [dLk_cons, Nat.beq_refl]
  rfl
theorem dLk_ne {L : List (Nat × Value)} {i j : Nat} {v w : Value} (h : mLk L j = some w) (hn : j ≠ i) (hw : w.category = 1) : mLk (mSt1 L i v) j = some w := by
  unfold mSt1
  have hb : Nat.beq i j = false := by
    cases c : Nat.beq i j with
    | false => rfl
    | true => exact absurd (Nat.eq_of_beq_eq_true c).symm hn
  rw [dLk_cons, hb, cond_false]
  refine dLk_fil h ?_
  show (!(j == i) && !(j + 1 == i && w.category == 2)) = true
  rw [hw, beq_false_of_ne hn]
  simp
theorem dRuns_more {T : Nat → List mE} {I : Nat → mI} {XN : Nat → Nat} {XF : Nat → Nat → Int32} {fr lo mi fr2 lo2 : Nat} {x : mCfg} {r : Option Value × mMem} (h : mRuns T I XN XF fr lo mi x r) (h1 : fr ≤ fr2) (h2 : lo ≤ lo2) : mRuns T I XN XF fr2 lo2 mi x r := by
  obtain ⟨F, hF⟩ := h
  exact ⟨F, fun f hf => mExec_more f fr lo mi x r fr2 lo2 (hF f hf) h1 h2⟩

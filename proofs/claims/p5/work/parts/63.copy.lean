/-! ===== loops that copy; written by wip/box/gencopy.py ===== -/
noncomputable def yI (k : Nat) : Int32 := Int32.ofInt (k : Int)
theorem yI_int {k : Nat} (h : k < 2147483648) : (yI k).toInt = (k : Int) := i32_val rfl (by omega) (by omega)
theorem yI_nat {k : Nat} (h : k < 2147483648) : (yI k).toNatClampNeg = k := by
  show (yI k).toInt.toNat = k
  rw [yI_int h]
  omega
theorem yI_succ {k : Nat} : yI k + Int32.ofInt 1 = yI (k + 1) := by
  unfold yI
  rw [← Int32.ofInt_add]
  rfl
theorem yI_ge {k : Nat} (h : k < 1850) : mIf .ge (yI k) (Int32.ofInt 1850) = false := by
  show decide (Int32.ofInt 1850 ≤ yI k) = false
  apply decide_eq_false
  rw [Int32.le_iff_toInt_le, yI_int (by omega), i32_val (X := Int32.ofInt 1850) (a := 1850) rfl (by omega) (by omega)]
  omega
theorem yI_in {k n : Nat} (h : k < n) (hn : n ≤ 2048) : mInO (yI k) n = true := by
  unfold mInO
  rw [i32_neg rfl (by rw [yI_int (by omega)]; omega), yI_nat (by omega), show Nat.blt k n = true from by rw [Nat.blt_eq]; exact h, Nat.ble_eq.mpr hn]
  rfl
/-- the check's object and its three rows -/
noncomputable def yMod (N : mMem) : Prop := N.1 = 529 ∧ ((mObj N 525).1 = 8 ∧ (mObj N 525).2.1 = 7) ∧ (mSlot (mObj N 525) 1 = .ref 526 ∧ mSlot (mObj N 525) 2 = .ref 527 ∧ mSlot (mObj N 525) 6 = .ref 528) ∧ ∀ o, 526 ≤ o → o < 529 → (mObj N o).1 = 100 ∧ (mObj N o).2.1 = 1850 ∧ ∀ k, k < 1850 → ∃ x, mSlot (mObj N o) k = .int x
/-- M is N but for a row, whose slots from k0 up to k are f's -/
noncomputable def yRw (N M : mMem) (a : Nat) (f : Nat → Value) (k0 k : Nat) : Prop := M.1 = N.1 ∧ M.2.1 = N.2.1 ∧ (∀ o, o < 529 → (mObj M o).1 = (mObj N o).1 ∧ (mObj M o).2.1 = (mObj N o).2.1) ∧ ∀ o j, o < 1024 → j < 2048 → mSlot (mObj M o) j = if o = a ∧ k0 ≤ j ∧ j < k then f j else mSlot (mObj N o) j
theorem yRw_0 (N : mMem) (a : Nat) (f : Nat → Value) (k0 : Nat) : yRw N N a f k0 k0 := ⟨rfl, rfl, fun _ _ => ⟨rfl, rfl⟩, fun o j _ _ => by rw [if_neg (by omega)]⟩
theorem yRw_s {N M : mMem} {a k0 k : Nat} {f : Nat → Value} {x : Int32} (h : yRw N M a f k0 k) (ha : a < 529) (h0 : k0 ≤ k) (hk : k < 2048) (hf : f k = .int x) : yRw N (mPut M a (mCset (mObj M a) k (.int x))) a f k0 (k + 1) := by
  obtain ⟨h1, h2, h3, h4⟩ := h
  refine ⟨h1, h2, fun o ho => ?_, fun o j ho hj => ?_⟩
  · rw [mObj_put (by omega) (by omega)]
    by_cases e : a = o
    · rw [if_pos e, ← e]; exact h3 a ha
    · rw [if_neg e]; exact h3 o ho
  · rw [mObj_put (by omega) (by omega)]
    by_cases e : a = o
    · subst e
      rw [if_pos rfl, mSlot_set hk hj]
      by_cases e2 : k = j
      · subst e2
        rw [if_pos rfl, if_pos ⟨rfl, h0, by omega⟩, hf]
      · rw [if_neg e2, h4 a j ho hj]
        by_cases e3 : k0 ≤ j ∧ j < k
        · rw [if_pos ⟨rfl, e3.1, e3.2⟩, if_pos ⟨rfl, e3.1, by omega⟩]
        · rw [if_neg (fun h => e3 h.2), if_neg (fun h => e3 ⟨h.2.1, by omega⟩)]
    · rw [if_neg e, h4 o j ho hj, if_neg (fun h => e h.1.symm), if_neg (fun h => e h.1.symm)]
theorem yRw_g {N M : mMem} {a k0 k o j : Nat} {f : Nat → Value} (h : yRw N M a f k0 k) (ho : o < 1024) (hj : j < 2048) (hn : ¬ (o = a ∧ k0 ≤ j ∧ j < k)) : mSlot (mObj M o) j = mSlot (mObj N o) j := by rw [h.2.2.2 o j ho hj, if_neg hn]
section YCP
variable {XN : Nat → Nat} {XF : Nat → Nat → Int32} {fr lo : Nat} {N M : mMem} {a k0 k : Nat} {f : Nat → Value}
theorem yM_lt (hN : yMod N) (h : yRw N M a f k0 k) (o : Nat) (ho : o < 529) : Nat.blt o M.1 = true := by rw [Nat.blt_eq, h.1, hN.1]; exact ho
theorem yM_k (hN : yMod N) (h : yRw N M a f k0 k) : Nat.beq (mObj M 525).1 8 = true := by rw [(h.2.2.1 525 (by omega)).1, hN.2.1.1]; rfl
theorem yM_n (hN : yMod N) (h : yRw N M a f k0 k) (j : Nat) (hj : j < 7) : Nat.blt j (mObj M 525).2.1 = true := by rw [(h.2.2.1 525 (by omega)).2, hN.2.1.2, Nat.blt_eq]; exact hj
theorem yM_f (h : yRw N M a f k0 k) (ha : 526 ≤ a) (j : Nat) (hj : j < 7) {w : Value} (hw : mSlot (mObj N 525) j = w) : mSlot (mObj M 525) j = w := by rw [yRw_g h (by omega) (by omega) (by omega)]; exact hw
theorem yR_k (hN : yMod N) (h : yRw N M a f k0 k) (o : Nat) (h1 : 526 ≤ o) (h2 : o < 529) : Nat.beq (mObj M o).1 100 = true := by rw [(h.2.2.1 o h2).1, (hN.2.2.2 o h1 h2).1]; rfl
theorem yR_i (hN : yMod N) (h : yRw N M a f k0 k) (o : Nat) (h1 : 526 ≤ o) (h2 : o < 529) {j : Nat} (hj : j < 1850) : mInO (yI j) (mObj M o).2.1 = true := by rw [(h.2.2.1 o h2).2, (hN.2.2.2 o h1 h2).2.1]; exact yI_in hj (by omega)
theorem y226_loop (hN : yMod N) : ∀ (d k : Nat) (M : mMem), k + d = 1850 → yRw N M 527 (mSlot (mObj N 526)) 0 k → ∃ M1, mRuns mTab mInf XN XF fr lo 226 (2, [(1, (.int (yI k))), (0, .ref 525)], [], M) (none, M1) ∧ yRw N M1 527 (mSlot (mObj N 526)) 0 1850
  | 0, k, M, hk, hM => by
    have hk : k = 1850 := by omega
    subst hk
    refine ⟨M, ?_, hM⟩
    refine st_iload h_226_2 (by rfl) ?_
    refine st_iconst h_226_3 ?_
    refine st_icmp h_226_6 ?_
    rw [show mIf .ge (yI 1850) (Int32.ofInt 1850) = true from by decide, cond_true]
    exact st_return (i := (0, 0, .nop, .nop, 0, 0, 0, 0)) h_226_27 rfl
  | d + 1, k, M, hk, hM => by
    have hk2 : k < 1850 := by omega
    obtain ⟨x, hx⟩ := (hN.2.2.2 526 (by omega) (by omega)).2.2 k hk2
    have hxM : mSlot (mObj M 526) k = .int x := by rw [yRw_g hM (by omega) (by omega) (by omega)]; exact hx
    obtain ⟨M2, r1, r2⟩ := y226_loop hN d (k + 1) _ (by omega) (yRw_s hM (by omega) (by omega) (by omega) hx)
    refine ⟨M2, ?_, r2⟩
    refine st_iload h_226_2 (by rfl) ?_
    refine st_iconst h_226_3 ?_
    refine st_icmp h_226_6 ?_
    rw [yI_ge (by omega), cond_false]
    refine st_aload h_226_9 (by rfl) ?_
    refine st_getfield h_226_10 (yM_lt hN hM 525 (by omega)) (yM_k hN hM) (yM_n hN hM 2 (by omega)) (yM_f hM (by omega) 2 (by omega) hN.2.2.1.2.1) ?_
    refine st_iload h_226_13 (by rfl) ?_
    refine st_aload h_226_14 (by rfl) ?_
    refine st_getfield h_226_15 (yM_lt hN hM 525 (by omega)) (yM_k hN hM) (yM_n hN hM 1 (by omega)) (yM_f hM (by omega) 1 (by omega) hN.2.2.1.1) ?_
    refine st_iload h_226_18 (by rfl) ?_
    refine st_iaload h_226_19 rfl (yM_lt hN hM 526 (by omega)) (yR_k hN hM 526 (by omega) (by omega)) (yR_i hN hM 526 (by omega) (by omega) hk2) (by rw [yI_nat (by omega)]; exact hxM) ?_
    refine st_iastore h_226_20 (yM_lt hN hM 527 (by omega)) (yR_k hN hM 527 (by omega) (by omega)) (yR_i hN hM 527 (by omega) (by omega) hk2) ?_
    refine st_iinc h_226_21 (by rfl) (by rfl) ?_
    refine st_goto h_226_24 ?_
    rw [yI_nat (by omega)]
    show mRuns mTab mInf XN XF fr lo 226 (2, [(1, (.int (yI k + Int32.ofInt 1))), (0, .ref 525)], [], _) (none, M2)
    rw [yI_succ]
    exact r1
theorem y226_run (hN : yMod N) : ∃ M1, mRuns mTab mInf XN XF fr lo 226 (0, lv_args 0 [.ref 525], [], N) (none, M1) ∧ yRw N M1 527 (mSlot (mObj N 526)) 0 1850 := by
  obtain ⟨M1, h1, h2⟩ := y226_loop (XN := XN) (XF := XF) (fr := fr) (lo := lo) hN 1850 0 N (by omega) (yRw_0 N 527 _ 0)
  refine ⟨M1, ?_, h2⟩
  refine st_iconst h_226_0 ?_
  refine st_istore h_226_1 (by rfl) ?_
  exact h1
theorem y227_loop (hN : yMod N) : ∀ (d k : Nat) (M : mMem), k + d = 1850 → yRw N M 526 (mSlot (mObj N 527)) 0 k → ∃ M1, mRuns mTab mInf XN XF fr lo 227 (2, [(1, (.int (yI k))), (0, .ref 525)], [], M) (none, M1) ∧ yRw N M1 526 (mSlot (mObj N 527)) 0 1850
  | 0, k, M, hk, hM => by
    have hk : k = 1850 := by omega
    subst hk
    refine ⟨M, ?_, hM⟩
    refine st_iload h_227_2 (by rfl) ?_
    refine st_iconst h_227_3 ?_
    refine st_icmp h_227_6 ?_
    rw [show mIf .ge (yI 1850) (Int32.ofInt 1850) = true from by decide, cond_true]
    exact st_return (i := (0, 0, .nop, .nop, 0, 0, 0, 0)) h_227_27 rfl
  | d + 1, k, M, hk, hM => by
    have hk2 : k < 1850 := by omega
    obtain ⟨x, hx⟩ := (hN.2.2.2 527 (by omega) (by omega)).2.2 k hk2
    have hxM : mSlot (mObj M 527) k = .int x := by rw [yRw_g hM (by omega) (by omega) (by omega)]; exact hx
    obtain ⟨M2, r1, r2⟩ := y227_loop hN d (k + 1) _ (by omega) (yRw_s hM (by omega) (by omega) (by omega) hx)
    refine ⟨M2, ?_, r2⟩
    refine st_iload h_227_2 (by rfl) ?_
    refine st_iconst h_227_3 ?_
    refine st_icmp h_227_6 ?_
    rw [yI_ge (by omega), cond_false]
    refine st_aload h_227_9 (by rfl) ?_
    refine st_getfield h_227_10 (yM_lt hN hM 525 (by omega)) (yM_k hN hM) (yM_n hN hM 1 (by omega)) (yM_f hM (by omega) 1 (by omega) hN.2.2.1.1) ?_
    refine st_iload h_227_13 (by rfl) ?_
    refine st_aload h_227_14 (by rfl) ?_
    refine st_getfield h_227_15 (yM_lt hN hM 525 (by omega)) (yM_k hN hM) (yM_n hN hM 2 (by omega)) (yM_f hM (by omega) 2 (by omega) hN.2.2.1.2.1) ?_
    refine st_iload h_227_18 (by rfl) ?_
    refine st_iaload h_227_19 rfl (yM_lt hN hM 527 (by omega)) (yR_k hN hM 527 (by omega) (by omega)) (yR_i hN hM 527 (by omega) (by omega) hk2) (by rw [yI_nat (by omega)]; exact hxM) ?_
    refine st_iastore h_227_20 (yM_lt hN hM 526 (by omega)) (yR_k hN hM 526 (by omega) (by omega)) (yR_i hN hM 526 (by omega) (by omega) hk2) ?_
    refine st_iinc h_227_21 (by rfl) (by rfl) ?_
    refine st_goto h_227_24 ?_
    rw [yI_nat (by omega)]
    show mRuns mTab mInf XN XF fr lo 227 (2, [(1, (.int (yI k + Int32.ofInt 1))), (0, .ref 525)], [], _) (none, M2)
    rw [yI_succ]
    exact r1
theorem y227_run (hN : yMod N) : ∃ M1, mRuns mTab mInf XN XF fr lo 227 (0, lv_args 0 [.ref 525], [], N) (none, M1) ∧ yRw N M1 526 (mSlot (mObj N 527)) 0 1850 := by
  obtain ⟨M1, h1, h2⟩ := y227_loop (XN := XN) (XF := XF) (fr := fr) (lo := lo) hN 1850 0 N (by omega) (yRw_0 N 526 _ 0)
  refine ⟨M1, ?_, h2⟩
  refine st_iconst h_227_0 ?_
  refine st_istore h_227_1 (by rfl) ?_
  exact h1
theorem y148_loop (hN : yMod N) {n : Int32} : ∀ (d k : Nat) (M : mMem), k + d = 1850 → yRw N M 526 (fun _ => Value.int (Int32.ofInt 0)) 0 k → ∃ M1, mRuns mTab mInf XN XF fr lo 148 (20, [(2, (.int (yI k))), (0, .ref 525), (1, .int n)], [], M) (some (.int (Int32.ofInt 1)), mPut M1 526 (mCset (mObj M1 526) 6 (.int (n - Int32.ofInt 3)))) ∧ yRw N M1 526 (fun _ => Value.int (Int32.ofInt 0)) 0 1850
  | 0, k, M, hk, hM => by
    have hk : k = 1850 := by omega
    subst hk
    refine ⟨M, ?_, hM⟩
    refine st_iload h_148_20 (by rfl) ?_
    refine st_iconst h_148_21 ?_
    refine st_icmp h_148_24 ?_
    rw [show mIf .ge (yI 1850) (Int32.ofInt 1850) = true from by decide, cond_true]
    refine st_aload h_148_40 (by rfl) ?_
    refine st_getfield h_148_41 (yM_lt hN hM 525 (by omega)) (yM_k hN hM) (yM_n hN hM 1 (by omega)) (yM_f hM (by omega) 1 (by omega) hN.2.2.1.1) ?_
    refine st_iconst h_148_44 ?_
    refine st_iload h_148_46 (by rfl) ?_
    refine st_iconst h_148_47 ?_
    refine st_isub h_148_48 ?_
    refine st_iastore h_148_49 (yM_lt hN hM 526 (by omega)) (yR_k hN hM 526 (by omega) (by omega)) (yR_i hN hM 526 (by omega) (by omega) (j := 6) (by omega)) ?_
    refine st_iconst h_148_50 ?_
    exact st_ireturn h_148_51 (ty := .boolean) rfl rfl
  | d + 1, k, M, hk, hM => by
    have hk2 : k < 1850 := by omega
    have hx : (fun _ => Value.int (Int32.ofInt 0)) k = .int (Int32.ofInt 0) := rfl
    obtain ⟨M2, r1, r2⟩ := y148_loop hN d (k + 1) _ (by omega) (yRw_s hM (by omega) (by omega) (by omega) hx)
    refine ⟨M2, ?_, r2⟩
    refine st_iload h_148_20 (by rfl) ?_
    refine st_iconst h_148_21 ?_
    refine st_icmp h_148_24 ?_
    rw [yI_ge (by omega), cond_false]
    refine st_aload h_148_27 (by rfl) ?_
    refine st_getfield h_148_28 (yM_lt hN hM 525 (by omega)) (yM_k hN hM) (yM_n hN hM 1 (by omega)) (yM_f hM (by omega) 1 (by omega) hN.2.2.1.1) ?_
    refine st_iload h_148_31 (by rfl) ?_
    refine st_iconst h_148_32 ?_
    refine st_iastore h_148_33 (yM_lt hN hM 526 (by omega)) (yR_k hN hM 526 (by omega) (by omega)) (yR_i hN hM 526 (by omega) (by omega) hk2) ?_
    refine st_iinc h_148_34 (by rfl) (by rfl) ?_
    refine st_goto h_148_37 ?_
    rw [yI_nat (by omega)]
    show mRuns mTab mInf XN XF fr lo 148 (20, [(2, (.int (yI k + Int32.ofInt 1))), (0, .ref 525), (1, .int n)], [], _) (some (.int (Int32.ofInt 1)), mPut M2 526 (mCset (mObj M2 526) 6 (.int (n - Int32.ofInt 3))))
    rw [yI_succ]
    exact r1
theorem y246t_loop (hN : yMod N) {t : Int32} (ht : mIf .eq t 0 = false) : ∀ (d k : Nat) (M : mMem), k + d = 1850 → yRw N M 528 (mSlot (mObj N 526)) 0 k → ∃ M1, mRuns mTab mInf XN XF fr lo 246 (25, [(2, (.int (yI k))), (0, .ref 525), (1, .int t)], [], M) (some (.int (Int32.ofInt 1)), M1) ∧ yRw N M1 528 (mSlot (mObj N 526)) 0 1850
  | 0, k, M, hk, hM => by
    have hk : k = 1850 := by omega
    subst hk
    refine ⟨M, ?_, hM⟩
    refine st_iload h_246_25 (by rfl) ?_
    refine st_iconst h_246_26 ?_
    refine st_icmp h_246_29 ?_
    rw [show mIf .ge (yI 1850) (Int32.ofInt 1850) = true from by decide, cond_true]
    refine st_iconst h_246_69 ?_
    exact st_ireturn h_246_70 (ty := .boolean) rfl rfl
  | d + 1, k, M, hk, hM => by
    have hk2 : k < 1850 := by omega
    obtain ⟨x, hx⟩ := (hN.2.2.2 526 (by omega) (by omega)).2.2 k hk2
    have hxM : mSlot (mObj M 526) k = .int x := by rw [yRw_g hM (by omega) (by omega) (by omega)]; exact hx
    obtain ⟨M2, r1, r2⟩ := y246t_loop hN ht d (k + 1) _ (by omega) (yRw_s hM (by omega) (by omega) (by omega) hx)
    refine ⟨M2, ?_, r2⟩
    refine st_iload h_246_25 (by rfl) ?_
    refine st_iconst h_246_26 ?_
    refine st_icmp h_246_29 ?_
    rw [yI_ge (by omega), cond_false]
    refine st_iload h_246_32 (by rfl) ?_
    refine st_if h_246_33 ?_
    rw [ht, cond_false]
    refine st_aload h_246_36 (by rfl) ?_
    refine st_getfield h_246_37 (yM_lt hN hM 525 (by omega)) (yM_k hN hM) (yM_n hN hM 6 (by omega)) (yM_f hM (by omega) 6 (by omega) hN.2.2.1.2.2) ?_
    refine st_iload h_246_40 (by rfl) ?_
    refine st_aload h_246_41 (by rfl) ?_
    refine st_getfield h_246_42 (yM_lt hN hM 525 (by omega)) (yM_k hN hM) (yM_n hN hM 1 (by omega)) (yM_f hM (by omega) 1 (by omega) hN.2.2.1.1) ?_
    refine st_iload h_246_45 (by rfl) ?_
    refine st_iaload h_246_46 rfl (yM_lt hN hM 526 (by omega)) (yR_k hN hM 526 (by omega) (by omega)) (yR_i hN hM 526 (by omega) (by omega) hk2) (by rw [yI_nat (by omega)]; exact hxM) ?_
    refine st_iastore h_246_47 (yM_lt hN hM 528 (by omega)) (yR_k hN hM 528 (by omega) (by omega)) (yR_i hN hM 528 (by omega) (by omega) hk2) ?_
    refine st_goto h_246_48 ?_
    refine st_iinc h_246_63 (by rfl) (by rfl) ?_
    refine st_goto h_246_66 ?_
    rw [yI_nat (by omega)]
    show mRuns mTab mInf XN XF fr lo 246 (25, [(2, (.int (yI k + Int32.ofInt 1))), (0, .ref 525), (1, .int t)], [], _) (some (.int (Int32.ofInt 1)), M2)
    rw [yI_succ]
    exact r1
theorem y246b_loop (hN : yMod N) : ∀ (d k : Nat) (M : mMem), k + d = 1850 → yRw N M 526 (mSlot (mObj N 528)) 0 k → ∃ M1, mRuns mTab mInf XN XF fr lo 246 (25, [(2, (.int (yI k))), (0, .ref 525), (1, .int (Int32.ofInt 0))], [], M) (some (.int (Int32.ofInt 1)), M1) ∧ yRw N M1 526 (mSlot (mObj N 528)) 0 1850
  | 0, k, M, hk, hM => by
    have hk : k = 1850 := by omega
    subst hk
    refine ⟨M, ?_, hM⟩
    refine st_iload h_246_25 (by rfl) ?_
    refine st_iconst h_246_26 ?_
    refine st_icmp h_246_29 ?_
    rw [show mIf .ge (yI 1850) (Int32.ofInt 1850) = true from by decide, cond_true]
    refine st_iconst h_246_69 ?_
    exact st_ireturn h_246_70 (ty := .boolean) rfl rfl
  | d + 1, k, M, hk, hM => by
    have hk2 : k < 1850 := by omega
    obtain ⟨x, hx⟩ := (hN.2.2.2 528 (by omega) (by omega)).2.2 k hk2
    have hxM : mSlot (mObj M 528) k = .int x := by rw [yRw_g hM (by omega) (by omega) (by omega)]; exact hx
    obtain ⟨M2, r1, r2⟩ := y246b_loop hN d (k + 1) _ (by omega) (yRw_s hM (by omega) (by omega) (by omega) hx)
    refine ⟨M2, ?_, r2⟩
    refine st_iload h_246_25 (by rfl) ?_
    refine st_iconst h_246_26 ?_
    refine st_icmp h_246_29 ?_
    rw [yI_ge (by omega), cond_false]
    refine st_iload h_246_32 (by rfl) ?_
    refine st_if h_246_33 ?_
    rw [show mIf .eq (Int32.ofInt 0) 0 = true from by decide, cond_true]
    refine st_aload h_246_51 (by rfl) ?_
    refine st_getfield h_246_52 (yM_lt hN hM 525 (by omega)) (yM_k hN hM) (yM_n hN hM 1 (by omega)) (yM_f hM (by omega) 1 (by omega) hN.2.2.1.1) ?_
    refine st_iload h_246_55 (by rfl) ?_
    refine st_aload h_246_56 (by rfl) ?_
    refine st_getfield h_246_57 (yM_lt hN hM 525 (by omega)) (yM_k hN hM) (yM_n hN hM 6 (by omega)) (yM_f hM (by omega) 6 (by omega) hN.2.2.1.2.2) ?_
    refine st_iload h_246_60 (by rfl) ?_
    refine st_iaload h_246_61 rfl (yM_lt hN hM 528 (by omega)) (yR_k hN hM 528 (by omega) (by omega)) (yR_i hN hM 528 (by omega) (by omega) hk2) (by rw [yI_nat (by omega)]; exact hxM) ?_
    refine st_iastore h_246_62 (yM_lt hN hM 526 (by omega)) (yR_k hN hM 526 (by omega) (by omega)) (yR_i hN hM 526 (by omega) (by omega) hk2) ?_
    refine st_iinc h_246_63 (by rfl) (by rfl) ?_
    refine st_goto h_246_66 ?_
    rw [yI_nat (by omega)]
    show mRuns mTab mInf XN XF fr lo 246 (25, [(2, (.int (yI k + Int32.ofInt 1))), (0, .ref 525), (1, .int (Int32.ofInt 0))], [], _) (some (.int (Int32.ofInt 1)), M2)
    rw [yI_succ]
    exact r1
end YCP

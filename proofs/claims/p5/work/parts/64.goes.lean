/-! ===== a message goes: those behind it move up ===== -/
theorem yRw_one (N : mMem) {k : Nat} (x : Int32) (hk : k < 2048) : yRw N (mPut N 526 (mCset (mObj N 526) k (.int x))) 526 (fun _ => .int x) k (k + 1) := yRw_s (yRw_0 N 526 _ k) (by omega) (Nat.le_refl k) hk rfl
theorem yMod_rw {N M : mMem} {a k0 k : Nat} {f : Nat → Value} (hN : yMod N) (h : yRw N M a f k0 k) (ha : 526 ≤ a) (hf : ∀ j, k0 ≤ j → j < k → ∃ x, f j = .int x) : yMod M := by
  obtain ⟨n1, n2, n3, n4⟩ := hN
  obtain ⟨h1, h2, h3, h4⟩ := h
  refine ⟨h1.trans n1, ?_, ?_, fun o ho1 ho2 => ?_⟩
  · rw [(h3 525 (by omega)).1, (h3 525 (by omega)).2]; exact n2
  · have g : ∀ j, j < 2048 → mSlot (mObj M 525) j = mSlot (mObj N 525) j := fun j hj => by rw [h4 525 j (by omega) hj, if_neg (by omega)]
    rw [g 1 (by omega), g 2 (by omega), g 6 (by omega)]
    exact n3
  · rw [(h3 o ho2).1, (h3 o ho2).2]
    refine ⟨(n4 o ho1 ho2).1, (n4 o ho1 ho2).2.1, fun j hj => ?_⟩
    rw [h4 o j (by omega) (by omega)]
    by_cases e : o = a ∧ k0 ≤ j ∧ j < k
    · rw [if_pos e]; exact hf j e.2.1 e.2.2
    · rw [if_neg e]; exact (n4 o ho1 ho2).2.2 j hj
theorem yI_at {i : Nat} : Int32.ofInt 710 + Int32.ofInt 7 * yI i = yI (710 + 7 * i) := by
  unfold yI
  rw [← Int32.ofInt_mul, ← Int32.ofInt_add]
  congr 1
  done
theorem yI_add {k j : Nat} : yI k + yI j = yI (k + j) := by
  unfold yI
  rw [← Int32.ofInt_add]
  congr 1
theorem yI_pred {m : Nat} (h : 1 ≤ m) : yI m + Int32.ofInt (-1) = yI (m - 1) := by
  unfold yI
  rw [← Int32.ofInt_add]
  congr 1
  omega
theorem yI_le {k e : Nat} (hk : k < 2147483648) (he : e < 2147483648) (h : e ≤ k) : mIf .ge (yI k) (yI e) = true := by
  show decide (yI e ≤ yI k) = true
  apply decide_eq_true
  rw [Int32.le_iff_toInt_le, yI_int hk, yI_int he]
  omega
theorem yI_lt {k e : Nat} (hk : k < 2147483648) (he : e < 2147483648) (h : k < e) : mIf .ge (yI k) (yI e) = false := by
  show decide (yI e ≤ yI k) = false
  apply decide_eq_false
  rw [Int32.le_iff_toInt_le, yI_int hk, yI_int he]
  omega
section YGO
variable {XN : Nat → Nat} {XF : Nat → Nat → Int32} {fr lo : Nat} {N M : mMem}
theorem y131_run (hN : yMod N) {k : Nat} (hk : k < 1850) {d x : Int32} (hx : mSlot (mObj N 526) k = .int x) : mRuns mTab mInf XN XF fr lo 131 (0, lv_args 0 [.ref 525, .int (yI k), .int d], [], N) (none, mPut N 526 (mCset (mObj N 526) k (.int (x + d)))) := by
  have h0 := yRw_0 N 526 (fun _ => Value.null) 0
  refine st_aload h_131_0 (by rfl) ?_
  refine st_getfield h_131_1 (yM_lt hN h0 525 (by omega)) (yM_k hN h0) (yM_n hN h0 1 (by omega)) (yM_f h0 (by omega) 1 (by omega) hN.2.2.1.1) ?_
  refine st_iload h_131_4 (by rfl) ?_
  refine st_aload h_131_5 (by rfl) ?_
  refine st_getfield h_131_6 (yM_lt hN h0 525 (by omega)) (yM_k hN h0) (yM_n hN h0 1 (by omega)) (yM_f h0 (by omega) 1 (by omega) hN.2.2.1.1) ?_
  refine st_iload h_131_9 (by rfl) ?_
  refine st_iaload h_131_10 rfl (yM_lt hN h0 526 (by omega)) (yR_k hN h0 526 (by omega) (by omega)) (yR_i hN h0 526 (by omega) (by omega) hk) (by rw [yI_nat (by omega)]; exact hx) ?_
  refine st_iload h_131_11 (by rfl) ?_
  refine st_iadd h_131_12 ?_
  refine st_iastore h_131_13 (yM_lt hN h0 526 (by omega)) (yR_k hN h0 526 (by omega) (by omega)) (yR_i hN h0 526 (by omega) (by omega) hk) ?_
  rw [yI_nat (by omega)]
  exact st_return (i := (0, 0, .nop, .nop, 0, 0, 0, 0)) h_131_14 rfl
theorem y164_run {i : Nat} : mRuns mTab mInf XN XF fr lo 164 (0, lv_args 0 [.ref 525, .int (yI i)], [], N) (some (.int (yI (710 + 7 * i))), N) := by
  refine st_iconst h_164_0 ?_
  refine st_iconst h_164_3 ?_
  refine st_iload h_164_5 (by rfl) ?_
  refine st_imul h_164_6 ?_
  refine st_iadd h_164_7 ?_
  rw [yI_at]
  exact st_ireturn h_164_8 (ty := .int) rfl rfl
/-- from the loop's head to its test -/
theorem y165_test (hN : yMod N) {c k0 k r : Nat} {f : Nat → Value} (hk0 : 710 ≤ k0) (hM : yRw N M 526 f k0 k) (h9 : mSlot (mObj N 526) 9 = .int (yI c)) (hf : Nat.ble 1 fr = true) (hl : Nat.ble 21 lo = true) {z : Option Value × mMem}
    (h : mRuns mTab mInf XN XF fr lo 165 (bif mIf .ge (yI k) (yI (710 + 7 * c)) then 49 else 28, [(2, (.int (yI k))), (0, .ref 525), (1, .int (yI r))], [], M) z) : mRuns mTab mInf XN XF fr lo 165 (13, [(2, (.int (yI k))), (0, .ref 525), (1, .int (yI r))], [], M) z := by
  refine st_iload h_165_13 (by rfl) ?_
  refine st_aload h_165_14 (by rfl) ?_
  refine st_aload h_165_15 (by rfl) ?_
  refine st_getfield h_165_16 (yM_lt hN hM 525 (by omega)) (yM_k hN hM) (yM_n hN hM 1 (by omega)) (yM_f hM (by omega) 1 (by omega) hN.2.2.1.1) ?_
  refine st_iconst h_165_19 ?_
  refine st_iaload (i := yI 9) h_165_21 rfl (yM_lt hN hM 526 (by omega)) (yR_k hN hM 526 (by omega) (by omega)) (yR_i hN hM 526 (by omega) (by omega) (by omega)) (by rw [yI_nat (by omega), yRw_g hM (by omega) (by omega) (by omega)]; exact h9) ?_
  refine st_call (o := 525) (as := [.int (yI c)]) (S := [.int (yI k)]) (w := some (.int (yI (710 + 7 * c)))) (M1 := M) h_165_22 rfl rfl rfl (yM_lt hN hM 525 (by omega)) (yM_k hN hM) rfl hf hl rfl y164_run rfl ?_
  exact st_icmp h_165_25 h
theorem y165_loop (hN : yMod N) {c k0 r : Nat} (hc : c ≤ 99) (hk0 : 710 ≤ k0) (h9 : mSlot (mObj N 526) 9 = .int (yI c)) (hf : Nat.ble 1 fr = true) (hl : Nat.ble 21 lo = true) : ∀ (d k : Nat) (M : mMem), k + d = 710 + 7 * c → k0 ≤ k → yRw N M 526 (fun j => mSlot (mObj N 526) (j + 7)) k0 k →
    ∃ M1, mRuns mTab mInf XN XF fr lo 165 (13, [(2, (.int (yI k))), (0, .ref 525), (1, .int (yI r))], [], M) (none, M1) ∧ yRw N M1 526 (fun j => mSlot (mObj N 526) (j + 7)) k0 (710 + 7 * c)
  | 0, k, M, hk, hkk, hM => by
    have hk : k = 710 + 7 * c := by omega
    subst hk
    refine ⟨M, y165_test hN hk0 hM h9 hf hl ?_, hM⟩
    rw [yI_le (by omega) (by omega) (Nat.le_refl _), cond_true]
    exact st_return (i := (0, 0, .nop, .nop, 0, 0, 0, 0)) h_165_49 rfl
  | d + 1, k, M, hk, hkk, hM => by
    obtain ⟨x, hx⟩ := (hN.2.2.2 526 (by omega) (by omega)).2.2 (k + 7) (by omega)
    have hxM : mSlot (mObj M 526) (k + 7) = .int x := by rw [yRw_g hM (by omega) (by omega) (by omega)]; exact hx
    obtain ⟨M2, r1, r2⟩ := y165_loop hN (r := r) hc hk0 h9 hf hl d (k + 1) _ (by omega) (by omega) (yRw_s hM (by omega) (by omega) (by omega) hx)
    refine ⟨M2, y165_test hN hk0 hM h9 hf hl ?_, r2⟩
    rw [yI_lt (by omega) (by omega) (by omega), cond_false]
    refine st_aload h_165_28 (by rfl) ?_
    refine st_getfield h_165_29 (yM_lt hN hM 525 (by omega)) (yM_k hN hM) (yM_n hN hM 1 (by omega)) (yM_f hM (by omega) 1 (by omega) hN.2.2.1.1) ?_
    refine st_iload h_165_32 (by rfl) ?_
    refine st_aload h_165_33 (by rfl) ?_
    refine st_getfield h_165_34 (yM_lt hN hM 525 (by omega)) (yM_k hN hM) (yM_n hN hM 1 (by omega)) (yM_f hM (by omega) 1 (by omega) hN.2.2.1.1) ?_
    refine st_iload h_165_37 (by rfl) ?_
    refine st_iconst h_165_38 ?_
    refine st_iadd h_165_40 ?_
    rw [show yI k + Int32.ofInt 7 = yI (k + 7) from yI_add (j := 7)]
    refine st_iaload h_165_41 rfl (yM_lt hN hM 526 (by omega)) (yR_k hN hM 526 (by omega) (by omega)) (yR_i hN hM 526 (by omega) (by omega) (by omega)) (by rw [yI_nat (by omega)]; exact hxM) ?_
    refine st_iastore h_165_42 (yM_lt hN hM 526 (by omega)) (yR_k hN hM 526 (by omega) (by omega)) (yR_i hN hM 526 (by omega) (by omega) (by omega)) ?_
    refine st_iinc h_165_43 (by rfl) (by rfl) ?_
    refine st_goto h_165_46 ?_
    rw [yI_nat (by omega)]
    show mRuns mTab mInf XN XF fr lo 165 (13, [(2, (.int (yI k + Int32.ofInt 1))), (0, .ref 525), (1, .int (yI r))], [], _) (none, M2)
    rw [yI_succ]
    exact r1
/-- what goes leaves -/
noncomputable def yGone (N M : mMem) (r c : Nat) : Prop := M.1 = N.1 ∧ M.2.1 = N.2.1 ∧ (∀ o, o < 529 → (mObj M o).1 = (mObj N o).1 ∧ (mObj M o).2.1 = (mObj N o).2.1) ∧
  ∀ o j, o < 1024 → j < 2048 → mSlot (mObj M o) j = if o = 526 ∧ j = 9 then .int (yI c) else if o = 526 ∧ 710 + 7 * r ≤ j ∧ j < 710 + 7 * c then mSlot (mObj N 526) (j + 7) else mSlot (mObj N o) j
theorem y165_run (hN : yMod N) {r c : Nat} (hr : r ≤ 99) (hc : c ≤ 99) (h9 : mSlot (mObj N 526) 9 = .int (yI (c + 1))) (hf : Nat.ble 1 fr = true) (hl : Nat.ble 22 lo = true) : ∃ M, mRuns mTab mInf XN XF fr lo 165 (0, lv_args 0 [.ref 525, .int (yI r)], [], N) (none, M) ∧ yGone N M r c := by
  have h0 := yRw_0 N 526 (fun _ => Value.null) 0
  have hl1 : Nat.ble 21 lo = true := Nat.ble_eq.mpr (by have := Nat.le_of_ble_eq_true hl; omega)
  have e9 : yI (c + 1) + Int32.ofInt (-1) = yI c := yI_pred (by omega)
  have w := yRw_one N (k := 9) (yI c) (by omega)
  have hN1 := yMod_rw hN w (by omega) (fun j _ _ => ⟨_, rfl⟩)
  obtain ⟨M1, hM1⟩ : ∃ M1, M1 = mPut N 526 (mCset (mObj N 526) 9 (.int (yI c))) := ⟨_, rfl⟩
  rw [← hM1] at w hN1
  have h91 : mSlot (mObj M1 526) 9 = .int (yI c) := by rw [w.2.2.2 526 9 (by omega) (by omega), if_pos ⟨rfl, by omega, by omega⟩]
  have w0 := yRw_0 M1 526 (fun j => mSlot (mObj M1 526) (j + 7)) (710 + 7 * r)
  obtain ⟨M2, g1, g2⟩ : ∃ M2, mRuns mTab mInf XN XF fr lo 165 (13, [(2, (.int (yI (710 + 7 * r)))), (0, .ref 525), (1, .int (yI r))], [], M1) (none, M2) ∧ ∃ e, yRw M1 M2 526 (fun j => mSlot (mObj M1 526) (j + 7)) (710 + 7 * r) e ∧ (e = 710 + 7 * c ∨ (e = 710 + 7 * r ∧ c ≤ r)) := by
    by_cases hcr : c ≤ r
    · refine ⟨M1, y165_test hN1 (by omega) w0 h91 hf hl1 ?_, _, w0, .inr ⟨rfl, hcr⟩⟩
      rw [yI_le (by omega) (by omega) (by omega), cond_true]
      exact st_return (i := (0, 0, .nop, .nop, 0, 0, 0, 0)) h_165_49 rfl
    · obtain ⟨M2, a, b⟩ := y165_loop (XN := XN) (XF := XF) hN1 (r := r) hc (k0 := 710 + 7 * r) (by omega) h91 hf hl1 (7 * (c - r)) (710 + 7 * r) M1 (by omega) (Nat.le_refl _) w0
      exact ⟨M2, a, _, b, .inl rfl⟩
  obtain ⟨e, g2, he⟩ := g2
  refine ⟨M2, ?_, g2.1.trans w.1, g2.2.1.trans w.2.1, fun o ho => ⟨(g2.2.2.1 o ho).1.trans (w.2.2.1 o ho).1, (g2.2.2.1 o ho).2.trans (w.2.2.1 o ho).2⟩, fun o j ho hj => ?_⟩
  · refine st_aload h_165_0 (by rfl) ?_
    refine st_iconst h_165_1 ?_
    refine st_iconst h_165_3 ?_
    refine st_call (o := 525) (as := [.int (yI 9), .int (Int32.ofInt (-1))]) (S := []) (w := none) (M1 := M1) h_165_4 rfl rfl rfl (yM_lt hN h0 525 (by omega)) (yM_k hN h0) rfl hf hl rfl (by rw [hM1, ← e9]; exact y131_run hN (by omega) h9) rfl ?_
    have hv := yRw_0 M1 526 (fun _ => Value.null) 0
    refine st_aload h_165_7 (by rfl) ?_
    refine st_iload h_165_8 (by rfl) ?_
    refine st_call (o := 525) (as := [.int (yI r)]) (S := []) (w := some (.int (yI (710 + 7 * r)))) (M1 := M1) h_165_9 rfl rfl rfl (yM_lt hN1 hv 525 (by omega)) (yM_k hN1 hv) rfl hf hl1 rfl y164_run rfl ?_
    refine st_istore h_165_12 (by rfl) ?_
    exact g1
  · rw [g2.2.2.2 o j ho hj]
    by_cases c1 : o = 526 ∧ 710 + 7 * r ≤ j ∧ j < e
    · have c2 : j < 710 + 7 * c := by omega
      rw [if_pos c1, if_neg (by omega), if_pos ⟨c1.1, c1.2.1, c2⟩]
      show mSlot (mObj M1 526) (j + 7) = _
      exact yRw_g w (by omega) (by omega) (by omega)
    · rw [if_neg c1, w.2.2.2 o j ho hj]
      by_cases c2 : o = 526 ∧ j = 9
      · rw [if_pos ⟨c2.1, by omega, by omega⟩, if_pos c2]
      · rw [if_neg (by omega), if_neg c2, if_neg (by omega)]
end YGO

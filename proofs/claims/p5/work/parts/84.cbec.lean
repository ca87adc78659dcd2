/-! ===== the class by hand: become, begin, image, with the cells that are followed; written by wip/box/gen84b.py ===== -/
theorem h_18_0 : mFind (mTab 18) 0 = some (0, 1, .aload_n 0, .aload 0, 0, 0, 0, 0) := mFb_eq (by decide +kernel)
theorem h_18_1 : mFind (mTab 18) 1 = some (1, 1, .aload_n 1, .aload 1, 0, 0, 0, 0) := mFb_eq (by decide +kernel)
theorem h_18_2 : mFind (mTab 18) 2 = some (2, 3, .getfield 9, .getfield 9, 0, 3, 0, 375) := mFb_eq (by decide +kernel)
theorem h_18_5 : mFind (mTab 18) 5 = some (5, 3, .putfield 9, .putfield 9, 0, 3, 0, 375) := mFb_eq (by decide +kernel)
theorem h_18_8 : mFind (mTab 18) 8 = some (8, 1, .aload_n 0, .aload 0, 0, 0, 0, 0) := mFb_eq (by decide +kernel)
theorem h_18_9 : mFind (mTab 18) 9 = some (9, 1, .aload_n 1, .aload 1, 0, 0, 0, 0) := mFb_eq (by decide +kernel)
theorem h_18_10 : mFind (mTab 18) 10 = some (10, 3, .getfield 72, .getfield 72, 0, 3, 1, 377) := mFb_eq (by decide +kernel)
theorem h_18_13 : mFind (mTab 18) 13 = some (13, 3, .putfield 72, .putfield 72, 0, 3, 1, 377) := mFb_eq (by decide +kernel)
theorem h_18_16 : mFind (mTab 18) 16 = some (16, 1, .aload_n 0, .aload 0, 0, 0, 0, 0) := mFb_eq (by decide +kernel)
theorem h_18_17 : mFind (mTab 18) 17 = some (17, 1, .aload_n 1, .aload 1, 0, 0, 0, 0) := mFb_eq (by decide +kernel)
theorem h_18_18 : mFind (mTab 18) 18 = some (18, 3, .getfield 75, .getfield 75, 0, 3, 2, 379) := mFb_eq (by decide +kernel)
theorem h_18_21 : mFind (mTab 18) 21 = some (21, 3, .putfield 75, .putfield 75, 0, 3, 2, 379) := mFb_eq (by decide +kernel)
theorem h_18_24 : mFind (mTab 18) 24 = some (24, 1, .aload_n 0, .aload 0, 0, 0, 0, 0) := mFb_eq (by decide +kernel)
theorem h_18_25 : mFind (mTab 18) 25 = some (25, 1, .aload_n 1, .aload 1, 0, 0, 0, 0) := mFb_eq (by decide +kernel)
theorem h_18_26 : mFind (mTab 18) 26 = some (26, 3, .getfield 78, .getfield 78, 0, 3, 3, 381) := mFb_eq (by decide +kernel)
theorem h_18_29 : mFind (mTab 18) 29 = some (29, 3, .putfield 78, .putfield 78, 0, 3, 3, 381) := mFb_eq (by decide +kernel)
theorem h_90_0 : mFind (mTab 90) 0 = some (0, 1, .iload_n 1, .iload 1, 0, 0, 0, 0) := mFb_eq (by decide +kernel)
theorem h_90_1 : mFind (mTab 90) 1 = some (1, 1, .iconst 2, .iconst 0, 2, 0, 0, 0) := mFb_eq (by decide +kernel)
theorem h_90_2 : mFind (mTab 90) 2 = some (2, 3, .if_icmp .lt 9, .if_icmp .lt 9, 0, 11, 0, 0) := mFb_eq (by decide +kernel)
theorem h_90_5 : mFind (mTab 90) 5 = some (5, 1, .iload_n 1, .iload 1, 0, 0, 0, 0) := mFb_eq (by decide +kernel)
theorem h_90_6 : mFind (mTab 90) 6 = some (6, 2, .bipush 8, .iconst 0, 8, 0, 0, 0) := mFb_eq (by decide +kernel)
theorem h_90_8 : mFind (mTab 90) 8 = some (8, 3, .if_icmp .le 5, .if_icmp .le 5, 0, 13, 0, 0) := mFb_eq (by decide +kernel)
theorem h_90_11 : mFind (mTab 90) 11 = some (11, 1, .iconst 0, .iconst 0, 0, 0, 0, 0) := mFb_eq (by decide +kernel)
theorem h_90_12 : mFind (mTab 90) 12 = some (12, 1, .ireturn, .ireturn, 0, 0, 0, 0) := mFb_eq (by decide +kernel)
theorem h_90_13 : mFind (mTab 90) 13 = some (13, 1, .aload_n 0, .aload 0, 0, 0, 0, 0) := mFb_eq (by decide +kernel)
theorem h_90_14 : mFind (mTab 90) 14 = some (14, 3, .getfield 12, .getfield 12, 0, 7, 0, 427) := mFb_eq (by decide +kernel)
theorem h_90_17 : mFind (mTab 90) 17 = some (17, 1, .aload_n 0, .aload 0, 0, 0, 0, 0) := mFb_eq (by decide +kernel)
theorem h_90_18 : mFind (mTab 90) 18 = some (18, 3, .getfield 16, .getfield 16, 0, 7, 1, 428) := mFb_eq (by decide +kernel)
theorem h_90_21 : mFind (mTab 90) 21 = some (21, 3, .invokevirtual 29, .invokevirtual 29, 0, 18, 3, 447) := mFb_eq (by decide +kernel)
theorem h_90_24 : mFind (mTab 90) 24 = some (24, 1, .aload_n 0, .aload 0, 0, 0, 0, 0) := mFb_eq (by decide +kernel)
theorem h_90_25 : mFind (mTab 90) 25 = some (25, 3, .getfield 12, .getfield 12, 0, 7, 0, 427) := mFb_eq (by decide +kernel)
theorem h_90_28 : mFind (mTab 90) 28 = some (28, 1, .iload_n 1, .iload 1, 0, 0, 0, 0) := mFb_eq (by decide +kernel)
theorem h_90_29 : mFind (mTab 90) 29 = some (29, 3, .putfield 33, .putfield 33, 0, 3, 0, 376) := mFb_eq (by decide +kernel)
theorem h_90_32 : mFind (mTab 90) 32 = some (32, 1, .iconst 1, .iconst 0, 1, 0, 0, 0) := mFb_eq (by decide +kernel)
theorem h_90_33 : mFind (mTab 90) 33 = some (33, 1, .ireturn, .ireturn, 0, 0, 0, 0) := mFb_eq (by decide +kernel)
theorem h_122_0 : mFind (mTab 122) 0 = some (0, 1, .iload_n 1, .iload 1, 0, 0, 0, 0) := mFb_eq (by decide +kernel)
theorem h_122_1 : mFind (mTab 122) 1 = some (1, 3, .ifCond .eq 22, .ifCond .eq 22, 0, 23, 0, 0) := mFb_eq (by decide +kernel)
theorem h_122_4 : mFind (mTab 122) 4 = some (4, 1, .aload_n 0, .aload 0, 0, 0, 0, 0) := mFb_eq (by decide +kernel)
theorem h_122_5 : mFind (mTab 122) 5 = some (5, 3, .getfield 22, .getfield 22, 0, 7, 3, 430) := mFb_eq (by decide +kernel)
theorem h_122_8 : mFind (mTab 122) 8 = some (8, 1, .aload_n 0, .aload 0, 0, 0, 0, 0) := mFb_eq (by decide +kernel)
theorem h_122_9 : mFind (mTab 122) 9 = some (9, 3, .getfield 12, .getfield 12, 0, 7, 0, 427) := mFb_eq (by decide +kernel)
theorem h_122_12 : mFind (mTab 122) 12 = some (12, 3, .invokevirtual 29, .invokevirtual 29, 0, 18, 3, 447) := mFb_eq (by decide +kernel)
theorem h_122_15 : mFind (mTab 122) 15 = some (15, 1, .aload_n 0, .aload 0, 0, 0, 0, 0) := mFb_eq (by decide +kernel)
theorem h_122_16 : mFind (mTab 122) 16 = some (16, 1, .iconst 1, .iconst 0, 1, 0, 0, 0) := mFb_eq (by decide +kernel)
theorem h_122_17 : mFind (mTab 122) 17 = some (17, 3, .putfield 25, .putfield 25, 0, 7, 4, 431) := mFb_eq (by decide +kernel)
theorem h_122_20 : mFind (mTab 122) 20 = some (20, 3, .goto 21, .goto 21, 0, 41, 0, 0) := mFb_eq (by decide +kernel)
theorem h_122_23 : mFind (mTab 122) 23 = some (23, 1, .aload_n 0, .aload 0, 0, 0, 0, 0) := mFb_eq (by decide +kernel)
theorem h_122_24 : mFind (mTab 122) 24 = some (24, 3, .getfield 25, .getfield 25, 0, 7, 4, 431) := mFb_eq (by decide +kernel)
theorem h_122_27 : mFind (mTab 122) 27 = some (27, 3, .ifCond .eq 14, .ifCond .eq 14, 0, 41, 0, 0) := mFb_eq (by decide +kernel)
theorem h_122_30 : mFind (mTab 122) 30 = some (30, 1, .aload_n 0, .aload 0, 0, 0, 0, 0) := mFb_eq (by decide +kernel)
theorem h_122_31 : mFind (mTab 122) 31 = some (31, 3, .getfield 12, .getfield 12, 0, 7, 0, 427) := mFb_eq (by decide +kernel)
theorem h_122_34 : mFind (mTab 122) 34 = some (34, 1, .aload_n 0, .aload 0, 0, 0, 0, 0) := mFb_eq (by decide +kernel)
theorem h_122_35 : mFind (mTab 122) 35 = some (35, 3, .getfield 22, .getfield 22, 0, 7, 3, 430) := mFb_eq (by decide +kernel)
theorem h_122_38 : mFind (mTab 122) 38 = some (38, 3, .invokevirtual 29, .invokevirtual 29, 0, 18, 3, 447) := mFb_eq (by decide +kernel)
theorem h_122_41 : mFind (mTab 122) 41 = some (41, 1, .aload_n 0, .aload 0, 0, 0, 0, 0) := mFb_eq (by decide +kernel)
theorem h_122_42 : mFind (mTab 122) 42 = some (42, 3, .getfield 25, .getfield 25, 0, 7, 4, 431) := mFb_eq (by decide +kernel)
theorem h_122_45 : mFind (mTab 122) 45 = some (45, 1, .ireturn, .ireturn, 0, 0, 0, 0) := mFb_eq (by decide +kernel)
noncomputable def zCQ : zW := zCw zCt
theorem cRing {N : mMem} (hg : zGood zC0 N) {o : Nat} (ho : o = 1 ∨ o = 132 ∨ o = 394) : Nat.blt o N.1 = true ∧ Nat.beq (mObj N o).1 3 = true ∧ (mObj N o).2.1 = 13 := by
  refine ⟨by rw [Nat.blt_eq, hg.1.1]; omega, ?_, ?_⟩
  · rw [(hg.1.2 o (by omega)).1]
    rcases ho with rfl | rfl | rfl <;> rfl
  · rw [(hg.1.2 o (by omega)).2.1]
    rcases ho with rfl | rfl | rfl <;> rfl
theorem cMain {N : mMem} (hg : zGood zC0 N) : Nat.blt 0 N.1 = true ∧ Nat.beq (mObj N 0).1 7 = true ∧ (mObj N 0).2.1 = 5 := by
  refine ⟨by rw [Nat.blt_eq, hg.1.1]; omega, ?_, ?_⟩
  · rw [(hg.1.2 0 (by omega)).1]; rfl
  · rw [(hg.1.2 0 (by omega)).2.1]; rfl
theorem cRef {N : mMem} (hg : zGood zC0 N) {k : Nat} (hk : k < 4) : mSlot (mObj N 0) k = .ref (1 + 131 * k) := by
  have h := hg.2.1 (0 * 2048 + k) (by omega) (.inr (1 + 131 * k)) (by
    show zSc1 ((0 * 2048 + k) / 2048) ((0 * 2048 + k) % 2048) = _
    rw [show (0 * 2048 + k) / 2048 = 0 by omega, show (0 * 2048 + k) % 2048 = k by omega]
    obtain rfl | rfl | rfl | rfl := (by omega : k = 0 ∨ k = 1 ∨ k = 2 ∨ k = 3) <;> rfl)
  have h : mAtk N (0 * 2048 + k) = .ref (1 + 131 * k) := h
  rw [mAtk_key N (by omega)] at h
  exact h
theorem cBox (o k : Nat) (ho : o = 1 ∨ o = 132 ∨ o = 394) (hk : k < 4) : zSc1 o k = some (.inl (if k = 0 then (2, 8) else (-2147483648, 2147483647))) := by
  obtain rfl | rfl | rfl | rfl := (by omega : k = 0 ∨ k = 1 ∨ k = 2 ∨ k = 3) <;> rcases ho with rfl | rfl | rfl <;> rfl
theorem cCell {N : mMem} (hg : zGood zC0 N) {o k : Nat} (ho : o = 1 ∨ o = 132 ∨ o = 394) (hk : k < 4) : ∃ x : Int32, mAtk N (o * 2048 + k) = .int x ∧ (k = 0 → 2 ≤ x.toInt ∧ x.toInt ≤ 8) := by
  obtain ⟨x, h1, h2, h3⟩ := hg.2.1 (o * 2048 + k) (by omega) (.inl (if k = 0 then (2, 8) else (-2147483648, 2147483647))) (by
    show zSc1 ((o * 2048 + k) / 2048) ((o * 2048 + k) % 2048) = _
    rw [show (o * 2048 + k) / 2048 = o by omega, show (o * 2048 + k) % 2048 = k by omega]
    exact cBox o k ho hk)
  refine ⟨x, h1, fun e => ?_⟩
  rw [if_pos e] at h2 h3
  exact ⟨h2, h3⟩
theorem cGood_put {N : mMem} {o k : Nat} {x : Int32} (hg : zGood zC0 N) (ho : o = 1 ∨ o = 132 ∨ o = 394) (hk : k < 4) (hx : k = 0 → 2 ≤ x.toInt ∧ x.toInt ≤ 8) : zGood zC0 (mPut N o (mCset (mObj N o) k (.int x))) := by
  refine ⟨zShape_put hg.1 (by omega) (by omega) (.inr ?_), fun key h s hs => ?_, fun key h c hc => (by cases hc)⟩
  · rcases ho with rfl | rfl | rfl <;> decide +kernel
  · rw [mAtk_put (by omega) (by omega) h]
    by_cases e : key = o * 2048 + k
    · rw [if_pos e]
      have hs : zSc1 (key / 2048) (key % 2048) = some s := hs
      rw [e, show (o * 2048 + k) / 2048 = o by omega, show (o * 2048 + k) % 2048 = k by omega, cBox o k ho hk] at hs
      cases hs
      by_cases e2 : k = 0
      · rw [if_pos e2]
        exact ⟨x, rfl, hx e2⟩
      · rw [if_neg e2]
        exact ⟨x, rfl, z32 x⟩
    · rw [if_neg e]; exact hg.2.1 key h s hs
theorem cGood_put4 {N : mMem} {x : Int32} (hg : zGood zC0 N) (hx : 0 ≤ x.toInt ∧ x.toInt ≤ 1) : zGood zC0 (mPut N 0 (mCset (mObj N 0) 4 (.int x))) := by
  refine ⟨zShape_put hg.1 (by omega) (by omega) (.inr (by decide +kernel)), fun key h s hs => ?_, fun key h c hc => (by cases hc)⟩
  rw [mAtk_put (by omega) (by omega) h]
  by_cases e : key = 0 * 2048 + 4
  · rw [if_pos e]
    have hs : zSc1 (key / 2048) (key % 2048) = some s := hs
    rw [e] at hs
    have hs : some zBb = some s := hs
    cases hs
    exact ⟨x, rfl, hx⟩
  · rw [if_neg e]; exact hg.2.1 key h s hs
/-- what is followed but in o's cells stands -/
noncomputable def cK (o : Nat) (N N1 : mMem) : Prop := N1.2.1 = N.2.1 ∧ (∀ key, 1075200 ≤ key → key < 2097152 → mAtk N1 key = mAtk N key) ∧ ∀ key, zTrk key = true → key / 2048 ≠ o → mAtk N1 key = mAtk N key
theorem cTrk_lt {key : Nat} (h : zTrk key = true) : key < 1075200 := by have := zTrk_o h; omega
theorem cK_0 (o : Nat) (N : mMem) : cK o N N := ⟨rfl, fun _ _ _ => rfl, fun _ _ _ => rfl⟩
theorem cK_t {o : Nat} {N N1 N2 : mMem} (h1 : cK o N N1) (h2 : cK o N1 N2) : cK o N N2 := ⟨h2.1.trans h1.1, fun key a b => (h2.2.1 key a b).trans (h1.2.1 key a b), fun key a b => (h2.2.2 key a b).trans (h1.2.2 key a b)⟩
theorem cK_put {o k : Nat} {v : Value} {N : mMem} (ho : o < 525) (hk : k < 2048) : cK o N (mPut N o (mCset (mObj N o) k v)) := ⟨rfl, fun key a b => by rw [mAtk_put (by omega) hk b, if_neg (by omega)], fun key a b => by rw [mAtk_put (by omega) hk (by have := cTrk_lt a; omega), if_neg (by omega)]⟩
theorem cK_rl {o q k : Nat} {con : Nat → List zS} {X : mMem → mMem → Prop} {N N1 : mMem} (hq : ∀ key, zTrk key = true → key / 2048 ≠ o → zTrw q key = false) (h : zRl (zCw con) X q k N N1) : cK o N N1 := by
  refine ⟨h.2.2.1, fun key a b => h.2.2.2.1 key b ?_, fun key a b => h.2.2.2.1 key (by have := cTrk_lt a; omega) ?_⟩
  · show zKc q key = true
    unfold zKc
    rw [Nat.ble_eq.mpr a]
    cases Nat.beq q 1 <;> rfl
  · show zKc q key = true
    unfold zKc
    rw [a, hq key a b]
    cases Nat.beq q 1 <;> cases Nat.ble 1075200 key <;> rfl
theorem cTrk_4 : zTrk 4 = true := by decide +kernel
theorem cTrk_o {o k : Nat} (ho : o = 1 ∨ o = 132 ∨ o = 394) (hk : k < 4) : zTrk (o * 2048 + k) = true := by
  obtain rfl | rfl | rfl | rfl := (by omega : k = 0 ∨ k = 1 ∨ k = 2 ∨ k = 3) <;> rcases ho with rfl | rfl | rfl <;> decide +kernel
section YCB
variable {xs : Nat → Int32} {L : Nat}
set_option maxRecDepth 100000 in
theorem y18_B : ([(1, 132), (394, 1), (1, 394)] : List (Nat × Nat)).all (fun p => zSeg zCQ (0, (0, false)) 18 9 200 32 [(0, (2, (p.1, (0, 0)))), (1, (2, (p.2, (0, 0))))] [] [] [] (some (none, []))) = true := by decide +kernel
theorem cBec (HC : ∀ mi, ∀ i ∈ zCt mi, zVal zC0 zXt mTab mInf (sXNl L) (sXF xs) mi i) {o s : Nat} (h : (o, s) ∈ ([(1, 132), (394, 1), (1, 394)] : List (Nat × Nat))) {N : mMem} (hg : zGood zC0 N) :
    ∃ N1, mRuns mTab mInf (sXNl L) (sXF xs) 9 200 18 (0, lv_args 0 [.ref o, .ref s], [], N) (none, N1) ∧ zGood zC0 N1 ∧ cK o N N1 ∧ ∀ k, k < 4 → mAtk N1 (o * 2048 + k) = mAtk N (s * 2048 + k) := by
  have hB := List.all_eq_true.mp y18_B _ h
  have ho : (o = 1 ∨ o = 132 ∨ o = 394) ∧ (s = 1 ∨ s = 132 ∨ s = 394) ∧ o ≠ s := by
    simp only [List.mem_cons, List.not_mem_nil, or_false, Prod.mk.injEq] at h
    omega
  obtain ⟨ho, hs, hos⟩ := ho
  obtain ⟨x0, a0, b0⟩ := cCell hg hs (k := 0) (by omega)
  obtain ⟨x1, a1, b1⟩ := cCell hg hs (k := 1) (by omega)
  obtain ⟨x2, a2, b2⟩ := cCell hg hs (k := 2) (by omega)
  obtain ⟨x3, a3, b3⟩ := cCell hg hs (k := 3) (by omega)
  have put : ∀ (M : mMem) (k : Nat) (x : Int32), k < 4 → ∀ key, key < 2097152 → mAtk (mPut M o (mCset (mObj M o) k (.int x))) key = if key = o * 2048 + k then .int x else mAtk M key := fun M k x hk key hkey => mAtk_put (by omega) (by omega) hkey
  obtain ⟨N1, e1⟩ : ∃ N1, N1 = mPut N o (mCset (mObj N o) 0 (.int x0)) := ⟨_, rfl⟩
  have g1 : zGood zC0 N1 := by rw [e1]; exact cGood_put hg ho (by omega) b0
  have p1 := put N 0 x0 (by omega)
  rw [← e1] at p1
  have k1 : cK o N N1 := by rw [e1]; exact cK_put (by omega) (by omega)
  obtain ⟨N2, e2⟩ : ∃ N2, N2 = mPut N1 o (mCset (mObj N1 o) 1 (.int x1)) := ⟨_, rfl⟩
  have g2 : zGood zC0 N2 := by rw [e2]; exact cGood_put g1 ho (by omega) b1
  have p2 := put N1 1 x1 (by omega)
  rw [← e2] at p2
  have k2 : cK o N N2 := cK_t k1 (by rw [e2]; exact cK_put (by omega) (by omega))
  obtain ⟨N3, e3⟩ : ∃ N3, N3 = mPut N2 o (mCset (mObj N2 o) 2 (.int x2)) := ⟨_, rfl⟩
  have g3 : zGood zC0 N3 := by rw [e3]; exact cGood_put g2 ho (by omega) b2
  have p3 := put N2 2 x2 (by omega)
  rw [← e3] at p3
  have k3 : cK o N N3 := cK_t k2 (by rw [e3]; exact cK_put (by omega) (by omega))
  obtain ⟨N4, e4⟩ : ∃ N4, N4 = mPut N3 o (mCset (mObj N3 o) 3 (.int x3)) := ⟨_, rfl⟩
  have g4 : zGood zC0 N4 := by rw [e4]; exact cGood_put g3 ho (by omega) b3
  have p4 := put N3 3 x3 (by omega)
  rw [← e4] at p4
  have k4 : cK o N N4 := cK_t k3 (by rw [e4]; exact cK_put (by omega) (by omega))
  have src : ∀ (M : mMem) (k : Nat), cK o N M → k < 4 → mSlot (mObj M s) k = mAtk N (s * 2048 + k) := fun M k hM hk => by
    rw [← mAtk_key M (by omega)]
    exact hM.2.2 _ (cTrk_o hs hk) (by omega)
  have tgt : ∀ k, k < 4 → mAtk N4 (o * 2048 + k) = mAtk N (s * 2048 + k) := fun k hk => by
    rw [p4 _ (by omega), p3 _ (by omega), p2 _ (by omega), p1 _ (by omega)]
    obtain rfl | rfl | rfl | rfl := (by omega : k = 0 ∨ k = 1 ∨ k = 2 ∨ k = 3)
    · rw [if_neg (by omega), if_neg (by omega), if_neg (by omega), if_pos rfl, a0]
    · rw [if_neg (by omega), if_neg (by omega), if_pos rfl, a1]
    · rw [if_neg (by omega), if_pos rfl, a2]
    · rw [if_pos rfl, a3]
  rcases zSeg_snd (R := (0, (0, false))) (X := zXt) (N := N4) (V := []) (Nl := lv_args 0 [.ref o, .ref s]) (XN := sXNl L) (XF := sXF xs) hB (zCw_ok _) (zXt_ok _ _) HC (zSx_x xs L) trivial g4 (fun key _ h => by cases h) (fun q hq => by
      simp only [List.mem_cons, List.not_mem_nil, or_false] at hq
      rcases hq with rfl | rfl
      · exact ⟨.ref o, rfl, rfl⟩
      · exact ⟨.ref s, rfl, rfl⟩) trivial (fun q hq => by cases hq) with ⟨p, hpm, -⟩ | ⟨rt, hrt, ⟨zv, zm⟩, z1, z2, z3, z4, -⟩
  · cases hpm
  · cases hrt
    have z4 : zv = none := z4
    subst z4
    have kk : cK 9999 N4 zm := cK_rl (q := 0) (fun key a b => rfl) z3
    refine ⟨zm, ?_, z2, cK_t k4 ⟨kk.1, kk.2.1, fun key a b => kk.2.2 key a (by have := cTrk_lt a; omega)⟩, fun k hk => (kk.2.2 _ (cTrk_o ho hk) (by omega)).trans (tgt k hk)⟩
    have ri := fun (M : mMem) (g : zGood zC0 M) => cRing g ho
    have rs := fun (M : mMem) (g : zGood zC0 M) => cRing g hs
    refine st_aload h_18_0 (by rfl) ?_
    refine st_aload h_18_1 (by rfl) ?_
    refine st_getfield h_18_2 (rs N hg).1 (rs N hg).2.1 (by rw [(rs N hg).2.2]; rfl) ((src N 0 (cK_0 _ _) (by omega)).trans a0) ?_
    refine st_putfield h_18_5 (ri N hg).1 (ri N hg).2.1 (by rw [(ri N hg).2.2]; rfl) (by rw [(ri N hg).2.2]; rfl) (by rfl) ?_
    rw [← e1]
    refine st_aload h_18_8 (by rfl) ?_
    refine st_aload h_18_9 (by rfl) ?_
    refine st_getfield h_18_10 (rs N1 g1).1 (rs N1 g1).2.1 (by rw [(rs N1 g1).2.2]; rfl) ((src N1 1 k1 (by omega)).trans a1) ?_
    refine st_putfield h_18_13 (ri N1 g1).1 (ri N1 g1).2.1 (by rw [(ri N1 g1).2.2]; rfl) (by rw [(ri N1 g1).2.2]; rfl) (by rfl) ?_
    rw [← e2]
    refine st_aload h_18_16 (by rfl) ?_
    refine st_aload h_18_17 (by rfl) ?_
    refine st_getfield h_18_18 (rs N2 g2).1 (rs N2 g2).2.1 (by rw [(rs N2 g2).2.2]; rfl) ((src N2 2 k2 (by omega)).trans a2) ?_
    refine st_putfield h_18_21 (ri N2 g2).1 (ri N2 g2).2.1 (by rw [(ri N2 g2).2.2]; rfl) (by rw [(ri N2 g2).2.2]; rfl) (by rfl) ?_
    rw [← e3]
    refine st_aload h_18_24 (by rfl) ?_
    refine st_aload h_18_25 (by rfl) ?_
    refine st_getfield h_18_26 (rs N3 g3).1 (rs N3 g3).2.1 (by rw [(rs N3 g3).2.2]; rfl) ((src N3 3 k3 (by omega)).trans a3) ?_
    refine st_putfield h_18_29 (ri N3 g3).1 (ri N3 g3).2.1 (by rw [(ri N3 g3).2.2]; rfl) (by rw [(ri N3 g3).2.2]; rfl) (by rfl) ?_
    rw [← e4]
    exact z1
/-- begin: the ring is the first one, but of n STATIONS -/
noncomputable def cBeg (N N1 : mMem) (n v : Int32) : Prop := (2 ≤ n.toInt ∧ n.toInt ≤ 8 ∧ v.toInt = 1 ∧ cK 1 N N1 ∧ mAtk N1 2048 = .int n ∧ ∀ k, 1 ≤ k → k < 4 → mAtk N1 (2048 + k) = mAtk N (270336 + k)) ∨ (¬ (2 ≤ n.toInt ∧ n.toInt ≤ 8) ∧ v.toInt = 0 ∧ N1 = N)
theorem y90 (HC : ∀ mi, ∀ i ∈ zCt mi, zVal zC0 zXt mTab mInf (sXNl L) (sXF xs) mi i) {b : Nat} {N : mMem} (hI : zAll b N) (n : Int32) :
    ∃ v N1, mRuns mTab mInf (sXNl L) (sXF xs) 10 300 90 (0, lv_args 0 [.ref 0, .int n], [], N) (some (.int v), N1) ∧ zAll b N1 ∧ cBeg N N1 n v := by
  have hg := hI.1
  have m0 := cMain hg
  by_cases c : 2 ≤ n.toInt ∧ n.toInt ≤ 8
  · obtain ⟨N1, r1, g1, k1, t1⟩ := cBec (xs := xs) (L := L) HC (o := 1) (s := 132) List.mem_cons_self hg
    have g2 := cGood_put (o := 1) (k := 0) (x := n) g1 (.inl rfl) (by omega) (fun _ => c)
    have kp := cK_put (o := 1) (k := 0) (v := .int n) (N := N1) (by omega) (by omega)
    obtain ⟨N2, e2⟩ : ∃ N2, N2 = mPut N1 1 (mCset (mObj N1 1) 0 (.int n)) := ⟨_, rfl⟩
    have p2 : ∀ key, key < 2097152 → mAtk N2 key = if key = 1 * 2048 + 0 then .int n else mAtk N1 key := fun key hkey => by rw [e2]; exact mAtk_put (by omega) (by omega) hkey
    rw [← e2] at g2 kp
    have k2 := cK_t k1 kp
    refine ⟨Int32.ofInt 1, N2, ?_, ⟨g2, zInv_c hI.2 g2 k2.2.1⟩, .inl ⟨c.1, c.2, by decide, k2, (p2 2048 (by decide)).trans (if_pos (by decide)), fun k a d => ?_⟩⟩
    · refine st_iload h_90_0 (by rfl) ?_
      refine st_iconst h_90_1 ?_
      refine st_icmp h_90_2 ?_
      rw [show mIf .lt n (Int32.ofInt 2) = false from decide_eq_false (by rw [Int32.lt_iff_toInt_lt, show (Int32.ofInt 2).toInt = 2 by decide]; omega), cond_false]
      refine st_iload h_90_5 (by rfl) ?_
      refine st_iconst h_90_6 ?_
      refine st_icmp h_90_8 ?_
      rw [show mIf .le n (Int32.ofInt 8) = true from decide_eq_true (by rw [Int32.le_iff_toInt_le, show (Int32.ofInt 8).toInt = 8 by decide]; omega), cond_true]
      refine st_aload h_90_13 (by rfl) ?_
      refine st_getfield h_90_14 m0.1 m0.2.1 (by rw [m0.2.2]; rfl) (cRef hg (k := 0) (by omega)) ?_
      refine st_aload h_90_17 (by rfl) ?_
      refine st_getfield h_90_18 m0.1 m0.2.1 (by rw [m0.2.2]; rfl) (cRef hg (k := 1) (by omega)) ?_
      refine st_call (o := 1) (as := [.ref 132]) (S := []) (w := none) (M1 := N1) h_90_21 rfl rfl rfl (cRing hg (.inl rfl)).1 (cRing hg (.inl rfl)).2.1 rfl rfl rfl rfl (mRuns_more r1 (by decide) (by decide)) rfl ?_
      have m1 := cMain g1
      refine st_aload h_90_24 (by rfl) ?_
      refine st_getfield h_90_25 m1.1 m1.2.1 (by rw [m1.2.2]; rfl) (cRef g1 (k := 0) (by omega)) ?_
      refine st_iload h_90_28 (by rfl) ?_
      refine st_putfield h_90_29 (cRing g1 (.inl rfl)).1 (cRing g1 (.inl rfl)).2.1 (by rw [(cRing g1 (.inl rfl)).2.2]; rfl) (by rw [(cRing g1 (.inl rfl)).2.2]; rfl) (by rfl) ?_
      rw [← e2]
      refine st_iconst h_90_32 ?_
      exact st_ireturn h_90_33 (ty := .boolean) rfl rfl
    · rw [p2 _ (by omega), if_neg (by omega)]
      exact t1 k d
  · refine ⟨Int32.ofInt 0, N, ?_, hI, .inr ⟨c, by decide, rfl⟩⟩
    have fin : mRuns mTab mInf (sXNl L) (sXF xs) 10 300 90 (11, lv_args 0 [.ref 0, .int n], [], N) (some (.int (Int32.ofInt 0)), N) := by
      refine st_iconst h_90_11 ?_
      exact st_ireturn h_90_12 (ty := .boolean) rfl rfl
    refine st_iload h_90_0 (by rfl) ?_
    refine st_iconst h_90_1 ?_
    refine st_icmp h_90_2 ?_
    by_cases d : n.toInt < 2
    · rw [show mIf .lt n (Int32.ofInt 2) = true from decide_eq_true (by rw [Int32.lt_iff_toInt_lt, show (Int32.ofInt 2).toInt = 2 by decide]; omega), cond_true]
      exact fin
    · rw [show mIf .lt n (Int32.ofInt 2) = false from decide_eq_false (by rw [Int32.lt_iff_toInt_lt, show (Int32.ofInt 2).toInt = 2 by decide]; omega), cond_false]
      refine st_iload h_90_5 (by rfl) ?_
      refine st_iconst h_90_6 ?_
      refine st_icmp h_90_8 ?_
      rw [show mIf .le n (Int32.ofInt 8) = false from decide_eq_false (by rw [Int32.le_iff_toInt_le, show (Int32.ofInt 8).toInt = 8 by decide]; omega), cond_false]
      exact fin
/-- image: taken, gone back to, not there -/
noncomputable def cImg (N N1 : mMem) (t v : Int32) : Prop := (t.toInt = 1 ∧ v.toInt = 1 ∧ mAtk N1 4 = .int (Int32.ofInt 1) ∧ N1.2.1 = N.2.1 ∧ (∀ key, 1075200 ≤ key → key < 2097152 → mAtk N1 key = mAtk N key) ∧ (∀ key, zTrk key = true → key ≠ 4 → key / 2048 ≠ 394 → mAtk N1 key = mAtk N key) ∧ ∀ k, k < 4 → mAtk N1 (806912 + k) = mAtk N (2048 + k)) ∨
  (t.toInt = 0 ∧ v.toInt = 1 ∧ mAtk N 4 = .int (Int32.ofInt 1) ∧ cK 1 N N1 ∧ ∀ k, k < 4 → mAtk N1 (2048 + k) = mAtk N (806912 + k)) ∨
  (t.toInt = 0 ∧ v.toInt = 0 ∧ mAtk N 4 = .int (Int32.ofInt 0) ∧ N1 = N)
theorem y122 (HC : ∀ mi, ∀ i ∈ zCt mi, zVal zC0 zXt mTab mInf (sXNl L) (sXF xs) mi i) {b : Nat} {N : mMem} (hI : zAll b N) (t : Int32) (ht : t.toInt = 0 ∨ t.toInt = 1) :
    ∃ v N1, mRuns mTab mInf (sXNl L) (sXF xs) 10 300 122 (0, lv_args 0 [.ref 0, .int t], [], N) (some (.int v), N1) ∧ zAll b N1 ∧ cImg N N1 t v := by
  have hg := hI.1
  have m0 := cMain hg
  obtain ⟨y, y0, y1, y2⟩ := hg.2.1 4 (by decide) zBb (by decide +kernel)
  have y1 : 0 ≤ y.toInt := y1
  have y2 : y.toInt ≤ 1 := y2
  rcases ht with ht | ht
  · have et : t = Int32.ofInt 0 := Int32.toInt_inj.mp (by rw [ht]; decide)
    subst et
    have y3 := y0
    rw [show 4 = 0 * 2048 + 4 by decide, mAtk_key N (by omega)] at y3
    have front : ∀ z, mRuns mTab mInf (sXNl L) (sXF xs) 10 300 122 (bif mIf .eq y 0 then 41 else 30, lv_args 0 [.ref 0, .int (Int32.ofInt 0)], [], N) z → mRuns mTab mInf (sXNl L) (sXF xs) 10 300 122 (0, lv_args 0 [.ref 0, .int (Int32.ofInt 0)], [], N) z := fun z hz => by
      refine st_iload h_122_0 (by rfl) ?_
      refine st_if h_122_1 ?_
      rw [show mIf .eq (Int32.ofInt 0) 0 = true from by decide, cond_true]
      refine st_aload h_122_23 (by rfl) ?_
      refine st_getfield h_122_24 m0.1 m0.2.1 (by rw [m0.2.2]; rfl) y3 ?_
      exact st_if h_122_27 hz
    by_cases ey : y.toInt = 0
    · have ey : y = Int32.ofInt 0 := Int32.toInt_inj.mp (by rw [ey]; decide)
      subst ey
      refine ⟨Int32.ofInt 0, N, front _ ?_, hI, .inr (.inr ⟨by decide, by decide, y0, rfl⟩)⟩
      rw [show mIf .eq (Int32.ofInt 0) 0 = true from by decide, cond_true]
      refine st_aload h_122_41 (by rfl) ?_
      refine st_getfield h_122_42 m0.1 m0.2.1 (by rw [m0.2.2]; rfl) y3 ?_
      exact st_ireturn h_122_45 (ty := .boolean) rfl rfl
    · have ey : y = Int32.ofInt 1 := Int32.toInt_inj.mp (by rw [show (Int32.ofInt 1).toInt = 1 by decide]; omega)
      subst ey
      obtain ⟨N1, r1, g1, k1, t1⟩ := cBec (xs := xs) (L := L) HC (o := 1) (s := 394) (List.mem_cons_of_mem _ (List.mem_cons_of_mem _ List.mem_cons_self)) hg
      refine ⟨Int32.ofInt 1, N1, front _ ?_, ⟨g1, zInv_c hI.2 g1 k1.2.1⟩, .inr (.inl ⟨by decide, by decide, y0, k1, t1⟩)⟩
      rw [show mIf .eq (Int32.ofInt 1) 0 = false from by decide, cond_false]
      refine st_aload h_122_30 (by rfl) ?_
      refine st_getfield h_122_31 m0.1 m0.2.1 (by rw [m0.2.2]; rfl) (cRef hg (k := 0) (by omega)) ?_
      refine st_aload h_122_34 (by rfl) ?_
      refine st_getfield h_122_35 m0.1 m0.2.1 (by rw [m0.2.2]; rfl) (cRef hg (k := 3) (by omega)) ?_
      refine st_call (o := 1) (as := [.ref 394]) (S := []) (w := none) (M1 := N1) h_122_38 rfl rfl rfl (cRing hg (.inl rfl)).1 (cRing hg (.inl rfl)).2.1 rfl rfl rfl rfl (mRuns_more r1 (by decide) (by decide)) rfl ?_
      have m1 := cMain g1
      have y4 := (k1.2.2 4 cTrk_4 (by decide)).trans y0
      rw [show 4 = 0 * 2048 + 4 by decide, mAtk_key N1 (by omega)] at y4
      refine st_aload h_122_41 (by rfl) ?_
      refine st_getfield h_122_42 m1.1 m1.2.1 (by rw [m1.2.2]; rfl) y4 ?_
      exact st_ireturn h_122_45 (ty := .boolean) rfl rfl
  · have et : t = Int32.ofInt 1 := Int32.toInt_inj.mp (by rw [ht]; decide)
    subst et
    obtain ⟨N1, r1, g1, k1, t1⟩ := cBec (xs := xs) (L := L) HC (o := 394) (s := 1) (List.mem_cons_of_mem _ List.mem_cons_self) hg
    have m1 := cMain g1
    have g2 := cGood_put4 (x := Int32.ofInt 1) g1 (by decide)
    obtain ⟨N2, e2⟩ : ∃ N2, N2 = mPut N1 0 (mCset (mObj N1 0) 4 (.int (Int32.ofInt 1))) := ⟨_, rfl⟩
    have p2 : ∀ key, key < 2097152 → mAtk N2 key = if key = 0 * 2048 + 4 then .int (Int32.ofInt 1) else mAtk N1 key := fun key hkey => by rw [e2]; exact mAtk_put (by omega) (by omega) hkey
    have b2 : N2.2.1 = N1.2.1 := by rw [e2]; rfl
    rw [← e2] at g2
    have m2 := cMain g2
    have hi2 : ∀ key, 1075200 ≤ key → key < 2097152 → mAtk N2 key = mAtk N key := fun key a d => by
      rw [p2 key d, if_neg (by omega)]
      exact k1.2.1 key a d
    have y4 := p2 4 (by decide)
    rw [if_pos (by decide)] at y4
    have y5 := y4
    rw [show 4 = 0 * 2048 + 4 by decide, mAtk_key N2 (by omega)] at y5
    refine ⟨Int32.ofInt 1, N2, ?_, ⟨g2, zInv_c hI.2 g2 hi2⟩, .inl ⟨by decide, by decide, y4, b2.trans k1.1, hi2, fun key a d e => ?_, fun k hk => ?_⟩⟩
    · refine st_iload h_122_0 (by rfl) ?_
      refine st_if h_122_1 ?_
      rw [show mIf .eq (Int32.ofInt 1) 0 = false from by decide, cond_false]
      refine st_aload h_122_4 (by rfl) ?_
      refine st_getfield h_122_5 m0.1 m0.2.1 (by rw [m0.2.2]; rfl) (cRef hg (k := 3) (by omega)) ?_
      refine st_aload h_122_8 (by rfl) ?_
      refine st_getfield h_122_9 m0.1 m0.2.1 (by rw [m0.2.2]; rfl) (cRef hg (k := 0) (by omega)) ?_
      refine st_call (o := 394) (as := [.ref 1]) (S := []) (w := none) (M1 := N1) h_122_12 rfl rfl rfl (cRing hg (.inr (.inr rfl))).1 (cRing hg (.inr (.inr rfl))).2.1 rfl rfl rfl rfl (mRuns_more r1 (by decide) (by decide)) rfl ?_
      refine st_aload h_122_15 (by rfl) ?_
      refine st_iconst h_122_16 ?_
      refine st_putfield h_122_17 m1.1 m1.2.1 (by rw [m1.2.2]; rfl) (by rw [m1.2.2]; rfl) (by rfl) ?_
      rw [← e2]
      refine st_goto h_122_20 ?_
      refine st_aload h_122_41 (by rfl) ?_
      refine st_getfield h_122_42 m2.1 m2.2.1 (by rw [m2.2.2]; rfl) y5 ?_
      exact st_ireturn h_122_45 (ty := .boolean) rfl rfl
    · rw [p2 key (by have := cTrk_lt a; omega), if_neg (by omega)]
      exact k1.2.2 key a e
    · rw [show 806912 + k = 394 * 2048 + k by omega, p2 _ (by omega), if_neg (by omega)]
      exact t1 k hk
end YCB

/-! ===== tick of the class: the time exactly; written by wip/box/gen84e.py ===== -/
theorem h_104_0 : mFind (mTab 104) 0 = some (0, 1, .aload_n 0, .aload 0, 0, 0, 0, 0) := mFb_eq (by decide +kernel)
theorem h_104_1 : mFind (mTab 104) 1 = some (1, 1, .iload_n 1, .iload 1, 0, 0, 0, 0) := mFb_eq (by decide +kernel)
theorem h_104_2 : mFind (mTab 104) 2 = some (2, 3, .invokevirtual 162, .invokevirtual 162, 0, 124, 7, 669) := mFb_eq (by decide +kernel)
theorem h_104_5 : mFind (mTab 104) 5 = some (5, 3, .ifCond .ne 5, .ifCond .ne 5, 0, 10, 0, 0) := mFb_eq (by decide +kernel)
theorem h_104_8 : mFind (mTab 104) 8 = some (8, 1, .iconst (-1), .iconst 0, (-1), 0, 0, 0) := mFb_eq (by decide +kernel)
theorem h_104_9 : mFind (mTab 104) 9 = some (9, 1, .ireturn, .ireturn, 0, 0, 0, 0) := mFb_eq (by decide +kernel)
theorem h_104_10 : mFind (mTab 104) 10 = some (10, 1, .iconst 0, .iconst 0, 0, 0, 0, 0) := mFb_eq (by decide +kernel)
theorem h_104_11 : mFind (mTab 104) 11 = some (11, 1, .istore_n 2, .istore 2, 0, 0, 0, 0) := mFb_eq (by decide +kernel)
theorem h_104_12 : mFind (mTab 104) 12 = some (12, 1, .iload_n 2, .iload 2, 0, 0, 0, 0) := mFb_eq (by decide +kernel)
theorem h_104_13 : mFind (mTab 104) 13 = some (13, 1, .iload_n 1, .iload 1, 0, 0, 0, 0) := mFb_eq (by decide +kernel)
theorem h_104_14 : mFind (mTab 104) 14 = some (14, 3, .if_icmp .ge 16, .if_icmp .ge 16, 0, 30, 0, 0) := mFb_eq (by decide +kernel)
theorem h_104_17 : mFind (mTab 104) 17 = some (17, 1, .aload_n 0, .aload 0, 0, 0, 0, 0) := mFb_eq (by decide +kernel)
theorem h_104_18 : mFind (mTab 104) 18 = some (18, 3, .getfield 12, .getfield 12, 0, 7, 0, 427) := mFb_eq (by decide +kernel)
theorem h_104_21 : mFind (mTab 104) 21 = some (21, 3, .invokevirtual 165, .invokevirtual 165, 0, 49, 3, 673) := mFb_eq (by decide +kernel)
theorem h_104_24 : mFind (mTab 104) 24 = some (24, 3, .iinc 2 1, .iinc 2 1, 1, 0, 0, 0) := mFb_eq (by decide +kernel)
theorem h_104_27 : mFind (mTab 104) 27 = some (27, 3, .goto (-15), .goto (-15), 0, 12, 0, 0) := mFb_eq (by decide +kernel)
theorem h_104_30 : mFind (mTab 104) 30 = some (30, 1, .aload_n 0, .aload 0, 0, 0, 0, 0) := mFb_eq (by decide +kernel)
theorem h_104_31 : mFind (mTab 104) 31 = some (31, 3, .getfield 12, .getfield 12, 0, 7, 0, 427) := mFb_eq (by decide +kernel)
theorem h_104_34 : mFind (mTab 104) 34 = some (34, 3, .getfield 168, .getfield 168, 0, 3, 1, 378) := mFb_eq (by decide +kernel)
theorem h_104_37 : mFind (mTab 104) 37 = some (37, 1, .ireturn, .ireturn, 0, 0, 0, 0) := mFb_eq (by decide +kernel)
theorem h_124_0 : mFind (mTab 124) 0 = some (0, 1, .iload_n 1, .iload 1, 0, 0, 0, 0) := mFb_eq (by decide +kernel)
theorem h_124_1 : mFind (mTab 124) 1 = some (1, 1, .iconst 1, .iconst 0, 1, 0, 0, 0) := mFb_eq (by decide +kernel)
theorem h_124_2 : mFind (mTab 124) 2 = some (2, 3, .if_icmp .lt 29, .if_icmp .lt 29, 0, 31, 0, 0) := mFb_eq (by decide +kernel)
theorem h_124_5 : mFind (mTab 124) 5 = some (5, 1, .iload_n 1, .iload 1, 0, 0, 0, 0) := mFb_eq (by decide +kernel)
theorem h_124_6 : mFind (mTab 124) 6 = some (6, 3, .sipush 300, .iconst 0, 300, 0, 0, 0) := mFb_eq (by decide +kernel)
theorem h_124_9 : mFind (mTab 124) 9 = some (9, 3, .if_icmp .gt 22, .if_icmp .gt 22, 0, 31, 0, 0) := mFb_eq (by decide +kernel)
theorem h_124_12 : mFind (mTab 124) 12 = some (12, 1, .aload_n 0, .aload 0, 0, 0, 0, 0) := mFb_eq (by decide +kernel)
theorem h_124_13 : mFind (mTab 124) 13 = some (13, 3, .getfield 12, .getfield 12, 0, 7, 0, 427) := mFb_eq (by decide +kernel)
theorem h_124_16 : mFind (mTab 124) 16 = some (16, 3, .getfield 168, .getfield 168, 0, 3, 1, 378) := mFb_eq (by decide +kernel)
theorem h_124_19 : mFind (mTab 124) 19 = some (19, 3, .sipush 30000, .iconst 0, 30000, 0, 0, 0) := mFb_eq (by decide +kernel)
theorem h_124_22 : mFind (mTab 124) 22 = some (22, 1, .iload_n 1, .iload 1, 0, 0, 0, 0) := mFb_eq (by decide +kernel)
theorem h_124_23 : mFind (mTab 124) 23 = some (23, 1, .isub, .isub, 0, 0, 0, 0) := mFb_eq (by decide +kernel)
theorem h_124_24 : mFind (mTab 124) 24 = some (24, 3, .if_icmp .gt 7, .if_icmp .gt 7, 0, 31, 0, 0) := mFb_eq (by decide +kernel)
theorem h_124_27 : mFind (mTab 124) 27 = some (27, 1, .iconst 1, .iconst 0, 1, 0, 0, 0) := mFb_eq (by decide +kernel)
theorem h_124_28 : mFind (mTab 124) 28 = some (28, 3, .goto 4, .goto 4, 0, 32, 0, 0) := mFb_eq (by decide +kernel)
theorem h_124_31 : mFind (mTab 124) 31 = some (31, 1, .iconst 0, .iconst 0, 0, 0, 0, 0) := mFb_eq (by decide +kernel)
theorem h_124_32 : mFind (mTab 124) 32 = some (32, 1, .ireturn, .ireturn, 0, 0, 0, 0) := mFb_eq (by decide +kernel)
/-- advance, with its time -/
noncomputable def zPt49 : zP :=
  (([(2, (1, (0, 0)))], ([(2049, (0, 30000))], (none, (0, (5, (118, (5, (false, [(2049, 1)])))))))),
    ([(22, ([(0, (2, (1, (0, 0)))), (1, (0, (0, (0, 100)))), (2, (0, (0, ((-2147483648), 2147483647)))), (3, (0, (0, (0, 100))))], ([(2049, (4, (1, (1, 0))))], (0, [(0, (1000, 3)), (2, (3, 0)), (1, (1000, 2147483647))])))),
      (62, ([(0, (2, (1, (0, 0)))), (3, (0, (0, (0, 8))))], ([(2049, (4, (1, (1, 0))))], (0, [(0, (1000, 2)), (2, (3, 0)), (1, (1000, 2147483647))])))),
      (88, ([(0, (2, (1, (0, 0)))), (3, (0, (0, (0, 8))))], ([(2049, (4, (1, (1, 0))))], (0, [(0, (1000, 1)), (2, (3, 0)), (1, (1000, 2147483647))]))))], (([], ([], [])), [])))
set_option maxRecDepth 100000 in
theorem y49_x : zChq zCQ false 49 zPt49 = true := by decide +kernel
/-- all that is followed stands, but for the time -/
noncomputable def cTk (N N1 : mMem) : Prop := N1.2.1 = N.2.1 ∧ ∀ key, key < 2097152 → zKc 5 key = true → mAtk N1 key = mAtk N key
theorem cTk_0 (N : mMem) : cTk N N := ⟨rfl, fun _ _ _ => rfl⟩
theorem cTk_t {N N1 N2 : mMem} (h1 : cTk N N1) (h2 : cTk N1 N2) : cTk N N2 := ⟨h2.1.trans h1.1, fun key a b => (h2.2 key a b).trans (h1.2 key a b)⟩
theorem cTk_hi {key : Nat} (h : 1075200 ≤ key) : zKc 5 key = true := by
  unfold zKc
  rw [Nat.ble_eq.mpr h]
  rfl
section YTK
variable {xs : Nat → Int32} {L : Nat}
theorem y49t (HC : ∀ mi, ∀ i ∈ zCt mi, zVal zC0 zXt mTab mInf (sXNl L) (sXF xs) mi i) {N : mMem} (hg : zGood zC0 N) {t : Int32} (ht : mAtk N 2049 = .int t) (h0 : 0 ≤ t.toInt) (h1 : t.toInt ≤ 30000) :
    ∃ N1 u, mRuns mTab mInf (sXNl L) (sXF xs) 5 118 49 (0, lv_args 0 [.ref 1], [], N) (none, N1) ∧ zGood zC0 N1 ∧ cTk N N1 ∧ mAtk N1 2049 = .int u ∧ u.toInt = t.toInt + 1 := by
  have hv : zVal zCQ zXt mTab mInf (sXNl L) (sXF xs) 49 zPt49.1 := zChk_snd (W := zCQ) (zCw_ok _) (zXt_ok _ _) HC (zSx_x xs L) y49_x
  obtain ⟨v, N1, r1, r2, r3, r4, r5⟩ := hv N [.ref 1] trivial hg ⟨rfl, trivial⟩ (fun c hc => by
    have hc : c ∈ ([(2049, (0, 30000))] : List (Nat × (Int × Int))) := hc
    obtain rfl := List.mem_singleton.mp hc
    exact ⟨t, ht, h0, h1⟩) (fun key _ h => by cases h)
  have r4 : v = none := r4
  subst r4
  obtain ⟨x, y, e1, e2, e3⟩ := r5 (2049, 1) List.mem_cons_self
  have e1 : mAtk N 2049 = .int x := e1
  have e2 : mAtk N1 2049 = .int y := e2
  have ex : x = t := Value.int.inj (e1.symm.trans ht)
  subst ex
  exact ⟨N1, y, r1, r2, ⟨r3.2.2.1, fun key a b => r3.2.2.2.1 key a b⟩, e2, e3⟩
theorem y104_loop (HC : ∀ mi, ∀ i ∈ zCt mi, zVal zC0 zXt mTab mInf (sXNl L) (sXF xs) mi i) {n : Nat} (hn : n ≤ 300) : ∀ (d j : Nat) (N : mMem) (Nl : List (Nat × Value)) (t : Int32), j + d = n → mLk Nl 0 = some (.ref 0) → mLk Nl 1 = some (.int (yI n)) → mLk Nl 2 = some (.int (yI j)) → zGood zC0 N → mAtk N 2049 = .int t → 0 ≤ t.toInt → t.toInt + (d : Int) ≤ 30000 →
    ∃ M Nl2 u, mLk Nl2 0 = some (.ref 0) ∧ zGood zC0 M ∧ cTk N M ∧ mAtk M 2049 = .int u ∧ u.toInt = t.toInt + (d : Int) ∧ ∀ z, mRuns mTab mInf (sXNl L) (sXF xs) 10 300 104 (30, Nl2, [], M) z → mRuns mTab mInf (sXNl L) (sXF xs) 10 300 104 (12, Nl, [], N) z := fun d => by
  induction d with
  | zero =>
    intro j N Nl t hj l0 l1 l2 hg ht h0 h1
    refine ⟨N, Nl, t, l0, hg, cTk_0 N, ht, by omega, fun z hz => ?_⟩
    refine st_iload h_104_12 l2 ?_
    refine st_iload h_104_13 l1 ?_
    refine st_icmp h_104_14 ?_
    rw [show mIf .ge (yI j) (yI n) = true from decide_eq_true (by rw [Int32.le_iff_toInt_le, yI_int (by omega), yI_int (by omega)]; omega), cond_true]
    exact hz
  | succ d ih =>
    intro j N Nl t hj l0 l1 l2 hg ht h0 h1
    obtain ⟨N1, u, r1, g1, k1, u1, u2⟩ := y49t (xs := xs) (L := L) HC hg ht h0 (by omega)
    obtain ⟨M, Nl2, w, m0, m1, m2, m3, m4, m5⟩ := ih (j + 1) N1 (mSt1 Nl 2 (.int (yI (j + 1)))) u (by omega) (mLk_ne l0 (by omega) rfl) (mLk_ne l1 (by omega) rfl) mLk_same g1 u1 (by omega) (by omega)
    refine ⟨M, Nl2, w, m0, m1, cTk_t k1 m2, m3, by omega, fun z hz => ?_⟩
    have c0 := cMain hg
    refine st_iload h_104_12 l2 ?_
    refine st_iload h_104_13 l1 ?_
    refine st_icmp h_104_14 ?_
    rw [show mIf .ge (yI j) (yI n) = false from decide_eq_false (by rw [Int32.le_iff_toInt_le, yI_int (by omega), yI_int (by omega)]; omega), cond_false]
    refine st_aload h_104_17 l0 ?_
    refine st_getfield h_104_18 c0.1 c0.2.1 (by rw [c0.2.2]; rfl) (cRef hg (k := 0) (by omega)) ?_
    refine st_call (o := 1) (as := []) (S := []) (w := none) (M1 := N1) h_104_21 rfl rfl rfl (cRing hg (.inl rfl)).1 (cRing hg (.inl rfl)).2.1 rfl rfl rfl rfl (mRuns_more r1 (by decide) (by decide)) rfl ?_
    refine st_iinc h_104_24 l2 (by rfl) ?_
    refine st_goto h_104_27 ?_
    rw [show yI j + Int32.ofInt 1 = yI (j + 1) from yI_add (j := 1)]
    exact m5 z hz
theorem y124 {N : mMem} (hg : zGood zC0 N) {t : Int32} (ht : mAtk N 2049 = .int t) (n : Int32) : mRuns mTab mInf (sXNl L) (sXF xs) 9 200 124 (0, lv_args 0 [.ref 0, .int n], [], N) (some (.int (if 1 ≤ n.toInt ∧ n.toInt ≤ 300 ∧ t.toInt + n.toInt ≤ 30000 then Int32.ofInt 1 else Int32.ofInt 0)), N) := by
  have c0 := cMain hg
  have c1 := cRing hg (o := 1) (.inl rfl)
  have ht2 := ht
  rw [show 2049 = 1 * 2048 + 1 by decide, mAtk_key N (by omega)] at ht2
  have no : ∀ (h : ¬ (1 ≤ n.toInt ∧ n.toInt ≤ 300 ∧ t.toInt + n.toInt ≤ 30000)), mRuns mTab mInf (sXNl L) (sXF xs) 9 200 124 (31, lv_args 0 [.ref 0, .int n], [], N) (some (.int (if 1 ≤ n.toInt ∧ n.toInt ≤ 300 ∧ t.toInt + n.toInt ≤ 30000 then Int32.ofInt 1 else Int32.ofInt 0)), N) := fun h => by
    rw [if_neg h]
    refine st_iconst h_124_31 ?_
    exact st_ireturn h_124_32 (ty := .boolean) rfl rfl
  refine st_iload h_124_0 (by rfl) ?_
  refine st_iconst h_124_1 ?_
  refine st_icmp h_124_2 ?_
  by_cases a : n.toInt < 1
  · rw [show mIf .lt n (Int32.ofInt 1) = true from decide_eq_true (by rw [Int32.lt_iff_toInt_lt, show (Int32.ofInt 1).toInt = 1 by decide]; exact a), cond_true]
    exact no (by omega)
  rw [show mIf .lt n (Int32.ofInt 1) = false from decide_eq_false (by rw [Int32.lt_iff_toInt_lt, show (Int32.ofInt 1).toInt = 1 by decide]; exact a), cond_false]
  refine st_iload h_124_5 (by rfl) ?_
  refine st_iconst h_124_6 ?_
  refine st_icmp h_124_9 ?_
  by_cases b : 300 < n.toInt
  · rw [show mIf .gt n (Int32.ofInt 300) = true from decide_eq_true (by rw [Int32.lt_iff_toInt_lt, show (Int32.ofInt 300).toInt = 300 by decide]; exact b), cond_true]
    exact no (by omega)
  rw [show mIf .gt n (Int32.ofInt 300) = false from decide_eq_false (by rw [Int32.lt_iff_toInt_lt, show (Int32.ofInt 300).toInt = 300 by decide]; exact b), cond_false]
  refine st_aload h_124_12 (by rfl) ?_
  refine st_getfield h_124_13 c0.1 c0.2.1 (by rw [c0.2.2]; rfl) (cRef hg (k := 0) (by omega)) ?_
  refine st_getfield h_124_16 c1.1 c1.2.1 (by rw [c1.2.2]; rfl) ht2 ?_
  refine st_iconst h_124_19 ?_
  refine st_iload h_124_22 (by rfl) ?_
  refine st_isub h_124_23 ?_
  refine st_icmp h_124_24 ?_
  have e : (Int32.ofInt 30000 - n).toInt = 30000 - n.toInt := i32_val (by rw [Int32.ofInt_sub, Int32.ofInt_toInt]) (by omega) (by omega)
  by_cases c : t.toInt + n.toInt ≤ 30000
  · rw [show mIf .gt t (Int32.ofInt 30000 - n) = false from decide_eq_false (by rw [Int32.lt_iff_toInt_lt, e]; omega), cond_false, if_pos (by omega)]
    refine st_iconst h_124_27 ?_
    refine st_goto h_124_28 ?_
    exact st_ireturn h_124_32 (ty := .boolean) rfl rfl
  · rw [show mIf .gt t (Int32.ofInt 30000 - n) = true from decide_eq_true (by rw [Int32.lt_iff_toInt_lt, e]; omega), cond_true]
    exact no (by omega)
noncomputable def cTick (N N1 : mMem) (n v t : Int32) : Prop := (1 ≤ n.toInt ∧ n.toInt ≤ 300 ∧ t.toInt + n.toInt ≤ 30000 ∧ v.toInt = t.toInt + n.toInt ∧ mAtk N1 2049 = .int v) ∨ (¬ (1 ≤ n.toInt ∧ n.toInt ≤ 300 ∧ t.toInt + n.toInt ≤ 30000) ∧ v.toInt = -1 ∧ N1 = N)
theorem y104 (HC : ∀ mi, ∀ i ∈ zCt mi, zVal zC0 zXt mTab mInf (sXNl L) (sXF xs) mi i) {b : Nat} {N : mMem} (hI : zAll b N) {t : Int32} (ht : mAtk N 2049 = .int t) (h0 : 0 ≤ t.toInt) (n : Int32) :
    ∃ v N1, mRuns mTab mInf (sXNl L) (sXF xs) 10 300 104 (0, lv_args 0 [.ref 0, .int n], [], N) (some (.int v), N1) ∧ zAll b N1 ∧ cTk N N1 ∧ cTick N N1 n v t := by
  have hg := hI.1
  have c0 := cMain hg
  by_cases c : 1 ≤ n.toInt ∧ n.toInt ≤ 300 ∧ t.toInt + n.toInt ≤ 30000
  · obtain ⟨k, hk⟩ : ∃ k : Nat, n.toInt = (k : Int) := ⟨n.toInt.toNat, by omega⟩
    have en : n = yI k := yI_of hk
    subst en
    obtain ⟨M, Nl2, u, m0, m1, m2, m3, m4, m5⟩ := y104_loop (xs := xs) (L := L) HC (n := k) (by omega) k 0 N [(2, .int (yI 0)), (0, .ref 0), (1, .int (yI k))] t (by omega) rfl rfl rfl hg ht h0 (by omega)
    have d0 := cMain m1
    have d1 := cRing m1 (o := 1) (.inl rfl)
    have u2 := m3
    rw [show 2049 = 1 * 2048 + 1 by decide, mAtk_key M (by omega)] at u2
    refine ⟨u, M, ?_, ⟨m1, zInv_c hI.2 m1 (fun key a b => m2.2 key b (cTk_hi a))⟩, m2, .inl ⟨c.1, c.2.1, c.2.2, by omega, m3⟩⟩
    refine st_aload h_104_0 (by rfl) ?_
    refine st_iload h_104_1 (by rfl) ?_
    refine st_call (o := 0) (as := [.int (yI k)]) (S := []) (w := some (.int (Int32.ofInt 1))) (M1 := N) h_104_2 rfl rfl rfl c0.1 c0.2.1 rfl rfl rfl rfl (mRuns_more (by have z := y124 (xs := xs) (L := L) hg ht (yI k); rw [if_pos c] at z; exact z) (by decide) (by decide)) rfl ?_
    refine st_if h_104_5 ?_
    rw [show mIf .ne (Int32.ofInt 1) 0 = true from by decide, cond_true]
    refine st_iconst h_104_10 ?_
    refine st_istore h_104_11 (by rfl) ?_
    refine m5 _ ?_
    refine st_aload h_104_30 m0 ?_
    refine st_getfield h_104_31 d0.1 d0.2.1 (by rw [d0.2.2]; rfl) (cRef m1 (k := 0) (by omega)) ?_
    refine st_getfield h_104_34 d1.1 d1.2.1 (by rw [d1.2.2]; rfl) u2 ?_
    exact st_ireturn h_104_37 (ty := .int) rfl rfl
  · refine ⟨Int32.ofInt (-1), N, ?_, hI, cTk_0 N, .inr ⟨c, by decide, rfl⟩⟩
    refine st_aload h_104_0 (by rfl) ?_
    refine st_iload h_104_1 (by rfl) ?_
    refine st_call (o := 0) (as := [.int n]) (S := []) (w := some (.int (Int32.ofInt 0))) (M1 := N) h_104_2 rfl rfl rfl c0.1 c0.2.1 rfl rfl rfl rfl (mRuns_more (by have z := y124 (xs := xs) (L := L) hg ht n; rw [if_neg c] at z; exact z) (by decide) (by decide)) rfl ?_
    refine st_if h_104_5 ?_
    rw [show mIf .ne (Int32.ofInt 0) 0 = false from by decide, cond_false]
    refine st_iconst h_104_8 ?_
    exact st_ireturn h_104_9 (ty := .int) rfl rfl
/-- the relation through tick (time followed; STATE, CUTS as they are) -/
theorem lRel_tick {N N1 N2 : mMem} {n v v2 t x : Int32} {b : Nat} (hr : lRel N) (hC : lFT = true) (k : cTk N N1) (ht : mAtk N 2049 = .int t) (hx : mAtk N 1077255 = .int x) (ex : x = t) (hc : cTick N N1 n v t) (hi : zTick N1 N2 n v2) (mv : zMv N1 N2) (hf : zF False True True N1 N2) (hI : zInv b N2) : lRel N2 ∧ v2 = v := by
  have lo := fun key (h : key < 1075200) => mv.2.2 key h
  have lo2 : ∀ key, key < 1075200 → zKc 5 key = true → mAtk N2 key = mAtk N key := fun key a b => (lo key a).trans (k.2 key (by omega) b)
  have hi2 : ∀ key, 1075200 ≤ key → key < 2097152 → mAtk N1 key = mAtk N key := fun key a b => k.2 key b (cTk_hi a)
  obtain ⟨f5, f6, -, fb, fc, f8⟩ := hf
  obtain ⟨r1, r2, r3, r4⟩ := hr
  subst ex
  have z7 : zN N1 7 = x.toInt := zN_int (k := 7) ((hi2 _ (by decide) (by decide)).trans hx)
  obtain ⟨y, y1, y2, -, -⟩ := zN_cell hI (k := 7) (by omega)
  have y1 : mAtk N2 1077255 = .int y := y1
  have main : mAtk N2 2049 = .int y ∧ v2 = v := by
    rcases hc with ⟨a1, a2, a3, a4, a5⟩ | ⟨a1, a2, a3⟩
    · rcases hi with ⟨b1, b2, b3, b4, b5⟩ | ⟨b1, b2, b3⟩
      · have e1 : v2 = v := Int32.toInt_inj.mp (by omega)
        have e2 : y = v := Int32.toInt_inj.mp (by omega)
        subst e2
        exact ⟨(lo _ (by decide)).trans a5, e1⟩
      · exact absurd ⟨a1, a2, by omega⟩ b1
    · rcases hi with ⟨b1, b2, b3, b4, b5⟩ | ⟨b1, b2, b3⟩
      · exact absurd ⟨b1, b2, by omega⟩ a1
      · subst a3
        have e2 : y = x := Int32.toInt_inj.mp (by omega)
        subst e2
        exact ⟨(lo _ (by decide)).trans ht, Int32.toInt_inj.mp (by omega)⟩
  refine ⟨⟨f5.trans ((hi2 _ (by decide) (by decide)).trans (r1.trans (lo2 4 (by decide) (by decide +kernel)).symm)), fun k u v => ?_, ?_, fun e => ?_⟩, main.2⟩
  · obtain rfl | rfl | rfl := (by omega : k = 1 ∨ k = 2 ∨ k = 3)
    · exact (lo2 270337 (by decide) (by decide +kernel)).trans (r2 1 u v)
    · exact (lo2 270338 (by decide) (by decide +kernel)).trans (r2 2 u v)
    · exact (lo2 270339 (by decide) (by decide +kernel)).trans (r2 3 u v)
  · obtain ⟨⟨n', x', e1, e2, e3⟩, g1, g2, g3⟩ := r3
    refine ⟨⟨n', x', (lo2 2048 (by decide) (by decide +kernel)).trans e1, f6.trans ((hi2 _ (by decide) (by decide)).trans e2), e3⟩, fun _ => ⟨y, main.1, y1⟩, fun q => ?_, fun q => ?_⟩
    · obtain ⟨s, s1, s2⟩ := g2 q
      exact ⟨s, (lo2 2050 (by decide) (by decide +kernel)).trans s1, (fb trivial).trans ((hi2 _ (by decide) (by decide)).trans s2)⟩
    · obtain ⟨u, u0, u1, u2, u3⟩ := g3 q
      refine ⟨u, u0, u1, (lo2 2051 (by decide) (by decide +kernel)).trans u2, fun j hj => ?_⟩
      have e := fc trivial j hj
      show mAtk N2 (1077248 + (30 + j)) = _
      rw [show 1077248 + (30 + j) = 1077278 + j by omega, e, hi2 _ (by omega) (by omega)]
      have w := u3 j hj
      have w : mAtk N (1077248 + (30 + j)) = _ := w
      rw [show 1077248 + (30 + j) = 1077278 + j by omega] at w
      exact w
  · rw [lo2 4 (by decide) (by decide +kernel)] at e
    refine lSide_all (fun k hk => ?_) (fun k hk => (f8 k hk).trans (hi2 _ (by omega) (by omega))) (r4 e)
    obtain rfl | rfl | rfl | rfl := (by omega : k = 0 ∨ k = 1 ∨ k = 2 ∨ k = 3)
    · exact lo2 806912 (by decide) (by decide +kernel)
    · exact lo2 806913 (by decide) (by decide +kernel)
    · exact lo2 806914 (by decide) (by decide +kernel)
    · exact lo2 806915 (by decide) (by decide +kernel)
end YTK

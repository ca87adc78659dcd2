/-! ===== begin, image; written by wip/box/gen78.py ===== -/
set_option maxRecDepth 100000 in
theorem y126_1 : zSeg (zTw0 fun _ => []) (1, (0, false)) 126 0 0 0 [(0, z525), (1, (0, (0, (2, 8)))), (2, (0, (0, (2, 2)))), (3, (0, (0, (8, 8))))] [] [] [] (some (some (false, (1, 1)), [])) = true := by decide +kernel
set_option maxRecDepth 100000 in
theorem y148_D : ([(-2147483648, 1), (9, 2147483647)] : List (Int × Int)).all (fun q => zSeg (zTw0 fun _ => []) (14, (0, false)) 148 10 300 0 [(0, z525), (1, (0, (0, q)))] [] [] [] (some (some (false, (0, 0)), []))) = true := by decide +kernel
/-- the row of a new object of m STATIONS -/
noncomputable def zNew (m : Int) (k : Nat) : Int := bif Nat.beq k 6 then m - 3 else 0
noncomputable def zChB (v : Nat → Int) (c : zC) : Bool := (sILt c.2.2.1 c.2.1 || (sILt (v (c.1 - 1077248)) c.2.1 || (sILt c.2.2.1 (v (c.1 - 1077248)) || (sILe c.2.2.2.2.1 (v (c.2.2.2.1 - 1077248)) && sILe (v (c.2.2.2.1 - 1077248)) c.2.2.2.2.2)))) && (sILe c.2.1 c.2.2.1 || sILt (v (c.2.2.2.1 - 1077248) + c.2.2.2.2.1) (v (c.1 - 1077248) + c.2.2.2.2.2))
theorem zChB_ok {v : Nat → Int} {c : zC} (h : zChB v c = true) : zChv c v := by
  obtain ⟨h1, h2⟩ := and_inv h
  refine ⟨fun a b d => ?_, fun a => ?_⟩
  · rcases (Bool.or_eq_true _ _).mp h1 with q | q
    · rw [sILt_d] at q; have := of_decide_eq_true q; omega
    rcases (Bool.or_eq_true _ _).mp q with q | q
    · rw [sILt_d] at q; have := of_decide_eq_true q; omega
    rcases (Bool.or_eq_true _ _).mp q with q | q
    · rw [sILt_d] at q; have := of_decide_eq_true q; omega
    · obtain ⟨q1, q2⟩ := and_inv q
      rw [sILe_d] at q1 q2
      exact ⟨of_decide_eq_true q1, of_decide_eq_true q2⟩
  · rcases (Bool.or_eq_true _ _).mp h2 with q | q
    · rw [sILe_d] at q; have := of_decide_eq_true q; omega
    · rw [sILt_d] at q; exact of_decide_eq_true q
set_option maxRecDepth 100000 in
theorem zNew_B : (List.range 7).all (fun i => (List.range 1850).all (fun k => sILe (zRsn k).1 (zNew ((i : Int) + 2) k) && sILe (zNew ((i : Int) + 2) k) (zRsn k).2) && (List.range 2048).all (fun k => (zRc1 k).all (zChB (zNew ((i : Int) + 2))))) = true := by decide +kernel
theorem zNew_ok {m : Int} (h1 : 2 ≤ m) (h2 : m ≤ 8) (b : Nat) : zRok b (zNew m) := by
  obtain ⟨i, hi⟩ : ∃ i : Nat, m = (i : Int) + 2 := ⟨(m - 2).toNat, by omega⟩
  subst hi
  obtain ⟨w1, w2⟩ := and_inv (List.all_eq_true.mp zNew_B i (List.mem_range.mpr (by omega)))
  have z0 : ∀ k, k ≠ 6 → zNew ((i : Int) + 2) k = 0 := fun k hk => by unfold zNew; rw [nbeq_f hk]; rfl
  refine ⟨⟨fun k hk => ?_, fun k hk c hc => zChB_ok (List.all_eq_true.mp (List.all_eq_true.mp w2 k (List.mem_range.mpr hk)) c hc)⟩, fun j hj a => ?_, ⟨0, by omega, ?_, z0 _ (by omega)⟩, by rw [z0 7 (by omega)]; omega, by rw [z0 10 (by omega)]; omega, by rw [z0 11 (by omega)]; omega⟩
  · obtain ⟨q1, q2⟩ := and_inv (List.all_eq_true.mp w1 k (List.mem_range.mpr hk))
    rw [sILe_d] at q1 q2
    exact ⟨of_decide_eq_true q1, of_decide_eq_true q2⟩
  · rw [z0 9 (by omega)] at a
    omega
  · show ((0 : Nat) : Int) < (i : Int) + 2 - 3 + 3
    omega
theorem yRw_over {N M : mMem} {a k : Nat} {f : Nat → Value} {x : Int32} (h : yRw N M a f 0 1850) (ha : a < 529) (hk : k < 1850) : yRw N (mPut M a (mCset (mObj M a) k (.int x))) a (fun j => if j = k then .int x else f j) 0 1850 := by
  obtain ⟨h1, h2, h3, h4⟩ := h
  refine ⟨h1, h2, fun o ho => ?_, fun o j ho hj => ?_⟩
  · rw [mObj_put (by omega) (by omega)]
    by_cases e : a = o
    · rw [if_pos e, ← e]; exact h3 a ha
    · rw [if_neg e]; exact h3 o ho
  · rw [mObj_put (by omega) (by omega)]
    by_cases e : a = o
    · subst e
      rw [if_pos rfl, mSlot_set (by omega) hj]
      by_cases e2 : k = j
      · subst e2
        rw [if_pos rfl, if_pos ⟨rfl, Nat.zero_le _, hk⟩]
        exact (if_pos rfl).symm
      · rw [if_neg e2, h4 a j ho hj]
        by_cases e3 : 0 ≤ j ∧ j < 1850
        · rw [if_pos ⟨rfl, e3⟩, if_pos ⟨rfl, e3⟩]
          exact (if_neg (Ne.symm e2)).symm
        · rw [if_neg (fun h => e3 h.2), if_neg (fun h => e3 h.2)]
    · rw [if_neg e, h4 o j ho hj, if_neg (fun h => e h.1.symm), if_neg (fun h => e h.1.symm)]
theorem zGood_put5 {M : mMem} {x : Int32} (hg : zGood zR9 M) (hx : x.toInt = 0 ∨ x.toInt = 1) : zGood zR9 (mPut M 525 (mCset (mObj M 525) 5 (.int x))) := by
  have at_ : ∀ key, key < 2097152 → mAtk (mPut M 525 (mCset (mObj M 525) 5 (.int x))) key = if key = 525 * 2048 + 5 then .int x else mAtk M key := fun key h => mAtk_put (by omega) (by omega) h
  refine ⟨zShape_put hg.1 (by omega) (by omega) (.inr (by show (8 : Nat) < 100; omega)), fun key h s hs => ?_, fun key h c hc => ?_⟩
  · rw [at_ key h]
    by_cases e : key = 525 * 2048 + 5
    · rw [if_pos e]
      have q : zRs1 (key / 2048) (key % 2048) = some s := hs
      rw [e, show (525 * 2048 + 5) / 2048 = 525 by omega, show (525 * 2048 + 5) % 2048 = 5 by omega] at q
      cases q
      exact ⟨x, rfl, by show (0 : Int) ≤ _; omega, by show _ ≤ (1 : Int); omega⟩
    · rw [if_neg e]; exact hg.2.1 key h s hs
  · have q : c ∈ (bif Nat.beq (key / 2048) 526 then zRc1 (key % 2048) else []) := hc
    cases e : Nat.beq (key / 2048) 526 with
    | false => rw [e] at q; cases q
    | true =>
      rw [e, cond_true] at q
      obtain ⟨m1, m2, a1, e1, a2, b1, e2, b2⟩ := zRc_at (k := key % 2048) (by omega) q
      have z := hg.2.2 key h c hc
      intro u v hu hv
      rw [at_ c.1 (by omega), if_neg (by omega)] at hu
      rw [at_ c.2.2.2.1 (by omega), if_neg (by omega)] at hv
      exact z u v hu hv
theorem zMv_put {M : mMem} {k : Nat} {v : Value} (hk : k < 7) : zMv M (mPut M 525 (mCset (mObj M 525) k v)) := ⟨rfl, rfl, fun key h => zPut_at hk (by omega) (by omega)⟩
noncomputable def zBeg (N N1 : mMem) (n v : Int32) : Prop := (2 ≤ n.toInt ∧ n.toInt ≤ 8 ∧ v.toInt = 1 ∧ (∀ k, k < 1850 → zN N1 k = zNew n.toInt k) ∧ mAtk N1 1075205 = mAtk N 1075205 ∧ ∀ k, k < 1850 → mAtk N1 (1081344 + k) = mAtk N (1081344 + k)) ∨ (¬ (2 ≤ n.toInt ∧ n.toInt ≤ 8) ∧ v.toInt = 0 ∧ zF True True True N N1)
/-- the image is taken, is gone back to, isn't there -/
noncomputable def zImg (N N1 : mMem) (t v : Int32) : Prop := (t.toInt = 1 ∧ v.toInt = 1 ∧ mAtk N1 1075205 = .int (Int32.ofInt 1) ∧ (∀ k, k < 1850 → mAtk N1 (1077248 + k) = mAtk N (1077248 + k)) ∧ ∀ k, k < 1850 → mAtk N1 (1081344 + k) = mAtk N (1077248 + k)) ∨
  (t.toInt = 0 ∧ v.toInt = 1 ∧ mAtk N 1075205 ≠ .int (Int32.ofInt 0) ∧ mAtk N1 1075205 = .int (Int32.ofInt 1) ∧ (∀ k, k < 1850 → mAtk N1 (1077248 + k) = mAtk N (1081344 + k)) ∧ ∀ k, k < 1850 → mAtk N1 (1081344 + k) = mAtk N (1081344 + k)) ∨
  (t.toInt = 0 ∧ v.toInt = 0 ∧ mAtk N 1075205 = .int (Int32.ofInt 0) ∧ zF True True True N N1)
section YBE
variable {xs : Nat → Int32} {L : Nat}
theorem y148 {b : Nat} {N : mMem} (hI : zInv b N) (hb : b ≤ 2147483647) (n : Int32) :
    ∃ v N1, mRuns mTab mInf (sXNl L) (sXF xs) 10 300 148 (0, lv_args 0 [.ref 525, .int n], [], N) (some (.int v), N1) ∧ zInv b N1 ∧ zMv N N1 ∧ zBeg N N1 n v := by
  have hp := zInv_pm hI
  have hg := hI.1
  obtain ⟨t, t0, t1, t2, t3⟩ := zInv_t hI
  have hroom : zRoom zR9 0 N := zInv_room hI (by omega)
  by_cases c : 2 ≤ n.toInt ∧ n.toInt ≤ 8
  · have hN := yMod_good hg
    have h0 := yRw_0 N 526 (fun _ => Value.null) 0
    have hg0 := zGood_put (k := 0) (x := Int32.ofInt 0) hg (.inl rfl)
    obtain ⟨N0, hN0⟩ : ∃ N0, N0 = mPut N 525 (mCset (mObj N 525) 0 (.int (Int32.ofInt 0))) := ⟨_, rfl⟩
    rw [← hN0] at hg0
    have mv0 : zMv N N0 := by rw [hN0]; exact zMv_put (by omega)
    have s0 : ∀ key, key < 2097152 → key ≠ 1075200 → mAtk N0 key = mAtk N key := fun key a e => by rw [hN0]; exact zPut_at (by omega) a e
    have hM0 := yMod_good hg0
    have hp0 : zPm N0 := zPm_eq (fun k hk => zN_eq (s0 _ (by omega) (by omega))) hp
    rcases zSeg_snd (R := (1, (0, false))) (X := zXp) (N := N0) (V := []) (Nl := lv_args 0 [.ref 525, .int n, .int (Int32.ofInt 2), .int (Int32.ofInt 8)]) (XN := sXNl L) (XF := sXF xs) y126_1 (zTw0_ok _) zTp_ok (fun _ _ h => by cases h) (zSx_x xs L) ⟨hp0, hp0⟩ hg0 (zRoom_eq (fun key hk => s0 key (by omega) (by omega)) hroom) (fun q hq => by
      simp only [List.mem_cons, List.not_mem_nil, or_false] at hq
      rcases hq with rfl | rfl | rfl | rfl
      · exact ⟨.ref 525, rfl, rfl⟩
      · exact ⟨.int n, rfl, n, rfl, c.1, c.2⟩
      · exact ⟨.int (Int32.ofInt 2), rfl, Int32.ofInt 2, rfl, by decide, by decide⟩
      · exact ⟨.int (Int32.ofInt 8), rfl, Int32.ofInt 8, rfl, by decide, by decide⟩) trivial (fun q hq => by cases hq) with ⟨p, hpm, -⟩ | ⟨rt, hrt, ⟨zv, zm⟩, z1, z2, z3, z4, -⟩
    · cases hpm
    · cases hrt
      obtain ⟨x, hx, q1, q2⟩ := z4
      have hx : zv = some (.int x) := hx
      subst hx
      have hzm : zm = N0 := z3.1 rfl
      subst hzm
      have q1 : 1 ≤ x.toInt := q1
      have q2 : x.toInt ≤ 1 := q2
      have ex : x = yI 1 := yI_of (by omega)
      subst ex
      obtain ⟨M1, m1, m2⟩ := y148_loop (XN := sXNl L) (XF := sXF xs) (fr := 10) (lo := 300) hM0 (n := n) 1850 0 zm (by omega) (yRw_0 zm 526 _ 0)
      have w := yRw_over (k := 6) (x := n - Int32.ofInt 3) m2 (by omega) (by omega)
      have e3 : (n - Int32.ofInt 3).toInt = n.toInt - 3 := i32_val (by rw [Int32.ofInt_sub, Int32.ofInt_toInt]) (by omega) (by omega)
      obtain ⟨N1, hN1⟩ : ∃ N1, N1 = mPut M1 526 (mCset (mObj M1 526) 6 (.int (n - Int32.ofInt 3))) := ⟨_, rfl⟩
      rw [← hN1] at w m1
      have row : ∀ k, k < 1850 → zRow N1 526 k = zNew n.toInt k := fun k hk => by
        have e := w.2.2.2 526 k (by omega) (by omega)
        rw [if_pos ⟨rfl, Nat.zero_le _, hk⟩] at e
        unfold zNew
        by_cases c6 : k = 6
        · rw [zRow_int (x := n - Int32.ofInt 3) (e.trans (if_pos c6)), c6, e3]
          rfl
        · rw [zRow_int (x := Int32.ofInt 0) (e.trans (if_neg c6)), nbeq_f c6]
          rfl
      have ok := zNew_ok c.1 c.2 b
      have i5 : mAtk N1 1075205 = mAtk N 1075205 := (yRw_at w (by decide) (by omega)).trans (s0 _ (by decide) (by decide))
      have i8 : ∀ k, k < 1850 → mAtk N1 (1081344 + k) = mAtk N (1081344 + k) := fun k hk => (yRw_at w (by omega) (by omega)).trans (s0 _ (by omega) (by omega))
      refine ⟨Int32.ofInt 1, N1, ?_, ⟨yS_good (yS_rw w (by omega) (fun j hj => ?_)) hg0 (zBcl_ext row ok.1), zRok_ext row ok, ?_⟩, zMv_t mv0 (zMv_rw w (by omega)), .inl ⟨c.1, c.2, by decide, fun k hk => by rw [← zRow_N N1 (by omega)]; exact row k hk, i5, i8⟩⟩
      · refine st_aload h_148_0 (by rfl) ?_
        refine st_iconst h_148_1 ?_
        refine st_putfield h_148_2 (yM_lt hN h0 525 (by omega)) (yM_k hN h0) (yM_n hN h0 0 (by omega)) (by rw [hN.2.1.2]; rfl) rfl ?_
        rw [← hN0]
        refine st_aload h_148_5 (by rfl) ?_
        refine st_iload h_148_6 (by rfl) ?_
        refine st_iconst h_148_7 ?_
        refine st_iconst h_148_8 ?_
        refine st_call (o := 525) (as := [.int n, .int (Int32.ofInt 2), .int (Int32.ofInt 8)]) (S := []) (w := some (.int (yI 1))) (M1 := zm) h_148_10 rfl rfl rfl (yM_b hM0) (yM_c hM0) rfl rfl rfl rfl (mRuns_more z1 (Nat.zero_le _) (Nat.zero_le _)) rfl ?_
        refine st_if h_148_13 ?_
        rw [show mIf .ne (yI 1) 0 = true from by decide, cond_true]
        refine st_iconst h_148_18 ?_
        refine st_istore h_148_19 (by rfl) ?_
        exact m1
      · by_cases c6 : j = 6
        · exact ⟨_, if_pos c6⟩
        · exact ⟨_, if_neg c6⟩
      · rcases hI.2.2 with q | q
        · exact .inl (i5.trans q)
        · exact .inr (zRok_ext (fun k hk => zRow_eq (by rw [← y_at8 N1 (by omega), ← y_at8 N (by omega)]; exact i8 k hk)) q)
  · obtain ⟨q, hq, q1, q2⟩ : ∃ q : Int × Int, q ∈ ([(-2147483648, 1), (9, 2147483647)] : List (Int × Int)) ∧ q.1 ≤ n.toInt ∧ n.toInt ≤ q.2 := by
      have g := i32_rg n
      by_cases d : n.toInt ≤ 1
      · exact ⟨_, List.mem_cons_self, g.1, d⟩
      · exact ⟨_, List.mem_cons_of_mem _ List.mem_cons_self, by show (9 : Int) ≤ _; omega, g.2⟩
    rcases zSeg_snd (R := (14, (0, false))) (X := zXp) (N := N) (V := []) (Nl := lv_args 0 [.ref 525, .int n]) (XN := sXNl L) (XF := sXF xs) (List.all_eq_true.mp y148_D q hq) (zTw0_ok _) zTp_ok (fun _ _ h => by cases h) (zSx_x xs L) ⟨hp, hp⟩ hg hroom (fun p hp => by
      simp only [List.mem_cons, List.not_mem_nil, or_false] at hp
      rcases hp with rfl | rfl
      · exact ⟨.ref 525, rfl, rfl⟩
      · exact ⟨.int n, rfl, n, rfl, q1, q2⟩) trivial (fun q hq => by cases hq) with ⟨p, hpm, -⟩ | ⟨rt, hrt, ⟨zv, zm⟩, z1, z2, z3, z4, -⟩
    · cases hpm
    · cases hrt
      obtain ⟨x, hx, r1, r2⟩ := z4
      have hx : zv = some (.int x) := hx
      subst hx
      have r1 : 0 ≤ x.toInt := r1
      have r2 : x.toInt ≤ 0 := r2
      obtain ⟨-, k2, k3, k4, k5⟩ := zRk_14 z3
      exact ⟨x, zm, z1, zInv_from hI k2 k3 z2 z3.2.2.2.2.2.2 (by rw [zN_eq (N := N) (k := 7) (k2.2.2.1 trivial)]; omega) k4, k5, .inr ⟨c, by omega, k2⟩⟩
theorem y246 {b : Nat} {N : mMem} (hI : zInv b N) (t : Int32) (ht : t.toInt = 0 ∨ t.toInt = 1) :
    ∃ v N1, mRuns mTab mInf (sXNl L) (sXF xs) 10 300 246 (0, lv_args 0 [.ref 525, .int t], [], N) (some (.int v), N1) ∧ zInv b N1 ∧ zMv N N1 ∧ zImg N N1 t v := by
  have hg := hI.1
  have hN := yMod_good hg
  have h0 := yRw_0 N 526 (fun _ => Value.null) 0
  have hg0 := zGood_put (k := 0) (x := Int32.ofInt 0) hg (.inl rfl)
  obtain ⟨N0, hN0⟩ : ∃ N0, N0 = mPut N 525 (mCset (mObj N 525) 0 (.int (Int32.ofInt 0))) := ⟨_, rfl⟩
  rw [← hN0] at hg0
  have mv0 : zMv N N0 := by rw [hN0]; exact zMv_put (by omega)
  have s0 : ∀ key, key < 2097152 → key ≠ 1075200 → mAtk N0 key = mAtk N key := fun key a e => by rw [hN0]; exact zPut_at (by omega) a e
  have hM0 := yMod_good hg0
  have h00 := yRw_0 N0 526 (fun _ => Value.null) 0
  have hg1 := zGood_put5 (x := Int32.ofInt 1) hg0 (.inr (by decide))
  obtain ⟨N2, hN2⟩ : ∃ N2, N2 = mPut N0 525 (mCset (mObj N0 525) 5 (.int (Int32.ofInt 1))) := ⟨_, rfl⟩
  rw [← hN2] at hg1
  have mv2 : zMv N N2 := zMv_t mv0 (by rw [hN2]; exact zMv_put (by omega))
  have s2 : ∀ key, key < 2097152 → key ≠ 1075200 → key ≠ 1075205 → mAtk N2 key = mAtk N key := fun key a e f => by rw [hN2]; exact (zPut_at (by omega) a f).trans (s0 key a e)
  have s25 : mAtk N2 1075205 = .int (Int32.ofInt 1) := by
    rw [hN2, mAtk_put (by omega) (by omega) (by decide)]
    exact if_pos (by decide)
  have hM2 := yMod_good hg1
  have c6 : ∀ k, k < 1850 → mAtk N2 (1077248 + k) = mAtk N (1077248 + k) := fun k hk => s2 _ (by omega) (by omega) (by omega)
  have c8 : ∀ k, k < 1850 → mAtk N2 (1081344 + k) = mAtk N (1081344 + k) := fun k hk => s2 _ (by omega) (by omega) (by omega)
  have front : ∀ z, mRuns mTab mInf (sXNl L) (sXF xs) 10 300 246 (5, [(0, .ref 525), (1, .int t)], [], N0) z → mRuns mTab mInf (sXNl L) (sXF xs) 10 300 246 (0, lv_args 0 [.ref 525, .int t], [], N) z := fun z hz => by
    refine st_aload h_246_0 (by rfl) ?_
    refine st_iconst h_246_1 ?_
    refine st_putfield h_246_2 (yM_lt hN h0 525 (by omega)) (yM_k hN h0) (yM_n hN h0 0 (by omega)) (by rw [hN.2.1.2]; rfl) rfl ?_
    rw [← hN0]
    exact hz
  have mid : ∀ z, mRuns mTab mInf (sXNl L) (sXF xs) 10 300 246 (25, [(2, (.int (yI 0))), (0, .ref 525), (1, .int t)], [], N2) z → mRuns mTab mInf (sXNl L) (sXF xs) 10 300 246 (18, [(0, .ref 525), (1, .int t)], [], N0) z := fun z hz => by
    refine st_aload h_246_18 (by rfl) ?_
    refine st_iconst h_246_19 ?_
    refine st_putfield h_246_20 (yM_lt hM0 h00 525 (by omega)) (yM_k hM0 h00) (yM_n hM0 h00 5 (by omega)) (by rw [hM0.2.1.2]; rfl) rfl ?_
    rw [← hN2]
    refine st_iconst h_246_23 ?_
    refine st_istore h_246_24 (by rfl) ?_
    exact hz
  rcases ht with ht | ht
  · have et : t = Int32.ofInt 0 := Int32.toInt_inj.mp (by rw [ht]; decide)
    subst et
    obtain ⟨y, y0, y1, y2⟩ := hg0.2.1 1075205 (by decide) (.inl (0, 1)) rfl
    have y0' := y0
    rw [show 1075205 = 525 * 2048 + 5 by decide, mAtk_key N0 (by omega)] at y0'
    have y9 : mAtk N 1075205 = .int y := (s0 _ (by decide) (by decide)).symm.trans y0
    by_cases ey : y = 0
    · subst ey
      refine ⟨Int32.ofInt 0, N0, front _ ?_, ⟨hg0, ?_, .inl ((s0 _ (by decide) (by decide)).trans y9)⟩, mv0, .inr (.inr ⟨by decide, by decide, y9, s0 _ (by decide) (by decide), s0 _ (by decide) (by decide), fun _ => s0 _ (by decide) (by decide), fun _ => s0 _ (by decide) (by decide), fun _ j hj => s0 _ (by omega) (by omega), fun k hk => s0 _ (by omega) (by omega)⟩)⟩
      · refine st_iload h_246_5 (by rfl) ?_
        refine st_if h_246_6 ?_
        rw [show mIf .ne (Int32.ofInt 0) 0 = false from by decide, cond_false]
        refine st_aload h_246_9 (by rfl) ?_
        refine st_getfield h_246_10 (yM_lt hM0 h00 525 (by omega)) (yM_k hM0 h00) (yM_n hM0 h00 5 (by omega)) y0' ?_
        refine st_if h_246_13 ?_
        rw [show mIf .ne (0 : Int32) 0 = false from by decide, cond_false]
        refine st_iconst h_246_16 ?_
        exact st_ireturn h_246_17 (ty := .boolean) rfl rfl
      · exact zRok_ext (fun k hk => zRow_eq (by rw [← y_at N0 (by omega), ← y_at N (by omega)]; exact s0 _ (by omega) (by omega))) hI.2.1
    · obtain ⟨M1, m1, m2⟩ := y246b_loop (XN := sXNl L) (XF := sXF xs) (fr := 10) (lo := 300) hM2 1850 0 N2 (by omega) (yRw_0 N2 526 _ 0)
      have r8 : zRok b (zRow N 528) := by
        rcases hI.2.2 with q | q
        · rw [y9] at q
          exact absurd (Value.int.inj q) ey
        · exact q
      have r6 : ∀ k, k < 1850 → mAtk M1 (1077248 + k) = mAtk N (1081344 + k) := fun k hk => by
        rw [y_at M1 (by omega), m2.2.2.2 526 k (by omega) (by omega), if_pos ⟨rfl, Nat.zero_le _, hk⟩, ← y_at8 N2 (by omega)]
        exact c8 k hk
      have r7 : ∀ k, k < 1850 → mAtk M1 (1081344 + k) = mAtk N (1081344 + k) := fun k hk => (yRw_at m2 (by omega) (by omega)).trans (c8 k hk)
      have z6 : ∀ k, k < 1850 → zRow M1 526 k = zRow N 528 k := fun k hk => zRow_eq (by rw [← y_at M1 (by omega), ← y_at8 N (by omega)]; exact r6 k hk)
      have z8 : ∀ k, k < 1850 → zRow M1 528 k = zRow N 528 k := fun k hk => zRow_eq (by rw [← y_at8 M1 (by omega), ← y_at8 N (by omega)]; exact r7 k hk)
      refine ⟨Int32.ofInt 1, M1, front _ ?_, ⟨yS_good (yS_rw m2 (by omega) (fun j hj => (hM2.2.2.2 528 (by omega) (by omega)).2.2 j hj)) hg1 (zBcl_ext z6 r8.1), zRok_ext z6 r8, .inr (zRok_ext z8 r8)⟩, zMv_t mv2 (zMv_rw m2 (by omega)), .inr (.inl ⟨by decide, by decide, fun q => ?_, (yRw_at m2 (by decide) (by omega)).trans s25, r6, r7⟩)⟩
      · refine st_iload h_246_5 (by rfl) ?_
        refine st_if h_246_6 ?_
        rw [show mIf .ne (Int32.ofInt 0) 0 = false from by decide, cond_false]
        refine st_aload h_246_9 (by rfl) ?_
        refine st_getfield h_246_10 (yM_lt hM0 h00 525 (by omega)) (yM_k hM0 h00) (yM_n hM0 h00 5 (by omega)) y0' ?_
        refine st_if h_246_13 ?_
        rw [show mIf .ne y 0 = true from by show (!decide (y = 0)) = true; rw [decide_eq_false ey]; rfl, cond_true]
        exact mid _ m1
      · rw [y9] at q
        exact ey (Value.int.inj q)
  · have et : t = Int32.ofInt 1 := Int32.toInt_inj.mp (by rw [ht]; decide)
    subst et
    obtain ⟨M1, m1, m2⟩ := y246t_loop (XN := sXNl L) (XF := sXF xs) (fr := 10) (lo := 300) hM2 (t := Int32.ofInt 1) (by decide) 1850 0 N2 (by omega) (yRw_0 N2 528 _ 0)
    have r6 : ∀ k, k < 1850 → mAtk M1 (1081344 + k) = mAtk N (1077248 + k) := fun k hk => by
      rw [y_at8 M1 (by omega), m2.2.2.2 528 k (by omega) (by omega), if_pos ⟨rfl, Nat.zero_le _, hk⟩, ← y_at N2 (by omega)]
      exact c6 k hk
    have r7 : ∀ k, k < 1850 → mAtk M1 (1077248 + k) = mAtk N (1077248 + k) := fun k hk => (yRw_at m2 (by omega) (by omega)).trans (c6 k hk)
    have z6 : ∀ k, k < 1850 → zRow M1 528 k = zRow N 526 k := fun k hk => zRow_eq (by rw [← y_at8 M1 (by omega), ← y_at N (by omega)]; exact r6 k hk)
    have z8 : ∀ k, k < 1850 → zRow M1 526 k = zRow N 526 k := fun k hk => zRow_eq (by rw [← y_at M1 (by omega), ← y_at N (by omega)]; exact r7 k hk)
    refine ⟨Int32.ofInt 1, M1, front _ ?_, ⟨yS_oth (yS_rw m2 (by omega) (fun j hj => (hM2.2.2.2 526 (by omega) (by omega)).2.2 j hj)) (by omega) (by omega) hg1, zRok_ext z8 hI.2.1, .inr (zRok_ext z6 hI.2.1)⟩, zMv_t mv2 (zMv_rw m2 (by omega)), .inl ⟨by decide, by decide, (yRw_at m2 (by decide) (by omega)).trans s25, r7, r6⟩⟩
    refine st_iload h_246_5 (by rfl) ?_
    refine st_if h_246_6 ?_
    rw [show mIf .ne (Int32.ofInt 1) 0 = true from by decide, cond_true]
    exact mid _ m1
end YBE

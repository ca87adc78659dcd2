/-! ===== in thought: found; written by wip/box/gen75.py ===== -/
theorem h_230_25 : mFind (mTab 230) 25 = some (25, 3, .invokevirtual 293, .invokevirtual 293, 0, 226, 8, 1407) := mFb_eq (by decide +kernel)
theorem h_230_46 : mFind (mTab 230) 46 = some (46, 2, .iload 4, .iload 4, 0, 0, 0, 0) := mFb_eq (by decide +kernel)
theorem h_230_48 : mFind (mTab 230) 48 = some (48, 3, .sipush 3000, .iconst 0, 3000, 0, 0, 0) := mFb_eq (by decide +kernel)
theorem h_230_51 : mFind (mTab 230) 51 = some (51, 3, .if_icmp .ge 27, .if_icmp .ge 27, 0, 78, 0, 0) := mFb_eq (by decide +kernel)
theorem h_230_54 : mFind (mTab 230) 54 = some (54, 1, .iload_n 3, .iload 3, 0, 0, 0, 0) := mFb_eq (by decide +kernel)
theorem h_230_55 : mFind (mTab 230) 55 = some (55, 1, .iconst (-1), .iconst 0, (-1), 0, 0, 0) := mFb_eq (by decide +kernel)
theorem h_230_56 : mFind (mTab 230) 56 = some (56, 3, .if_icmp .ne 22, .if_icmp .ne 22, 0, 78, 0, 0) := mFb_eq (by decide +kernel)
theorem h_230_59 : mFind (mTab 230) 59 = some (59, 1, .aload_n 0, .aload 0, 0, 0, 0, 0) := mFb_eq (by decide +kernel)
theorem h_230_60 : mFind (mTab 230) 60 = some (60, 3, .invokevirtual 245, .invokevirtual 245, 0, 202, 8, 1177) := mFb_eq (by decide +kernel)
theorem h_230_63 : mFind (mTab 230) 63 = some (63, 2, .iload 4, .iload 4, 0, 0, 0, 0) := mFb_eq (by decide +kernel)
theorem h_230_65 : mFind (mTab 230) 65 = some (65, 1, .iconst 1, .iconst 0, 1, 0, 0, 0) := mFb_eq (by decide +kernel)
theorem h_230_66 : mFind (mTab 230) 66 = some (66, 1, .iadd, .iadd, 0, 0, 0, 0) := mFb_eq (by decide +kernel)
theorem h_230_67 : mFind (mTab 230) 67 = some (67, 2, .istore 4, .istore 4, 0, 0, 0, 0) := mFb_eq (by decide +kernel)
theorem h_230_69 : mFind (mTab 230) 69 = some (69, 1, .aload_n 0, .aload 0, 0, 0, 0, 0) := mFb_eq (by decide +kernel)
theorem h_230_70 : mFind (mTab 230) 70 = some (70, 1, .iload_n 2, .iload 2, 0, 0, 0, 0) := mFb_eq (by decide +kernel)
theorem h_230_71 : mFind (mTab 230) 71 = some (71, 3, .invokevirtual 296, .invokevirtual 296, 0, 229, 8, 1411) := mFb_eq (by decide +kernel)
theorem h_230_74 : mFind (mTab 230) 74 = some (74, 1, .istore_n 3, .istore 3, 0, 0, 0, 0) := mFb_eq (by decide +kernel)
theorem h_230_75 : mFind (mTab 230) 75 = some (75, 3, .goto (-29), .goto (-29), 0, 46, 0, 0) := mFb_eq (by decide +kernel)
theorem h_230_78 : mFind (mTab 230) 78 = some (78, 1, .aload_n 0, .aload 0, 0, 0, 0, 0) := mFb_eq (by decide +kernel)
theorem h_230_79 : mFind (mTab 230) 79 = some (79, 3, .invokevirtual 299, .invokevirtual 299, 0, 227, 8, 1415) := mFb_eq (by decide +kernel)
theorem zPm_eq {N M : mMem} (h : ∀ k, k < 1850 → zN M k = zN N k) (hp : zPm N) : zPm M := fun i hi a b => by
  rw [h 9 (by omega)] at a
  rw [h (710 + 7 * i) (by omega)] at b
  rw [h (714 + 7 * i) (by omega)]
  exact hp i hi a b
theorem zRoom_eq {k : Nat} {N M : mMem} (h : ∀ key, key = 1077258 ∨ key = 1077259 → mAtk M key = mAtk N key) (hr : zRoom zR9 k N) : zRoom zR9 k M := fun key h1 h2 => by
  have h3 : (Nat.beq key 1077258 || Nat.beq key 1077259) = true := h2
  simp only [Bool.or_eq_true, Nat.beq_eq] at h3
  rw [h key h3]
  exact hr key h1 h2
theorem yRw_at {N M : mMem} {a : Nat} {f : Nat → Value} (h : yRw N M a f 0 1850) {key : Nat} (hk : key < 2097152) (hn : ¬ (key / 2048 = a ∧ key % 2048 < 1850)) : mAtk M key = mAtk N key := by
  show mSlot (mObj M (key / 2048)) (key % 2048) = _
  rw [h.2.2.2 (key / 2048) (key % 2048) (by omega) (by omega), if_neg (fun q => hn ⟨q.1, q.2.2⟩)]
  rfl
theorem zMv_rw {N M : mMem} {a : Nat} {f : Nat → Value} (h : yRw N M a f 0 1850) (ha : 525 ≤ a) : zMv N M := ⟨h.1, h.2.1, fun key hk => yRw_at h (by omega) (by omega)⟩
/-- what was thought ahead lies in the second row -/
noncomputable def zBk (N M : mMem) : Prop := (∀ k, k < 1850 → mSlot (mObj M 527) k = mSlot (mObj N 526) k) ∧ mAtk M 1075205 = mAtk N 1075205 ∧ (∀ k, k < 1850 → mAtk M (1081344 + k) = mAtk N (1081344 + k)) ∧ zMv N M
theorem zBk_k {q : Nat} (hq : q = 0 ∨ q = 5) {X : mMem → mMem → Prop} {zx : Nat → Bool} {con : Nat → List zS} {k : Nat} {N M M1 : mMem} (h : zBk N M) (hr : zRl (zRw zx con) X q k M M1) : zBk N M1 := by
  obtain ⟨a, b, c, d⟩ := h
  have hk := (zRk_k (q := q) (by omega) hr).1
  refine ⟨fun j hj => ?_, hk.1.trans b, fun j hj => (hk.2.2.2.2.2 j hj).trans (c j hj), zMv_t d (zMv_rl hr)⟩
  have e := hr.2.2.2.1 (1079296 + j) (by omega) (by
    show zRk1 q ((1079296 + j) / 2048) ((1079296 + j) % 2048) = true
    unfold zRk1
    refine cond_i (fun _ => rfl) (fun _ => ?_)
    refine cond_i (fun e => by have := Nat.eq_of_beq_eq_true e; omega) (fun _ => ?_)
    exact cond_i (fun e => by have := Nat.eq_of_beq_eq_true e; omega) (fun _ => rfl))
  rw [show 1079296 + j = 527 * 2048 + j by omega, mAtk_key M1 (by omega), mAtk_key M (by omega)] at e
  exact e.trans (a j hj)
theorem zBack {b : Nat} {N M M1 : mMem} (hI : zInv b N) (hg : zGood zR9 M) (hb : zBk N M) (hw : yRw M M1 526 (mSlot (mObj M 527)) 0 1850) : zInv b M1 ∧ zMv N M1 ∧ zF True True True N M1 := by
  obtain ⟨h1, h2, h3, h4⟩ := hb
  have hM := yMod_good hg
  have row : ∀ k, k < 1850 → mSlot (mObj M1 526) k = mSlot (mObj N 526) k := fun k hk => by
    rw [hw.2.2.2 526 k (by omega) (by omega), if_pos ⟨rfl, Nat.zero_le _, hk⟩]
    exact h1 k hk
  have cell : ∀ k, k < 1850 → mAtk M1 (1077248 + k) = mAtk N (1077248 + k) := fun k hk => by
    rw [y_at _ (by omega), y_at _ (by omega)]
    exact row k hk
  have zr : ∀ k, k < 1850 → zRow M1 526 k = zRow N 526 k := fun k hk => zRow_eq (row k hk)
  have i5 : mAtk M1 1075205 = mAtk N 1075205 := (yRw_at hw (by decide) (by omega)).trans h2
  have i8 : ∀ k, k < 1850 → mAtk M1 (1081344 + k) = mAtk N (1081344 + k) := fun k hk => (yRw_at hw (by omega) (by omega)).trans (h3 k hk)
  refine ⟨⟨yS_good (yS_rw hw (by omega) (fun j hj => (hM.2.2.2 527 (by omega) (by omega)).2.2 j hj)) hg (zBcl_ext zr (zGood_row hI.1)), zRok_ext zr hI.2.1, ?_⟩, zMv_t h4 (zMv_rw hw (by omega)), i5, cell 6 (by omega), fun _ => cell 7 (by omega), fun _ => cell 8 (by omega), fun _ j hj => ?_, i8⟩
  · rcases hI.2.2 with q | q
    · exact .inl (i5.trans q)
    · exact .inr (zRok_ext (fun k hk => zRow_eq (by rw [← y_at8 M1 (by omega), ← y_at8 N (by omega)]; exact i8 k hk)) q)
  · have := cell (30 + j) (by omega)
    rw [show 1077278 + j = 1077248 + (30 + j) by omega]
    exact this
/-- thinking begins -/
theorem zThinks {XN : Nat → Nat} {XF : Nat → Nat → Int32} {fr lo b k : Nat} {N N2 : mMem} (hI : zInv b N) (hg : zGood zR9 N2) (hr : zRoom zR9 k N) (hs : ∀ key, key < 2097152 → key ≠ 1075200 → mAtk N2 key = mAtk N key) (hv : zMv N N2) :
    ∃ M, mRuns mTab mInf XN XF fr lo 226 (0, lv_args 0 [.ref 525], [], N2) (none, M) ∧ zGood zR9 M ∧ zPm M ∧ zBk N M ∧ zRoom zR9 k M ∧ ∀ j, j < 1850 → mAtk M (1077248 + j) = mAtk N (1077248 + j) := by
  have hN := yMod_good hg
  obtain ⟨M, m1, m2⟩ := y226_run (XN := XN) (XF := XF) (fr := fr) (lo := lo) hN
  have hi : ∀ j, j < 1850 → ∃ x, mSlot (mObj N2 526) j = .int x := fun j hj => (hN.2.2.2 526 (by omega) (by omega)).2.2 j hj
  have cell : ∀ j, j < 1850 → mAtk M (1077248 + j) = mAtk N (1077248 + j) := fun j hj => (yRw_at m2 (by omega) (by omega)).trans (hs _ (by omega) (by omega))
  refine ⟨M, m1, yS_oth (yS_rw m2 (by omega) hi) (by omega) (by omega) hg, zPm_eq (fun j hj => zN_eq (cell j hj)) (zInv_pm hI), ⟨fun j hj => ?_, (yRw_at m2 (by decide) (by omega)).trans (hs _ (by decide) (by decide)), fun j hj => (yRw_at m2 (by omega) (by omega)).trans (hs _ (by omega) (by omega)), zMv_t hv (zMv_rw m2 (by omega))⟩, zRoom_eq (fun key hk => ?_) hr, cell⟩
  · rw [m2.2.2.2 527 j (by omega) (by omega), if_pos ⟨rfl, Nat.zero_le _, hj⟩]
    have := hs (1077248 + j) (by omega) (by omega)
    rw [y_at _ (by omega), y_at _ (by omega)] at this
    exact this
  · rcases hk with rfl | rfl
    · exact cell 10 (by omega)
    · exact cell 11 (by omega)
/-! ===== calls that only read ===== -/
noncomputable def zRdB (mi : Nat) (as : List zA) (r : Option (Bool × (Int × Int))) (j : Nat) : Bool := (zQt mi).any fun i => decide (zSa i = as) && (decide (zSr i = r) && ((zSc i).all (fun c => decide (c = (1077324 + 84 * j, (0, 0))) || (Nat.beq c.1 1077254 && ((sILe c.2.1 ((j : Int) - 2) || sILe c.2.1 (-1)) && sILe 5 c.2.2))) && (Nat.ble (zSk i) 0 && (Nat.ble (zSf i) 8 && (Nat.ble (zSo i) 200 && Nat.beq (zSq i) 1)))))
theorem zRd {mi j : Nat} {as : List zA} {r : Option (Bool × (Int × Int))} {XN : Nat → Nat} {XF : Nat → Nat → Int32} {N : mMem} {bs : List Value} (hB : zRdB mi as r j = true) (H : ∀ mi, ∀ i ∈ zQt mi, zVal zR9 zXp mTab mInf XN XF mi i) (hj : j < 8) (hg : zGood zR9 N) (hp : zPm N) (j2 : (j : Int) < zN N 6 + 3) (j3 : zN N (76 + 84 * j) = 0) (hr : zRoom zR9 0 N) (ha : sAll zArV as bs) :
    ∃ v, mRuns mTab mInf XN XF 8 200 mi (0, lv_args 0 bs, [], N) (v, N) ∧ zAnV r v := by
  obtain ⟨i, hi, h⟩ := List.any_eq_true.mp hB
  obtain ⟨h1, g1⟩ := and_inv h
  obtain ⟨h2, g2⟩ := and_inv g1
  obtain ⟨h3, g3⟩ := and_inv g2
  obtain ⟨h4, g4⟩ := and_inv g3
  obtain ⟨h5, g5⟩ := and_inv g4
  obtain ⟨h6, h7⟩ := and_inv g5
  have h1 := of_decide_eq_true h1
  have h2 := of_decide_eq_true h2
  have h4 := Nat.le_of_ble_eq_true h4
  have h5 := Nat.le_of_ble_eq_true h5
  have h6 := Nat.le_of_ble_eq_true h6
  have h7 := Nat.eq_of_beq_eq_true h7
  obtain ⟨v, N1, r1, r2, r3, r4, -⟩ := H mi i hi N bs ⟨hp, hp⟩ hg (by rw [h1]; exact ha) (fun c hc => by
    have q := List.all_eq_true.mp h3 c hc
    rcases (Bool.or_eq_true _ _).mp q with q | q
    · have q := of_decide_eq_true q
      subst q
      obtain ⟨x, a, -⟩ := zGood_int hg (k := 76 + 84 * j) (by omega)
      rw [← zRow_N N (by omega), zRow_int a] at j3
      exact ⟨x, by show mAtk N (1077324 + 84 * j) = _; rw [show 1077324 + 84 * j = 1077248 + (76 + 84 * j) by omega, y_at N (by omega)]; exact a, by show (0 : Int) ≤ _; omega, by show _ ≤ (0 : Int); omega⟩
    · obtain ⟨q1, q⟩ := and_inv q
      obtain ⟨q2, q3⟩ := and_inv q
      have q1 := Nat.eq_of_beq_eq_true q1
      obtain ⟨x, a, d1, d2⟩ := zGood_int hg (k := 6) (by omega)
      rw [← zRow_N N (by omega), zRow_int a] at j2
      have d1 : -1 ≤ x.toInt := d1
      have d2 : x.toInt ≤ 5 := d2
      refine ⟨x, by rw [q1, show 1077254 = 1077248 + 6 by omega, y_at N (by omega)]; exact a, ?_, ?_⟩
      · rcases (Bool.or_eq_true _ _).mp q2 with q2 | q2
        · rw [sILe_d] at q2
          have := of_decide_eq_true q2
          omega
        · rw [sILe_d] at q2
          have := of_decide_eq_true q2
          omega
      · rw [sILe_d] at q3
        have := of_decide_eq_true q3
        omega) (zRoom_le hr h4)
  rw [h7] at r3
  have hN : N1 = N := r3.1 rfl
  subst hN
  rw [h2] at r4
  exact ⟨v, mRuns_more r1 h5 h6, r4⟩
theorem y229_B : (List.range 8).all (zRdB 229 [z525, (0, (0, zR32))] (some (false, (-1, 7)))) = true := by decide +kernel
set_option maxRecDepth 100000 in
theorem y230_1 : zSeg (zTw0 zT1) (14, (0, false)) 230 10 300 0 [(0, z525), (1, (0, (0, zR32)))] [] [] [(25, ([(0, z525), (1, (0, (0, zR32)))], ([z525], ([1], []))))] (some (some (false, (-1, -1)), [])) = true := by decide +kernel
set_option maxRecDepth 100000 in
theorem y230_2 : zSeg (zRw zRx zQt) (0, (0, false)) 230 10 300 28 [(0, z525), (1, (0, (0, zR32)))] [] [] [(46, ([(0, z525), (1, (0, (0, zR32))), (2, (0, (0, zR32))), (3, (0, (0, (-1, -1)))), (4, (0, (0, (0, 0))))], ([], ([1], []))))] none = true := by decide +kernel
set_option maxRecDepth 100000 in
theorem y230_3 : zSeg (zTw0 fun _ => []) (1, (0, false)) 230 10 300 82 [(1, (0, (0, zR32))), (3, (0, (0, (-1, 7)))), (4, (0, (0, (0, 3000))))] [] [] [] (some (some (false, (-1, 3000)), [])) = true := by decide +kernel
section YFO
variable {xs : Nat → Int32} {L : Nat}
theorem zJ_keep {j q k : Nat} (hj : j < 8) (hq : q = 0 ∨ q = 5) {X : mMem → mMem → Prop} {zx : Nat → Bool} {con : Nat → List zS} {N M : mMem} (h : zRl (zRw zx con) X q k N M) (j2 : (j : Int) < zN N 6 + 3) (j3 : zN N (76 + 84 * j) = 0) : (j : Int) < zN M 6 + 3 ∧ zN M (76 + 84 * j) = 0 := by
  obtain ⟨f, g, -⟩ := zRk_k (q := q) (by omega) h
  rw [zN_eq (N := N) (k := 6) f.2.1, zN_eq (N := N) (k := 76 + 84 * j) (by
    have := g (by omega) j hj
    rw [show 1077248 + (76 + 84 * j) = 1077324 + 84 * j by omega]
    exact this)]
  exact ⟨j2, j3⟩
theorem y230_loop (H : ∀ mi, ∀ i ∈ zQt mi, zVal zR9 zXp mTab mInf (sXNl L) (sXF xs) mi i) {j : Nat} (hj : j < 8) {w : Int32} : ∀ (d k : Nat) (N : mMem) (Nl : List (Nat × Value)) (t y : Int32), k + d = 3000 → mLk Nl 0 = some (.ref 525) → mLk Nl 2 = some (.int w) → mLk Nl 3 = some (.int y) → mLk Nl 4 = some (.int (yI k)) → -1 ≤ y.toInt → y.toInt ≤ 7 → zGood zR9 N → zPm N → zRoom zR9 (124 * d) N → mAtk N 1077255 = .int t → 0 ≤ t.toInt → t.toInt + (d : Int) ≤ 33000 → (j : Int) < zN N 6 + 3 → zN N (76 + 84 * j) = 0 →
    ∃ M Nl2 y2 k2, mLk Nl2 0 = some (.ref 525) ∧ (∀ x : Int32, mLk Nl 1 = some (.int x) → mLk Nl2 1 = some (.int x)) ∧ mLk Nl2 3 = some (.int y2) ∧ -1 ≤ y2.toInt ∧ y2.toInt ≤ 7 ∧ mLk Nl2 4 = some (.int (yI k2)) ∧ k2 ≤ 3000 ∧ zGood zR9 M ∧ zPm M ∧ zRl zR9 zXp 5 (124 * d) N M ∧ ∀ z, mRuns mTab mInf (sXNl L) (sXF xs) 10 300 230 (78, Nl2, [], M) z → mRuns mTab mInf (sXNl L) (sXF xs) 10 300 230 (46, Nl, [], N) z
  | 0, k, N, Nl, t, y, hk, l0, l2, l3, l4, y1, y2, hg, hp, hr, ht, t1, t2, j2, j3 => by
    refine ⟨N, Nl, y, k, l0, fun x hx => hx, l3, y1, y2, l4, by omega, hg, hp, zRl_0 ⟨hp, hp⟩ hr, fun z hz => ?_⟩
    refine st_iload h_230_46 l4 ?_
    refine st_iconst h_230_48 ?_
    refine st_icmp h_230_51 ?_
    rw [show Int32.ofInt 3000 = yI 3000 from rfl, yI_le (by omega) (by omega) (by omega), cond_true]
    exact hz
  | d + 1, k, N, Nl, t, y, hk, l0, l2, l3, l4, y1, y2, hg, hp, hr, ht, t1, t2, j2, j3 => by
    by_cases ey : y = Int32.ofInt (-1)
    · have hr : zRoom zR9 (124 + 124 * d) N := zRoom_le hr (by omega)
      obtain ⟨M1, r1, r2, r3, r4, s, s1, s2⟩ := y_ticks H hg hp (zRoom_le hr (by omega)) ht t1 (by omega)
      have hN := yMod_good hg
      have hN1 := yMod_good r2
      obtain ⟨q2, q3⟩ := zJ_keep hj (.inr rfl) r4 j2 j3
      have hr1 : zRoom zR9 (124 * d) M1 := zRoom_rl r4 hr
      obtain ⟨v, v1, v2⟩ := zRd (XN := sXNl L) (XF := sXF xs) (bs := [.ref 525, .int w]) (List.all_eq_true.mp y229_B j (List.mem_range.mpr hj)) H hj r2 r3 q2 q3 (zRoom_le hr1 (Nat.zero_le _)) ⟨rfl, ⟨w, rfl, z32 w⟩, trivial⟩
      obtain ⟨x, hx, x1, x2⟩ := v2
      subst hx
      have x1 : -1 ≤ x.toInt := x1
      have x2 : x.toInt ≤ 7 := x2
      have e : yI k + Int32.ofInt 1 = yI (k + 1) := yI_succ
      obtain ⟨M, Nl2, y9, k2, a1, a2, a3, a4, a5, a6, a7, a8, a9, a10, a11⟩ := y230_loop H hj d (k + 1) M1 (mSt1 (mSt1 Nl 4 (.int (yI (k + 1)))) 3 (.int x)) s x (by omega) (mLk_ne (mLk_ne l0 (by omega) rfl) (by omega) rfl) (mLk_ne (mLk_ne l2 (by omega) rfl) (by omega) rfl) mLk_same (mLk_ne mLk_same (by omega) rfl) x1 x2 r2 r3 hr1 s1 (by omega) (by omega) q2 q3
      refine ⟨M, Nl2, y9, k2, a1, fun x hx => a2 x (mLk_ne (mLk_ne hx (by omega) rfl) (by omega) rfl), a3, a4, a5, a6, a7, a8, a9, ?_, fun z hz => ?_⟩
      · have w : zRl zR9 zXp 5 (124 + 124 * d) N M := zRl_trans (zRw_ok _ _) zXp_ok rfl r4 a10
        rw [show 124 + 124 * d = 124 * (d + 1) by omega] at w
        exact w
      refine st_iload h_230_46 l4 ?_
      refine st_iconst h_230_48 ?_
      refine st_icmp h_230_51 ?_
      rw [show Int32.ofInt 3000 = yI 3000 from rfl, yI_lt (by omega) (by omega) (by omega), cond_false]
      refine st_iload h_230_54 l3 ?_
      refine st_iconst h_230_55 ?_
      refine st_icmp h_230_56 ?_
      rw [show mIf .ne y (Int32.ofInt (-1)) = false from by rw [ey]; decide, cond_false]
      refine st_aload h_230_59 l0 ?_
      refine st_call (o := 525) (as := []) (S := []) (w := none) (M1 := M1) h_230_60 rfl rfl rfl (yM_b hN) (yM_c hN) rfl rfl rfl rfl (mRuns_more r1 (by show 8 ≤ 9; omega) (by show 188 ≤ 300 - _; decide)) rfl ?_
      refine st_iload h_230_63 l4 ?_
      refine st_iconst h_230_65 ?_
      refine st_iadd h_230_66 ?_
      rw [e]
      refine st_istore h_230_67 (by rfl) ?_
      refine st_aload h_230_69 (mLk_ne l0 (by omega) rfl) ?_
      refine st_iload h_230_70 (mLk_ne l2 (by omega) rfl) ?_
      refine st_call (o := 525) (as := [.int w]) (S := []) (w := some (.int x)) (M1 := M1) h_230_71 rfl rfl rfl (yM_b hN1) (yM_c hN1) rfl rfl rfl rfl (mRuns_more v1 (by show 8 ≤ 9; omega) (by show 200 ≤ 300 - _; decide)) rfl ?_
      refine st_istore h_230_74 (by rfl) ?_
      refine st_goto h_230_75 ?_
      exact a11 z hz
    · refine ⟨N, Nl, y, k, l0, fun x hx => hx, l3, y1, y2, l4, by omega, hg, hp, zRl_le (zRl_0 ⟨hp, hp⟩ hr) (Nat.zero_le _), fun z hz => ?_⟩
      refine st_iload h_230_46 l4 ?_
      refine st_iconst h_230_48 ?_
      refine st_icmp h_230_51 ?_
      rw [show Int32.ofInt 3000 = yI 3000 from rfl, yI_lt (by omega) (by omega) (by omega), cond_false]
      refine st_iload h_230_54 l3 ?_
      refine st_iconst h_230_55 ?_
      refine st_icmp h_230_56 ?_
      rw [show mIf .ne y (Int32.ofInt (-1)) = true from by show (!decide (y = Int32.ofInt (-1))) = true; rw [decide_eq_false ey]; rfl, cond_true]
      exact hz
theorem y230 (H : ∀ mi, ∀ i ∈ zQt mi, zVal zR9 zXp mTab mInf (sXNl L) (sXF xs) mi i) {b : Nat} {N : mMem} (hI : zInv b N) (hb : b + 400000 ≤ 2147483647) (n : Int32) :
    ∃ v N1, mRuns mTab mInf (sXNl L) (sXF xs) 10 300 230 (0, lv_args 0 [.ref 525, .int n], [], N) (some (.int v), N1) ∧ zInv b N1 ∧ zMv N N1 ∧ zF True True True N N1 := by
  have hp := zInv_pm hI
  have hg := hI.1
  obtain ⟨t, t0, t1, t2, t3⟩ := zInv_t hI
  have hroom : zRoom zR9 400000 N := zInv_room hI hb
  rcases zSeg_snd (R := (14, (0, false))) (X := zXp) (N := N) (V := []) (Nl := lv_args 0 [.ref 525, .int n]) (XN := sXNl L) (XF := sXF xs) y230_1 (zTw0_ok _) zTp_ok (zT1_val H) (zSx_x xs L) ⟨hp, hp⟩ hg (zRoom_le hroom (Nat.zero_le _)) (fun q hq => by
    simp only [List.mem_cons, List.not_mem_nil, or_false] at hq
    rcases hq with rfl | rfl
    · exact ⟨.ref 525, rfl, rfl⟩
    · exact ⟨.int n, rfl, n, rfl, z32 n⟩) trivial (fun q hq => by cases hq) with ⟨p, hpm, Nl2, V2, N2, hpost, hrun⟩ | ⟨rt, hrt, ⟨zv, zm⟩, z1, z2, z3, z4, -⟩
  · obtain rfl := List.mem_singleton.mp hpm
    obtain ⟨p1, p2, p3, -, p5, p6⟩ := hpost
    have p2 : sAll zArV [z525] V2 := p2
    obtain ⟨v1, V3, rfl, p2a, p2b⟩ := sAll_cons p2
    obtain rfl := sAll_nil p2b
    have p2a : v1 = .ref 525 := p2a
    subst p2a
    obtain ⟨w0, l0, e0⟩ := p1 (0, z525) List.mem_cons_self
    have e0 : w0 = .ref 525 := e0
    subst e0
    obtain ⟨x1, f1, l1⟩ := p3 1 List.mem_cons_self
    obtain ⟨k1, k2, k3, k4, k5⟩ := zRk_14 p6
    have p5 : zGood zR9 N2 := p5
    have hN2 := yMod_good p5
    obtain ⟨M3, m1, m2, m3, m4, m5, m6⟩ := zThinks (XN := sXNl L) (XF := sXF xs) (fr := 9) (lo := 279) hI p5 hroom k1 k5
    rcases zSeg_snd (R := (0, (0, false))) (X := zXp) (N := M3) (V := []) (Nl := Nl2) (XN := sXNl L) (XF := sXF xs) y230_2 (zRw_ok _ _) zXp_ok (zQt_val H) (zSx_x xs L) ⟨m3, m3⟩ m2 (zRoom_le m5 (Nat.zero_le _)) (fun q hq => by
      simp only [List.mem_cons, List.not_mem_nil, or_false] at hq
      rcases hq with rfl | rfl
      · exact ⟨.ref 525, l0, rfl⟩
      · exact ⟨.int x1, l1, x1, rfl, z32 x1⟩) trivial (fun q hq => by cases hq) with ⟨p, hpm, Nl4, V4, N4, hpost4, hrun4⟩ | ⟨rt, hrt, -⟩
    · obtain rfl := List.mem_singleton.mp hpm
      obtain ⟨q1, q2, q3, -, q5, q6⟩ := hpost4
      have q2 : sAll zArV [] V4 := q2
      obtain rfl := sAll_nil q2
      obtain ⟨u0, n0, g0⟩ := q1 (0, z525) List.mem_cons_self
      have g0 : u0 = .ref 525 := g0
      subst g0
      obtain ⟨u2, n2, w, g2, -⟩ := q1 (2, (0, (0, zR32))) (List.mem_cons_of_mem _ (List.mem_cons_of_mem _ List.mem_cons_self))
      subst g2
      obtain ⟨u3, n3, y, g3, g3a, g3b⟩ := q1 (3, (0, (0, (-1, -1)))) (List.mem_cons_of_mem _ (List.mem_cons_of_mem _ (List.mem_cons_of_mem _ List.mem_cons_self)))
      subst g3
      obtain ⟨u4, n4, y4, g4, g4a, g4b⟩ := q1 (4, (0, (0, (0, 0)))) (List.mem_cons_of_mem _ (List.mem_cons_of_mem _ (List.mem_cons_of_mem _ (List.mem_cons_of_mem _ List.mem_cons_self))))
      subst g4
      have g3a : -1 ≤ y.toInt := g3a
      have g3b : y.toInt ≤ -1 := g3b
      have g4a : 0 ≤ y4.toInt := g4a
      have g4b : y4.toInt ≤ 0 := g4b
      have f4 : y4 = yI 0 := yI_of (by omega)
      subst f4
      obtain ⟨x2, f2, l12⟩ := q3 1 List.mem_cons_self
      obtain ⟨j, j1, j2, j3⟩ := hI.2.1.2.2.1
      rw [zRow_N N (by omega)] at j2
      rw [zRow_N N (by omega)] at j3
      have j2 : (j : Int) < zN M3 6 + 3 := by rw [zN_eq (N := N) (k := 6) (m6 6 (by omega))]; exact j2
      have j3 : zN M3 (76 + 84 * j) = 0 := by rw [zN_eq (N := N) (k := 76 + 84 * j) (m6 _ (by omega))]; exact j3
      obtain ⟨j4, j5⟩ := zJ_keep j1 (.inl rfl) q6 j2 j3
      have tt : mAtk N4 1077255 = .int t := ((zRk_k (.inl rfl) q6).1.2.2.1 (by omega)).trans ((m6 7 (by omega)).trans t0)
      have hroom4 : zRoom zR9 (124 * 3000) N4 := by
        have e : zRoom (zRw zRx zQt) (0 + 124 * 3000) M3 := zRoom_le m5 (by omega)
        exact zRoom_rl (W := zRw zRx zQt) (a := 124 * 3000) q6 e
      have hp4 : zPm N4 := q6.2.2.2.2.2.2
      obtain ⟨M, Nl5, y5, k5, a1, a2, a3, a4, a5, a6, a7, a8, a9, a10, a11⟩ := y230_loop H j1 3000 0 N4 Nl4 t y (by omega) n0 n2 n3 n4 (by omega) (by omega) q5 hp4 hroom4 tt t2 (by omega) j4 j5
      have hM := yMod_good a8
      obtain ⟨M6, b1, b2⟩ := y227_run (XN := sXNl L) (XF := sXF xs) (fr := 9) (lo := 279) hM
      have hbk : zBk N M := zBk_k (.inr rfl) (zBk_k (.inl rfl) m4 q6) a10
      obtain ⟨c1, c2, c3⟩ := zBack hI a8 hbk b2
      have i6 := yI_int (k := k5) (by omega)
      rcases zSeg_snd (R := (1, (0, false))) (X := zXp) (N := M6) (V := []) (Nl := Nl5) (XN := sXNl L) (XF := sXF xs) y230_3 (zTw0_ok _) zTp_ok (fun _ _ h => by cases h) (zSx_x xs L) ⟨zInv_pm c1, zInv_pm c1⟩ c1.1 (zRoom_le (zInv_room c1 hb) (Nat.zero_le _)) (fun q hq => by
        simp only [List.mem_cons, List.not_mem_nil, or_false] at hq
        rcases hq with rfl | rfl | rfl
        · exact ⟨.int x2, a2 x2 l12, x2, rfl, z32 x2⟩
        · exact ⟨.int y5, a3, y5, rfl, a4, a5⟩
        · exact ⟨.int (yI k5), a6, yI k5, rfl, by rw [i6]; show (0 : Int) ≤ _; omega, by rw [i6]; show _ ≤ (3000 : Int); omega⟩) trivial (fun q hq => by cases hq) with ⟨p, hpm, -⟩ | ⟨rt, hrt, ⟨zv, zm⟩, z1, z2, z3, z4, -⟩
      · cases hpm
      · cases hrt
        obtain ⟨x, hx, -⟩ := z4
        have hx : zv = some (.int x) := hx
        subst hx
        have hzm : zm = M6 := z3.1 rfl
        subst hzm
        refine ⟨x, zm, hrun _ ?_, c1, c2, c3⟩
        refine st_call (o := 525) (as := []) (S := []) (w := none) (M1 := M3) h_230_25 rfl rfl rfl (yM_b hN2) (yM_c hN2) rfl rfl rfl rfl m1 rfl ?_
        refine hrun4 _ (a11 _ ?_)
        refine st_aload h_230_78 a1 ?_
        exact st_call (o := 525) (as := []) (S := []) (w := none) (M1 := zm) h_230_79 rfl rfl rfl (yM_b hM) (yM_c hM) rfl rfl rfl rfl b1 rfl z1
    · cases hrt
  · cases hrt
    obtain ⟨x, hx, -⟩ := z4
    have hx : zv = some (.int x) := hx
    subst hx
    obtain ⟨k1, k2, k3, k4, k5⟩ := zRk_14 z3
    have hI2 := zInv_from hI k2 k3 z2 z3.2.2.2.2.2.2 (by rw [zN_eq (N := N) (k := 7) (k2.2.2.1 trivial)]; omega) k4
    exact ⟨x, zm, z1, hI2, k5, k2⟩
end YFO

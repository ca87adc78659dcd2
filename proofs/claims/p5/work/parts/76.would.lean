/-! ===== in thought: would, asked; written by wip/box/gen76.py ===== -/
theorem h_235_42 : mFind (mTab 235) 42 = some (42, 3, .invokevirtual 293, .invokevirtual 293, 0, 226, 8, 1407) := mFb_eq (by decide +kernel)
theorem h_235_45 : mFind (mTab 235) 45 = some (45, 1, .iconst 0, .iconst 0, 0, 0, 0, 0) := mFb_eq (by decide +kernel)
theorem h_235_46 : mFind (mTab 235) 46 = some (46, 1, .istore_n 3, .istore 3, 0, 0, 0, 0) := mFb_eq (by decide +kernel)
theorem h_235_129 : mFind (mTab 235) 129 = some (129, 3, .invokevirtual 299, .invokevirtual 299, 0, 227, 8, 1415) := mFb_eq (by decide +kernel)
theorem h_235_132 : mFind (mTab 235) 132 = some (132, 1, .iload_n 3, .iload 3, 0, 0, 0, 0) := mFb_eq (by decide +kernel)
theorem h_235_133 : mFind (mTab 235) 133 = some (133, 1, .ireturn, .ireturn, 0, 0, 0, 0) := mFb_eq (by decide +kernel)
theorem h_236_32 : mFind (mTab 236) 32 = some (32, 3, .invokevirtual 293, .invokevirtual 293, 0, 226, 8, 1407) := mFb_eq (by decide +kernel)
theorem h_236_64 : mFind (mTab 236) 64 = some (64, 2, .iload 5, .iload 5, 0, 0, 0, 0) := mFb_eq (by decide +kernel)
theorem h_236_66 : mFind (mTab 236) 66 = some (66, 3, .sipush 2000, .iconst 0, 2000, 0, 0, 0) := mFb_eq (by decide +kernel)
theorem h_236_69 : mFind (mTab 236) 69 = some (69, 3, .if_icmp .ge 24, .if_icmp .ge 24, 0, 93, 0, 0) := mFb_eq (by decide +kernel)
theorem h_236_72 : mFind (mTab 236) 72 = some (72, 1, .aload_n 0, .aload 0, 0, 0, 0, 0) := mFb_eq (by decide +kernel)
theorem h_236_73 : mFind (mTab 236) 73 = some (73, 3, .getfield 203, .getfield 203, 0, 8, 4, 975) := mFb_eq (by decide +kernel)
theorem h_236_76 : mFind (mTab 236) 76 = some (76, 1, .iconst (-1), .iconst 0, (-1), 0, 0, 0) := mFb_eq (by decide +kernel)
theorem h_236_77 : mFind (mTab 236) 77 = some (77, 3, .if_icmp .ne 16, .if_icmp .ne 16, 0, 93, 0, 0) := mFb_eq (by decide +kernel)
theorem h_236_80 : mFind (mTab 236) 80 = some (80, 1, .aload_n 0, .aload 0, 0, 0, 0, 0) := mFb_eq (by decide +kernel)
theorem h_236_81 : mFind (mTab 236) 81 = some (81, 3, .invokevirtual 245, .invokevirtual 245, 0, 202, 8, 1177) := mFb_eq (by decide +kernel)
theorem h_236_84 : mFind (mTab 236) 84 = some (84, 2, .iload 5, .iload 5, 0, 0, 0, 0) := mFb_eq (by decide +kernel)
theorem h_236_86 : mFind (mTab 236) 86 = some (86, 1, .iconst 1, .iconst 0, 1, 0, 0, 0) := mFb_eq (by decide +kernel)
theorem h_236_87 : mFind (mTab 236) 87 = some (87, 1, .iadd, .iadd, 0, 0, 0, 0) := mFb_eq (by decide +kernel)
theorem h_236_88 : mFind (mTab 236) 88 = some (88, 2, .istore 5, .istore 5, 0, 0, 0, 0) := mFb_eq (by decide +kernel)
theorem h_236_90 : mFind (mTab 236) 90 = some (90, 3, .goto (-26), .goto (-26), 0, 64, 0, 0) := mFb_eq (by decide +kernel)
theorem h_236_93 : mFind (mTab 236) 93 = some (93, 1, .aload_n 0, .aload 0, 0, 0, 0, 0) := mFb_eq (by decide +kernel)
theorem h_236_94 : mFind (mTab 236) 94 = some (94, 1, .iconst 0, .iconst 0, 0, 0, 0, 0) := mFb_eq (by decide +kernel)
theorem h_236_95 : mFind (mTab 236) 95 = some (95, 3, .putfield 200, .putfield 200, 0, 8, 3, 974) := mFb_eq (by decide +kernel)
theorem h_236_98 : mFind (mTab 236) 98 = some (98, 1, .aload_n 0, .aload 0, 0, 0, 0, 0) := mFb_eq (by decide +kernel)
theorem h_236_99 : mFind (mTab 236) 99 = some (99, 3, .invokevirtual 299, .invokevirtual 299, 0, 227, 8, 1415) := mFb_eq (by decide +kernel)
set_option maxRecDepth 100000 in
theorem y235_1 : (List.range 300).all (fun k => zSeg (zTw0 fun _ => []) (14, (0, false)) 235 10 300 0 [(0, z525), (1, (0, (0, ((k : Int) + 1, (k : Int) + 1)))), (2, (0, (0, zR32)))] [] [(1077255, (0, (0, (0, 30000))))] [(42, ([(0, z525), (1, (0, (0, ((k : Int) + 1, (k : Int) + 1)))), (2, (0, (0, (0, 5))))], ([z525], ([], [(1077255, (0, 29999 - (k : Int)))]))))] (some (some (false, (-1, -1)), []))) = true := by decide +kernel
set_option maxRecDepth 100000 in
theorem y235_2 : ([(-2147483648, 0), (301, 2147483647)] : List (Int × Int)).all (fun q => zSeg (zTw0 fun _ => []) (14, (0, false)) 235 10 300 0 [(0, z525), (1, (0, (0, q))), (2, (0, (0, zR32)))] [] [] [] (some (some (false, (-1, -1)), []))) = true := by decide +kernel
set_option maxRecDepth 100000 in
theorem y235_3 : zSeg (zTw0 zT1) (1, (0, false)) 235 10 300 62 [(0, z525), (2, (0, (0, (0, 5))))] [] [] [(129, ([(3, (0, (0, zR32)))], ([z525], ([], []))))] none = true := by decide +kernel
noncomputable def zMx1 (c : Nat) : Int := bif Nat.blt c 2 then -1 else (c : Int) - 2
set_option maxRecDepth 100000 in
theorem y236_1 : (List.range 8).all (fun c => zSeg (zTw0 fun _ => []) (14, (0, false)) 236 10 300 0 [(0, z525), (1, (0, (0, zR32))), (2, (0, (0, ((c : Int), (c : Int))))), (3, (0, (0, zR32))), (4, (0, (0, zR32)))] [] [] [(32, ([(0, z525), (1, (0, (0, (0, 7)))), (2, (0, (0, ((c : Int), (c : Int))))), (3, (0, (0, zR32))), (4, (0, (0, zR32)))], ([z525], ([], [(1077254, (zMx1 c, 5))]))))] (some (some (false, (-1, -1)), []))) = true := by decide +kernel
set_option maxRecDepth 100000 in
theorem y236_2 : ([(-2147483648, -1), (8, 2147483647)] : List (Int × Int)).all (fun q => zSeg (zTw0 fun _ => []) (14, (0, false)) 236 10 300 0 [(0, z525), (1, (0, (0, zR32))), (2, (0, (0, q))), (3, (0, (0, zR32))), (4, (0, (0, zR32)))] [] [] [] (some (some (false, (-1, -1)), []))) = true := by decide +kernel
set_option maxRecDepth 100000 in
theorem y236_3 : (List.range 8).all (fun c => zSeg (zRw zRx zQt) (0, (0, false)) 236 10 300 35 [(0, z525), (1, (0, (0, (0, 7)))), (2, (0, (0, ((c : Int), (c : Int))))), (3, (0, (0, zR32))), (4, (0, (0, zR32)))] [] [(1077254, (0, (0, (zMx1 c, 5))))] [(64, ([(0, z525), (5, (0, (0, (0, 0))))], ([], ([], []))))] none) = true := by decide +kernel
set_option maxRecDepth 100000 in
theorem y236_4 : zSeg (zTw0 fun _ => []) (1, (0, false)) 236 10 300 102 [(0, z525), (5, (0, (0, (0, 2000))))] [] [] [] (some (some (false, zR32), [])) = true := by decide +kernel
theorem zGood_put {M : mMem} {k : Nat} {x : Int32} (hg : zGood zR9 M) (hk : k = 0 ∨ k = 3 ∨ k = 4) : zGood zR9 (mPut M 525 (mCset (mObj M 525) k (.int x))) := by
  have at_ : ∀ key, key < 2097152 → mAtk (mPut M 525 (mCset (mObj M 525) k (.int x))) key = if key = 525 * 2048 + k then .int x else mAtk M key := fun key h => mAtk_put (by omega) (by omega) h
  refine ⟨zShape_put hg.1 (by omega) (by omega) (.inr (by show (8 : Nat) < 100; omega)), fun key h s hs => ?_, fun key h c hc => ?_⟩
  · rw [at_ key h]
    by_cases e : key = 525 * 2048 + k
    · rw [if_pos e]
      have q : zRs1 (key / 2048) (key % 2048) = some s := hs
      rw [e, show (525 * 2048 + k) / 2048 = 525 by omega, show (525 * 2048 + k) % 2048 = k by omega] at q
      rcases hk with rfl | rfl | rfl
      · cases q; exact ⟨x, rfl, x.le_toInt, Int.le_of_lt_add_one x.toInt_lt⟩
      · cases q; exact ⟨x, rfl, x.le_toInt, Int.le_of_lt_add_one x.toInt_lt⟩
      · cases q; exact ⟨x, rfl, x.le_toInt, Int.le_of_lt_add_one x.toInt_lt⟩
    · rw [if_neg e]; exact hg.2.1 key h s hs
  · have q : c ∈ (bif Nat.beq (key / 2048) 526 then zRc1 (key % 2048) else []) := hc
    cases e : Nat.beq (key / 2048) 526 with
    | false => rw [e] at q; cases q
    | true =>
      rw [e, cond_true] at q
      obtain ⟨m1, m2, a1, e1, a2, b1, e2, b2⟩ := zRc_at (k := key % 2048) (by omega) q
      have z := hg.2.2 key h c hc
      intro u v hu hv
      rw [at_ c.1 (by omega), if_neg (by omega)] at hu
      rw [at_ c.2.2.2.1 (by omega), if_neg (by omega)] at hv
      exact z u v hu hv
theorem zPut_at {M : mMem} {k key : Nat} {v : Value} (hk : k < 7) (h : key < 2097152) (hn : key ≠ 1075200 + k) : mAtk (mPut M 525 (mCset (mObj M 525) k v)) key = mAtk M key := by
  rw [mAtk_put (by omega) (by omega) h, if_neg (by omega)]
theorem zBk_put {N M : mMem} {x : Int32} (h : zBk N M) : zBk N (mPut M 525 (mCset (mObj M 525) 3 (.int x))) := by
  obtain ⟨a, b, c, d⟩ := h
  refine ⟨fun k hk => ?_, (zPut_at (by omega) (by decide) (by decide)).trans b, fun k hk => (zPut_at (by omega) (by omega) (by omega)).trans (c k hk), zMv_t d ⟨rfl, rfl, fun key hk => zPut_at (by omega) (by omega) (by omega)⟩⟩
  have e := zPut_at (M := M) (k := 3) (v := .int x) (key := 1079296 + k) (by omega) (by omega) (by omega)
  rw [show 1079296 + k = 527 * 2048 + k by omega, mAtk_key _ (by omega), mAtk_key M (by omega)] at e
  exact e.trans (a k hk)
section YWO
variable {xs : Nat → Int32} {L : Nat}
theorem y235 (H : ∀ mi, ∀ i ∈ zQt mi, zVal zR9 zXp mTab mInf (sXNl L) (sXF xs) mi i) {b : Nat} {N : mMem} (hI : zInv b N) (hb : b + 400000 ≤ 2147483647) (n w : Int32) :
    ∃ v N1, mRuns mTab mInf (sXNl L) (sXF xs) 10 300 235 (0, lv_args 0 [.ref 525, .int n, .int w], [], N) (some (.int v), N1) ∧ zInv b N1 ∧ zMv N N1 ∧ zF True True True N N1 := by
  have hp := zInv_pm hI
  have hg := hI.1
  obtain ⟨t, t0, t1, t2, t3⟩ := zInv_t hI
  have hroom : zRoom zR9 400000 N := zInv_room hI hb
  have bad : ∀ rt : zQe, rt.1 = some (false, (-1, -1)) → (∃ z, mRuns mTab mInf (sXNl L) (sXF xs) 10 300 235 (0, lv_args 0 [.ref 525, .int n, .int w], [], N) z ∧ zGood (zTw0 fun _ => []) z.2 ∧ zRl (zTw0 fun _ => []) zXp 14 0 N z.2 ∧ zAnV rt.1 z.1 ∧ zCs z.2 rt.2) →
      ∃ v N1, mRuns mTab mInf (sXNl L) (sXF xs) 10 300 235 (0, lv_args 0 [.ref 525, .int n, .int w], [], N) (some (.int v), N1) ∧ zInv b N1 ∧ zMv N N1 ∧ zF True True True N N1 := fun rt hrt hz => by
    obtain ⟨⟨zv, zm⟩, z1, z2, z3, z4, -⟩ := hz
    rw [hrt] at z4
    obtain ⟨x, hx, q1, q2⟩ := z4
    have hx : zv = some (.int x) := hx
    subst hx
    obtain ⟨-, k2, k3, k4, k5⟩ := zRk_14 z3
    exact ⟨x, zm, z1, zInv_from hI k2 k3 z2 z3.2.2.2.2.2.2 (by rw [zN_eq (N := N) (k := 7) (k2.2.2.1 trivial)]; omega) k4, k5, k2⟩
  by_cases c : 1 ≤ n.toInt ∧ n.toInt ≤ 300
  · obtain ⟨k, hk⟩ : ∃ k : Nat, n.toInt = (k : Int) + 1 := ⟨(n.toInt - 1).toNat, by omega⟩
    have hk3 : k < 300 := by omega
    rcases zSeg_snd (R := (14, (0, false))) (X := zXp) (N := N) (V := []) (Nl := lv_args 0 [.ref 525, .int n, .int w]) (XN := sXNl L) (XF := sXF xs) (List.all_eq_true.mp y235_1 k (List.mem_range.mpr hk3)) (zTw0_ok _) zTp_ok (fun _ _ h => by cases h) (zSx_x xs L) ⟨hp, hp⟩ hg (zRoom_le hroom (Nat.zero_le _)) (fun q hq => by
      simp only [List.mem_cons, List.not_mem_nil, or_false] at hq
      rcases hq with rfl | rfl | rfl
      · exact ⟨.ref 525, rfl, rfl⟩
      · exact ⟨.int n, rfl, n, rfl, by show (k : Int) + 1 ≤ _; omega, by show _ ≤ (k : Int) + 1; omega⟩
      · exact ⟨.int w, rfl, w, rfl, z32 w⟩) trivial (fun q hq => by
      obtain rfl := List.mem_singleton.mp hq
      exact ⟨t, t0, t2, t3⟩) with ⟨p, hpm, Nl2, V2, N2, hpost, hrun⟩ | ⟨rt, hrt, hz⟩
    · obtain rfl := List.mem_singleton.mp hpm
      obtain ⟨p1, p2, -, p4, p5, p6⟩ := hpost
      have p2 : sAll zArV [z525] V2 := p2
      obtain ⟨v1, V3, rfl, p2a, p2b⟩ := sAll_cons p2
      obtain rfl := sAll_nil p2b
      have p2a : v1 = .ref 525 := p2a
      subst p2a
      obtain ⟨w0, l0, e0⟩ := p1 (0, z525) List.mem_cons_self
      have e0 : w0 = .ref 525 := e0
      subst e0
      obtain ⟨w1, l1, x1, e1, e1a, e1b⟩ := p1 (1, (0, (0, ((k : Int) + 1, (k : Int) + 1)))) (List.mem_cons_of_mem _ List.mem_cons_self)
      have e1a : (k : Int) + 1 ≤ x1.toInt := e1a
      have e1b : x1.toInt ≤ (k : Int) + 1 := e1b
      have f1 : x1 = yI (k + 1) := yI_of (by omega)
      subst f1
      subst e1
      obtain ⟨w2, l2, x2, e2, e2a, e2b⟩ := p1 (2, (0, (0, (0, 5)))) (List.mem_cons_of_mem _ (List.mem_cons_of_mem _ List.mem_cons_self))
      subst e2
      obtain ⟨k1, k2, k3, k4, k5⟩ := zRk_14 p6
      have tt : mAtk N2 1077255 = .int t := (k1 _ (by decide) (by decide)).trans t0
      obtain ⟨tx, d1, d2, d3⟩ := p4 (1077255, (0, 29999 - (k : Int))) List.mem_cons_self
      have d1 : mAtk N2 1077255 = .int tx := d1
      rw [tt] at d1
      cases d1
      have d3 : t.toInt ≤ 29999 - (k : Int) := d3
      have p5 : zGood zR9 N2 := p5
      have hN2 := yMod_good p5
      obtain ⟨M3, m1, m2, m3, m4, m5, m6⟩ := zThinks (XN := sXNl L) (XF := sXF xs) (fr := 9) (lo := 279) hI p5 hroom k1 k5
      have t3' : mAtk M3 1077255 = .int t := (m6 7 (by omega)).trans t0
      obtain ⟨M, Nl3, u, a1, a2, a3, a4, a5, a6, a7, a8⟩ := y235_loop H (n := k + 1) (by omega) (k + 1) 0 M3 (mSt1 Nl2 3 (.int (yI 0))) t (by omega) (mLk_ne l0 (by omega) rfl) (mLk_ne l1 (by omega) rfl) mLk_same m2 m3 (zRoom_le m5 (by omega)) t3' t2 (by omega)
      have hM := yMod_good a3
      have hm5 : zRoom zR9 (124 * (k + 1) + 0) M3 := zRoom_le m5 (by omega)
      have hroomM : zRoom zR9 0 M := zRoom_rl a5 hm5
      rcases zSeg_snd (R := (1, (0, false))) (X := zXp) (N := M) (V := []) (Nl := Nl3) (XN := sXNl L) (XF := sXF xs) y235_3 (zTw0_ok _) zTp_ok (zT1_val H) (zSx_x xs L) ⟨a4, a4⟩ a3 hroomM (fun q hq => by
        simp only [List.mem_cons, List.not_mem_nil, or_false] at hq
        rcases hq with rfl | rfl
        · exact ⟨.ref 525, a1, rfl⟩
        · exact ⟨.int x2, a2 2 (by omega) x2 (mLk_ne l2 (by omega) rfl), x2, rfl, e2a, e2b⟩) trivial (fun q hq => by cases hq) with ⟨p, hpm, Nl4, V4, N4, hpost4, hrun4⟩ | ⟨rt, hrt, -⟩
      · obtain rfl := List.mem_singleton.mp hpm
        obtain ⟨q1, q2, -, -, q5, q6⟩ := hpost4
        have q2 : sAll zArV [z525] V4 := q2
        obtain ⟨v4, V5, rfl, q2a, q2b⟩ := sAll_cons q2
        obtain rfl := sAll_nil q2b
        have q2a : v4 = .ref 525 := q2a
        subst q2a
        obtain ⟨u3, n3, y, g3, -⟩ := q1 (3, (0, (0, zR32))) List.mem_cons_self
        subst g3
        have hN4 : N4 = M := q6.1 rfl
        subst hN4
        obtain ⟨M6, b1, b2⟩ := y227_run (XN := sXNl L) (XF := sXF xs) (fr := 9) (lo := 279) hM
        obtain ⟨c1, c2, c3⟩ := zBack hI a3 (zBk_k (.inr rfl) m4 a5) b2
        refine ⟨y, M6, hrun _ ?_, c1, c2, c3⟩
        refine st_call (o := 525) (as := []) (S := []) (w := none) (M1 := M3) h_235_42 rfl rfl rfl (yM_b hN2) (yM_c hN2) rfl rfl rfl rfl m1 rfl ?_
        refine st_iconst h_235_45 ?_
        refine st_istore h_235_46 (by rfl) ?_
        refine a8 _ (hrun4 _ ?_)
        refine st_call (o := 525) (as := []) (S := []) (w := none) (M1 := M6) h_235_129 rfl rfl rfl (yM_b hM) (yM_c hM) rfl rfl rfl rfl b1 rfl ?_
        refine st_iload h_235_132 n3 ?_
        exact st_ireturn h_235_133 (ty := .int) rfl rfl
      · cases hrt
    · cases hrt
      exact bad _ rfl hz
  · obtain ⟨q, hq, q1, q2⟩ : ∃ q : Int × Int, q ∈ ([(-2147483648, 0), (301, 2147483647)] : List (Int × Int)) ∧ q.1 ≤ n.toInt ∧ n.toInt ≤ q.2 := by
      have g := i32_rg n
      by_cases d : n.toInt ≤ 0
      · exact ⟨_, List.mem_cons_self, g.1, d⟩
      · exact ⟨_, List.mem_cons_of_mem _ List.mem_cons_self, by show (301 : Int) ≤ _; omega, g.2⟩
    rcases zSeg_snd (R := (14, (0, false))) (X := zXp) (N := N) (V := []) (Nl := lv_args 0 [.ref 525, .int n, .int w]) (XN := sXNl L) (XF := sXF xs) (List.all_eq_true.mp y235_2 q hq) (zTw0_ok _) zTp_ok (fun _ _ h => by cases h) (zSx_x xs L) ⟨hp, hp⟩ hg (zRoom_le hroom (Nat.zero_le _)) (fun q2 hq2 => by
      simp only [List.mem_cons, List.not_mem_nil, or_false] at hq2
      rcases hq2 with rfl | rfl | rfl
      · exact ⟨.ref 525, rfl, rfl⟩
      · exact ⟨.int n, rfl, n, rfl, q1, q2⟩
      · exact ⟨.int w, rfl, w, rfl, z32 w⟩) trivial (fun q hq => by cases hq) with ⟨p, hpm, -⟩ | ⟨rt, hrt, hz⟩
    · cases hpm
    · cases hrt
      exact bad _ rfl hz
theorem y236_loop (H : ∀ mi, ∀ i ∈ zQt mi, zVal zR9 zXp mTab mInf (sXNl L) (sXF xs) mi i) : ∀ (d k : Nat) (N : mMem) (Nl : List (Nat × Value)) (t : Int32), k + d = 2000 → mLk Nl 0 = some (.ref 525) → mLk Nl 5 = some (.int (yI k)) → zGood zR9 N → zPm N → zRoom zR9 (124 * d) N → mAtk N 1077255 = .int t → 0 ≤ t.toInt → t.toInt + (d : Int) ≤ 33000 →
    ∃ M Nl2 k2, mLk Nl2 0 = some (.ref 525) ∧ mLk Nl2 5 = some (.int (yI k2)) ∧ k2 ≤ 2000 ∧ zGood zR9 M ∧ zPm M ∧ zRl zR9 zXp 5 (124 * d) N M ∧ ∀ z, mRuns mTab mInf (sXNl L) (sXF xs) 10 300 236 (93, Nl2, [], M) z → mRuns mTab mInf (sXNl L) (sXF xs) 10 300 236 (64, Nl, [], N) z
  | 0, k, N, Nl, t, hk, l0, l5, hg, hp, hr, ht, t1, t2 => by
    refine ⟨N, Nl, k, l0, l5, by omega, hg, hp, zRl_0 ⟨hp, hp⟩ hr, fun z hz => ?_⟩
    refine st_iload h_236_64 l5 ?_
    refine st_iconst h_236_66 ?_
    refine st_icmp h_236_69 ?_
    rw [show Int32.ofInt 2000 = yI 2000 from rfl, yI_le (by omega) (by omega) (by omega), cond_true]
    exact hz
  | d + 1, k, N, Nl, t, hk, l0, l5, hg, hp, hr, ht, t1, t2 => by
    have hN := yMod_good hg
    have h0 := yRw_0 N 526 (fun _ => Value.null) 0
    obtain ⟨y, y0, -, -⟩ := hg.2.1 1075204 (by decide) (.inl (-2147483648, 2147483647)) rfl
    rw [show 1075204 = 525 * 2048 + 4 by decide, mAtk_key N (by omega)] at y0
    have head : ∀ z, mRuns mTab mInf (sXNl L) (sXF xs) 10 300 236 (bif mIf .ne y (Int32.ofInt (-1)) then 93 else 80, Nl, [], N) z → mRuns mTab mInf (sXNl L) (sXF xs) 10 300 236 (64, Nl, [], N) z := fun z hz => by
      refine st_iload h_236_64 l5 ?_
      refine st_iconst h_236_66 ?_
      refine st_icmp h_236_69 ?_
      rw [show Int32.ofInt 2000 = yI 2000 from rfl, yI_lt (by omega) (by omega) (by omega), cond_false]
      refine st_aload h_236_72 l0 ?_
      refine st_getfield h_236_73 (yM_lt hN h0 525 (by omega)) (yM_k hN h0) (yM_n hN h0 4 (by omega)) y0 ?_
      refine st_iconst h_236_76 ?_
      exact st_icmp h_236_77 hz
    by_cases ey : y = Int32.ofInt (-1)
    · have hr : zRoom zR9 (124 + 124 * d) N := zRoom_le hr (by omega)
      obtain ⟨M1, r1, r2, r3, r4, s, s1, s2⟩ := y_ticks H hg hp (zRoom_le hr (by omega)) ht t1 (by omega)
      have e : yI k + Int32.ofInt 1 = yI (k + 1) := yI_succ
      obtain ⟨M, Nl2, k2, a1, a6, a7, a8, a9, a10, a11⟩ := y236_loop H d (k + 1) M1 (mSt1 Nl 5 (.int (yI (k + 1)))) s (by omega) (mLk_ne l0 (by omega) rfl) mLk_same r2 r3 (zRoom_rl r4 hr) s1 (by omega) (by omega)
      refine ⟨M, Nl2, k2, a1, a6, a7, a8, a9, ?_, fun z hz => head z ?_⟩
      · have w : zRl zR9 zXp 5 (124 + 124 * d) N M := zRl_trans (zRw_ok _ _) zXp_ok rfl r4 a10
        rw [show 124 + 124 * d = 124 * (d + 1) by omega] at w
        exact w
      rw [show mIf .ne y (Int32.ofInt (-1)) = false from by rw [ey]; decide, cond_false]
      refine st_aload h_236_80 l0 ?_
      refine st_call (o := 525) (as := []) (S := []) (w := none) (M1 := M1) h_236_81 rfl rfl rfl (yM_b hN) (yM_c hN) rfl rfl rfl rfl (mRuns_more r1 (by show 8 ≤ 9; omega) (by show 188 ≤ 300 - _; decide)) rfl ?_
      refine st_iload h_236_84 l5 ?_
      refine st_iconst h_236_86 ?_
      refine st_iadd h_236_87 ?_
      rw [e]
      refine st_istore h_236_88 (by rfl) ?_
      refine st_goto h_236_90 ?_
      exact a11 z hz
    · refine ⟨N, Nl, k, l0, l5, by omega, hg, hp, zRl_le (zRl_0 ⟨hp, hp⟩ hr) (Nat.zero_le _), fun z hz => head z ?_⟩
      rw [show mIf .ne y (Int32.ofInt (-1)) = true from by show (!decide (y = Int32.ofInt (-1))) = true; rw [decide_eq_false ey]; rfl, cond_true]
      exact hz
theorem y236 (H : ∀ mi, ∀ i ∈ zQt mi, zVal zR9 zXp mTab mInf (sXNl L) (sXF xs) mi i) {b : Nat} {N : mMem} (hI : zInv b N) (hb : b + 400000 ≤ 2147483647) (s to pr le : Int32) :
    ∃ v N1, mRuns mTab mInf (sXNl L) (sXF xs) 10 300 236 (0, lv_args 0 [.ref 525, .int s, .int to, .int pr, .int le], [], N) (some (.int v), N1) ∧ zInv b N1 ∧ zMv N N1 ∧ zF True True True N N1 := by
  have hp := zInv_pm hI
  have hg := hI.1
  obtain ⟨t, t0, t1, t2, t3⟩ := zInv_t hI
  have hroom : zRoom zR9 400000 N := zInv_room hI hb
  have bad : ∀ rt : zQe, rt.1 = some (false, (-1, -1)) → (∃ z, mRuns mTab mInf (sXNl L) (sXF xs) 10 300 236 (0, lv_args 0 [.ref 525, .int s, .int to, .int pr, .int le], [], N) z ∧ zGood (zTw0 fun _ => []) z.2 ∧ zRl (zTw0 fun _ => []) zXp 14 0 N z.2 ∧ zAnV rt.1 z.1 ∧ zCs z.2 rt.2) →
      ∃ v N1, mRuns mTab mInf (sXNl L) (sXF xs) 10 300 236 (0, lv_args 0 [.ref 525, .int s, .int to, .int pr, .int le], [], N) (some (.int v), N1) ∧ zInv b N1 ∧ zMv N N1 ∧ zF True True True N N1 := fun rt hrt hz => by
    obtain ⟨⟨zv, zm⟩, z1, z2, z3, z4, -⟩ := hz
    rw [hrt] at z4
    obtain ⟨x, hx, q1, q2⟩ := z4
    have hx : zv = some (.int x) := hx
    subst hx
    obtain ⟨-, k2, k3, k4, k5⟩ := zRk_14 z3
    exact ⟨x, zm, z1, zInv_from hI k2 k3 z2 z3.2.2.2.2.2.2 (by rw [zN_eq (N := N) (k := 7) (k2.2.2.1 trivial)]; omega) k4, k5, k2⟩
  have ls : ∀ q : Int × Int, q.1 ≤ to.toInt → to.toInt ≤ q.2 → ∀ p ∈ ([(0, z525), (1, (0, (0, zR32))), (2, (0, (0, q))), (3, (0, (0, zR32))), (4, (0, (0, zR32)))] : List (Nat × zL)), ∃ v, mLk (lv_args 0 [.ref 525, .int s, .int to, .int pr, .int le]) p.1 = some v ∧ zLv [] p.2 v := fun q q1 q2 p hp => by
    simp only [List.mem_cons, List.not_mem_nil, or_false] at hp
    rcases hp with rfl | rfl | rfl | rfl | rfl
    · exact ⟨.ref 525, rfl, rfl⟩
    · exact ⟨.int s, rfl, s, rfl, z32 s⟩
    · exact ⟨.int to, rfl, to, rfl, q1, q2⟩
    · exact ⟨.int pr, rfl, pr, rfl, z32 pr⟩
    · exact ⟨.int le, rfl, le, rfl, z32 le⟩
  by_cases c : 0 ≤ to.toInt ∧ to.toInt ≤ 7
  · obtain ⟨k, hk⟩ : ∃ k : Nat, to.toInt = (k : Int) := ⟨to.toInt.toNat, by omega⟩
    have hk3 : k < 8 := by omega
    rcases zSeg_snd (R := (14, (0, false))) (X := zXp) (N := N) (V := []) (Nl := lv_args 0 [.ref 525, .int s, .int to, .int pr, .int le]) (XN := sXNl L) (XF := sXF xs) (List.all_eq_true.mp y236_1 k (List.mem_range.mpr hk3)) (zTw0_ok _) zTp_ok (fun _ _ h => by cases h) (zSx_x xs L) ⟨hp, hp⟩ hg (zRoom_le hroom (Nat.zero_le _)) (ls ((k : Int), (k : Int)) (by show (k : Int) ≤ _; omega) (by show _ ≤ (k : Int); omega)) trivial (fun q hq => by cases hq) with ⟨p, hpm, Nl2, V2, N2, hpost, hrun⟩ | ⟨rt, hrt, hz⟩
    · obtain rfl := List.mem_singleton.mp hpm
      obtain ⟨p1, p2, -, p4, p5, p6⟩ := hpost
      have p2 : sAll zArV [z525] V2 := p2
      obtain ⟨v1, V3, rfl, p2a, p2b⟩ := sAll_cons p2
      obtain rfl := sAll_nil p2b
      have p2a : v1 = .ref 525 := p2a
      subst p2a
      obtain ⟨k1, k2, k3, k4, k5⟩ := zRk_14 p6
      have p5 : zGood zR9 N2 := p5
      have hN2 := yMod_good p5
      obtain ⟨M3, m1, m2, m3, m4, m5, m6⟩ := zThinks (XN := sXNl L) (XF := sXF xs) (fr := 9) (lo := 279) hI p5 hroom k1 k5
      obtain ⟨n6, d1, d2, d3⟩ := p4 (1077254, (zMx1 k, 5)) List.mem_cons_self
      have d6 : mAtk M3 1077254 = .int n6 := (m6 6 (by omega)).trans ((k1 _ (by decide) (by decide)).symm.trans d1)
      rcases zSeg_snd (R := (0, (0, false))) (X := zXp) (N := M3) (V := []) (Nl := Nl2) (XN := sXNl L) (XF := sXF xs) (List.all_eq_true.mp y236_3 k (List.mem_range.mpr hk3)) (zRw_ok _ _) zXp_ok (zQt_val H) (zSx_x xs L) ⟨m3, m3⟩ m2 (zRoom_le m5 (Nat.zero_le _)) (fun q hq => p1 q hq) trivial (fun q hq => by
        obtain rfl := List.mem_singleton.mp hq
        exact ⟨n6, d6, d2, d3⟩) with ⟨p, hpm, Nl4, V4, N4, hpost4, hrun4⟩ | ⟨rt, hrt, -⟩
      · obtain rfl := List.mem_singleton.mp hpm
        obtain ⟨q1, q2, -, -, q5, q6⟩ := hpost4
        have q2 : sAll zArV [] V4 := q2
        obtain rfl := sAll_nil q2
        obtain ⟨u0, n0, g0⟩ := q1 (0, z525) List.mem_cons_self
        have g0 : u0 = .ref 525 := g0
        subst g0
        obtain ⟨u4, n4, y4, g4, g4a, g4b⟩ := q1 (5, (0, (0, (0, 0)))) (List.mem_cons_of_mem _ List.mem_cons_self)
        subst g4
        have g4a : 0 ≤ y4.toInt := g4a
        have g4b : y4.toInt ≤ 0 := g4b
        have f4 : y4 = yI 0 := yI_of (by omega)
        subst f4
        have tt : mAtk N4 1077255 = .int t := ((zRk_k (.inl rfl) q6).1.2.2.1 (by omega)).trans ((m6 7 (by omega)).trans t0)
        have hroom4 : zRoom zR9 (124 * 2000) N4 := by
          have e : zRoom (zRw zRx zQt) (0 + 124 * 2000) M3 := zRoom_le m5 (by omega)
          exact zRoom_rl (W := zRw zRx zQt) (a := 124 * 2000) q6 e
        have hp4 : zPm N4 := q6.2.2.2.2.2.2
        obtain ⟨M, Nl5, k5', a1, a6, a7, a8, a9, a10, a11⟩ := y236_loop H 2000 0 N4 Nl4 t (by omega) n0 n4 q5 hp4 hroom4 tt t2 (by omega)
        have hM := yMod_good a8
        have hbk : zBk N M := zBk_k (.inr rfl) (zBk_k (.inl rfl) m4 q6) a10
        have hg9 := zGood_put (k := 3) (x := Int32.ofInt 0) a8 (.inr (.inl rfl))
        have hM9 := yMod_good hg9
        obtain ⟨M6, b1, b2⟩ := y227_run (XN := sXNl L) (XF := sXF xs) (fr := 9) (lo := 279) hM9
        obtain ⟨c1, c2, c3⟩ := zBack hI hg9 (zBk_put hbk) b2
        have i6 := yI_int (k := k5') (by omega)
        have h0 := yRw_0 M 526 (fun _ => Value.null) 0
        rcases zSeg_snd (R := (1, (0, false))) (X := zXp) (N := M6) (V := []) (Nl := Nl5) (XN := sXNl L) (XF := sXF xs) y236_4 (zTw0_ok _) zTp_ok (fun _ _ h => by cases h) (zSx_x xs L) ⟨zInv_pm c1, zInv_pm c1⟩ c1.1 (zRoom_le (zInv_room c1 hb) (Nat.zero_le _)) (fun q hq => by
          simp only [List.mem_cons, List.not_mem_nil, or_false] at hq
          rcases hq with rfl | rfl
          · exact ⟨.ref 525, a1, rfl⟩
          · exact ⟨.int (yI k5'), a6, yI k5', rfl, by rw [i6]; show (0 : Int) ≤ _; omega, by rw [i6]; show _ ≤ (2000 : Int); omega⟩) trivial (fun q hq => by cases hq) with ⟨p, hpm, -⟩ | ⟨rt, hrt, ⟨zv, zm⟩, z1, z2, z3, z4, -⟩
        · cases hpm
        · cases hrt
          obtain ⟨x, hx, -⟩ := z4
          have hx : zv = some (.int x) := hx
          subst hx
          have hzm : zm = M6 := z3.1 rfl
          subst hzm
          refine ⟨x, zm, hrun _ ?_, c1, c2, c3⟩
          refine st_call (o := 525) (as := []) (S := []) (w := none) (M1 := M3) h_236_32 rfl rfl rfl (yM_b hN2) (yM_c hN2) rfl rfl rfl rfl m1 rfl ?_
          refine hrun4 _ (a11 _ ?_)
          refine st_aload h_236_93 a1 ?_
          refine st_iconst h_236_94 ?_
          refine st_putfield h_236_95 (yM_lt hM h0 525 (by omega)) (yM_k hM h0) (yM_n hM h0 3 (by omega)) (by rw [hM.2.1.2]; rfl) rfl ?_
          refine st_aload h_236_98 a1 ?_
          exact st_call (o := 525) (as := []) (S := []) (w := none) (M1 := zm) h_236_99 rfl rfl rfl (yM_b hM9) (yM_c hM9) rfl rfl rfl rfl b1 rfl z1
      · cases hrt
    · cases hrt
      exact bad _ rfl hz
  · obtain ⟨q, hq, q1, q2⟩ : ∃ q : Int × Int, q ∈ ([(-2147483648, -1), (8, 2147483647)] : List (Int × Int)) ∧ q.1 ≤ to.toInt ∧ to.toInt ≤ q.2 := by
      have g := i32_rg to
      by_cases d : to.toInt ≤ -1
      · exact ⟨_, List.mem_cons_self, g.1, d⟩
      · exact ⟨_, List.mem_cons_of_mem _ List.mem_cons_self, by show (8 : Int) ≤ _; omega, g.2⟩
    rcases zSeg_snd (R := (14, (0, false))) (X := zXp) (N := N) (V := []) (Nl := lv_args 0 [.ref 525, .int s, .int to, .int pr, .int le]) (XN := sXNl L) (XF := sXF xs) (List.all_eq_true.mp y236_2 q hq) (zTw0_ok _) zTp_ok (fun _ _ h => by cases h) (zSx_x xs L) ⟨hp, hp⟩ hg (zRoom_le hroom (Nat.zero_le _)) (ls q q1 q2) trivial (fun q hq => by cases hq) with ⟨p, hpm, -⟩ | ⟨rt, hrt, hz⟩
    · cases hpm
    · cases hrt
      exact bad _ rfl hz
end YWO

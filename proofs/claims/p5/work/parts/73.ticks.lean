/-! ===== ticks, as often as is told; written by wip/box/gen73.py ===== -/
theorem h_235_47 : mFind (mTab 235) 47 = some (47, 1, .iload_n 3, .iload 3, 0, 0, 0, 0) := mFb_eq (by decide +kernel)
theorem h_235_48 : mFind (mTab 235) 48 = some (48, 1, .iload_n 1, .iload 1, 0, 0, 0, 0) := mFb_eq (by decide +kernel)
theorem h_235_49 : mFind (mTab 235) 49 = some (49, 3, .if_icmp .ge 13, .if_icmp .ge 13, 0, 62, 0, 0) := mFb_eq (by decide +kernel)
theorem h_235_52 : mFind (mTab 235) 52 = some (52, 1, .aload_n 0, .aload 0, 0, 0, 0, 0) := mFb_eq (by decide +kernel)
theorem h_235_53 : mFind (mTab 235) 53 = some (53, 3, .invokevirtual 245, .invokevirtual 245, 0, 202, 8, 1177) := mFb_eq (by decide +kernel)
theorem h_235_56 : mFind (mTab 235) 56 = some (56, 3, .iinc 3 1, .iinc 3 1, 1, 0, 0, 0) := mFb_eq (by decide +kernel)
theorem h_235_59 : mFind (mTab 235) 59 = some (59, 3, .goto (-12), .goto (-12), 0, 47, 0, 0) := mFb_eq (by decide +kernel)
theorem h_203_33 : mFind (mTab 203) 33 = some (33, 1, .iload_n 2, .iload 2, 0, 0, 0, 0) := mFb_eq (by decide +kernel)
theorem h_203_34 : mFind (mTab 203) 34 = some (34, 1, .iload_n 1, .iload 1, 0, 0, 0, 0) := mFb_eq (by decide +kernel)
theorem h_203_35 : mFind (mTab 203) 35 = some (35, 3, .if_icmp .ge 13, .if_icmp .ge 13, 0, 48, 0, 0) := mFb_eq (by decide +kernel)
theorem h_203_38 : mFind (mTab 203) 38 = some (38, 1, .aload_n 0, .aload 0, 0, 0, 0, 0) := mFb_eq (by decide +kernel)
theorem h_203_39 : mFind (mTab 203) 39 = some (39, 3, .invokevirtual 245, .invokevirtual 245, 0, 202, 8, 1177) := mFb_eq (by decide +kernel)
theorem h_203_42 : mFind (mTab 203) 42 = some (42, 3, .iinc 2 1, .iinc 2 1, 1, 0, 0, 0) := mFb_eq (by decide +kernel)
theorem h_203_45 : mFind (mTab 203) 45 = some (45, 3, .goto (-12), .goto (-12), 0, 33, 0, 0) := mFb_eq (by decide +kernel)
/-- the class's objects stand -/
noncomputable def zMv (N N1 : mMem) : Prop := N1.1 = N.1 ∧ N1.2.1 = N.2.1 ∧ ∀ key, key < 1075200 → mAtk N1 key = mAtk N key
theorem zMv_0 (N : mMem) : zMv N N := ⟨rfl, rfl, fun _ _ => rfl⟩
theorem zMv_t {N N1 N2 : mMem} (h1 : zMv N N1) (h2 : zMv N1 N2) : zMv N N2 := ⟨h2.1.trans h1.1, h2.2.1.trans h1.2.1, fun key hk => (h2.2.2 key hk).trans (h1.2.2 key hk)⟩
theorem zRk_low {q key : Nat} (h : key < 1075200) : zRkp q key = true := by
  unfold zRkp zRk1
  refine cond_i (fun _ => rfl) (fun _ => ?_)
  refine cond_i (fun e => by have := Nat.eq_of_beq_eq_true e; omega) (fun _ => ?_)
  exact cond_i (fun e => by have := Nat.eq_of_beq_eq_true e; omega) (fun _ => rfl)
theorem zMv_rl {X : mMem → mMem → Prop} {zx : Nat → Bool} {con : Nat → List zS} {q k : Nat} {N N1 : mMem} (h : zRl (zRw zx con) X q k N N1) : zMv N N1 := ⟨h.2.1, h.2.2.1, fun key hk => h.2.2.2.1 key (by omega) (zRk_low hk)⟩
theorem zTk_ne {q key : Nat} (h : key ≠ 1075200) (h1 : key ≠ 1075203) (h2 : key ≠ 1075204) : zTk q key = true := by
  unfold zTk
  rw [nbeq_f h, nbeq_f h1, nbeq_f h2]
  cases Nat.beq q 1 <;> cases Nat.beq q 15 <;> rfl
theorem zTk_14 {key : Nat} (h : key ≠ 1075200) : zTk 14 key = true := by
  unfold zTk
  rw [nbeq_f h]
  rfl
theorem zMv_tl {X : mMem → mMem → Prop} {con : Nat → List zS} {q k : Nat} {N N1 : mMem} (h : zRl (zTw0 con) X q k N N1) : zMv N N1 := ⟨h.2.1, h.2.2.1, fun key hk => h.2.2.2.1 key (by omega) (zTk_ne (by omega) (by omega) (by omega))⟩
theorem zUpto_rl {W : zW} {X : mMem → mMem → Prop} {q k : Nat} {N N1 : mMem} (hW : zWt W = zRct) (h : zRl W X q k N N1) : zUpto k N N1 := fun key hkey => h.2.2.2.2.1 key (by omega) (by
  rw [hW]
  show (Nat.beq key 1077258 || Nat.beq key 1077259) = true
  rcases hkey with rfl | rfl <;> rfl)
section YTK
variable {XN : Nat → Nat} {XF : Nat → Nat → Int32}
theorem y_ticks (H : ∀ mi, ∀ i ∈ zQt mi, zVal zR9 zXp mTab mInf XN XF mi i) {N : mMem} {t : Int32} (hg : zGood zR9 N) (hp : zPm N) (hroom : zRoom zR9 124 N) (ht : mAtk N 1077255 = .int t) (h1 : 0 ≤ t.toInt) (h2 : t.toInt ≤ 32999) :
    ∃ M, mRuns mTab mInf XN XF 8 188 202 (0, lv_args 0 [.ref 525], [], N) (none, M) ∧ zGood zR9 M ∧ zPm M ∧ zRl zR9 zXp 5 124 N M ∧ ∃ t2 : Int32, mAtk M 1077255 = .int t2 ∧ t2.toInt = t.toInt + 1 := by
  obtain ⟨v, M, r1, r2, r3, r4, r5⟩ := H 202 zQ_202_0.1 (List.mem_map_of_mem (f := fun p : zP => p.1) (show zQ_202_0 ∈ zQ_202 from List.mem_cons_self)) N [.ref 525] ⟨hp, hp⟩ hg ⟨rfl, trivial⟩ (fun c hc => by
    have hc : c ∈ [((1077255 : Nat), ((0 : Int), (32999 : Int)))] := hc
    obtain rfl := List.mem_singleton.mp hc
    exact ⟨t, ht, h1, h2⟩) hroom
  have r4 : v = none := r4
  subst r4
  obtain ⟨x, y, e1, e2, e3⟩ := r5 (1077255, 1) (by show ((1077255 : Nat), (1 : Int)) ∈ [((1077255 : Nat), (1 : Int))]; exact List.mem_cons_self)
  have e1 : mAtk N 1077255 = .int x := e1
  rw [ht] at e1
  cases e1
  exact ⟨M, r1, r2, r3.2.2.2.2.2.2, r3, y, e2, e3⟩
theorem y203_loop (H : ∀ mi, ∀ i ∈ zQt mi, zVal zR9 zXp mTab mInf XN XF mi i) {n : Nat} (hn : n ≤ 300) : ∀ (d k : Nat) (N : mMem) (Nl : List (Nat × Value)) (t : Int32), k + d = n → mLk Nl 0 = some (.ref 525) → mLk Nl 1 = some (.int (yI n)) → mLk Nl 2 = some (.int (yI k)) → zGood zR9 N → zPm N → zRoom zR9 (124 * d) N → mAtk N 1077255 = .int t → 0 ≤ t.toInt → t.toInt + (d : Int) ≤ 33000 →
    ∃ M Nl2 t2, mLk Nl2 0 = some (.ref 525) ∧ (∀ j, j < 2 → ∀ x : Int32, mLk Nl j = some (.int x) → mLk Nl2 j = some (.int x)) ∧ zGood zR9 M ∧ zPm M ∧ zRl zR9 zXp 5 (124 * d) N M ∧ mAtk M 1077255 = .int t2 ∧ t2.toInt = t.toInt + (d : Int) ∧ ∀ z, mRuns mTab mInf XN XF 10 300 203 (48, Nl2, [], M) z → mRuns mTab mInf XN XF 10 300 203 (33, Nl, [], N) z
  | 0, k, N, Nl, t, hk, l0, l1, l2, hg, hp, hr, ht, t1, t2 => by
    refine ⟨N, Nl, t, l0, fun j _ x hx => hx, hg, hp, zRl_0 ⟨hp, hp⟩ hr, ht, by omega, fun z hz => ?_⟩
    refine st_iload h_203_33 l2 ?_
    refine st_iload h_203_34 l1 ?_
    refine st_icmp h_203_35 ?_
    rw [yI_le (by omega) (by omega) (by omega), cond_true]
    exact hz
  | d + 1, k, N, Nl, t, hk, l0, l1, l2, hg, hp, hr, ht, t1, t2 => by
    have hr : zRoom zR9 (124 + 124 * d) N := zRoom_le hr (by omega)
    obtain ⟨M1, r1, r2, r3, r4, s, s1, s2⟩ := y_ticks H hg hp (zRoom_le hr (by omega)) ht t1 (by omega)
    have hN := yMod_good hg
    obtain ⟨M, Nl2, u, a1, a2, a3, a4, a5, a6, a7, a8⟩ := y203_loop H hn d (k + 1) M1 (mSt1 Nl 2 (.int (yI (k + 1)))) s (by omega) (mLk_ne l0 (by omega) rfl) (mLk_ne l1 (by omega) rfl) mLk_same r2 r3 (zRoom_rl r4 hr) s1 (by omega) (by omega)
    refine ⟨M, Nl2, u, a1, fun j hj x hx => a2 j hj x (mLk_ne hx (by omega) rfl), a3, a4, ?_, a6, by omega, fun z hz => ?_⟩
    · have w : zRl zR9 zXp 5 (124 + 124 * d) N M := zRl_trans (zRw_ok _ _) zXp_ok rfl r4 a5
      rw [show 124 + 124 * d = 124 * (d + 1) by omega] at w
      exact w
    refine st_iload h_203_33 l2 ?_
    refine st_iload h_203_34 l1 ?_
    refine st_icmp h_203_35 ?_
    rw [yI_lt (by omega) (by omega) (by omega), cond_false]
    refine st_aload h_203_38 l0 ?_
    refine st_call (o := 525) (as := []) (S := []) (w := none) (M1 := M1) h_203_39 rfl rfl rfl (yM_b hN) (yM_c hN) rfl rfl rfl rfl (mRuns_more r1 (by show 8 ≤ 9; omega) (by show 188 ≤ 300 - _; decide)) rfl ?_
    refine st_iinc h_203_42 l2 (by rfl) ?_
    refine st_goto h_203_45 ?_
    have e : yI k + Int32.ofInt 1 = yI (k + 1) := yI_succ
    rw [e]
    exact a8 z hz
theorem y235_loop (H : ∀ mi, ∀ i ∈ zQt mi, zVal zR9 zXp mTab mInf XN XF mi i) {n : Nat} (hn : n ≤ 300) : ∀ (d k : Nat) (N : mMem) (Nl : List (Nat × Value)) (t : Int32), k + d = n → mLk Nl 0 = some (.ref 525) → mLk Nl 1 = some (.int (yI n)) → mLk Nl 3 = some (.int (yI k)) → zGood zR9 N → zPm N → zRoom zR9 (124 * d) N → mAtk N 1077255 = .int t → 0 ≤ t.toInt → t.toInt + (d : Int) ≤ 33000 →
    ∃ M Nl2 t2, mLk Nl2 0 = some (.ref 525) ∧ (∀ j, j < 3 → ∀ x : Int32, mLk Nl j = some (.int x) → mLk Nl2 j = some (.int x)) ∧ zGood zR9 M ∧ zPm M ∧ zRl zR9 zXp 5 (124 * d) N M ∧ mAtk M 1077255 = .int t2 ∧ t2.toInt = t.toInt + (d : Int) ∧ ∀ z, mRuns mTab mInf XN XF 10 300 235 (62, Nl2, [], M) z → mRuns mTab mInf XN XF 10 300 235 (47, Nl, [], N) z
  | 0, k, N, Nl, t, hk, l0, l1, l2, hg, hp, hr, ht, t1, t2 => by
    refine ⟨N, Nl, t, l0, fun j _ x hx => hx, hg, hp, zRl_0 ⟨hp, hp⟩ hr, ht, by omega, fun z hz => ?_⟩
    refine st_iload h_235_47 l2 ?_
    refine st_iload h_235_48 l1 ?_
    refine st_icmp h_235_49 ?_
    rw [yI_le (by omega) (by omega) (by omega), cond_true]
    exact hz
  | d + 1, k, N, Nl, t, hk, l0, l1, l2, hg, hp, hr, ht, t1, t2 => by
    have hr : zRoom zR9 (124 + 124 * d) N := zRoom_le hr (by omega)
    obtain ⟨M1, r1, r2, r3, r4, s, s1, s2⟩ := y_ticks H hg hp (zRoom_le hr (by omega)) ht t1 (by omega)
    have hN := yMod_good hg
    obtain ⟨M, Nl2, u, a1, a2, a3, a4, a5, a6, a7, a8⟩ := y235_loop H hn d (k + 1) M1 (mSt1 Nl 3 (.int (yI (k + 1)))) s (by omega) (mLk_ne l0 (by omega) rfl) (mLk_ne l1 (by omega) rfl) mLk_same r2 r3 (zRoom_rl r4 hr) s1 (by omega) (by omega)
    refine ⟨M, Nl2, u, a1, fun j hj x hx => a2 j hj x (mLk_ne hx (by omega) rfl), a3, a4, ?_, a6, by omega, fun z hz => ?_⟩
    · have w : zRl zR9 zXp 5 (124 + 124 * d) N M := zRl_trans (zRw_ok _ _) zXp_ok rfl r4 a5
      rw [show 124 + 124 * d = 124 * (d + 1) by omega] at w
      exact w
    refine st_iload h_235_47 l2 ?_
    refine st_iload h_235_48 l1 ?_
    refine st_icmp h_235_49 ?_
    rw [yI_lt (by omega) (by omega) (by omega), cond_false]
    refine st_aload h_235_52 l0 ?_
    refine st_call (o := 525) (as := []) (S := []) (w := none) (M1 := M1) h_235_53 rfl rfl rfl (yM_b hN) (yM_c hN) rfl rfl rfl rfl (mRuns_more r1 (by show 8 ≤ 9; omega) (by show 188 ≤ 300 - _; decide)) rfl ?_
    refine st_iinc h_235_56 l2 (by rfl) ?_
    refine st_goto h_235_59 ?_
    have e : yI k + Int32.ofInt 1 = yI (k + 1) := yI_succ
    rw [e]
    exact a8 z hz
end YTK

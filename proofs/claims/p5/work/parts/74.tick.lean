/-! ===== tick; written by wip/box/gen74.py ===== -/
theorem h_203_48 : mFind (mTab 203) 48 = some (48, 1, .aload_n 0, .aload 0, 0, 0, 0, 0) := mFb_eq (by decide +kernel)
theorem h_203_49 : mFind (mTab 203) 49 = some (49, 3, .invokevirtual 99, .invokevirtual 99, 0, 130, 8, 1113) := mFb_eq (by decide +kernel)
theorem h_203_52 : mFind (mTab 203) 52 = some (52, 1, .ireturn, .ireturn, 0, 0, 0, 0) := mFb_eq (by decide +kernel)
theorem h_130_0 : mFind (mTab 130) 0 = some (0, 1, .aload_n 0, .aload 0, 0, 0, 0, 0) := mFb_eq (by decide +kernel)
theorem h_130_1 : mFind (mTab 130) 1 = some (1, 3, .getfield 7, .getfield 7, 0, 8, 1, 972) := mFb_eq (by decide +kernel)
theorem h_130_4 : mFind (mTab 130) 4 = some (4, 2, .bipush 7, .iconst 0, 7, 0, 0, 0) := mFb_eq (by decide +kernel)
theorem h_130_6 : mFind (mTab 130) 6 = some (6, 1, .iaload, .iaload, 0, 0, 0, 0) := mFb_eq (by decide +kernel)
theorem h_130_7 : mFind (mTab 130) 7 = some (7, 1, .ireturn, .ireturn, 0, 0, 0, 0) := mFb_eq (by decide +kernel)
theorem i32_rg (X : Int32) : -2147483648 ≤ X.toInt ∧ X.toInt ≤ 2147483647 := by
  have h1 := X.toInt_lt
  have h2 := X.le_toInt
  omega
/-- cells that are followed: hasImage, n, time (a), STATE (b), CUTS (c), the image -/
noncomputable def zF (a b c : Prop) (N N1 : mMem) : Prop := mAtk N1 1075205 = mAtk N 1075205 ∧ mAtk N1 1077254 = mAtk N 1077254 ∧ (a → mAtk N1 1077255 = mAtk N 1077255) ∧ (b → mAtk N1 1077256 = mAtk N 1077256) ∧ (c → ∀ j, j < 8 → mAtk N1 (1077278 + j) = mAtk N (1077278 + j)) ∧ ∀ k, k < 1850 → mAtk N1 (1081344 + k) = mAtk N (1081344 + k)
theorem zF_t {a b c a2 b2 c2 : Prop} {N N1 N2 : mMem} (h1 : zF a b c N N1) (h2 : zF a2 b2 c2 N1 N2) : zF (a ∧ a2) (b ∧ b2) (c ∧ c2) N N2 :=
  ⟨h2.1.trans h1.1, h2.2.1.trans h1.2.1, fun q => (h2.2.2.1 q.2).trans (h1.2.2.1 q.1), fun q => (h2.2.2.2.1 q.2).trans (h1.2.2.2.1 q.1), fun q j hj => (h2.2.2.2.2.1 q.2 j hj).trans (h1.2.2.2.2.1 q.1 j hj), fun k hk => (h2.2.2.2.2.2 k hk).trans (h1.2.2.2.2.2 k hk)⟩
theorem zF_w {a b c a2 b2 c2 : Prop} {N N1 : mMem} (h : zF a b c N N1) (ha : a2 → a) (hb : b2 → b) (hc : c2 → c) : zF a2 b2 c2 N N1 := ⟨h.1, h.2.1, fun q => h.2.2.1 (ha q), fun q => h.2.2.2.1 (hb q), fun q => h.2.2.2.2.1 (hc q), h.2.2.2.2.2⟩
/-- STATIONS are OUT as before -/
noncomputable def zOs (N N1 : mMem) : Prop := ∀ j, j < 8 → mAtk N1 (1077324 + 84 * j) = mAtk N (1077324 + 84 * j)
theorem zOs_t {N N1 N2 : mMem} (h1 : zOs N N1) (h2 : zOs N1 N2) : zOs N N2 := fun j hj => (h2 j hj).trans (h1 j hj)
theorem zUpto_t {a b : Nat} {N N1 N2 : mMem} (h1 : zUpto a N N1) (h2 : zUpto b N1 N2) : zUpto (a + b) N N2 := fun key hk => by
  obtain ⟨x, y, a1, a2, a3⟩ := h1 key hk
  obtain ⟨y2, z, b1, b2, b3⟩ := h2 key hk
  rw [a2] at b1
  cases b1
  exact ⟨x, z, a1, b2, by omega⟩
theorem zRk_k {q : Nat} (hq : q = 0 ∨ q = 2 ∨ q = 3 ∨ q = 4 ∨ q = 5) {X : mMem → mMem → Prop} {zx : Nat → Bool} {con : Nat → List zS} {k : Nat} {N N1 : mMem} (h : zRl (zRw zx con) X q k N N1) : zF (q ≠ 5) (q ≠ 3) (q ≠ 2) N N1 ∧ (q ≠ 4 → zOs N N1) ∧ zUpto k N N1 := by
  have kk : ∀ key, key < 2097152 → zRkp q key = true → mAtk N1 key = mAtk N key := h.2.2.2.1
  refine ⟨⟨kk _ (by decide) ?_, kk _ (by decide) ?_, fun n => kk _ (by decide) ?_, fun n => kk _ (by decide) ?_, fun n j hj => kk _ (by omega) ?_, fun k hk => kk _ (by omega) ?_⟩, fun n j hj => kk _ (by omega) ?_, zUpto_rl rfl h⟩
  · rcases hq with rfl | rfl | rfl | rfl | rfl <;> decide +kernel
  · rcases hq with rfl | rfl | rfl | rfl | rfl <;> decide +kernel
  · rcases hq with rfl | rfl | rfl | rfl | rfl <;> first | (exact absurd rfl n) | decide +kernel
  · rcases hq with rfl | rfl | rfl | rfl | rfl <;> first | (exact absurd rfl n) | decide +kernel
  · obtain rfl | rfl | rfl | rfl | rfl | rfl | rfl | rfl := (by omega : j = 0 ∨ j = 1 ∨ j = 2 ∨ j = 3 ∨ j = 4 ∨ j = 5 ∨ j = 6 ∨ j = 7) <;> rcases hq with rfl | rfl | rfl | rfl | rfl <;> first | (exact absurd rfl n) | decide +kernel
  · unfold zRkp zRk1
    refine cond_i (fun _ => rfl) (fun _ => ?_)
    refine cond_i (fun e => by have := Nat.eq_of_beq_eq_true e; omega) (fun _ => ?_)
    exact cond_i (fun e => by have := Nat.eq_of_beq_eq_true e; omega) (fun _ => rfl)
  · obtain rfl | rfl | rfl | rfl | rfl | rfl | rfl | rfl := (by omega : j = 0 ∨ j = 1 ∨ j = 2 ∨ j = 3 ∨ j = 4 ∨ j = 5 ∨ j = 6 ∨ j = 7) <;> rcases hq with rfl | rfl | rfl | rfl | rfl <;> first | (exact absurd rfl n) | decide +kernel
theorem zRk_14 {X : mMem → mMem → Prop} {con : Nat → List zS} {k : Nat} {N N1 : mMem} (h : zRl (zTw0 con) X 14 k N N1) : (∀ key, key < 2097152 → key ≠ 1075200 → mAtk N1 key = mAtk N key) ∧ zF True True True N N1 ∧ zOs N N1 ∧ zUpto k N N1 ∧ zMv N N1 := by
  have kk : ∀ key, key < 2097152 → key ≠ 1075200 → mAtk N1 key = mAtk N key := fun key a b => h.2.2.2.1 key a (zTk_14 b)
  exact ⟨kk, ⟨kk _ (by decide) (by decide), kk _ (by decide) (by decide), fun _ => kk _ (by decide) (by decide), fun _ => kk _ (by decide) (by decide), fun _ j hj => kk _ (by omega) (by omega), fun k hk => kk _ (by omega) (by omega)⟩, fun j hj => kk _ (by omega) (by omega), zUpto_rl rfl h, zMv_tl h⟩
theorem zInv_from {b c : Nat} {p q r : Prop} {N M : mMem} (h : zInv b N) (hf : zF p q r N M) (ho : zOs N M) (hg : zGood zR9 M) (hp : zPm M) (ht : zN M 7 ≤ 30000) (hc : zUpto c N M) : zInv (b + c) M := zInv_keepT h hg hp hf.1 hf.2.1 ht ho hf.2.2.2.2.2 hc
noncomputable abbrev z525 : zL := (2, (525, (0, 0)))
set_option maxRecDepth 100000 in
theorem y203_1 : (List.range 300).all (fun k => zSeg (zTw0 fun _ => []) (14, (0, false)) 203 10 300 0 [(0, z525), (1, (0, (0, ((k : Int) + 1, (k : Int) + 1))))] [] [(1077255, (0, (0, (0, 30000))))] [(33, ([(0, z525), (1, (0, (0, ((k : Int) + 1, (k : Int) + 1)))), (2, (0, (0, (0, 0))))], ([], ([], [(1077255, (0, 29999 - (k : Int)))]))))] (some (some (false, (-1, -1)), [(1077255, (30000 - (k : Int), 30000))]))) = true := by decide +kernel
set_option maxRecDepth 100000 in
theorem y203_2 : ([(-2147483648, 0), (301, 2147483647)] : List (Int × Int)).all (fun q => zSeg (zTw0 fun _ => []) (14, (0, false)) 203 10 300 0 [(0, z525), (1, (0, (0, q)))] [] [] [] (some (some (false, (-1, -1)), []))) = true := by decide +kernel
section YTI
variable {xs : Nat → Int32} {L : Nat}
theorem y130_run {fr lo : Nat} {N : mMem} (hN : yMod N) {t : Int32} (ht : mAtk N 1077255 = .int t) : mRuns mTab mInf (sXNl L) (sXF xs) fr lo 130 (0, lv_args 0 [.ref 525], [], N) (some (.int t), N) := by
  have h0 := yRw_0 N 526 (fun _ => Value.null) 0
  refine st_aload h_130_0 (by rfl) ?_
  refine st_getfield h_130_1 (yM_lt hN h0 525 (by omega)) (yM_k hN h0) (yM_n hN h0 1 (by omega)) (yM_f h0 (by omega) 1 (by omega) hN.2.2.1.1) ?_
  refine st_iconst h_130_4 ?_
  refine st_iaload (i := yI 7) (x := t) h_130_6 rfl (yM_lt hN h0 526 (by omega)) (yR_k hN h0 526 (by omega) (by omega)) (yR_i hN h0 526 (by omega) (by omega) (by omega)) (by rw [yI_nat (by omega), ← y_at N (by omega)]; exact ht) ?_
  exact st_ireturn h_130_7 (ty := .int) rfl rfl
theorem zInv_t {b : Nat} {N : mMem} (h : zInv b N) : ∃ t : Int32, mAtk N 1077255 = .int t ∧ zN N 7 = t.toInt ∧ 0 ≤ t.toInt ∧ t.toInt ≤ 30000 := by
  obtain ⟨t, a, c, -⟩ := zGood_int h.1 (k := 7) (by omega)
  have d := h.2.1.2.2.2.1
  rw [zRow_int a] at d
  have c : 0 ≤ t.toInt := c
  exact ⟨t, by rw [show 1077255 = 1077248 + 7 by omega, y_at N (by omega)]; exact a, by rw [← zRow_N N (by omega), zRow_int a], c, d⟩
noncomputable def zTick (N N1 : mMem) (n v : Int32) : Prop := (1 ≤ n.toInt ∧ n.toInt ≤ 300 ∧ zN N 7 + n.toInt ≤ 30000 ∧ v.toInt = zN N 7 + n.toInt ∧ zN N1 7 = zN N 7 + n.toInt) ∨ (¬ (1 ≤ n.toInt ∧ n.toInt ≤ 300 ∧ zN N 7 + n.toInt ≤ 30000) ∧ v.toInt = -1 ∧ zN N1 7 = zN N 7)
theorem y203 (H : ∀ mi, ∀ i ∈ zQt mi, zVal zR9 zXp mTab mInf (sXNl L) (sXF xs) mi i) {b : Nat} {N : mMem} (hI : zInv b N) (hb : b + 40000 ≤ 2147483647) (n : Int32) :
    ∃ v N1, mRuns mTab mInf (sXNl L) (sXF xs) 10 300 203 (0, lv_args 0 [.ref 525, .int n], [], N) (some (.int v), N1) ∧ zInv (b + 37200) N1 ∧ zMv N N1 ∧ zF False True True N N1 ∧ zTick N N1 n v := by
  have hp := zInv_pm hI
  have hg := hI.1
  obtain ⟨t, t0, t1, t2, t3⟩ := zInv_t hI
  have hv0 : ∀ mi, ∀ i ∈ zWi (zTw0 fun _ => []) mi, zVal (zTw0 fun _ => []) zXp mTab mInf (sXNl L) (sXF xs) mi i := fun _ _ h => by cases h
  have hroom : zRoom zR9 40000 N := zInv_room hI (by omega)
  have bad : ∀ rt : zQe, rt.1 = some (false, (-1, -1)) → (∃ z, mRuns mTab mInf (sXNl L) (sXF xs) 10 300 203 (0, lv_args 0 [.ref 525, .int n], [], N) z ∧ zGood (zTw0 fun _ => []) z.2 ∧ zRl (zTw0 fun _ => []) zXp 14 0 N z.2 ∧ zAnV rt.1 z.1 ∧ zCs z.2 rt.2) → ¬ (1 ≤ n.toInt ∧ n.toInt ≤ 300 ∧ zN N 7 + n.toInt ≤ 30000) →
      ∃ v N1, mRuns mTab mInf (sXNl L) (sXF xs) 10 300 203 (0, lv_args 0 [.ref 525, .int n], [], N) (some (.int v), N1) ∧ zInv (b + 37200) N1 ∧ zMv N N1 ∧ zF False True True N N1 ∧ zTick N N1 n v := fun rt hrt hz hn => by
    obtain ⟨⟨zv, zm⟩, z1, z2, z3, z4, -⟩ := hz
    rw [hrt] at z4
    obtain ⟨x, hx, q1, q2⟩ := z4
    have hx : zv = some (.int x) := hx
    subst hx
    obtain ⟨-, k2, k3, k4, k5⟩ := zRk_14 z3
    have e7 : zN zm 7 = zN N 7 := zN_eq (k2.2.2.1 trivial)
    refine ⟨x, zm, z1, zInv_le (zInv_from hI k2 k3 z2 z3.2.2.2.2.2.2 (by omega) k4) (by omega), k5, zF_w k2 (fun h => h.elim) id id, .inr ⟨hn, ?_, e7⟩⟩
    have q1 : -1 ≤ x.toInt := q1
    have q2 : x.toInt ≤ -1 := q2
    omega
  by_cases c : 1 ≤ n.toInt ∧ n.toInt ≤ 300
  · obtain ⟨k, hk⟩ : ∃ k : Nat, n.toInt = (k : Int) + 1 := ⟨(n.toInt - 1).toNat, by omega⟩
    have hk3 : k < 300 := by omega
    have hn : n = yI (k + 1) := yI_of (by omega)
    rcases zSeg_snd (R := (14, (0, false))) (X := zXp) (N := N) (V := []) (Nl := lv_args 0 [.ref 525, .int n]) (XN := sXNl L) (XF := sXF xs) (List.all_eq_true.mp y203_1 k (List.mem_range.mpr hk3)) (zTw0_ok _) zTp_ok hv0 (zSx_x xs L) ⟨hp, hp⟩ hg (zRoom_le hroom (Nat.zero_le _)) (fun q hq => by
      simp only [List.mem_cons, List.not_mem_nil, or_false] at hq
      rcases hq with rfl | rfl
      · exact ⟨.ref 525, rfl, rfl⟩
      · exact ⟨.int n, rfl, n, rfl, by show (k : Int) + 1 ≤ _; omega, by show _ ≤ (k : Int) + 1; omega⟩) trivial (fun q hq => by
      obtain rfl := List.mem_singleton.mp hq
      exact ⟨t, t0, t2, t3⟩) with ⟨p, hpm, Nl2, V2, N2, hpost, hrun⟩ | ⟨rt, hrt, hz⟩
    · obtain rfl := List.mem_singleton.mp hpm
      obtain ⟨p1, p2, -, p4, p5, p6⟩ := hpost
      have p2 : sAll zArV [] V2 := p2
      obtain rfl := sAll_nil p2
      obtain ⟨w0, l0, e0⟩ := p1 (0, z525) List.mem_cons_self
      have e0 : w0 = .ref 525 := e0
      subst e0
      obtain ⟨w1, l1, x1, e1, e1a, e1b⟩ := p1 (1, (0, (0, ((k : Int) + 1, (k : Int) + 1)))) (List.mem_cons_of_mem _ List.mem_cons_self)
      have e1a : (k : Int) + 1 ≤ x1.toInt := e1a
      have e1b : x1.toInt ≤ (k : Int) + 1 := e1b
      have f1 : x1 = yI (k + 1) := yI_of (by omega)
      subst f1
      subst e1
      obtain ⟨w2, l2, x2, e2, e2a, e2b⟩ := p1 (2, (0, (0, (0, 0)))) (List.mem_cons_of_mem _ (List.mem_cons_of_mem _ List.mem_cons_self))
      have e2a : 0 ≤ x2.toInt := e2a
      have e2b : x2.toInt ≤ 0 := e2b
      have f2 : x2 = yI 0 := yI_of (by omega)
      subst f2
      subst e2
      obtain ⟨k1, k2, k3, k4, k5⟩ := zRk_14 p6
      have tt : mAtk N2 1077255 = .int t := (k1 _ (by decide) (by decide)).trans t0
      obtain ⟨tx, d1, d2, d3⟩ := p4 (1077255, (0, 29999 - (k : Int))) List.mem_cons_self
      have d1 : mAtk N2 1077255 = .int tx := d1
      rw [tt] at d1
      cases d1
      have d3 : t.toInt ≤ 29999 - (k : Int) := d3
      have hp2 : zPm N2 := p6.2.2.2.2.2.2
      have hroom2 : zRoom zR9 (124 * (k + 1)) N2 := by
        have : zRoom (zTw0 fun _ => []) (0 + 40000) N := hroom
        exact zRoom_le (W := zR9) (zRoom_rl (W := zTw0 fun _ => []) (a := 40000) p6 this) (by omega)
      obtain ⟨M, Nl3, u, a1, -, a3, a4, a5, a6, a7, a8⟩ := y203_loop H (n := k + 1) (by omega) (k + 1) 0 N2 Nl2 t (by omega) l0 l1 l2 p5 hp2 hroom2 tt t2 (by omega)
      obtain ⟨m2, m3, m4⟩ := zRk_k (.inr (.inr (.inr (.inr rfl)))) a5
      have uu : zN M 7 = u.toInt := zN_int (k := 7) a6
      have hNM := yMod_good a3
      have hI2 : zInv (b + (0 + 124 * (k + 1))) M := zInv_from hI (zF_t k2 m2) (zOs_t k3 (m3 (by omega))) a3 a4 (by omega) (zUpto_t k4 m4)
      refine ⟨u, M, hrun _ (a8 _ ?_), zInv_le hI2 (by omega), zMv_t k5 (zMv_rl a5), zF_w (zF_t k2 m2) (fun h => h.elim) (fun _ => ⟨trivial, by omega⟩) (fun _ => ⟨trivial, by omega⟩), .inl ⟨c.1, c.2, by omega, by omega, by omega⟩⟩
      refine st_aload h_203_48 a1 ?_
      refine st_call (o := 525) (as := []) (S := []) (w := some (.int u)) (M1 := M) h_203_49 rfl rfl rfl (yM_b hNM) (yM_c hNM) rfl rfl rfl rfl (y130_run hNM a6) rfl ?_
      exact st_ireturn h_203_52 (ty := .int) rfl rfl
    · cases hrt
      refine bad _ rfl hz (fun q => ?_)
      obtain ⟨z, z1, z2, z3, z4, z5⟩ := hz
      obtain ⟨tx, d1, d2, d3⟩ := z5 (1077255, (30000 - (k : Int), 30000)) List.mem_cons_self
      have d1 : mAtk z.2 1077255 = .int tx := d1
      rw [(zRk_14 z3).1 _ (by decide) (by decide), t0] at d1
      cases d1
      have d2 : 30000 - (k : Int) ≤ t.toInt := d2
      omega
  · obtain ⟨q, hq, q1, q2⟩ : ∃ q : Int × Int, q ∈ ([(-2147483648, 0), (301, 2147483647)] : List (Int × Int)) ∧ q.1 ≤ n.toInt ∧ n.toInt ≤ q.2 := by
      have g := i32_rg n
      by_cases d : n.toInt ≤ 0
      · exact ⟨_, List.mem_cons_self, g.1, d⟩
      · exact ⟨_, List.mem_cons_of_mem _ List.mem_cons_self, by show (301 : Int) ≤ _; omega, g.2⟩
    rcases zSeg_snd (R := (14, (0, false))) (X := zXp) (N := N) (V := []) (Nl := lv_args 0 [.ref 525, .int n]) (XN := sXNl L) (XF := sXF xs) (List.all_eq_true.mp y203_2 q hq) (zTw0_ok _) zTp_ok hv0 (zSx_x xs L) ⟨hp, hp⟩ hg (zRoom_le hroom (Nat.zero_le _)) (fun q2 hq2 => by
      simp only [List.mem_cons, List.not_mem_nil, or_false] at hq2
      rcases hq2 with rfl | rfl
      · exact ⟨.ref 525, rfl, rfl⟩
      · exact ⟨.int n, rfl, n, rfl, q1, q2⟩) trivial (fun q hq => by cases hq) with ⟨p, hpm, -⟩ | ⟨rt, hrt, hz⟩
    · cases hpm
    · cases hrt
      exact bad _ rfl hz (fun q => by omega)
end YTI

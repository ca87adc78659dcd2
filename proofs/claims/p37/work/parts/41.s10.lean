/-! ===== all are UP: messages come ===== -/
theorem dSr_same {n : Nat} {m : Int} {N M : mMem} (h : dSr n m N) (hf : ∀ k, k < 10240 → k ≠ 2060 → dG M k = dG N k) (hb : ∀ k, 53248 < k → k < 53252 → dG M k = dG N k) : dSr n m M := by
  obtain ⟨a, b, c, ⟨d1, d2⟩, ⟨e1, e2⟩, f1, f2, f3⟩ := h
  have g := hf
  have t := g 2049 (by decide) (by decide)
  exact ⟨(g 2048 (by decide) (by decide)).trans a, (g 2051 (by decide) (by decide)).trans b, (g 4096 (by decide) (by decide)).trans c, ⟨(g 4097 (by decide) (by decide)).trans d1, (g 4098 (by decide) (by decide)).trans d2⟩, ⟨by omega, by omega⟩, (hb _ (by decide) (by decide)).trans f1, (hb _ (by decide) (by decide)).trans f2, (hb _ (by decide) (by decide)).trans f3⟩
/-- all is as before but messages, what is carried, log and book -/
noncomputable def dLow (N M : mMem) : Prop := ∀ k, k < 2097152 → (k < 10240 ∨ 53248 < k) → (k < 55296 ∨ 55298 < k) → dG M k = dG N k
theorem dVd_low {B : Int} {N M : mMem} {s : Nat} (hs : s < 8) (h : dLow N M) : dVd B M s = dVd B N s := by
  unfold dVd
  rw [h (57357 + 26624 * s) (by omega) (by omega) (by omega), h (57356 + 26624 * s) (by omega) (by omega) (by omega)]
theorem dAll_low {n w : Nat} {m B k5 : Int} {ds ss bs : Nat → Int} {N M : mMem} {q : Nat} {D E : Int} (h8 : n ≤ 8) (hq : q < n) (h : dAll n w m B k5 ds ss bs N q D E) (hl : dLow N M) (hp : 0 ≤ dG M 10243 ∧ dG M 10243 ≤ 90) : dAll n w m B k5 ds ss bs M q D E := by
  obtain ⟨a, b, c, d, e, -, f1, f2⟩ := h
  have nw := hl 2049 (by decide) (by decide) (by decide)
  refine ⟨dSr_same a (fun k h1 _ => hl k (by omega) (.inl h1) (by omega)) (fun k h1 h2 => hl k (by omega) (by omega) (by omega)), fun s hs => ?_, fun s hs => ?_, ?_, ?_, hp, (hl _ (by decide) (by decide) (by decide)).trans f1, (hl _ (by decide) (by decide) (by decide)).trans f2⟩
  · have r := hl (63490 + 26624 * s) (by omega) (by omega) (by omega)
    exact dSs_same (by omega) (b s hs) (hl _ (by omega) (by omega) (by omega)) (by rw [r]; exact (b s hs).2.2.2.1) (dLine_same (by omega) (b s hs).2.2.2.2.1 (fun k h1 h2 => hl k (by omega) (by omega) (by omega))) (fun j hj => hl _ (by omega) (by omega) (by omega))
  · have z := hl (65541 + 26624 * s) (by omega) (by omega) (by omega)
    exact (dU_same (by omega) (c s hs) (by omega) (fun j hj => by unfold dUj at hj; exact hl _ (by omega) (by omega) (by omega)) (hl _ (by omega) (by omega) (by omega)) (fun _ => hl _ (by omega) (by omega) (by omega)) (by rw [z]; exact (c s hs).2.2.2.2.2.2.2.2.2.2.2.2.2.2) (hl _ (by omega) (by omega) (by omega))).1
  · rw [nw]
    exact dDue_le d hq (Int.le_refl _) (Int.le_refl _) (fun s hs => dVd_low (by omega) hl)
  · exact dWent_le e (Int.le_refl _) (fun s hs => hl _ (by omega) (by omega) (by omega))
theorem dHold_low {m X t : Int} {N M : mMem} {s : Nat} (hs : s < 8) (h : dHold m X t N s) (hl : dLow N M) : dHold m X t M s := by
  unfold dHold
  rw [hl (65538 + 26624 * s) (by omega) (by omega) (by omega), hl (65537 + 26624 * s) (by omega) (by omega) (by omega), hl (65541 + 26624 * s) (by omega) (by omega) (by omega), hl (65539 + 26624 * s) (by omega) (by omega) (by omega), hl (65540 + 26624 * s) (by omega) (by omega) (by omega)]
  exact h
theorem dErase {K U : List dMsg} {u : dMsg} : (K ++ (u :: U)).eraseIdx K.length = K ++ U := by
  rw [List.eraseIdx_append_of_length_le (Nat.le_refl _), Nat.sub_self]
  rfl
theorem dCnt {K U : List dMsg} {u : dMsg} : (K ++ (u :: U)).countP dIsT = (K ++ U).countP dIsT + (if dIsT u = true then 1 else 0) := by
  rw [List.countP_append, List.countP_append, List.countP_cons]
  omega
theorem dMem {K U : List dMsg} {u r : dMsg} (h : r ∈ K ++ U) : r ∈ K ++ (u :: U) := by
  rcases List.mem_append.mp h with h | h
  · exact List.mem_append_left _ h
  · exact List.mem_append_right _ (List.mem_cons_of_mem _ h)
theorem dNoT {n w : Nat} {B : Int} {ds : Nat → Int} {t : Int} {p : Nat} {D : Int} {l : List dMsg} (h : ∀ r ∈ l, dClm n w ds t r ∨ r = dTk w B p D) (hc : l.countP dIsT = 0) : ∀ r ∈ l, dClm n w ds t r := fun r hr => by
  rcases h r hr with h | h
  · exact h
  · exfalso
    have := List.countP_eq_zero.mp hc r hr
    rw [h] at this
    exact this rfl
/-- w's CLAIM comes: it goes, and nothing else -/
theorem p2_claim {n w : Nat} {m B k5 : Int} {ds ss bs : Nat → Int} {N : mMem} {K U : List dMsg} {u : dMsg} {q : Nat} {D E : Int} (h2 : 2 ≤ n) (h8 : n ≤ 8) (ha : dAll n w m B k5 ds ss bs N q D E) (hp : dPost N = K ++ (u :: U)) (hu : dClm n w ds (dG N 2049) u) : ∃ M, fX3_comes_R N ((K.length : Nat) : Int) = some (M, 0) ∧ dPost M = K ++ U ∧ dG M 10243 = dG N 10243 - 1 ∧ 0 ≤ dG M 10243 ∧ dLow N M := by
  obtain ⟨⟨a1, a2, a3, a4, a5, a6⟩, b, c, d, e, ⟨f1, f2⟩, g⟩ := ha
  have len : (dPost N).length = K.length + (U.length + 1) := by rw [hp]; simp
  rw [dPost_len] at len
  have row : dRow N K.length = u := by
    have g := dPost_get (N := N) (i := K.length) (by omega)
    rw [hp, List.getElem?_append_right (Nat.le_refl _), Nat.sub_self] at g
    exact (Option.some.inj g).symm
  obtain ⟨u1, ⟨l, l1, l2, l3⟩, u4, u6⟩ := hu
  have r1 : dG N (14336 + K.length) = 0 := by rw [← u1, ← row]; rfl
  have r2 : dG N (16384 + K.length) = (l : Int) := by rw [← l2, ← row]; rfl
  have r4 : dG N (20480 + K.length) = (w : Int) := by rw [← u4, ← row]; rfl
  have r6 : dG N (24576 + K.length) = 1 := by rw [← u6, ← row]; rfl
  obtain ⟨M, m1, m2, m3, m4, m5, m6, m7, -⟩ := sp_comes (N := N) (i := K.length) (l := l) (n := n) a1 h2 h8 (by omega) (by omega) r2 l1 (fun u hu => (b u hu).2.1) (.inl r1)
  have v := dNx_lt (n := n) (q := l) (by omega)
  have low : dLow N M := fun k hk x y => m6 k hk (by omega) y
  obtain ⟨⟨c1, c2, c3, c4, c5⟩, -⟩ := c _ v
  have k1 := low (57348 + 26624 * dNx n l) (by omega) (by omega) (by omega)
  have k3 := low (59393 + 26624 * dNx n l) (by omega) (by omega) (by omega)
  have k4 := low (59394 + 26624 * dNx n l) (by omega) (by omega) (by omega)
  have k5 := low (57352 + 26624 * dNx n l) (by omega) (by omega) (by omega)
  refine ⟨M, m7 M 0 r1 (sp_claimUp (by omega) (fun _ => by omega) (by omega) (by omega)), by rw [m1, hp, dErase], m2, by omega, low⟩
theorem p2_A {n w : Nat} {m B k5 t : Int} {ds ss bs : Nat → Int} (hpar : dPar n m ds ss bs) (hw : w < n) (hB : bs w = B) (N : mMem) (K : List dMsg) (u : dMsg) (U W : List dMsg) (h : dJa n w m B k5 ds ss bs t N K (u :: U) W) (hdue : u.2.2.1 ≤ t) : ∃ N1 W1, fX3_comes_R N ((K.length : Nat) : Int) = some (N1, 0) ∧ dJa n w m B k5 ds ss bs t N1 K U W1 := by
  obtain ⟨⟨h2, h8⟩, ⟨hm1, hm2⟩, hs⟩ := id hpar
  obtain ⟨rfl, hp, hK, hnow, hd, hc⟩ := h
  rw [List.append_nil] at hp
  have um : u ∈ dPost N := by rw [hp]; exact List.mem_append_right _ List.mem_cons_self
  -- a CLAIM that goes leaves all as it was
  have rest : ∀ M : mMem, dPost M = K ++ U → dG M 10243 = dG N 10243 - 1 → 0 ≤ dG M 10243 → dLow N M → dIsT u = false → dJa n w m B k5 ds ss bs t M K U [] := fun M p1 p2 p3 low nt => by
    have nw := low 2049 (by decide) (by decide) (by decide)
    refine ⟨rfl, by rw [List.append_nil]; exact p1, hK, nw.trans hnow, fun s hs => ?_, ?_⟩
    · rw [dVd_low (by omega) low, low (57356 + 26624 * s) (by omega) (by omega) (by omega), low (57357 + 26624 * s) (by omega) (by omega) (by omega)]
      exact hd s hs
    · rcases hc with ⟨p, D, ⟨f1, f2, f3, f4, f5⟩, a, c, r⟩ | ⟨h, X, D, E, ⟨f1, f2, f3, f4⟩, a, x1, x2, x3, x4⟩
      · refine .inl ⟨p, D, ⟨f1, by omega, fun r hr => ?_, ?_, fun s hs => (low _ (by omega) (by omega) (by omega)).trans (f5 s hs)⟩, dAll_low h8 (dNx_lt (by omega)) a low ⟨p3, by have := a.2.2.2.2.2.1.2; omega⟩, c, fun s hs => ?_⟩
        · rw [p1] at hr
          rw [nw]
          exact f3 r (by rw [hp]; exact dMem hr)
        · rw [hp, dCnt, nt] at f4
          rw [p1]
          exact f4
        · rw [low (57358 + 26624 * s) (by omega) (by omega) (by omega)]
          exact r s hs
      · refine .inr ⟨h, X, D, E, ⟨f1, fun r hr => ?_, (low _ (by omega) (by omega) (by omega)).trans f3, fun s hs e => (low _ (by omega) (by omega) (by omega)).trans (f4 s hs e)⟩, dAll_low h8 (dNx_lt (by omega)) a low ⟨p3, by omega⟩, x1, x2, ?_, by omega⟩
        · rw [p1] at hr
          rw [nw]
          exact f2 r (by rw [hp]; exact dMem hr)
        · rw [low (65539 + 26624 * h) (by omega) (by omega) (by omega)]
          rcases x3 with ⟨y1, y2⟩ | ⟨y1, y2⟩
          · exact .inl ⟨y1, dHold_low (by omega) y2 low⟩
          · exact .inr ⟨y1, dHold_low (by omega) y2 low⟩
  have claim : ∀ q D E, dAll n w m B k5 ds ss bs N q D E → dClm n w ds (dG N 2049) u → ∃ N1 W1, fX3_comes_R N ((K.length : Nat) : Int) = some (N1, 0) ∧ dJa n w m B k5 ds ss bs t N1 K U W1 := fun q D E a hu => by
    obtain ⟨M, e1, e2, e3, e4, e5⟩ := p2_claim h2 h8 a hp hu
    exact ⟨M, [], e1, rest M e2 e3 e4 e5 (dClm_nt hu)⟩
  rcases id hc with ⟨p, D, ⟨f1, f2, f3, f4, f5⟩, a, c, r⟩ | ⟨h, X, D, E, ⟨f1, f2, f3, f4⟩, a, x1, x2, x3, x4⟩
  · rcases f3 u um with hu | hu
    · exact claim _ _ _ a hu
    · -- the token
      have hD : D = t := by
        have : D ≤ t := by rw [hu] at hdue; exact hdue
        omega
      subst hD
      have hq := dNx_lt (n := n) (q := p) (by omega)
      obtain ⟨a1, a2, a3, a4, a5, ⟨a6, a7⟩, a8, a9⟩ := id a
      obtain ⟨s1, s2, s3, s4, ⟨s5, s6⟩, s7, s8, s9⟩ := id a1
      have len : (dPost N).length = K.length + (U.length + 1) := by rw [hp]; simp
      rw [dPost_len] at len
      have row : dRow N K.length = u := by
        have g := dPost_get (N := N) (i := K.length) (by omega)
        rw [hp, List.getElem?_append_right (Nat.le_refl _), Nat.sub_self] at g
        exact (Option.some.inj g).symm
      rw [hu] at row
      have r1 : dG N (14336 + K.length) = 2 := congrArg (·.1) row
      have r2 : dG N (16384 + K.length) = (p : Int) := congrArg (·.2.1) row
      have r4 : dG N (20480 + K.length) = (w : Int) := congrArg (·.2.2.2.1) row
      have r5 : dG N (22528 + K.length) = B := congrArg (·.2.2.2.2.1) row
      have r6 : dG N (24576 + K.length) = 1 := congrArg (·.2.2.2.2.2) row
      obtain ⟨M, m1, m2, m3, m4, m5, m6, -, m7⟩ := sp_comes (N := N) (i := K.length) (l := p) (n := n) s1 h2 h8 (by omega) (by omega) r2 f1 (fun u hu => (a2 u hu).2.1) (.inr r1)
      have low : dLow N M := fun k hk x y => m6 k hk (by omega) y
      have nw := low 2049 (by decide) (by decide) (by decide)
      have nwt : dG M 2049 = D := nw.trans hnow
      have aM := dAll_low h8 hq a low ⟨by omega, by omega⟩
      have pM : dPost M = K ++ U := by rw [m1, hp, dErase]
      have cM : (K ++ U).countP dIsT = 0 := by
        rw [hp, dCnt, hu] at f4
        have : dIsT (dTk w B p D) = true := rfl
        rw [if_pos this] at f4
        omega
      have clm : ∀ r ∈ K ++ U, dClm n w ds D r := by
        have z := dNoT (l := K ++ U) (fun r hr => f3 r (by rw [hp]; exact dMem hr)) cM
        rw [hnow] at z
        exact z
      generalize hqq : dNx n p = q at hq aM m7
      obtain ⟨b1, b2, b3, b4, b5, b6, b7, b8⟩ := aM
      obtain ⟨t1, t2, t3, t4, ⟨t5, t6⟩, t7, t8, t9⟩ := id b1
      have uq := b3 q hq
      obtain ⟨⟨c1, c2, c3, c4, c5⟩, d1, ⟨d2, d3⟩, ⟨d4, d5⟩, d6, ⟨d7, d8⟩, d9, ⟨e1, e2⟩, e3, e4, ⟨e5, e6⟩, e7, e8, e9, e10⟩ := id uq
      obtain ⟨⟨v1, v2, v3⟩, v4, -⟩ := id (b2 q hq)
      obtain ⟨⟨p1, p2⟩, ⟨p3, p4⟩, ⟨p5, p6⟩, p7⟩ := hs q hq
      have pB := (hs w hw).2.2
      rw [hB] at pB
      have hq8 : q < 8 := by omega
      have hh : dG M (65536 + 26624 * q) = 0 := by rw [low (65536 + 26624 * q) (by omega) (by omega) (by omega)]; exact f5 q hq
      have hse := e8 hh
      have hdq := hd q hq
      have dM := low (57356 + 26624 * q) (by omega) (by omega) (by omega)
      have lM := low (57357 + 26624 * q) (by omega) (by omega) (by omega)
      have vM := dVd_low (B := B) (s := q) hq8 low
      have rM : dG M (57358 + 26624 * q) ≤ D := by rw [low (57358 + 26624 * q) (by omega) (by omega) (by omega)]; exact r q hq
      have vq := b4.2 q hq
      rw [dTd_0] at vq
      have dl : ∀ s, s < n → dG M (6144 + s) = ds s := fun s hs => (b2 s hs).1.1
      have pf : dPfx (fun k => dG M (6144 + k)) n = dPfx ds n := dPfx_e (fun i hi => dl i hi)
      have wq := b5 q hq
      rw [dTd_0] at wq
      have due2 : 0 ≤ dG M (57356 + 26624 * q) ∧ dG M (57356 + 26624 * q) ≤ 200000 := by
        have := vq.2.1
        unfold dVd at this
        split at this <;> omega
      have t6b : dG M (81927 + 26624 * q) ≤ 100000 := by
        by_cases z : 2 ≤ dG M (57358 + 26624 * q)
        · have := (e3 z).2; omega
        · have := e4 (by omega); omega
      obtain ⟨M1, g0, g1, g2, g3, g4, g5, g6, g7, g8⟩ := sp_takeToken (N := M) (s := q) (t := D) hq8 ⟨by omega, by omega⟩ due2 ⟨by omega, by omega⟩ ⟨by omega, by omega⟩ ⟨by omega, by omega⟩ ⟨by omega, by omega⟩ ⟨d6, t6b⟩
      have wq : dG M (65547 + 26624 * q) + dPfx ds n ≤ D + dTd ds n q q := b5 q hq
      rw [dTd_0] at wq
      have tok := sp_tokenUp (M := M) (s := q) (n := n) t1 h8 (fun k hk => by rw [dl k hk]; have := (hs k hk).1; omega) c1 ⟨by omega, by omega, by omega⟩ hh ⟨by omega, by omega⟩ e5 (by rw [pf, nwt]; omega) (M1 := M1) (by rw [nwt]; exact g0)
      have run := m7 M1 0 r1 tok
      have fr0 : ∀ k, k < 57344 → dG M1 k = dG M k := fun k hk => g8 k (by omega) (by unfold dTkF; omega)
      have frs : ∀ s j, s < 8 → s ≠ q → j < 26624 → dG M1 (57344 + 26624 * s + j) = dG M (57344 + 26624 * s + j) := fun s j h1 h2 h3 => g8 _ (by omega) (by unfold dTkF; omega)
      have frj : ∀ s j, s < 8 → s ≠ q → j < 26624 → dG M1 (57344 + j + 26624 * s) = dG M (57344 + j + 26624 * s) := fun s j h1 h2 h3 => g8 _ (by omega) (by unfold dTkF; omega)
      have nw1 : dG M1 2049 = D := (fr0 2049 (by decide)).trans nwt
      have pM1 : dPost M1 = K ++ U := (dPost_same (fun k x y => fr0 k (by omega)) (by omega)).trans pM
      have vs : ∀ s, s < n → s ≠ q → dVd B M1 s = dVd B M s := fun s hs hne => by
        unfold dVd
        have x1 := frj s 12 (by omega) hne (by decide)
        have x2 := frj s 13 (by omega) hne (by decide)
        simp only [Nat.reduceAdd] at x1 x2
        rw [x1, x2]
      have vq1 : dVd B M1 q = dG M1 (57356 + 26624 * q) := by
        unfold dVd
        rw [if_pos g4]
      have vq0 : (dG M (57357 + 26624 * q) = 0 → dVd B M q = dG M (57356 + 26624 * q)) ∧ (dG M (57357 + 26624 * q) ≠ 0 → dVd B M q = dG M (57356 + 26624 * q) - B) := by
        unfold dVd
        exact ⟨fun z => if_pos z, fun z => if_neg z⟩
      have lateV : dG M (57357 + 26624 * q) ≠ 0 → dVd B M q < D := fun z => by
        rw [vM]
        exact hdq.2 (by omega)
      have dueq : D ≤ dG M1 (57356 + 26624 * q) := by
        rcases g6 with ⟨z1, z2, z3⟩ | ⟨z1, z2, z3⟩
        · omega
        · omega
      have hX : 0 ≤ (if D < dVd B M q then dVd B M q - D - 1 + m else 0) := by
        split <;> omega
      have c' : ∀ i, i < n → 0 ≤ (fun i => ss i + ds i) i := fun i hi => by
        have := hs i hi
        show 0 ≤ ss i + ds i
        omega
      have d' : ∀ i, i < n → 0 ≤ ds i := fun i hi => by
        have := hs i hi
        omega
      have x6 := g8 (65539 + 26624 * q) (by omega) (by unfold dTkF; omega)
      have xz := g8 (65541 + 26624 * q) (by omega) (by unfold dTkF; omega)
      refine ⟨M1, [], run, rfl, by rw [List.append_nil]; exact pM1, hK, nw1, fun s hsn => ?_, .inr ⟨q, D + ss q + (if D < dVd B M q then dVd B M q - D - 1 + m else 0), D + ss q + (if D < dVd B M q then dVd B M q - D - 1 + m else 0) + ds q, D + ds q, ⟨hq, fun r hr => ?_, g1, fun s hsn hne => ?_⟩, ⟨?_, fun s hsn => ?_, fun s hsn => ?_, ?_, ?_, ?_, ?_⟩, Int.le_refl _, Int.le_refl _, .inl ⟨by omega, ?_⟩, ?_⟩⟩
      · by_cases e : s = q
        · rw [e]
          exact ⟨dueq, fun z => by omega⟩
        · have x1 := frj s 12 (by omega) e (by decide)
          have x2 := frj s 13 (by omega) e (by decide)
          simp only [Nat.reduceAdd] at x1 x2
          rw [vs s hsn e, x1, x2, dVd_low (by omega) low, low (57356 + 26624 * s) (by omega) (by omega) (by omega), low (57357 + 26624 * s) (by omega) (by omega) (by omega)]
          exact hd s hsn
      · rw [pM1] at hr
        rw [nw1]
        exact clm r hr
      · have x1 := frj s 8192 (by omega) hne (by decide)
        simp only [Nat.reduceAdd] at x1
        rw [x1, low (65536 + 26624 * s) (by omega) (by omega) (by omega)]
        exact f5 s hsn
      · exact dSr_same b1 (fun k h _ => fr0 k (by omega)) (fun k _ h => fr0 k (by omega))
      · by_cases e : s = q
        · rw [e]
          have r1 := g8 (63490 + 26624 * q) (by omega) (by unfold dTkF; omega)
          exact dSs_upd hq8 (b2 q hq) (fr0 _ (by omega)) (by rw [r1]; exact (b2 q hq).2.2.2.1) (dLine_same hq8 (b2 q hq).2.2.2.2.1 (fun k h1 h2 => g8 k (by omega) (by unfold dTkF; omega))) (fun j hj => g8 _ (by omega) (by unfold dTkF; omega)) (by rw [g2]; exact Int.le_of_eq v2)
        · have r1 := frj s 6146 (by omega) e (by decide)
          simp only [Nat.reduceAdd] at r1
          exact dSs_same (by omega) (b2 s hsn) (fr0 _ (by omega)) (by rw [r1]; exact (b2 s hsn).2.2.2.1) (dLine_same (by omega) (b2 s hsn).2.2.2.2.1 (fun k h1 h2 => g8 k (by omega) (by unfold dTkF; omega))) (fun j hj => frs s j (by omega) e (by omega))
      · by_cases e : s = q
        · rw [e]
          have y4 := g8 (57348 + 26624 * q) (by omega) (by unfold dTkF; omega)
          have y8 := g8 (57352 + 26624 * q) (by omega) (by unfold dTkF; omega)
          have yb := g8 (59392 + 26624 * q) (by omega) (by unfold dTkF; omega)
          have yw := g8 (59393 + 26624 * q) (by omega) (by unfold dTkF; omega)
          have yn := g8 (59394 + 26624 * q) (by omega) (by unfold dTkF; omega)
          have ye := g8 (65547 + 26624 * q) (by omega) (by unfold dTkF; omega)
          have hv : dVd B M1 q ≤ D + B := by
            rw [vq1]
            rcases g6 with ⟨z1, z2, z3⟩ | ⟨z1, z2, z3⟩
            · omega
            · have := lateV z1
              have := vq0.2 z1
              omega
          have tr : 2 ≤ dG M (57358 + 26624 * q) → D - dG M (65546 + 26624 * q) ≤ 2 * B := fun z => by
            have := (e3 z).1
            omega
          refine ⟨⟨y4.trans c1, yb.trans c2, yw.trans c3, yn.trans c4, y8.trans c5⟩, .inl g4, by omega, ?_, ?_, ?_, ?_, by omega, fun z => ⟨by omega, ?_⟩, fun z => by omega, by omega, .inr g1, fun z => by omega, fun z => by omega, by omega⟩
          · rcases g7 with ⟨z1, z2, z3, z4⟩ | ⟨z1, z2, z3, z4⟩ <;> omega
          · rcases g7 with ⟨z1, z2, z3, z4⟩ | ⟨z1, z2, z3, z4⟩ <;> omega
          · rcases g7 with ⟨z1, z2, z3, z4⟩ | ⟨z1, z2, z3, z4⟩
            · omega
            · have := tr z1
              rw [z4]
              unfold dMx
              split <;> omega
          · rcases g7 with ⟨z1, z2, z3, z4⟩ | ⟨z1, z2, z3, z4⟩
            · rw [z2, z3, z4]; exact d9
            · rw [z2, z3, z4]
              have y1 : dG M (81928 + 26624 * q) ≤ dMx (dG M (81928 + 26624 * q)) (D - dG M (65546 + 26624 * q)) ∧ D - dG M (65546 + 26624 * q) ≤ dMx (dG M (81928 + 26624 * q)) (D - dG M (65546 + 26624 * q)) := by
                unfold dMx
                split <;> omega
              generalize dMx (dG M (81928 + 26624 * q)) (D - dG M (65546 + 26624 * q)) = y at y1 ⊢
              have := Int.mul_le_mul_of_nonneg_left y1.1 d4
              rw [Int.add_mul, Int.one_mul]
              omega
          · rcases g7 with ⟨z1, z2, z3, z4⟩ | ⟨z1, z2, z3, z4⟩
            · have := e4 (by omega); omega
            · have := (e3 z1).2; omega
        · have y1 := frj s 8192 (by omega) e (by decide)
          have y2 := frj s 8195 (by omega) e (by decide)
          have y3 := frj s 8197 (by omega) e (by decide)
          have y4 := frj s 8203 (by omega) e (by decide)
          simp only [Nat.reduceAdd] at y1 y2 y3 y4
          exact (dU_same (by omega) (b3 s hsn) (by omega) (fun j hj => by unfold dUj at hj; exact frs s j (by omega) e (by omega)) y1 (fun _ => y2) (by rw [y3]; exact (b3 s hsn).2.2.2.2.2.2.2.2.2.2.2.2.2.2) y4).1
      · rw [nw1]
        rw [nwt] at b4
        refine dDue_arr (m := m) h2 hq b4 c' (by omega) (by omega) (fun z => ?_) (fun z => ?_) (fun s hsn hne => vs s hsn hne) ?_
        · rw [vq1]
          rcases g6 with ⟨z1, z2, z3⟩ | ⟨z1, z2, z3⟩
          · have := vq0.1 z1
            omega
          · have := vq0.2 z1
            omega
        · rw [vq1]
          rcases g6 with ⟨z1, z2, z3⟩ | ⟨z1, z2, z3⟩
          · omega
          · have := lateV z1
            omega
        · show _ ≤ D + (ss q + ds q) ∨ (_ ∧ _ ≤ dVd B M q + m - 1 + (ss q + ds q))
          by_cases z : D < dVd B M q
          · rw [if_pos z]
            exact .inr ⟨z, by omega⟩
          · rw [if_neg z]
            exact .inl (by omega)
      · refine dWent_le (dWent_arr h2 hq d' b5) (Int.le_refl _) (fun s hsn => ?_)
        exact g8 _ (by omega) (by unfold dTkF; omega)
      · rw [fr0 10243 (by decide)]
        omega
      · rw [fr0 53252 (by decide), fr0 53253 (by decide)]
        exact ⟨b7, b8⟩
      · refine ⟨by omega, ?_, by omega, fun z => by omega, .inl ⟨by omega, by omega, fun z => ?_⟩⟩
        · rcases g6 with ⟨z1, z2, z3⟩ | ⟨z1, z2, z3⟩ <;> omega
        · rcases g6 with ⟨z1, z2, z3⟩ | ⟨z1, z2, z3⟩
          · have := vq0.1 z1
            rw [if_pos (by omega)]
            omega
          · omega
      · rw [fr0 10243 (by decide)]
        omega
  · exact claim _ _ _ a (f2 u um)

/-! ===== all are UP: who holds has its turn; a tick ===== -/
theorem p2_H {n w : Nat} {m B k5 t : Int} {ds ss bs : Nat → Int} (hpar : dPar n m ds ss bs) (hB : 60 ≤ B ∧ B ≤ 300) (N : mMem) (u : Nat) (hu : u < n) (hw : w < n) (h : dJc n w m B k5 ds ss bs t u u N) (hh : dG N (65536 + 26624 * u) ≠ 0) : ∃ N1, fX3_goOnHolding_RS N u = some (N1, 0) ∧ dJc n w m B k5 ds ss bs t (u + 1) u N1 := by
  obtain ⟨⟨h2, h8⟩, ⟨hm1, hm2⟩, hs⟩ := id hpar
  obtain ⟨hnow, rows, hd, hc⟩ := h
  rcases hc with ⟨p, D, ⟨f1, f2, f3, f4, f5⟩, a, c⟩ | ⟨h, X, D, E, ⟨f1, f2, f3, f4⟩, a, x1, x2, x3, x4, x5⟩
  · exact absurd (f5 u hu) hh
  have hu' : u = h := by
    by_cases e : u = h
    · exact e
    · exact absurd (f4 u hu e) hh
  subst hu'
  obtain ⟨b1, b2, b3, b4, b5, b6, b7, b8⟩ := id a
  obtain ⟨s1, s2, s3, s4, ⟨s5, s6⟩, s7⟩ := id b1
  obtain ⟨⟨v1, v2, v3⟩, v4, v5, v6, v7, v8⟩ := id (b2 u hu)
  obtain ⟨⟨c1, c2, c3, c4, c5⟩, d1, d2, d3, d4, d5, d6, d7, d8, d9, d10, d11, d12, d13, d14⟩ := id (b3 u hu)
  obtain ⟨⟨p1, p2⟩, ⟨p3, p4⟩, ⟨p5, p6⟩, p7⟩ := hs u hu
  have hu8 : u < 8 := by omega
  have x4 : (dG N (65539 + 26624 * u) = 0 ∧ dHold m X t N u) ∨ (dG N (65539 + 26624 * u) ≠ 0 ∧ dHold m X (t - 1) N u) := by
    rcases x4 with ⟨-, y⟩ | ⟨y, -⟩
    · exact y
    · exact absurd y (Nat.lt_irrefl u)
  obtain ⟨t2, ht2, hh2⟩ : ∃ t2, ((dG N (65539 + 26624 * u) = 0 ∧ t2 = dG N 2049) ∨ (dG N (65539 + 26624 * u) ≠ 0 ∧ t2 = dG N 2049 - 1)) ∧ dHold m X t2 N u := by
    rcases x4 with ⟨y1, y2⟩ | ⟨y1, y2⟩
    · exact ⟨t, .inl ⟨y1, hnow.symm⟩, y2⟩
    · exact ⟨t - 1, .inr ⟨y1, by omega⟩, y2⟩
  have can : dCan N u := ⟨s2, ⟨b6.1, by omega⟩, ⟨s5, by omega⟩, ⟨by omega, by omega⟩, fun i hi hl => by
    have mem := dPost_mem (N := N) (i := i) (by omega)
    obtain ⟨-, ⟨l, l1, l2, l3⟩, -⟩ := f2 _ mem
    have e1 : dG N (16384 + i) = (l : Int) := l2
    have e2 : dG N (18432 + i) ≤ dG N 2049 + ds l := l3
    have e3 : l = u := by omega
    rw [e3] at e2
    omega⟩
  obtain ⟨M, e1, e2, e3, ⟨⟨e4, e5⟩, e5s⟩, e6⟩ := sp_goOnHolding (N := N) (s := u) (n := n) (m := m) (X := X) (t := t2) hu8 s1 h8 hu (fun x hx => (b2 x hx).2.1) v7 v6.1 (by omega) hh2 ht2 can
  have low : ∀ k, k < 10240 → k ≠ 2060 → dG M k = dG N k := fun k hk h => e2 k (by omega) (.inl hk) h (by omega) (by omega) (by omega) (by omega) (by omega) (by omega) (by omega) (by omega)
  have fo : ∀ s j, s < n → s ≠ u → j < 26624 → dG M (57344 + 26624 * s + j) = dG N (57344 + 26624 * s + j) := fun s j h1 h2 h3 => e2 _ (by omega) (.inr (.inr (by omega))) (by omega) (by omega) (by omega) (by omega) (by omega) (by omega) (by omega) (by omega) (by omega)
  have fk : ∀ s j, s < n → s ≠ u → j < 26624 → dG M (57344 + j + 26624 * s) = dG N (57344 + j + 26624 * s) := fun s j h1 h2 h3 => e2 _ (by omega) (.inr (.inr (by omega))) (by omega) (by omega) (by omega) (by omega) (by omega) (by omega) (by omega) (by omega) (by omega)
  have fu : ∀ j, (j < 6146 ∨ j = 8202 ∨ j = 24579 ∨ (24582 ≤ j ∧ j < 26624)) → dG M (57344 + 26624 * u + j) = dG N (57344 + 26624 * u + j) := fun j hj => e2 _ (by omega) (.inr (.inr (by omega))) (by omega) (by omega) (by omega) (by omega) (by omega) (by omega) (by omega) (by omega) (by omega)
  have nw : dG M 2049 = dG N 2049 := low 2049 (by decide) (by decide)
  have sM : dSr n m M := dSr_same b1 low (fun k h1 h2 => e2 k (by omega) (.inr (.inr (by omega))) (by omega) (by omega) (by omega) (by omega) (by omega) (by omega) (by omega) (by omega) (by omega))
  have ssM : ∀ s, s < n → dSs n m ds ss bs M s := fun s hsn => by
    by_cases e : s = u
    · rw [e]
      exact dSs_upd hu8 (b2 u hu) (low _ (by omega) (by omega)) ⟨e4, by omega⟩ e3 (fun j hj => fu j (by omega)) (by have := v8.2.2; omega)
    · have r1 := fk s 6146 hsn e (by decide)
      simp only [Nat.reduceAdd] at r1
      exact dSs_same (by omega) (b2 s hsn) (low _ (by omega) (by omega)) (by rw [r1]; exact (b2 s hsn).2.2.2.1) (dLine_same (by omega) (b2 s hsn).2.2.2.2.1 (fun k h1 h2 => e2 k (by omega) (.inr (.inr (by omega))) (by omega) (by omega) (by omega) (by omega) (by omega) (by omega) (by omega) (by omega) (by omega))) (fun j hj => fo s j hsn e (by omega))
  have oU : ∀ s, s < n → s ≠ u → dU B w M s ∧ dVd B M s = dVd B N s := fun s hsn e => by
    have z1 := fk s 8192 hsn e (by decide)
    have z2 := fk s 8195 hsn e (by decide)
    have z3 := fk s 8197 hsn e (by decide)
    have z4 := fk s 8203 hsn e (by decide)
    simp only [Nat.reduceAdd] at z1 z2 z3 z4
    exact dU_same (by omega) (b3 s hsn) (by omega) (fun j hj => by unfold dUj at hj; exact fo s j hsn e (by omega)) z1 (fun _ => z2) (by rw [z3]; exact (b3 s hsn).2.2.2.2.2.2.2.2.2.2.2.2.2.2) z4
  have wins : dG M 53252 = dG N 53252 ∧ dG M 53253 = dG N 53253 := ⟨e2 _ (by decide) (.inr (.inr (by decide))) (by decide) (by decide) (by omega) (by omega) (by omega) (by omega) (by omega) (by omega) (by omega), e2 _ (by decide) (.inr (.inr (by decide))) (by decide) (by decide) (by omega) (by omega) (by omega) (by omega) (by omega) (by omega) (by omega)⟩
  have due : ∀ s, s < n → dG M (57356 + 26624 * s) = dG N (57356 + 26624 * s) := fun s hsn => by
    by_cases e : s = u
    · rw [e]
      have z := fu 12 (by omega)
      rw [show 57344 + 26624 * u + 12 = 57356 + 26624 * u by omega] at z
      exact z
    · have z := fk s 12 hsn e (by decide)
      simp only [Nat.reduceAdd] at z
      exact z
  have oheld : ∀ s, s < n → s ≠ u → dG M (65536 + 26624 * s) = 0 := fun s hsn e => by
    have z := fk s 8192 hsn e (by decide)
    simp only [Nat.reduceAdd] at z
    exact z.trans (f4 s hsn e)
  refine ⟨M, e1, ?_⟩
  rcases e6 with ⟨g1, g2, g3, g4, g5⟩ | ⟨g1, g2, g3, g4, g5, g6, g7⟩
  · -- it sends on
    have hz : 0 ≤ dG M (65541 + 26624 * u) := g3.2.2.1
    have uU := dU_upd (B := B) (w := w) (N := N) (N1 := M) hu8 (b3 u hu) (by omega) (fun j hj => by unfold dUj at hj; exact fu j (by omega)) (.inr (by omega)) (fun z => by omega) hz (by rw [g5, nw]; exact d10)
    have pM : dPost M = dPost N := dPost_same g4 (by omega)
    have psM := g4 10243 (by decide) (by decide)
    have aM := dAll_upd (M := M) (dNx_lt (by omega)) a sM ssM (fun s hsn => by
      by_cases e : s = u
      · rw [e]; exact uU.1
      · exact (oU s hsn e).1) nw (fun s hsn => by
      by_cases e : s = u
      · rw [e]; exact uU.2
      · exact (oU s hsn e).2) (fun s hsn => by
      by_cases e : s = u
      · rw [e]; exact g5
      · have z4 := fk s 8203 hsn e (by decide)
        simp only [Nat.reduceAdd] at z4
        exact z4) (by rw [psM]; exact b6) wins
    rw [hnow] at g3
    exact ⟨nw.trans hnow, by rw [pM]; exact rows, fun s hsn => by rw [due s hsn]; exact hd s hsn, .inr ⟨u, X, D, E, ⟨hu, by rw [pM, nw]; exact f2, by omega, oheld⟩, aM, x1, x2, x3, .inr ⟨by omega, g2, g3⟩, by omega⟩⟩
  · -- it lets the token go
    have uU := dU_upd (B := B) (w := w) (N := N) (N1 := M) hu8 (b3 u hu) (by omega) (fun j hj => by unfold dUj at hj; exact fu j (by omega)) (.inl g2) (fun _ => g3) g7 (by omega)
    have tk : dTok N u = dTk w B u (t + ds u) := by
      unfold dTok dTk
      rw [v1, c2, c3, c4, hnow]
    rw [tk] at g4
    have vM : ∀ s, s < n → dVd B M s = dVd B N s := fun s hsn => by
      by_cases e : s = u
      · rw [e]; exact uU.2
      · exact (oU s hsn e).2
    have clm0 : (dPost N).countP dIsT = 0 := List.countP_eq_zero.mpr (fun r hr => by rw [dClm_nt (f2 r hr)]; decide)
    refine ⟨nw.trans hnow, fun r hr => ?_, fun s hsn => by rw [due s hsn]; exact hd s hsn, .inl ⟨u, t + ds u, ⟨hu, by omega, fun r hr => ?_, ?_, fun s hsn => ?_⟩, ⟨sM, ssM, fun s hsn => ?_, ?_, ?_, ⟨by omega, by omega⟩, wins.1.trans b7, wins.2.trans b8⟩, by omega⟩⟩
    · rw [g4] at hr
      rcases List.mem_append.mp hr with q | q
      · exact rows r q
      · rw [List.mem_singleton.mp q]
        show t < t + ds u
        omega
    · rw [g4] at hr
      rw [nw]
      rcases List.mem_append.mp hr with q | q
      · exact .inl (f2 r q)
      · exact .inr (List.mem_singleton.mp q)
    · rw [g4, List.countP_append, clm0]
      rfl
    · by_cases e : s = u
      · rw [e]; exact g2
      · exact oheld s hsn e
    · by_cases e : s = u
      · rw [e]; exact uU.1
      · exact (oU s hsn e).1
    · rw [nw]
      exact dDue_le b4 (dNx_lt (by omega)) (Int.le_refl _) (by omega) vM
    · refine dWent_go h2 hu b5 x2 (by show dG M (65547 + 26624 * u) = t; omega) (fun s hsn e => ?_)
      have z4 := fk s 8203 hsn e (by decide)
      simp only [Nat.reduceAdd] at z4
      exact z4
theorem p2_C {n w : Nat} {m B k5 t : Int} {ds ss bs : Nat → Int} (hpar : dPar n m ds ss bs) (hB : 60 ≤ B ∧ B ≤ 300) (hw : w < n) (N : mMem) (u : Nat) (hu : u < n) (h : dJc n w m B k5 ds ss bs t u u N) : ∃ N1, fX3_takeTurn_RS N u = some (N1, 0) ∧ dJc n w m B k5 ds ss bs t (u + 1) (u + 1) N1 := by
  obtain ⟨⟨h2, h8⟩, -, hs⟩ := id hpar
  have ho : dG N (57347 + 26624 * u) = 0 := by
    obtain ⟨-, -, -, hc⟩ := id h
    rcases hc with ⟨p, D, f, a, c⟩ | ⟨h, X, D, E, f, a, x⟩
    · exact (a.2.1 u hu).2.1
    · exact (a.2.1 u hu).2.1
  unfold fX3_takeTurn_RS
  rw [if_pos ho]
  by_cases c : dG N (65536 + 26624 * u) = 0
  · rw [if_pos c]
    obtain ⟨a1, a2, a3, a4⟩ := h
    refine p2_W hpar hB N u hu ⟨a1, a2, a3, ?_⟩
    rcases a4 with q | ⟨h, X, D, E, f, a, x1, x2, x3, x4, x5⟩
    · exact .inl q
    · refine .inr ⟨h, X, D, E, f, a, x1, x2, x3, ?_, x5⟩
      have hne : h ≠ u := fun e => by
        have := f.2.2.1
        rw [e] at this
        omega
      rcases x4 with ⟨y1, y2⟩ | ⟨y1, y2, y3⟩
      · exact .inl ⟨by omega, y2⟩
      · exact .inr ⟨by omega, y2, y3⟩
  · rw [if_neg c]
    obtain ⟨M, e1, e2⟩ := p2_H hpar hB N u hu hw h c
    rw [dbd_s e1]
    exact p2_W hpar hB M u hu e2
theorem p2_end {n w : Nat} {m B k5 t : Int} {ds ss bs : Nat → Int} {N : mMem} (h : dJc n w m B k5 ds ss bs t n n N) : dI2 n w m B k5 ds ss bs N ∧ dG N 2049 = t := by
  obtain ⟨a, b, c, d⟩ := h
  refine ⟨⟨fun s hs => by rw [a]; exact (c s hs).2 hs, by rw [a]; exact b, ?_⟩, a⟩
  rcases d with ⟨p, D, f, al, x⟩ | ⟨h, X, D, E, f, al, x1, x2, x3, x4, x5⟩
  · exact .inl ⟨p, D, f, al, al.2.2.2.2.2.1.2⟩
  · rcases x4 with ⟨y, -⟩ | ⟨y1, y2, y3⟩
    · exact absurd f.1 (Nat.not_lt_of_le y)
    · exact .inr ⟨h, X, D, E, f, al, x1, by omega, y2, by rw [a]; exact y3, x5⟩
/-- a tick where all are UP -/
theorem p2_tick {n w : Nat} {m B k5 : Int} {ds ss bs : Nat → Int} (hpar : dPar n m ds ss bs) (hw : w < n) (hb : bs w = B) {N : mMem} (h : dI2 n w m B k5 ds ss bs N) (ht : dG N 2049 < 20000) : ∃ N1, fX3_advance_R N = some (N1, 0) ∧ dI2 n w m B k5 ds ss bs N1 ∧ dG N1 2049 = dG N 2049 + 1 := by
  obtain ⟨⟨h2, h8⟩, -, hs⟩ := id hpar
  have hB : 60 ≤ B ∧ B ≤ 300 := by rw [← hb]; exact (hs w hw).2.2.1
  obtain ⟨hd, rows, hc⟩ := h
  have base : ∃ q D E, q < n ∧ dAll n w m B k5 ds ss bs N q D E := by
    rcases hc with ⟨p, D, f, a, c⟩ | ⟨h, X, D, E, f, a, x⟩
    · exact ⟨_, _, _, dNx_lt (by omega), a⟩
    · exact ⟨_, _, _, dNx_lt (by omega), a⟩
  obtain ⟨q0, D0, E0, hq0, a0⟩ := base
  obtain ⟨b1, b2, b3, b4, b5, b6, b7⟩ := id a0
  obtain ⟨s1, s2, s3, s4, ⟨s5, s6⟩, s7⟩ := id b1
  unfold fX3_advance_R dlt
  rw [dW_id (x := dG N 2049 + 1) ⟨by omega, by omega⟩]
  have fr : ∀ k, k < 2097152 → k ≠ 2049 → dG (dP N 2049 (dG N 2049 + 1)) k = dG N k := fun k hk h => dG_n h (by decide) hk
  have nw : dG ((dP N 2049 (dG N 2049 + 1))) 2049 = dG N 2049 + 1 := (dG_e (by decide)).trans (dW_id ⟨by omega, by omega⟩)
  generalize dP N 2049 (dG N 2049 + 1) = M at fr nw ⊢
  dsimp only
  have pM : dPost M = dPost N := dPost_same (fun k x y => fr k (by omega) (by omega)) (by omega)
  have fj : ∀ s j, s < n → j < 26624 → dG M (57344 + 26624 * s + j) = dG N (57344 + 26624 * s + j) := fun s j h1 h2 => fr _ (by omega) (by omega)
  have hU : ∀ s, s < n → dU B w M s ∧ dVd B M s = dVd B N s := fun s hsn => dU_same (by omega) (b3 s hsn) (by omega) (fun j hj => by unfold dUj at hj; exact fj s j hsn (by omega)) (fr _ (by omega) (by omega)) (fun _ => fr _ (by omega) (by omega)) (by rw [fr _ (by omega) (by omega)]; exact (b3 s hsn).2.2.2.2.2.2.2.2.2.2.2.2.2.2) (fr _ (by omega) (by omega))
  have sM : dSr n m M := ⟨(fr _ (by decide) (by decide)).trans s1, (fr _ (by decide) (by decide)).trans s2, (fr _ (by decide) (by decide)).trans s3, ⟨(fr _ (by decide) (by decide)).trans s4.1, (fr _ (by decide) (by decide)).trans s4.2⟩, ⟨by omega, by omega⟩, (fr _ (by decide) (by decide)).trans s7.1, (fr _ (by decide) (by decide)).trans s7.2.1, (fr _ (by decide) (by decide)).trans s7.2.2⟩
  have ssM : ∀ s, s < n → dSs n m ds ss bs M s := fun s hsn => dSs_same (by omega) (b2 s hsn) (fr _ (by omega) (by omega)) (by rw [fr _ (by omega) (by omega)]; exact (b2 s hsn).2.2.2.1) (dLine_same (by omega) (b2 s hsn).2.2.2.2.1 (fun k h1 h2 => fr k (by omega) (by omega))) (fun j hj => fj s j hsn (by omega))
  have al : ∀ q D E, q < n → dAll n w m B k5 ds ss bs N q D E → dAll n w m B k5 ds ss bs M q D E := fun q D E hq a => by
    obtain ⟨-, -, -, x4, x5, x6, x7⟩ := a
    refine ⟨sM, ssM, fun s hsn => (hU s hsn).1, dDue_le x4 hq (by omega) (Int.le_refl _) (fun s hsn => (hU s hsn).2), dWent_le x5 (Int.le_refl _) (fun s hsn => fr _ (by omega) (by omega)), by rw [fr _ (by decide) (by decide)]; exact x6, ?_⟩
    rw [fr _ (by decide) (by decide), fr _ (by decide) (by decide)]
    exact x7
  have ja : dJa n w m B k5 ds ss bs (dG N 2049 + 1) M [] (dPost M) [] := by
    refine ⟨rfl, by rw [List.nil_append, List.append_nil], fun r hr => (by cases hr), nw, fun s hsn => ?_, ?_⟩
    · have x := hd s hsn
      have y := (b3 s hsn).2.2.2.2.2.2.2.2.2.2.2.2.2.1
      rw [(hU s hsn).2, fr (57356 + 26624 * s) (by omega) (by omega), fr (57357 + 26624 * s) (by omega) (by omega)]
      exact ⟨by omega, fun z => by have := y z; omega⟩
    · rcases hc with ⟨p, D, f, a, c⟩ | ⟨h, X, D, E, f, a, x1, x2, x3, x4, x5⟩
      · have dd := dFly_D f rows
        obtain ⟨f1, f2, f3, f4, f5⟩ := f
        refine .inl ⟨p, D, ⟨f1, by omega, fun r hr => ?_, by rw [pM]; exact f4, fun s hsn => (fr _ (by omega) (by omega)).trans (f5 s hsn)⟩, al _ _ _ (dNx_lt (by omega)) a, by omega, fun s hsn => ?_⟩
        · rw [pM] at hr
          rcases f3 r hr with z | z
          · exact .inl (dClm_le z (by omega))
          · exact .inr z
        · have y := (b3 s hsn).2.2.1.2
          rw [fr _ (by omega) (by omega)]
          omega
      · obtain ⟨f1, f2, f3, f4⟩ := f
        refine .inr ⟨h, X, D, E, ⟨f1, fun r hr => ?_, (fr _ (by omega) (by omega)).trans f3, fun s hsn e => (fr _ (by omega) (by omega)).trans (f4 s hsn e)⟩, al _ _ _ (dNx_lt (by omega)) a, x1, by omega, .inr ⟨by rw [fr _ (by omega) (by omega)]; exact x3, ?_⟩, by rw [fr _ (by decide) (by decide)]; exact x5⟩
        · rw [pM] at hr
          exact dClm_le (f2 r hr) (by omega)
        · rw [show dG N 2049 + 1 - 1 = dG N 2049 by omega]
          unfold dHold at x4 ⊢
          rw [fr (65538 + 26624 * h) (by omega) (by omega), fr (65537 + 26624 * h) (by omega) (by omega), fr (65541 + 26624 * h) (by omega) (by omega), fr (65539 + 26624 * h) (by omega) (by omega), fr (65540 + 26624 * h) (by omega) (by omega)]
          exact x4
  have ps := fr 10243 (by decide) (by decide)
  have len : (((dPost M).length : Nat) : Int) = dG M 10243 := by rw [dPost_len]; omega
  obtain ⟨N1, K1, W1, j1, r1⟩ := sp_loopA (J := dJa n w m B k5 ds ss bs (dG N 2049 + 1)) (t := dG N 2049 + 1) (fun N K U W j => by
    obtain ⟨-, y1, -, y2, -, y3⟩ := j
    refine ⟨y1, ?_, y2⟩
    rcases y3 with ⟨p, D, f, a, c⟩ | ⟨h, X, D, E, f, a, x⟩
    · have := a.2.2.2.2.2.1; omega
    · have := a.2.2.2.2.2.1; omega) (fun N K u U W j hu => by
    obtain ⟨y0, y1, y2, y3⟩ := j
    refine ⟨y0, by rw [y1, List.append_assoc]; rfl, fun r hr => ?_, y3⟩
    rcases List.mem_append.mp hr with q | q
    · exact y2 r q
    · rw [List.mem_singleton.mp q]; exact hu) (fun N K u U W j hu => p2_A hpar hw hb N K u U W j hu) (dPost M) 1000 M [] [] (dG M 10243) 0 ja (by omega) (by omega) (by omega) (by omega)
  have r1 : fX3_advance_R_b22 1000 M (dG M 10243) 0 0 = fX3_advance_R_b62 1000 N1 0 := r1
  rw [r1]
  obtain ⟨N2, j2, r2⟩ := sp_loopB (J := dJc n w m B k5 ds ss bs (dG N 2049 + 1) 0 0) (n := n) h8 (fun N j => by
    obtain ⟨-, -, -, y3⟩ := j
    rcases y3 with ⟨p, D, f, a, c⟩ | ⟨h, X, D, E, f, a, x⟩
    · exact a.1.1
    · exact a.1.1) (fun N u hu j => p2_B hpar N u hu j) n 1000 0 N1 (by omega) (by omega) (p2_ac j1)
  have r2 : fX3_advance_R_b62 1000 N1 0 = fX3_advance_R_b88 1000 N2 0 := r2
  rw [r2]
  obtain ⟨N3, j3, r3⟩ := sp_loopC (J := fun u => dJc n w m B k5 ds ss bs (dG N 2049 + 1) u u) (n := n) h8 (fun N u j => by
    obtain ⟨-, -, -, y3⟩ := j
    rcases y3 with ⟨p, D, f, a, c⟩ | ⟨h, X, D, E, f, a, x⟩
    · exact a.1.1
    · exact a.1.1) (fun N u hu j => p2_C hpar hB hw N u hu j) n 1000 0 N2 (by omega) (by omega) j2
  obtain ⟨z1, z2⟩ := p2_end j3
  exact ⟨N3, r3, z1, z2⟩

/-! ===== all are UP: streams, turns, a tick ===== -/
theorem dAll_upd {n w : Nat} {m B k5 : Int} {ds ss bs : Nat → Int} {N M : mMem} {q : Nat} {D E : Int} (hq : q < n) (h : dAll n w m B k5 ds ss bs N q D E) (h1 : dSr n m M) (h2 : ∀ s, s < n → dSs n m ds ss bs M s) (h3 : ∀ s, s < n → dU B w M s) (hnow : dG M 2049 = dG N 2049) (hv : ∀ s, s < n → dVd B M s = dVd B N s) (hw : ∀ s, s < n → dG M (65547 + 26624 * s) = dG N (65547 + 26624 * s)) (hp : 0 ≤ dG M 10243 ∧ dG M 10243 ≤ 90) (hc : dG M 53252 = dG N 53252 ∧ dG M 53253 = dG N 53253) : dAll n w m B k5 ds ss bs M q D E := by
  obtain ⟨a, b, c, d, e, f, g1, g2⟩ := h
  refine ⟨h1, h2, h3, ?_, dWent_le e (Int.le_refl _) hw, hp, hc.1.trans g1, hc.2.trans g2⟩
  rw [hnow]
  exact dDue_le d hq (Int.le_refl _) (Int.le_refl _) hv
/-- behind the messages: who holds has had its turn below a, DUE was watched below b -/
noncomputable def dJc (n w : Nat) (m B k5 : Int) (ds ss bs : Nat → Int) (t : Int) (a b : Nat) (N : mMem) : Prop :=
  dG N 2049 = t ∧ (∀ r ∈ dPost N, t < r.2.2.1) ∧ (∀ s, s < n → t ≤ dG N (57356 + 26624 * s) ∧ (s < b → t < dG N (57356 + 26624 * s))) ∧
  ((∃ p D, dFly n w B ds N p D ∧ dAll n w m B k5 ds ss bs N (dNx n p) D D ∧ t < D) ∨
   (∃ h X D E, dHas n w ds N h ∧ dAll n w m B k5 ds ss bs N (dNx n h) D E ∧ X + ds h ≤ D ∧ E ≤ t + ds h ∧ t ≤ X ∧ ((a ≤ h ∧ ((dG N (65539 + 26624 * h) = 0 ∧ dHold m X t N h) ∨ (dG N (65539 + 26624 * h) ≠ 0 ∧ dHold m X (t - 1) N h))) ∨ (h < a ∧ dG N (65539 + 26624 * h) ≠ 0 ∧ dHold m X t N h)) ∧ dG N 10243 ≤ 89))
theorem dHold_X {m X t : Int} {N : mMem} {h : Nat} (hh : (dG N (65539 + 26624 * h) = 0 ∧ dHold m X t N h) ∨ (dG N (65539 + 26624 * h) ≠ 0 ∧ dHold m X (t - 1) N h)) : t ≤ X := by
  rcases hh with ⟨a, b⟩ | ⟨a, b⟩
  · obtain ⟨q1, q2, q3, q4, q5⟩ := b
    rcases q5 with z | z | z <;> omega
  · obtain ⟨q1, q2, q3, q4, q5⟩ := b
    have := q4 a
    rcases q5 with z | z | z <;> omega
theorem dFly_D {n w : Nat} {B : Int} {ds : Nat → Int} {N : mMem} {p : Nat} {D t : Int} (h : dFly n w B ds N p D) (hr : ∀ r ∈ dPost N, t < r.2.2.1) : t < D := by
  obtain ⟨a, b, c, d, e⟩ := h
  have : 0 < (dPost N).countP dIsT := by omega
  obtain ⟨r, h1, h2⟩ := List.countP_pos_iff.mp this
  rcases c r h1 with z | z
  · rw [dClm_nt z] at h2
    cases h2
  · have := hr r h1
    rw [z] at this
    exact this
theorem p2_ac {n w : Nat} {m B k5 t : Int} {ds ss bs : Nat → Int} {N : mMem} {K W : List dMsg} (h : dJa n w m B k5 ds ss bs t N K [] W) : dJc n w m B k5 ds ss bs t 0 0 N := by
  obtain ⟨rfl, hp, hK, hnow, hd, hc⟩ := h
  rw [List.nil_append, List.append_nil] at hp
  have rows : ∀ r ∈ dPost N, t < r.2.2.1 := by rw [hp]; exact hK
  refine ⟨hnow, rows, fun s hs => ⟨(hd s hs).1, fun z => absurd z (Nat.not_lt_zero s)⟩, ?_⟩
  rcases hc with ⟨p, D, f, a, c, r⟩ | ⟨h, X, D, E, f, a, x1, x2, x3, x4⟩
  · exact .inl ⟨p, D, f, a, dFly_D f rows⟩
  · exact .inr ⟨h, X, D, E, f, a, x1, x2, dHold_X x3, .inl ⟨Nat.zero_le _, x3⟩, x4⟩
/-- a stream goes on: all the rest stands -/
theorem p2_B {n w : Nat} {m B k5 t : Int} {ds ss bs : Nat → Int} (hpar : dPar n m ds ss bs) (N : mMem) (u : Nat) (hu : u < n) (h : dJc n w m B k5 ds ss bs t 0 0 N) : ∃ N1, fX3_goOnStreaming_RS N u = some (N1, 0) ∧ dJc n w m B k5 ds ss bs t 0 0 N1 := by
  obtain ⟨⟨h2, h8⟩, -, hs⟩ := id hpar
  obtain ⟨hnow, rows, hd, hc⟩ := h
  have base : ∃ q D E, q < n ∧ dAll n w m B k5 ds ss bs N q D E := by
    rcases hc with ⟨p, D, f, a, c⟩ | ⟨h, X, D, E, f, a, x⟩
    · exact ⟨_, _, _, dNx_lt (by omega), a⟩
    · exact ⟨_, _, _, dNx_lt (by omega), a⟩
  obtain ⟨q0, D0, E0, -, a0⟩ := base
  obtain ⟨b1, b2, b3, b4, b5, b6, b7⟩ := id a0
  obtain ⟨s1, s2, s3, s4, ⟨s5, s6⟩, s7⟩ := id b1
  obtain ⟨u1, u2, u3, u4, u5, u6⟩ := b2 u hu
  obtain ⟨M, e1, e2, e3⟩ := sp_streaming (N := N) (s := u) (by omega) u2 s5 u3 u4
  have low : ∀ k, k < 26624 → dG M k = dG N k := fun k hk => e3 k (by omega) (.inl hk) (by omega) (by omega) (by omega)
  have fj : ∀ s j, s < n → j < 26624 → j ≠ 6146 → j ≠ 8199 → j ≠ 24576 → dG M (57344 + 26624 * s + j) = dG N (57344 + 26624 * s + j) := fun s j h1 h2 h3 h4 h5 => e3 _ (by omega) (.inr (by omega)) (by omega) (by omega) (by omega)
  have fk : ∀ s j, s < n → j < 26624 → j ≠ 6146 → j ≠ 8199 → j ≠ 24576 → dG M (57344 + j + 26624 * s) = dG N (57344 + j + 26624 * s) := fun s j h1 h2 h3 h4 h5 => e3 _ (by omega) (.inr (by omega)) (by omega) (by omega) (by omega)
  have nw : dG M 2049 = dG N 2049 := low 2049 (by decide)
  have pM : dPost M = dPost N := dPost_same (fun k x y => low k y) (by omega)
  have psM := low 10243 (by decide)
  have hM : ∀ s, s < n → dU B w M s ∧ dVd B M s = dVd B N s := fun s hsn => by
    have z1 := fk s 8192 hsn (by decide) (by decide) (by decide) (by decide)
    have z2 := fk s 8195 hsn (by decide) (by decide) (by decide) (by decide)
    have z3 := fk s 8197 hsn (by decide) (by decide) (by decide) (by decide)
    have z4 := fk s 8203 hsn (by decide) (by decide) (by decide) (by decide)
    simp only [Nat.reduceAdd] at z1 z2 z3 z4
    exact dU_same (by omega) (b3 s hsn) (by omega) (fun j hj => by unfold dUj at hj; exact fj s j hsn (by omega) (by omega) (by omega) (by omega)) z1 (fun _ => z2) (by rw [z3]; exact (b3 s hsn).2.2.2.2.2.2.2.2.2.2.2.2.2.2) z4
  have sM : dSr n m M := dSr_same b1 (fun k h1 _ => low k (by omega)) (fun k h1 h2 => e3 k (by omega) (.inr (by omega)) (by omega) (by omega) (by omega))
  have ssM : ∀ s, s < n → dSs n m ds ss bs M s := fun s hsn => by
    have r1 : 0 ≤ dG M (63490 + 26624 * s) ∧ dG M (63490 + 26624 * s) ≤ 99 := by
      by_cases e : s = u
      · rw [e]; exact e2
      · rw [e3 _ (by omega) (.inr (by omega)) (by omega) (by omega) (by omega)]
        exact (b2 s hsn).2.2.2.1
    exact dSs_same (by omega) (b2 s hsn) (low _ (by omega)) r1 (dLine_same (by omega) (b2 s hsn).2.2.2.2.1 (fun k h1 h2 => e3 k (by omega) (.inr (by omega)) (by omega) (by omega) (by omega))) (fun j hj => fj s j hsn (by omega) (by omega) (by omega) (by omega))
  have al : ∀ q D E, q < n → dAll n w m B k5 ds ss bs N q D E → dAll n w m B k5 ds ss bs M q D E := fun q D E hq a => dAll_upd hq a sM ssM (fun s hsn => (hM s hsn).1) nw (fun s hsn => (hM s hsn).2) (fun s hsn => by
    have z4 := fk s 8203 hsn (by decide) (by decide) (by decide) (by decide)
    simp only [Nat.reduceAdd] at z4
    exact z4) (by rw [psM]; exact a.2.2.2.2.2.1) ⟨e3 _ (by decide) (.inr (by decide)) (by omega) (by omega) (by omega), e3 _ (by decide) (.inr (by decide)) (by omega) (by omega) (by omega)⟩
  have held : ∀ s, s < n → dG M (65536 + 26624 * s) = dG N (65536 + 26624 * s) := fun s hsn => by
    have z := fk s 8192 hsn (by decide) (by decide) (by decide) (by decide)
    simp only [Nat.reduceAdd] at z
    exact z
  have due : ∀ s, s < n → dG M (57356 + 26624 * s) = dG N (57356 + 26624 * s) := fun s hsn => by
    have z := fk s 12 hsn (by decide) (by decide) (by decide) (by decide)
    simp only [Nat.reduceAdd] at z
    exact z
  have send : ∀ s, s < n → dG M (65539 + 26624 * s) = dG N (65539 + 26624 * s) := fun s hsn => by
    have z := fk s 8195 hsn (by decide) (by decide) (by decide) (by decide)
    simp only [Nat.reduceAdd] at z
    exact z
  have hold : ∀ s X t, s < n → dHold m X t N s → dHold m X t M s := fun s X t hsn z => by
    have z1 := fk s 8194 hsn (by decide) (by decide) (by decide) (by decide)
    have z2 := fk s 8193 hsn (by decide) (by decide) (by decide) (by decide)
    have z3 := fk s 8197 hsn (by decide) (by decide) (by decide) (by decide)
    have z4 := fk s 8196 hsn (by decide) (by decide) (by decide) (by decide)
    simp only [Nat.reduceAdd] at z1 z2 z3 z4
    unfold dHold
    rw [z1, z2, z3, z4, send s hsn]
    exact z
  refine ⟨M, e1, nw.trans hnow, by rw [pM]; exact rows, fun s hsn => by rw [due s hsn]; exact hd s hsn, ?_⟩
  rcases hc with ⟨p, D, ⟨f1, f2, f3, f4, f5⟩, a, c⟩ | ⟨h, X, D, E, ⟨f1, f2, f3, f4⟩, a, x1, x2, x3, x4, x5⟩
  · exact .inl ⟨p, D, ⟨f1, by omega, by rw [pM, nw]; exact f3, by rw [pM]; exact f4, fun s hsn => (held s hsn).trans (f5 s hsn)⟩, al _ _ _ (dNx_lt (by omega)) a, c⟩
  · refine .inr ⟨h, X, D, E, ⟨f1, by rw [pM, nw]; exact f2, (held h f1).trans f3, fun s hsn e => (held s hsn).trans (f4 s hsn e)⟩, al _ _ _ (dNx_lt (by omega)) a, x1, x2, x3, ?_, by omega⟩
    rw [send h f1]
    rcases x4 with ⟨y1, y2⟩ | ⟨y1, y2, y3⟩
    · rcases y2 with ⟨z1, z2⟩ | ⟨z1, z2⟩
      · exact .inl ⟨y1, .inl ⟨z1, hold _ _ _ f1 z2⟩⟩
      · exact .inl ⟨y1, .inr ⟨z1, hold _ _ _ f1 z2⟩⟩
    · exact absurd y1 (Nat.not_lt_zero h)
/-- DUE is watched -/
theorem p2_W {n w : Nat} {m B k5 t : Int} {ds ss bs : Nat → Int} (hpar : dPar n m ds ss bs) (hB : 60 ≤ B ∧ B ≤ 300) (N : mMem) (u : Nat) (hu : u < n) (h : dJc n w m B k5 ds ss bs t (u + 1) u N) : ∃ N1, fX3_takeTurn_RS_b23 N u = some (N1, 0) ∧ dJc n w m B k5 ds ss bs t (u + 1) (u + 1) N1 := by
  obtain ⟨⟨h2, h8⟩, -, hs⟩ := id hpar
  obtain ⟨hnow, rows, hd, hc⟩ := h
  have base : ∃ q D E, q < n ∧ dAll n w m B k5 ds ss bs N q D E ∧ t < D := by
    rcases hc with ⟨p, D, f, a, c⟩ | ⟨h, X, D, E, f, a, x1, x2, x3, x4⟩
    · exact ⟨_, _, _, dNx_lt (by omega), a, c⟩
    · have := hs h f.1
      exact ⟨_, _, _, dNx_lt (by omega), a, by omega⟩
  obtain ⟨q0, D0, E0, hq0, a0, hD0⟩ := base
  obtain ⟨b1, b2, b3, b4, b5, b6, b7⟩ := id a0
  obtain ⟨s1, s2, s3, s4, ⟨s5, s6⟩, s7⟩ := id b1
  obtain ⟨⟨c1, c2, c3, c4, c5⟩, d1, d2, d3, d4, d5, d6, d7, d8, d9, d10, d11, d12, d13, d14⟩ := id (b3 u hu)
  have hdu := hd u hu
  have lt0 : dG N (57356 + 26624 * u) = dG N 2049 → dG N (57357 + 26624 * u) = 0 := fun z => by
    rcases d1 with q | q
    · exact q
    · exfalso
      have k := (b4.2 u hu).2.2
      have td := dTd_b (f := fun i => ss i + ds i) (n := n) (q := q0) (s := u) (fun i hi => by have := hs i hi; show 0 ≤ ss i + ds i; omega) hq0 hu
      have v : dVd B N u = dG N (57356 + 26624 * u) - B := by
        unfold dVd
        rw [if_neg (by omega)]
      omega
  obtain ⟨M, e1, e2⟩ := sp_watchDue (N := N) (s := u) (by omega) (by omega) (by omega) lt0
  have run : fX3_takeTurn_RS_b23 N u = some (M, 0) := by
    unfold fX3_takeTurn_RS_b23
    rw [if_pos c1, dbd_s e1]
  rcases e2 with ⟨z1, rfl⟩ | ⟨z1, z2, z3, z4⟩
  · refine ⟨M, run, hnow, rows, fun s hsn => ⟨(hd s hsn).1, fun z => ?_⟩, hc⟩
    by_cases e : s = u
    · rw [e]; omega
    · exact (hd s hsn).2 (by omega)
  · have la := lt0 z1
    have low : ∀ k, k < 57344 → dG M k = dG N k := fun k hk => z4 k (by omega) (by omega) (by omega)
    have fj : ∀ s j, s < n → j < 26624 → (s ≠ u ∨ (j ≠ 12 ∧ j ≠ 13)) → dG M (57344 + 26624 * s + j) = dG N (57344 + 26624 * s + j) := fun s j h1 h2 h3 => z4 _ (by omega) (by omega) (by omega)
    have fk : ∀ s j, s < n → j < 26624 → (s ≠ u ∨ (j ≠ 12 ∧ j ≠ 13)) → dG M (57344 + j + 26624 * s) = dG N (57344 + j + 26624 * s) := fun s j h1 h2 h3 => z4 _ (by omega) (by omega) (by omega)
    have nw : dG M 2049 = dG N 2049 := low 2049 (by decide)
    have pM : dPost M = dPost N := dPost_same (fun k x y => low k (by omega)) (by omega)
    have psM := low 10243 (by decide)
    have vu : dVd B M u = dVd B N u := by
      unfold dVd
      rw [if_neg (by omega), if_pos la]
      omega
    have hM : ∀ s, s < n → dU B w M s ∧ dVd B M s = dVd B N s := fun s hsn => by
      have y1 := fk s 8192 hsn (by decide) (.inr (by decide))
      have y2 := fk s 8195 hsn (by decide) (.inr (by decide))
      have y3 := fk s 8197 hsn (by decide) (.inr (by decide))
      have y4 := fk s 8203 hsn (by decide) (.inr (by decide))
      simp only [Nat.reduceAdd] at y1 y2 y3 y4
      by_cases e : s = u
      · rw [e] at y1 y2 y3 y4 ⊢
        have x4 := fk u 4 hu (by decide) (.inr (by decide))
        have x8 := fk u 8 hu (by decide) (.inr (by decide))
        have x14 := fk u 14 hu (by decide) (.inr (by decide))
        have g0 := fk u 2048 hu (by decide) (.inr (by decide))
        have g1 := fk u 2049 hu (by decide) (.inr (by decide))
        have g2 := fk u 2050 hu (by decide) (.inr (by decide))
        have ca := fk u 8202 hu (by decide) (.inr (by decide))
        have t6 := fk u 24582 hu (by decide) (.inr (by decide))
        have t7 := fk u 24583 hu (by decide) (.inr (by decide))
        have t8 := fk u 24584 hu (by decide) (.inr (by decide))
        simp only [Nat.reduceAdd] at x4 x8 x14 g0 g1 g2 ca t6 t7 t8
        have vn : dVd B N u = dG N (57356 + 26624 * u) := by
          unfold dVd
          rw [if_pos la]
        exact ⟨⟨⟨x4.trans c1, g0.trans c2, g1.trans c3, g2.trans c4, x8.trans c5⟩, .inr z3, by rw [x14, nw]; exact d2, by rw [t6, x14]; exact d3, by rw [t7]; exact d4, by rw [t8]; exact d5, by rw [t6, t7, t8]; exact d6, by rw [ca, nw]; exact d7, by rw [x14, vu, ca, t7]; exact d8, by rw [x14, t7]; exact d9, by rw [y4, nw]; exact d10, by rw [y1]; exact d11, by rw [y1, y2]; exact d12, fun _ => by rw [vu, vn, nw]; omega, by rw [y3]; exact d14⟩, vu⟩
      · exact dU_same (by omega) (b3 s hsn) (by omega) (fun j hj => by unfold dUj at hj; exact fj s j hsn (by omega) (.inl e)) y1 (fun _ => y2) (by rw [y3]; exact (b3 s hsn).2.2.2.2.2.2.2.2.2.2.2.2.2.2) y4
    have ssM : ∀ s, s < n → dSs n m ds ss bs M s := fun s hsn => by
      have r1 : dG M (63490 + 26624 * s) = dG N (63490 + 26624 * s) := by
        have z := fk s 6146 hsn (by decide) (.inr (by decide))
        simp only [Nat.reduceAdd] at z
        exact z
      exact dSs_same (by omega) (b2 s hsn) (low _ (by omega)) (by rw [r1]; exact (b2 s hsn).2.2.2.1) (dLine_same (by omega) (b2 s hsn).2.2.2.2.1 (fun k h1 h2 => z4 k (by omega) (by omega) (by omega))) (fun j hj => fj s j hsn (by omega) (.inr (by omega)))
    have al : ∀ q D E, q < n → dAll n w m B k5 ds ss bs N q D E → dAll n w m B k5 ds ss bs M q D E := fun q D E hq a => dAll_upd hq a (dSr_same b1 (fun k h _ => low k (by omega)) (fun k _ h => low k (by omega))) ssM (fun s hsn => (hM s hsn).1) nw (fun s hsn => (hM s hsn).2) (fun s hsn => by
      have z := fk s 8203 hsn (by decide) (.inr (by decide))
      simp only [Nat.reduceAdd] at z
      exact z) (by rw [psM]; exact a.2.2.2.2.2.1) ⟨low _ (by decide), low _ (by decide)⟩
    have held : ∀ s, s < n → dG M (65536 + 26624 * s) = dG N (65536 + 26624 * s) := fun s hsn => by
      have z := fk s 8192 hsn (by decide) (.inr (by decide))
      simp only [Nat.reduceAdd] at z
      exact z
    have send : ∀ s, s < n → dG M (65539 + 26624 * s) = dG N (65539 + 26624 * s) := fun s hsn => by
      have z := fk s 8195 hsn (by decide) (.inr (by decide))
      simp only [Nat.reduceAdd] at z
      exact z
    have hold : ∀ s X t, s < n → dHold m X t N s → dHold m X t M s := fun s X t hsn z => by
      have z1 := fk s 8194 hsn (by decide) (.inr (by decide))
      have z2 := fk s 8193 hsn (by decide) (.inr (by decide))
      have z3 := fk s 8197 hsn (by decide) (.inr (by decide))
      have z4 := fk s 8196 hsn (by decide) (.inr (by decide))
      simp only [Nat.reduceAdd] at z1 z2 z3 z4
      unfold dHold
      rw [z1, z2, z3, z4, send s hsn]
      exact z
    refine ⟨M, run, nw.trans hnow, by rw [pM]; exact rows, fun s hsn => ?_, ?_⟩
    · by_cases e : s = u
      · rw [e]
        exact ⟨by omega, fun _ => by omega⟩
      · have z := fk s 12 hsn (by decide) (.inl e)
        simp only [Nat.reduceAdd] at z
        rw [z]
        exact ⟨(hd s hsn).1, fun q => (hd s hsn).2 (by omega)⟩
    · rcases hc with ⟨p, D, ⟨f1, f2, f3, f4, f5⟩, a, c⟩ | ⟨h, X, D, E, ⟨f1, f2, f3, f4⟩, a, x1, x2, x3, x4, x5⟩
      · exact .inl ⟨p, D, ⟨f1, by omega, by rw [pM, nw]; exact f3, by rw [pM]; exact f4, fun s hsn => (held s hsn).trans (f5 s hsn)⟩, al _ _ _ (dNx_lt (by omega)) a, c⟩
      · refine .inr ⟨h, X, D, E, ⟨f1, by rw [pM, nw]; exact f2, (held h f1).trans f3, fun s hsn e => (held s hsn).trans (f4 s hsn e)⟩, al _ _ _ (dNx_lt (by omega)) a, x1, x2, x3, ?_, by omega⟩
        rw [send h f1]
        rcases x4 with ⟨y1, y2⟩ | ⟨y1, y2, y3⟩
        · rcases y2 with ⟨z1, z2⟩ | ⟨z1, z2⟩
          · exact .inl ⟨y1, .inl ⟨z1, hold _ _ _ f1 z2⟩⟩
          · exact .inl ⟨y1, .inr ⟨z1, hold _ _ _ f1 z2⟩⟩
        · exact .inr ⟨y1, y2, hold _ _ _ f1 y3⟩

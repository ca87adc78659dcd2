/-! ===== what is told, and what is bounded ===== -/
/-- how many, the longest frame, delays, shares, bids -/
noncomputable def dPar (n : Nat) (m : Int) (ds ss bs : Nat → Int) : Prop := (2 ≤ n ∧ n ≤ 8) ∧ (1 ≤ m ∧ m ≤ 20) ∧ ∀ s, s < n → (1 ≤ ds s ∧ ds s ≤ 5) ∧ (0 ≤ ss s ∧ ss s ≤ 25) ∧ (60 ≤ bs s ∧ bs s ≤ 300) ∧ dPfx (fun i => ss i + ds i) n + m ≤ bs s
noncomputable def dSs (n : Nat) (m : Int) (ds ss bs : Nat → Int) (N : mMem) (s : Nat) : Prop := (dG N (6144 + s) = ds s ∧ dG N (57346 + 26624 * s) = ss s ∧ dG N (57345 + 26624 * s) = bs s) ∧ dG N (57347 + 26624 * s) = 0 ∧ (0 ≤ dG N (63489 + 26624 * s) ∧ dG N (63489 + 26624 * s) ≤ 99) ∧ (0 ≤ dG N (63490 + 26624 * s) ∧ dG N (63490 + 26624 * s) ≤ 99) ∧ dLine n m N s ∧ dG N (81923 + 26624 * s) = 0 ∧ (0 ≤ ss s ∧ dG N (65538 + 26624 * s) ≤ ss s)
noncomputable def dSr (n : Nat) (m : Int) (N : mMem) : Prop := dG N 2048 = (n : Int) ∧ dG N 2051 = 0 ∧ dG N 4096 = m ∧ (dG N 4097 = 200 ∧ dG N 4098 = 20) ∧ (0 ≤ dG N 2049 ∧ dG N 2049 ≤ 20000) ∧ (dG N 53249 = 0 ∧ dG N 53250 = 0 ∧ dG N 53251 = 0)
theorem dSs_upd {n : Nat} {m : Int} {ds ss bs : Nat → Int} {N N1 : mMem} {s : Nat} (hs : s < 8) (h : dSs n m ds ss bs N s) (hd : dG N1 (6144 + s) = dG N (6144 + s)) (hr : 0 ≤ dG N1 (63490 + 26624 * s) ∧ dG N1 (63490 + 26624 * s) ≤ 99) (hl : dLine n m N1 s) (hf : ∀ j, (j = 1 ∨ j = 2 ∨ j = 3 ∨ j = 6145 ∨ j = 24579) → dG N1 (57344 + 26624 * s + j) = dG N (57344 + 26624 * s + j)) (hsh : dG N1 (65538 + 26624 * s) ≤ ss s) : dSs n m ds ss bs N1 s := by
  obtain ⟨⟨a1, a2, a3⟩, a4, a5, a6, a7, a8, a9, a10⟩ := h
  have e : ∀ j, (j = 1 ∨ j = 2 ∨ j = 3 ∨ j = 6145 ∨ j = 24579) → dG N1 (57344 + j + 26624 * s) = dG N (57344 + j + 26624 * s) := fun j h1 => by
    have := hf j h1
    rw [show 57344 + j + 26624 * s = 57344 + 26624 * s + j by omega]
    exact this
  have e1 := e 1 (by decide)
  have e2 := e 2 (by decide)
  have e3 := e 3 (by decide)
  have e5 := e 6145 (by decide)
  have e8 := e 24579 (by decide)
  simp only [Nat.reduceAdd] at e1 e2 e3 e5 e8
  exact ⟨⟨hd.trans a1, e2.trans a2, e1.trans a3⟩, e3.trans a4, by rw [e5]; exact a5, hr, hl, e8.trans a8, a9, hsh⟩
theorem dSs_same {n : Nat} {m : Int} {ds ss bs : Nat → Int} {N N1 : mMem} {s : Nat} (hs : s < 8) (h : dSs n m ds ss bs N s) (hd : dG N1 (6144 + s) = dG N (6144 + s)) (hr : 0 ≤ dG N1 (63490 + 26624 * s) ∧ dG N1 (63490 + 26624 * s) ≤ 99) (hl : dLine n m N1 s) (hf : ∀ j, (j = 1 ∨ j = 2 ∨ j = 3 ∨ j = 6145 ∨ j = 24579 ∨ j = 8194) → dG N1 (57344 + 26624 * s + j) = dG N (57344 + 26624 * s + j)) : dSs n m ds ss bs N1 s := by
  have e := hf 8194 (by decide)
  rw [show 57344 + 26624 * s + 8194 = 65538 + 26624 * s by omega] at e
  exact dSs_upd hs h hd hr hl (fun j hj => hf j (by omega)) (by rw [e]; exact h.2.2.2.2.2.2.2)
/-! ===== all are UP ===== -/
noncomputable def dVd (B : Int) (N : mMem) (s : Nat) : Int := if dG N (57357 + 26624 * s) = 0 then dG N (57356 + 26624 * s) else dG N (57356 + 26624 * s) - B
noncomputable def dU (B : Int) (w : Nat) (N : mMem) (s : Nat) : Prop :=
  (dG N (57348 + 26624 * s) = 1 ∧ dG N (59392 + 26624 * s) = B ∧ dG N (59393 + 26624 * s) = (w : Int) ∧ dG N (59394 + 26624 * s) = 1 ∧ dG N (57352 + 26624 * s) = 1) ∧ (dG N (57357 + 26624 * s) = 0 ∨ dG N (57357 + 26624 * s) = 1) ∧ (1 ≤ dG N (57358 + 26624 * s) ∧ dG N (57358 + 26624 * s) ≤ dG N 2049 + 1) ∧
  (0 ≤ dG N (81926 + 26624 * s) ∧ dG N (81926 + 26624 * s) ≤ dG N (57358 + 26624 * s)) ∧ 0 ≤ dG N (81927 + 26624 * s) ∧ (0 ≤ dG N (81928 + 26624 * s) ∧ dG N (81928 + 26624 * s) ≤ 2 * B) ∧ dG N (81927 + 26624 * s) ≤ dG N (81926 + 26624 * s) * dG N (81928 + 26624 * s) ∧
  (0 ≤ dG N (65546 + 26624 * s) ∧ dG N (65546 + 26624 * s) ≤ dG N 2049) ∧ (2 ≤ dG N (57358 + 26624 * s) → dVd B N s ≤ dG N (65546 + 26624 * s) + B ∧ dG N (81927 + 26624 * s) ≤ dG N (65546 + 26624 * s)) ∧ (dG N (57358 + 26624 * s) = 1 → dG N (81927 + 26624 * s) = 0) ∧
  (0 ≤ dG N (65547 + 26624 * s) ∧ dG N (65547 + 26624 * s) ≤ dG N 2049) ∧ (dG N (65536 + 26624 * s) = 0 ∨ dG N (65536 + 26624 * s) = 1) ∧ (dG N (65536 + 26624 * s) = 0 → dG N (65539 + 26624 * s) = 0) ∧ (dG N (57357 + 26624 * s) = 1 → dVd B N s ≤ dG N 2049) ∧ 0 ≤ dG N (65541 + 26624 * s)
/-- the places of a station that dU speaks of, but for its hold -/
noncomputable def dUj (j : Nat) : Prop := j < 2051 ∨ j = 8202 ∨ (24582 ≤ j ∧ j < 24585)
theorem dU_upd {B : Int} {w : Nat} {N N1 : mMem} {s : Nat} (hs : s < 8) (h : dU B w N s) (ht : dG N 2049 ≤ dG N1 2049) (hf : ∀ j, dUj j → dG N1 (57344 + 26624 * s + j) = dG N (57344 + 26624 * s + j)) (hh : dG N1 (65536 + 26624 * s) = 0 ∨ dG N1 (65536 + 26624 * s) = 1) (hse : dG N1 (65536 + 26624 * s) = 0 → dG N1 (65539 + 26624 * s) = 0) (hz : 0 ≤ dG N1 (65541 + 26624 * s)) (hw : 0 ≤ dG N1 (65547 + 26624 * s) ∧ dG N1 (65547 + 26624 * s) ≤ dG N1 2049) : dU B w N1 s ∧ dVd B N1 s = dVd B N s := by
  obtain ⟨⟨a1, a2, a3, a4, a5⟩, b, c, d, e, f, g, i, j, k, l, p, q, r, z⟩ := h
  have x : ∀ j, dUj j → dG N1 (57344 + j + 26624 * s) = dG N (57344 + j + 26624 * s) := fun j hj => by
    have := hf j hj
    rw [show 57344 + j + 26624 * s = 57344 + 26624 * s + j by omega]
    exact this
  have e4 := x 4 (.inl (by decide))
  have e8 := x 8 (.inl (by decide))
  have e12 := x 12 (.inl (by decide))
  have e13 := x 13 (.inl (by decide))
  have e14 := x 14 (.inl (by decide))
  have g0 := x 2048 (.inl (by decide))
  have g1 := x 2049 (.inl (by decide))
  have g2 := x 2050 (.inl (by decide))
  have ca := x 8202 (.inr (.inl rfl))
  have t6 := x 24582 (.inr (.inr ⟨by decide, by decide⟩))
  have t7 := x 24583 (.inr (.inr ⟨by decide, by decide⟩))
  have t8 := x 24584 (.inr (.inr ⟨by decide, by decide⟩))
  simp only [Nat.reduceAdd] at e4 e8 e12 e13 e14 g0 g1 g2 ca t6 t7 t8
  have vd : dVd B N1 s = dVd B N s := by
    unfold dVd
    rw [e12, e13]
  refine ⟨⟨⟨e4.trans a1, g0.trans a2, g1.trans a3, g2.trans a4, e8.trans a5⟩, by rw [e13]; exact b, by rw [e14]; omega, by rw [t6, e14]; exact d, by rw [t7]; exact e, by rw [t8]; exact f, by rw [t6, t7, t8]; exact g, by rw [ca]; omega, by rw [e14, vd, ca, t7]; exact j, by rw [e14, t7]; exact k, hw, hh, hse, fun z => ?_, hz⟩, vd⟩
  rw [e13] at z
  rw [vd]
  have := r z
  omega
theorem dU_same {B : Int} {w : Nat} {N N1 : mMem} {s : Nat} (hs : s < 8) (h : dU B w N s) (ht : dG N 2049 ≤ dG N1 2049) (hf : ∀ j, dUj j → dG N1 (57344 + 26624 * s + j) = dG N (57344 + 26624 * s + j)) (hh : dG N1 (65536 + 26624 * s) = dG N (65536 + 26624 * s)) (hse : dG N (65536 + 26624 * s) = 0 → dG N1 (65539 + 26624 * s) = dG N (65539 + 26624 * s)) (hz : 0 ≤ dG N1 (65541 + 26624 * s)) (hw : dG N1 (65547 + 26624 * s) = dG N (65547 + 26624 * s)) : dU B w N1 s ∧ dVd B N1 s = dVd B N s := by
  obtain ⟨-, -, -, -, -, -, -, -, -, -, l, p, q, -, -⟩ := id h
  exact dU_upd hs h ht hf (by rw [hh]; exact p) (fun z => by rw [hh] at z; rw [hse z]; exact q z) hz (by rw [hw]; omega)
/-- w's CLAIM on its way -/
noncomputable def dClm (n w : Nat) (ds : Nat → Int) (t : Int) (r : dMsg) : Prop := r.1 = 0 ∧ (∃ l, l < n ∧ r.2.1 = (l : Int) ∧ r.2.2.1 ≤ t + ds l) ∧ r.2.2.2.1 = (w : Int) ∧ r.2.2.2.2.2 = 1
noncomputable def dTk (w : Nat) (B : Int) (p : Nat) (D : Int) : dMsg := (2, ((p : Int), (D, ((w : Int), (B, 1)))))
noncomputable def dIsT (r : dMsg) : Bool := decide (r.1 = 2)
theorem dClm_le {n w : Nat} {ds : Nat → Int} {t t2 : Int} {r : dMsg} (h : dClm n w ds t r) (ht : t ≤ t2) : dClm n w ds t2 r := by
  obtain ⟨a, ⟨l, b, c, d⟩, e⟩ := h
  exact ⟨a, ⟨l, b, c, by omega⟩, e⟩
theorem dClm_nt {n w : Nat} {ds : Nat → Int} {t : Int} {r : dMsg} (h : dClm n w ds t r) : dIsT r = false := by
  unfold dIsT
  rw [h.1]
  decide
/-- the token is on its way along p's link, due at D -/
noncomputable def dFly (n w : Nat) (B : Int) (ds : Nat → Int) (N : mMem) (p : Nat) (D : Int) : Prop := p < n ∧ D ≤ dG N 2049 + ds p ∧ (∀ r ∈ dPost N, dClm n w ds (dG N 2049) r ∨ r = dTk w B p D) ∧ (dPost N).countP dIsT = 1 ∧ ∀ s, s < n → dG N (65536 + 26624 * s) = 0
/-- h holds it -/
noncomputable def dHas (n w : Nat) (ds : Nat → Int) (N : mMem) (h : Nat) : Prop := h < n ∧ (∀ r ∈ dPost N, dClm n w ds (dG N 2049) r) ∧ dG N (65536 + 26624 * h) = 1 ∧ ∀ s, s < n → s ≠ h → dG N (65536 + 26624 * s) = 0
/-- what holds of all, the token comes to q at D at the latest, at E at the soonest -/
noncomputable def dAll (n w : Nat) (m B k5 : Int) (ds ss bs : Nat → Int) (N : mMem) (q : Nat) (D E : Int) : Prop :=
  dSr n m N ∧ (∀ s, s < n → dSs n m ds ss bs N s) ∧ (∀ s, s < n → dU B w N s) ∧ dDue n B (dG N 2049) (fun i => ss i + ds i) q D (dVd B N) ∧ dWent n ds q E (fun s => dG N (65547 + 26624 * s)) ∧ (0 ≤ dG N 10243 ∧ dG N 10243 ≤ 90) ∧ (dG N 53252 = 1 ∧ dG N 53253 = k5)
/-- at a tick's end -/
noncomputable def dI2 (n w : Nat) (m B k5 : Int) (ds ss bs : Nat → Int) (N : mMem) : Prop :=
  (∀ s, s < n → dG N 2049 < dG N (57356 + 26624 * s)) ∧ (∀ r ∈ dPost N, dG N 2049 < r.2.2.1) ∧
  ((∃ p D, dFly n w B ds N p D ∧ dAll n w m B k5 ds ss bs N (dNx n p) D D ∧ dG N 10243 ≤ 89 + 1) ∨
   (∃ h X D E, dHas n w ds N h ∧ dAll n w m B k5 ds ss bs N (dNx n h) D E ∧ X + ds h ≤ D ∧ E ≤ dG N 2049 + ds h ∧ dG N (65539 + 26624 * h) ≠ 0 ∧ dHold m X (dG N 2049) N h ∧ dG N 10243 ≤ 89))
/-- as messages come, at time t: the first ones stay -/
noncomputable def dJa (n w : Nat) (m B k5 : Int) (ds ss bs : Nat → Int) (t : Int) (N : mMem) (K U W : List dMsg) : Prop :=
  W = [] ∧ dPost N = K ++ (U ++ W) ∧ (∀ r ∈ K, t < r.2.2.1) ∧ dG N 2049 = t ∧ (∀ s, s < n → t ≤ dG N (57356 + 26624 * s) ∧ (dG N (57357 + 26624 * s) = 1 → dVd B N s < t)) ∧
  ((∃ p D, dFly n w B ds N p D ∧ dAll n w m B k5 ds ss bs N (dNx n p) D D ∧ t ≤ D ∧ (∀ s, s < n → dG N (57358 + 26624 * s) ≤ t)) ∨
   (∃ h X D E, dHas n w ds N h ∧ dAll n w m B k5 ds ss bs N (dNx n h) D E ∧ X + ds h ≤ D ∧ E ≤ t + ds h ∧ ((dG N (65539 + 26624 * h) = 0 ∧ dHold m X t N h) ∨ (dG N (65539 + 26624 * h) ≠ 0 ∧ dHold m X (t - 1) N h)) ∧ dG N 10243 ≤ 89))


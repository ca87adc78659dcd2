/-! ===== what both sides agree about between two calls; written by wip/box/gen84c.py ===== -/
noncomputable def lFT : Bool := false
noncomputable def lFS : Bool := false
noncomputable def lFC : Bool := true
noncomputable def lSide (a c : Nat → Value) : Prop := (∃ n x : Int32, a 0 = .int n ∧ c 6 = .int x ∧ n.toInt = x.toInt + 3) ∧ (lFT = true → ∃ x : Int32, a 1 = .int x ∧ c 7 = .int x) ∧ (lFS = true → ∃ x : Int32, a 2 = .int x ∧ c 8 = .int x) ∧ (lFC = true → ∃ u : Int32, 0 ≤ u.toInt ∧ u.toInt < 256 ∧ a 3 = .int u ∧ ∀ j, j < 8 → c (30 + j) = .int (Int32.ofInt (u.toInt / 2 ^ j % 2)))
theorem lSide_x {a c a2 c2 : Nat → Value} (h0 : a2 0 = a 0) (h6 : c2 6 = c 6) (h1 : lFT = true → a2 1 = a 1 ∧ c2 7 = c 7) (h2 : lFS = true → a2 2 = a 2 ∧ c2 8 = c 8) (h3 : lFC = true → a2 3 = a 3 ∧ ∀ j, j < 8 → c2 (30 + j) = c (30 + j)) (h : lSide a c) : lSide a2 c2 := by
  obtain ⟨⟨n, x, e1, e2, e3⟩, g1, g2, g3⟩ := h
  refine ⟨⟨n, x, h0.trans e1, h6.trans e2, e3⟩, fun q => ?_, fun q => ?_, fun q => ?_⟩
  · obtain ⟨y, f1, f2⟩ := g1 q
    exact ⟨y, (h1 q).1.trans f1, (h1 q).2.trans f2⟩
  · obtain ⟨y, f1, f2⟩ := g2 q
    exact ⟨y, (h2 q).1.trans f1, (h2 q).2.trans f2⟩
  · obtain ⟨u, f0, f1, f2, f3⟩ := g3 q
    exact ⟨u, f0, f1, (h3 q).1.trans f2, fun j hj => ((h3 q).2 j hj).trans (f3 j hj)⟩
theorem lSide_all {a c a2 c2 : Nat → Value} (h1 : ∀ k, k < 4 → a2 k = a k) (h2 : ∀ k, k < 1850 → c2 k = c k) (h : lSide a c) : lSide a2 c2 :=
  lSide_x (h1 0 (by omega)) (h2 6 (by omega)) (fun _ => ⟨h1 1 (by omega), h2 7 (by omega)⟩) (fun _ => ⟨h1 2 (by omega), h2 8 (by omega)⟩) (fun _ => ⟨h1 3 (by omega), fun j hj => h2 (30 + j) (by omega)⟩) h
/-- a new ring -/
theorem lSide_0 {a c : Nat → Value} {n x : Int32} (hn : n.toInt = x.toInt + 3) (h0 : a 0 = .int n) (h1 : ∀ k, 1 ≤ k → k < 4 → a k = .int (Int32.ofInt 0)) (h6 : c 6 = .int x) (h2 : ∀ k, k < 1850 → k ≠ 6 → c k = .int (Int32.ofInt 0)) : lSide a c :=
  ⟨⟨n, x, h0, h6, hn⟩, fun _ => ⟨_, h1 1 (by omega) (by omega), h2 7 (by omega) (by omega)⟩, fun _ => ⟨_, h1 2 (by omega) (by omega), h2 8 (by omega) (by omega)⟩, fun _ => ⟨_, by decide, by decide, h1 3 (by omega) (by omega), fun j hj => (h2 (30 + j) (by omega) (by omega)).trans (congrArg Value.int (by
    rw [show (Int32.ofInt 0).toInt = 0 by decide]
    obtain rfl | rfl | rfl | rfl | rfl | rfl | rfl | rfl := (by omega : j = 0 ∨ j = 1 ∨ j = 2 ∨ j = 3 ∨ j = 4 ∨ j = 5 ∨ j = 6 ∨ j = 7) <;> rfl))⟩⟩
noncomputable def lRing (N : mMem) (k : Nat) : Value := mAtk N (2048 + k)
noncomputable def lKept (N : mMem) (k : Nat) : Value := mAtk N (806912 + k)
noncomputable def lRow6 (N : mMem) (k : Nat) : Value := mAtk N (1077248 + k)
noncomputable def lRow8 (N : mMem) (k : Nat) : Value := mAtk N (1081344 + k)
noncomputable def lRel (N : mMem) : Prop := mAtk N 1075205 = mAtk N 4 ∧ (∀ k, 1 ≤ k → k < 4 → mAtk N (270336 + k) = .int (Int32.ofInt 0)) ∧ lSide (lRing N) (lRow6 N) ∧ (mAtk N 4 ≠ .int (Int32.ofInt 0) → lSide (lKept N) (lRow8 N))
/-- a call of the class of this kind keeps all of it -/
noncomputable def lKq (q : Nat) : Bool := (!(zTrw q 4) && (!(zTrw q 2048) && !(zTrw q 806912))) && (((!lFT || (!(zTrw q 2049) && !(zTrw q 806913))) && ((!lFS || (!(zTrw q 2050) && !(zTrw q 806914))) && (!lFC || (!(zTrw q 2051) && !(zTrw q 806915))))) && (!(zTrw q 270337) && (!(zTrw q 270338) && !(zTrw q 270339))))
theorem lKc {q k key : Nat} {con : Nat → List zS} {X : mMem → mMem → Prop} {N N1 : mMem} (h : zRl (zCw con) X q k N N1) (h1 : zTrk key = true) (h2 : (!(zTrw q key)) = true) : mAtk N1 key = mAtk N key := h.2.2.2.1 key (by have := cTrk_lt h1; omega) (by
  show zKc q key = true
  unfold zKc
  rw [h1, h2]
  cases Nat.beq q 1 <;> cases Nat.ble 1075200 key <;> rfl)
theorem lOrT {a b : Bool} (h : (!a || b) = true) (ha : a = true) : b = true := by
  subst ha
  exact h
theorem lRel_c {q k : Nat} {con : Nat → List zS} {X : mMem → mMem → Prop} {N N1 : mMem} (hq : lKq q = true) (h : zRl (zCw con) X q k N N1) (hr : lRel N) : lRel N1 := by
  obtain ⟨h1, g⟩ := and_inv hq
  obtain ⟨h4, h1⟩ := and_inv h1
  obtain ⟨hn, hn2⟩ := and_inv h1
  obtain ⟨g, h3⟩ := and_inv g
  obtain ⟨gT, g⟩ := and_inv g
  obtain ⟨gS, gC⟩ := and_inv g
  obtain ⟨f1, h3⟩ := and_inv h3
  obtain ⟨f2, f3⟩ := and_inv h3
  have ck := fun key (a : 1075200 ≤ key) (b : key < 2097152) => h.2.2.2.1 key b (show zKc q key = true from by
    unfold zKc
    rw [Nat.ble_eq.mpr a]
    cases Nat.beq q 1 <;> rfl)
  have k4 := lKc h (key := 4) (by decide +kernel) h4
  obtain ⟨r1, r2, r3, r4⟩ := hr
  refine ⟨(ck _ (by decide) (by decide)).trans (r1.trans k4.symm), fun k a b => ?_, lSide_x (a := lRing N) (c := lRow6 N) (a2 := lRing N1) (c2 := lRow6 N1) (lKc h (key := 2048) (by decide +kernel) hn) (ck _ (by decide) (by decide)) (fun q => ⟨lKc h (key := 2049) (by decide +kernel) (and_inv (lOrT gT q)).1, ck _ (by decide) (by decide)⟩) (fun q => ⟨lKc h (key := 2050) (by decide +kernel) (and_inv (lOrT gS q)).1, ck _ (by decide) (by decide)⟩) (fun q => ⟨lKc h (key := 2051) (by decide +kernel) (and_inv (lOrT gC q)).1, fun j hj => ck (1077248 + (30 + j)) (by omega) (by omega)⟩) r3, fun e => ?_⟩
  · rw [← r2 k a b]
    obtain rfl | rfl | rfl := (by omega : k = 1 ∨ k = 2 ∨ k = 3)
    · exact lKc h (key := 270337) (by decide +kernel) f1
    · exact lKc h (key := 270338) (by decide +kernel) f2
    · exact lKc h (key := 270339) (by decide +kernel) f3
  · rw [k4] at e
    exact lSide_x (a := lKept N) (c := lRow8 N) (a2 := lKept N1) (c2 := lRow8 N1) (lKc h (key := 806912) (by decide +kernel) hn2) (ck _ (by decide) (by decide)) (fun q => ⟨lKc h (key := 806913) (by decide +kernel) (and_inv (lOrT gT q)).2, ck _ (by decide) (by decide)⟩) (fun q => ⟨lKc h (key := 806914) (by decide +kernel) (and_inv (lOrT gS q)).2, ck _ (by decide) (by decide)⟩) (fun q => ⟨lKc h (key := 806915) (by decide +kernel) (and_inv (lOrT gC q)).2, fun j hj => ck (1081344 + (30 + j)) (by omega) (by omega)⟩) (r4 e)
/-- the check's calls -/
theorem lRel_m {a b c : Prop} {N N1 : mMem} (ha : lFT = true → a) (hb : lFS = true → b) (hc : lFC = true → c) (mv : zMv N N1) (hf : zF a b c N N1) (hr : lRel N) : lRel N1 := by
  obtain ⟨f5, f6, fa, fb, fc, f8⟩ := hf
  have lo := fun key (h : key < 1075200) => mv.2.2 key h
  obtain ⟨r1, r2, r3, r4⟩ := hr
  refine ⟨f5.trans (r1.trans (lo 4 (by decide)).symm), fun k u v => (lo _ (by omega)).trans (r2 k u v), lSide_x (a := lRing N) (c := lRow6 N) (a2 := lRing N1) (c2 := lRow6 N1) (lo _ (by decide)) f6 (fun q => ⟨lo _ (by decide), fa (ha q)⟩) (fun q => ⟨lo _ (by decide), fb (hb q)⟩) (fun q => ⟨lo _ (by decide), fun j hj => by
    have e := fc (hc q) j hj
    show mAtk N1 (1077248 + (30 + j)) = mAtk N (1077248 + (30 + j))
    rw [show 1077248 + (30 + j) = 1077278 + j by omega]
    exact e⟩) r3, fun e => ?_⟩
  rw [lo 4 (by decide)] at e
  exact lSide_all (a := lKept N) (c := lRow8 N) (a2 := lKept N1) (c2 := lRow8 N1) (fun k hk => lo (806912 + k) (by omega)) (fun k hk => f8 k hk) (r4 e)
theorem i32_01 {v : Int32} {k : Int} (h : v.toInt = k) (hk : k = 0 ∨ k = 1) : v = Int32.ofInt k := Int32.toInt_inj.mp (by rcases hk with rfl | rfl <;> rw [h] <;> decide)
theorem lRel_image {N N1 N2 : mMem} {t v v2 : Int32} (hr : lRel N) (hc : cImg N N1 t v) (hi : zImg N1 N2 t v2) (mv : zMv N1 N2) : lRel N2 ∧ v2 = v := by
  have lo := fun key (h : key < 1075200) => mv.2.2 key h
  have hr0 := hr
  obtain ⟨r1, r2, r3, r4⟩ := hr
  rcases hc with ⟨c1, c2, c3, c4, c5, c6, c7⟩ | ⟨c1, c2, c3, c4, c5⟩ | ⟨c1, c2, c3, c4⟩
  · rcases hi with ⟨i1, i2, i3, i4, i5⟩ | ⟨i1, -⟩ | ⟨i1, -⟩
    · refine ⟨⟨i3.trans (c3.symm.trans (lo 4 (by decide)).symm), fun k u w => ?_, lSide_all (a := lRing N) (c := lRow6 N) (fun k hk => ?_) (fun k hk => ?_) r3, fun _ => lSide_all (a := lRing N) (c := lRow6 N) (fun k hk => ?_) (fun k hk => ?_) r3⟩, (i32_01 i2 (.inr rfl)).trans (i32_01 c2 (.inr rfl)).symm⟩
      · rw [lo _ (by omega), c6 _ (cTrk_o (o := 132) (by omega) (by omega)) (by omega) (by omega)]
        exact r2 k u w
      · exact (lo _ (by omega)).trans (c6 _ (cTrk_o (o := 1) (by omega) hk) (by omega) (by omega))
      · exact (i4 k hk).trans (c5 _ (by omega) (by omega))
      · exact (lo _ (by omega)).trans (c7 k hk)
      · exact (i5 k hk).trans (c5 _ (by omega) (by omega))
    · omega
    · omega
  · have k4 := c4.2.2 4 (by decide +kernel) (by decide)
    rcases hi with ⟨i1, -⟩ | ⟨i1, i2, i3, i4, i5, i6⟩ | ⟨i1, i2, i3, -⟩
    · omega
    · have r4 := r4 (by rw [c3]; intro e; exact absurd (Value.int.inj e) (by decide))
      have rr : lSide (lKept N) (lRow8 N) → lSide (lKept N2) (lRow8 N2) := lSide_all (fun k hk => (lo _ (by omega)).trans (c4.2.2 _ (cTrk_o (o := 394) (by omega) hk) (by omega))) (fun k hk => (i6 k hk).trans (c4.2.1 _ (by omega) (by omega)))
      refine ⟨⟨i4.trans (c3.symm.trans (k4.symm.trans (lo 4 (by decide)).symm)), fun k u w => ?_, lSide_all (a := lKept N) (c := lRow8 N) (fun k hk => ?_) (fun k hk => ?_) r4, fun _ => rr r4⟩, (i32_01 i2 (.inr rfl)).trans (i32_01 c2 (.inr rfl)).symm⟩
      · rw [lo _ (by omega), c4.2.2 _ (cTrk_o (o := 132) (by omega) (by omega)) (by omega)]
        exact r2 k u w
      · exact (lo _ (by omega)).trans (c5 k hk)
      · exact (i5 k hk).trans (c4.2.1 _ (by omega) (by omega))
    · rw [c4.2.1 _ (by decide) (by decide), r1, c3] at i3
      exact absurd (Value.int.inj i3) (by decide)
  · subst c4
    rcases hi with ⟨i1, -⟩ | ⟨i1, i2, i3, -⟩ | ⟨i1, i2, i3, i4⟩
    · omega
    · exact absurd (r1.trans c3) i3
    · exact ⟨lRel_m (fun _ => trivial) (fun _ => trivial) (fun _ => trivial) mv i4 hr0, (i32_01 i2 (.inl rfl)).trans (i32_01 c2 (.inl rfl)).symm⟩
theorem lRel_begin {b : Nat} {N N1 N2 : mMem} {n v v2 : Int32} (hr : lRel N) (hc : cBeg N N1 n v) (hi : zBeg N1 N2 n v2) (mv : zMv N1 N2) (hI : zInv b N2) : lRel N2 ∧ v2 = v := by
  have lo := fun key (h : key < 1075200) => mv.2.2 key h
  have hr0 := hr
  obtain ⟨r1, r2, r3, r4⟩ := hr
  rcases hc with ⟨c1, c2, c3, c4, c5, c6⟩ | ⟨c1, c2, c3⟩
  · rcases hi with ⟨i1, i2, i3, i4, i5, i6⟩ | ⟨i1, -⟩
    · have k4 := c4.2.2 4 (by decide +kernel) (by decide)
      obtain ⟨x, x1, x2, -, -⟩ := zN_cell hI (k := 6) (by omega)
      have ex := i4 6 (by omega)
      rw [x2] at ex
      have ex : x.toInt = n.toInt - 3 := ex
      refine ⟨⟨i5.trans ((c4.2.1 _ (by decide) (by decide)).trans (r1.trans (k4.symm.trans (lo 4 (by decide)).symm))), fun k u w => ?_, lSide_0 (n := n) (x := x) (by omega) ((lo _ (by decide)).trans c5) (fun k u w => ?_) x1 (fun k hk hk6 => ?_), fun e => ?_⟩, (i32_01 i3 (.inr rfl)).trans (i32_01 c3 (.inr rfl)).symm⟩
      · rw [lo _ (by omega), c4.2.2 _ (cTrk_o (o := 132) (by omega) (by omega)) (by omega)]
        exact r2 k u w
      · show mAtk N2 (2048 + k) = _
        rw [lo _ (by omega), c6 k u w]
        exact r2 k u w
      · obtain ⟨y, y1, y2, -, -⟩ := zN_cell hI (k := k) hk
        have ey := i4 k hk
        unfold zNew at ey
        rw [y2, nbeq_f hk6] at ey
        have ey : y.toInt = 0 := ey
        rw [← i32_01 ey (.inl rfl)]
        exact y1
      · rw [lo 4 (by decide), k4] at e
        exact lSide_all (fun k hk => (lo _ (by omega)).trans (c4.2.2 _ (cTrk_o (o := 394) (by omega) hk) (by omega))) (fun k hk => (i6 k hk).trans (c4.2.1 _ (by omega) (by omega))) (r4 e)
    · exact absurd ⟨c1, c2⟩ i1
  · subst c3
    rcases hi with ⟨i1, i2, -⟩ | ⟨i1, i2, i3⟩
    · exact absurd ⟨i1, i2⟩ c1
    · exact ⟨lRel_m (fun _ => trivial) (fun _ => trivial) (fun _ => trivial) mv i3 hr0, (i32_01 i2 (.inl rfl)).trans (i32_01 c2 (.inl rfl)).symm⟩

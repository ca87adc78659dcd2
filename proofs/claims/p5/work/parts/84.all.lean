/-! ===== both sides together: what a call of the class keeps, what a call of the check keeps; written by wip/box/gen84.py ===== -/
noncomputable def zAll (b : Nat) (N : mMem) : Prop := zGood zC0 N ∧ zInv b N
theorem zAll_le {b c : Nat} {N : mMem} (h : zAll b N) (hbc : b ≤ c) : zAll c N := ⟨h.1, zInv_le h.2 hbc⟩
theorem zSc0_low {key : Nat} {s : (Int × Int) ⊕ Nat} (h : zSc0 key = some s) : key < 1075200 := by
  unfold zSc0 zSc1 at h
  cases c : (Nat.blt (key / 2048) 525 && Nat.blt (key % 2048) (zObj (key / 2048)).2.1) with
  | false => rw [c] at h; cases h
  | true =>
    have := blt_lt (and_inv c).1
    omega
/-- the check's calls keep the class -/
theorem zGood_m {N N1 : mMem} (hc : zGood zC0 N) (mv : zMv N N1) (hr : zGood zR9 N1) : zGood zC0 N1 := by
  refine ⟨⟨hr.1.1, fun o ho => ?_⟩, fun key hk s hs => ?_, fun key hk c h => (by cases h)⟩
  · obtain ⟨a, b, c⟩ := hr.1.2 o ho
    exact ⟨a, b, c⟩
  · have hs : zSc0 key = some s := hs
    rw [mv.2.2 key (zSc0_low hs)]
    exact hc.2.1 key hk s hs
/-- the class's calls keep the check -/
theorem zInv_c {b : Nat} {N N1 : mMem} (hI : zInv b N) (hc : zGood zC0 N1) (hs : ∀ key, 1075200 ≤ key → key < 2097152 → mAtk N1 key = mAtk N key) : zInv b N1 := by
  have row : ∀ o k, 525 ≤ o → o < 1024 → k < 2048 → mSlot (mObj N1 o) k = mSlot (mObj N o) k := fun o k h1 h2 hk => by
    have e := hs (o * 2048 + k) (by omega) (by omega)
    rw [mAtk_key _ hk, mAtk_key _ hk] at e
    exact e
  refine ⟨⟨⟨hc.1.1, fun o ho => ?_⟩, fun key hk s h => ?_, fun key hk c h => ?_⟩, zRok_ext (fun k hk => zRow_eq (row 526 k (by omega) (by omega) (by omega))) hI.2.1, ?_⟩
  · obtain ⟨a, b, c⟩ := hc.1.2 o ho
    exact ⟨a, b, c⟩
  · have q : zRs1 (key / 2048) (key % 2048) = some s := h
    have lo : 1075200 ≤ key := by
      by_cases e : key / 2048 = 526
      · omega
      · by_cases e2 : key / 2048 = 525
        · omega
        · unfold zRs1 at q
          rw [nbeq_f e, nbeq_f e2] at q
          cases q
    rw [hs key lo hk]
    exact hI.1.2.1 key hk s h
  · have q : c ∈ (bif Nat.beq (key / 2048) 526 then zRc1 (key % 2048) else []) := h
    cases e : Nat.beq (key / 2048) 526 with
    | false => rw [e] at q; cases q
    | true =>
      rw [e, cond_true] at q
      obtain ⟨m1, m2, a1, e1, a2, b1, e2, b2⟩ := zRc_at (k := key % 2048) (by omega) q
      have z := hI.1.2.2 key hk c h
      intro u v hu hv
      rw [hs c.1 (by omega) (by omega)] at hu
      rw [hs c.2.2.2.1 (by omega) (by omega)] at hv
      exact z u v hu hv
  · rcases hI.2.2 with q | q
    · exact .inl ((hs _ (by decide) (by decide)).trans q)
    · exact .inr (zRok_ext (fun k hk => zRow_eq (row 528 k (by omega) (by omega) (by omega))) q)
noncomputable def zClB (mi : Nat) (as : List zA) (r : Option (Bool × (Int × Int))) (q : Nat) : Bool := (zCt mi).any fun i => decide (zSa i = as) && (decide (zSr i = r) && ((zSc i).isEmpty && (Nat.ble (zSf i) 10 && (Nat.ble (zSo i) 300 && Nat.beq (zSq i) q))))
theorem zClass {mi q b : Nat} {as : List zA} {r : Option (Bool × (Int × Int))} {XN : Nat → Nat} {XF : Nat → Nat → Int32} {N : mMem} {bs : List Value} (hB : zClB mi as r q = true) (HC : ∀ mi, ∀ i ∈ zCt mi, zVal zC0 zXt mTab mInf XN XF mi i) (hI : zAll b N) (ha : sAll zArV as bs) :
    ∃ v N1 k, mRuns mTab mInf XN XF 10 300 mi (0, lv_args 0 bs, [], N) (v, N1) ∧ zAll b N1 ∧ zAnV r v ∧ N1.2.1 = N.2.1 ∧ zRl zC0 zXt q k N N1 := by
  obtain ⟨i, hi, h⟩ := List.any_eq_true.mp hB
  obtain ⟨h1, g1⟩ := and_inv h
  obtain ⟨h2, g2⟩ := and_inv g1
  obtain ⟨h3, g3⟩ := and_inv g2
  obtain ⟨h4, g4⟩ := and_inv g3
  obtain ⟨h5, h6⟩ := and_inv g4
  have h1 := of_decide_eq_true h1
  have h2 := of_decide_eq_true h2
  have h3 := List.isEmpty_iff.mp h3
  have h4 := Nat.le_of_ble_eq_true h4
  have h5 := Nat.le_of_ble_eq_true h5
  have h6 := Nat.eq_of_beq_eq_true h6
  obtain ⟨v, N1, r1, r2, r3, r4, -⟩ := HC mi i hi N bs trivial hI.1 (by rw [h1]; exact ha) (fun c hc => by rw [h3] at hc; cases hc) (fun key _ h => by cases h)
  rw [h6] at r3
  rw [h2] at r4
  refine ⟨v, N1, _, mRuns_more r1 h4 h5, ⟨r2, zInv_c hI.2 r2 (fun key a b => r3.2.2.2.1 key b ?_)⟩, r4, r3.2.2.1, r3⟩
  show zKc q key = true
  unfold zKc
  rw [Nat.ble_eq.mpr a]
  cases Nat.beq q 1 <;> rfl
/-- a call of the check, as it is agreed of -/
theorem zCheck {mi q b : Nat} {as : List zA} {r : Option (Bool × (Int × Int))} {XN : Nat → Nat} {XF : Nat → Nat → Int32} {N : mMem} {bs : List Value} (hB : (List.range 8).all (zPubB mi as r q) = true) (hq : q = 0 ∨ q = 2 ∨ q = 3) (H : ∀ mi, ∀ i ∈ zQt mi, zVal zR9 zXp mTab mInf XN XF mi i) (hI : zAll b N) (hb : b ≤ 2147000000) (ha : sAll zArV as bs) :
    ∃ v N1, mRuns mTab mInf XN XF 10 300 mi (0, lv_args 0 bs, [], N) (v, N1) ∧ zAll (b + 1) N1 ∧ zAnV r v ∧ N1.2.1 = N.2.1 ∧ zRl zR9 zXp q 1 N N1 := by
  obtain ⟨v, N1, r1, r2, r3, r4⟩ := zPub hB hq H hI.2 hb ha
  have mv := zMv_rl r4
  exact ⟨v, N1, r1, ⟨zGood_m hI.1 mv r2.1, r2⟩, r3, mv.2.1, r4⟩

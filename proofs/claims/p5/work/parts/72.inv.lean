/-! ===== what the check's memory keeps from call to call ===== -/
noncomputable def zRow (N : mMem) (o k : Nat) : Int := match mSlot (mObj N o) k with
  | .int x => x.toInt
  | _ => 0
theorem zRow_int {N : mMem} {o k : Nat} {x : Int32} (h : mSlot (mObj N o) k = .int x) : zRow N o k = x.toInt := by unfold zRow; rw [h]
theorem zRow_eq {N N1 : mMem} {o o1 k : Nat} (h : mSlot (mObj N1 o1) k = mSlot (mObj N o) k) : zRow N1 o1 k = zRow N o k := by unfold zRow; rw [h]
theorem zRow_N (N : mMem) {k : Nat} (h : k < 2048) : zRow N 526 k = zN N k := by
  unfold zRow zN
  rw [y_at N h]
  cases mSlot (mObj N 526) k <;> rfl
noncomputable def zChv (c : zC) (v : Nat → Int) : Prop := (c.2.1 ≤ c.2.2.1 → c.2.1 ≤ v (c.1 - 1077248) → v (c.1 - 1077248) ≤ c.2.2.1 → c.2.2.2.2.1 ≤ v (c.2.2.2.1 - 1077248) ∧ v (c.2.2.2.1 - 1077248) ≤ c.2.2.2.2.2) ∧ (c.2.2.1 < c.2.1 → v (c.2.2.2.1 - 1077248) + c.2.2.2.2.1 < v (c.1 - 1077248) + c.2.2.2.2.2)
noncomputable def zPv (v : Nat → Int) : Prop := ∀ i : Nat, i < 100 → (i : Int) < v 9 → v (710 + 7 * i) ≠ 1 → 10 ≤ v (714 + 7 * i) ∧ v (714 + 7 * i) ≤ 500
noncomputable def zBcl (v : Nat → Int) : Prop := (∀ k, k < 1850 → (zRsn k).1 ≤ v k ∧ v k ≤ (zRsn k).2) ∧ ∀ k, k < 2048 → ∀ c ∈ zRc1 k, zChv c v
/-- one STATION that isn't OUT -/
noncomputable def zOne (v : Nat → Int) : Prop := ∃ j : Nat, j < 8 ∧ (j : Int) < v 6 + 3 ∧ v (76 + 84 * j) = 0
/-- of a row: boxes and clauses, bids, one STATION that isn't OUT, time, counters -/
noncomputable def zRok (b : Nat) (v : Nat → Int) : Prop := zBcl v ∧ zPv v ∧ zOne v ∧ v 7 ≤ 30000 ∧ v 10 ≤ (b : Int) ∧ v 11 ≤ (b : Int)
noncomputable def zInv (b : Nat) (N : mMem) : Prop := zGood zR9 N ∧ zRok b (zRow N 526) ∧ (mAtk N 1075205 = .int 0 ∨ zRok b (zRow N 528))
theorem zRc_at {k : Nat} {c : zC} (hk : k < 2048) (hc : c ∈ zRc1 k) : ∃ m1 m2 : Nat, c.1 = 1077248 + m1 ∧ c.1 - 1077248 = m1 ∧ m1 < 1850 ∧ c.2.2.2.1 = 1077248 + m2 ∧ c.2.2.2.1 - 1077248 = m2 ∧ m2 < 1850 := by
  have q := List.all_eq_true.mp (zRc_chk k hk) c hc
  simp only [Bool.and_eq_true, decide_eq_true_eq, Nat.beq_eq, Nat.blt_eq] at q
  obtain ⟨q1, q2, q3, q4, q5, q6, q7, q8⟩ := q
  exact ⟨c.1 - 1077248, c.2.2.2.1 - 1077248, by omega, rfl, by omega, by omega, rfl, by omega⟩
theorem zBcl_ext {v w : Nat → Int} (h : ∀ k, k < 1850 → w k = v k) (hv : zBcl v) : zBcl w := by
  refine ⟨fun k hk => by rw [h k hk]; exact hv.1 k hk, fun k hk c hc => ?_⟩
  have q := hv.2 k hk c hc
  obtain ⟨m1, m2, -, e1, a, -, e2, b⟩ := zRc_at hk hc
  unfold zChv at q ⊢
  rw [e1, e2] at q ⊢
  rw [h _ a, h _ b]
  exact q
theorem zPv_ext {v w : Nat → Int} (h : ∀ k, k < 1850 → w k = v k) (hv : zPv v) : zPv w := fun i hi a b => by
  rw [h 9 (by omega)] at a
  rw [h (710 + 7 * i) (by omega)] at b
  rw [h (714 + 7 * i) (by omega)]
  exact hv i hi a b
theorem zRok_ext {b : Nat} {v w : Nat → Int} (h : ∀ k, k < 1850 → w k = v k) (hv : zRok b v) : zRok b w := by
  obtain ⟨a, p, ⟨j, j1, j2, j3⟩, t, c1, c2⟩ := hv
  refine ⟨zBcl_ext h a, zPv_ext h p, ⟨j, j1, by rw [h 6 (by omega)]; exact j2, by rw [h (76 + 84 * j) (by omega)]; exact j3⟩, by rw [h 7 (by omega)]; exact t, by rw [h 10 (by omega)]; exact c1, by rw [h 11 (by omega)]; exact c2⟩
theorem zRok_le {b c : Nat} {v : Nat → Int} (h : zRok b v) (hbc : b ≤ c) : zRok c v := by
  obtain ⟨a, p, o, t, c1, c2⟩ := h
  exact ⟨a, p, o, t, by omega, by omega⟩
theorem zInv_le {b c : Nat} {N : mMem} (h : zInv b N) (hbc : b ≤ c) : zInv c N := ⟨h.1, zRok_le h.2.1 hbc, h.2.2.imp id fun q => zRok_le q hbc⟩
/-- memories alike but for a row of numbers -/
noncomputable def yS (N M : mMem) (a : Nat) : Prop := M.1 = N.1 ∧ M.2.1 = N.2.1 ∧ (∀ o, o < 529 → (mObj M o).1 = (mObj N o).1 ∧ (mObj M o).2.1 = (mObj N o).2.1) ∧ (∀ o j, o < 1024 → j < 2048 → ¬ (o = a ∧ j < 1850) → mSlot (mObj M o) j = mSlot (mObj N o) j) ∧ ∀ j, j < 1850 → ∃ x, mSlot (mObj M a) j = .int x
theorem yS_rw {N M : mMem} {a : Nat} {f : Nat → Value} (h : yRw N M a f 0 1850) (ha : a < 529) (hf : ∀ j, j < 1850 → ∃ x, f j = .int x) : yS N M a := by
  obtain ⟨h1, h2, h3, h4⟩ := h
  refine ⟨h1, h2, h3, fun o j ho hj hn => ?_, fun j hj => ?_⟩
  · rw [h4 o j ho hj, if_neg (fun q => hn ⟨q.1, q.2.2⟩)]
  · rw [h4 a j (by omega) (by omega), if_pos ⟨rfl, Nat.zero_le _, hj⟩]
    exact hf j hj
theorem zGood_int {N : mMem} (h : zGood zR9 N) {k : Nat} (hk : k < 1850) : ∃ x : Int32, mSlot (mObj N 526) k = .int x ∧ (zRsn k).1 ≤ x.toInt ∧ x.toInt ≤ (zRsn k).2 := by
  obtain ⟨x, a, b⟩ := h.2.1 (1077248 + k) (by omega) (.inl (zRsn k)) (by
    have := zRs_now (key := 1077248 + k) (by omega) (by omega)
    rw [show (1077248 + k) % 2048 = k by omega] at this
    exact this)
  rw [y_at N (by omega)] at a
  exact ⟨x, a, b⟩
theorem zGood_row {N : mMem} (h : zGood zR9 N) : zBcl (zRow N 526) := by
  refine ⟨fun k hk => ?_, fun k hk c hc => ?_⟩
  · obtain ⟨x, a, b⟩ := zGood_int h hk
    rw [zRow_int a]
    exact b
  · obtain ⟨m1, m2, a1, e1, a2, b1, e2, b2⟩ := zRc_at hk hc
    obtain ⟨x, x1, -⟩ := zGood_int h a2
    obtain ⟨y, y1, -⟩ := zGood_int h b2
    have q := h.2.2 (1077248 + k) (by omega) c (by
      show c ∈ (bif Nat.beq ((1077248 + k) / 2048) 526 then zRc1 ((1077248 + k) % 2048) else [])
      rw [show (1077248 + k) / 2048 = 526 by omega, show (1077248 + k) % 2048 = k by omega, Nat.beq_refl, cond_true]
      exact hc) x y (by rw [a1, y_at N (by omega)]; exact x1) (by rw [b1, y_at N (by omega)]; exact y1)
    unfold zChv
    rw [e1, e2, zRow_int x1, zRow_int y1]
    exact q
theorem yS_shape {N M : mMem} {a : Nat} (h : yS N M a) (ha : 526 ≤ a) (ha2 : a < 529) (hg : zGood zR9 N) : zShape zR9 M := by
  obtain ⟨h1, h2, h3, h4, h5⟩ := h
  refine ⟨h1.trans hg.1.1, fun o ho => ?_⟩
  obtain ⟨g1, g2, g3⟩ := hg.1.2 o ho
  refine ⟨(h3 o ho).1.trans g1, (h3 o ho).2.trans g2, fun e k k1 k2 => ?_⟩
  by_cases c : o = a ∧ k < 1850
  · obtain ⟨rfl, c⟩ := c
    exact h5 k c
  · rw [h4 o k (by omega) k2 c]
    exact g3 e k k1 k2
theorem yS_good {N M : mMem} (h : yS N M 526) (hg : zGood zR9 N) (hb : zBcl (zRow M 526)) : zGood zR9 M := by
  have sh := yS_shape h (by omega) (by omega) hg
  obtain ⟨h1, h2, h3, h4, h5⟩ := h
  refine ⟨sh, fun key hk s hs => ?_, fun key hk c hc => ?_⟩
  · by_cases e : key / 2048 = 526
    · by_cases e2 : key % 2048 < 1850
      · have q : zRs key = some s := hs
        rw [zRs_now e e2] at q
        cases q
        obtain ⟨x, hx⟩ := h5 (key % 2048) e2
        have b := hb.1 (key % 2048) e2
        rw [zRow_int hx] at b
        refine ⟨x, ?_, b⟩
        show mSlot (mObj M (key / 2048)) (key % 2048) = _
        rw [e]
        exact hx
      · have q : zRs1 (key / 2048) (key % 2048) = some s := hs
        unfold zRs1 at q
        rw [e, show Nat.blt (key % 2048) 1850 = false from by
          cases c : Nat.blt (key % 2048) 1850 with
          | false => rfl
          | true => exact absurd (blt_lt c) e2] at q
        cases q
    · have q : mAtk M key = mAtk N key := h4 (key / 2048) (key % 2048) (by omega) (by omega) (fun c => e c.1)
      rw [q]
      exact hg.2.1 key hk s hs
  · have q : c ∈ (bif Nat.beq (key / 2048) 526 then zRc1 (key % 2048) else []) := hc
    cases e : Nat.beq (key / 2048) 526 with
    | false => rw [e] at q; cases q
    | true =>
      rw [e, cond_true] at q
      have z := hb.2 (key % 2048) (by omega) c q
      obtain ⟨m1, m2, a1, e1, a2, b1, e2, b2⟩ := zRc_at (k := key % 2048) (by omega) q
      intro x y hx hy
      rw [a1, y_at M (by omega)] at hx
      rw [b1, y_at M (by omega)] at hy
      unfold zChv at z
      rw [e1, e2, zRow_int hx, zRow_int hy] at z
      exact z
theorem yS_oth {N M : mMem} {a : Nat} (h : yS N M a) (ha : 526 < a) (ha2 : a < 529) (hg : zGood zR9 N) : zGood zR9 M := by
  have sh := yS_shape h (by omega) ha2 hg
  obtain ⟨h1, h2, h3, h4, h5⟩ := h
  have same : ∀ key, key < 2097152 → key / 2048 ≠ a → mAtk M key = mAtk N key := fun key hk e => h4 (key / 2048) (key % 2048) (by omega) (by omega) (fun c => e c.1)
  refine ⟨sh, fun key hk s hs => ?_, fun key hk c hc => ?_⟩
  · have e : key / 2048 ≠ a := fun e => by
      have q : zRs1 (key / 2048) (key % 2048) = some s := hs
      unfold zRs1 at q
      rw [nbeq_f (show key / 2048 ≠ 526 by omega), nbeq_f (show key / 2048 ≠ 525 by omega)] at q
      cases q
    rw [same key hk e]
    exact hg.2.1 key hk s hs
  · have q : c ∈ (bif Nat.beq (key / 2048) 526 then zRc1 (key % 2048) else []) := hc
    cases e : Nat.beq (key / 2048) 526 with
    | false => rw [e] at q; cases q
    | true =>
      rw [e, cond_true] at q
      obtain ⟨m1, m2, a1, e1, a2, b1, e2, b2⟩ := zRc_at (k := key % 2048) (by omega) q
      have z := hg.2.2 key hk c hc
      intro x y hx hy
      rw [same c.1 (by omega) (by omega)] at hx
      rw [same c.2.2.2.1 (by omega) (by omega)] at hy
      exact z x y hx hy
theorem zPv_N {N : mMem} : zPv (zRow N 526) ↔ zPm N := by
  constructor
  · intro h i hi a b
    have q := h i hi (by rw [zRow_N N (by omega)]; exact a) (by rw [zRow_N N (by omega)]; exact b)
    rw [zRow_N N (by omega)] at q
    exact q
  · intro h i hi a b
    rw [zRow_N N (by omega)] at a b ⊢
    exact h i hi a b
theorem zInv_pm {b : Nat} {N : mMem} (h : zInv b N) : zPm N := zPv_N.mp h.2.1.2.1
/-- cells that all calls keep but those that tell them -/
noncomputable def zKept (N N1 : mMem) : Prop := mAtk N1 1075205 = mAtk N 1075205 ∧ mAtk N1 1077254 = mAtk N 1077254 ∧ mAtk N1 1077255 = mAtk N 1077255 ∧ (∀ j, j < 8 → mAtk N1 (1077324 + 84 * j) = mAtk N (1077324 + 84 * j)) ∧ ∀ k, k < 1850 → mAtk N1 (1081344 + k) = mAtk N (1081344 + k)
theorem y_at8 (M : mMem) {k : Nat} (h : k < 2048) : mAtk M (1081344 + k) = mSlot (mObj M 528) k := mAtk_key M (o := 528) (k := k) h
noncomputable def zUpto (b : Nat) (N N1 : mMem) : Prop := ∀ key, key = 1077258 ∨ key = 1077259 → ∃ x y : Int32, mAtk N key = .int x ∧ mAtk N1 key = .int y ∧ y.toInt ≤ x.toInt + (b : Int)
theorem zInv_keepT {b c : Nat} {N N1 : mMem} (h : zInv b N) (hg : zGood zR9 N1) (hp : zPm N1) (k1 : mAtk N1 1075205 = mAtk N 1075205) (k2 : mAtk N1 1077254 = mAtk N 1077254) (k3 : zN N1 7 ≤ 30000) (k4 : ∀ j, j < 8 → mAtk N1 (1077324 + 84 * j) = mAtk N (1077324 + 84 * j)) (k5 : ∀ k, k < 1850 → mAtk N1 (1081344 + k) = mAtk N (1081344 + k)) (hc : zUpto c N N1) : zInv (b + c) N1 := by
  obtain ⟨g, ⟨b1, p1, ⟨j, j1, j2, j3⟩, t1, c1, c2⟩, im⟩ := h
  have row : ∀ k, k < 2048 → mAtk N1 (1077248 + k) = mAtk N (1077248 + k) → zRow N1 526 k = zRow N 526 k := fun k hk e => zRow_eq (by rw [← y_at N1 hk, ← y_at N hk]; exact e)
  have cnt : ∀ k, k = 10 ∨ k = 11 → zRow N1 526 k ≤ zRow N 526 k + (c : Int) := fun k hk => by
    obtain ⟨x, y, a, d, e⟩ := hc (1077248 + k) (by omega)
    rw [y_at _ (by omega)] at a d
    rw [zRow_int a, zRow_int d]
    exact e
  have d1 := cnt 10 (.inl rfl)
  have d2 := cnt 11 (.inr rfl)
  refine ⟨hg, ⟨zGood_row hg, zPv_N.mpr hp, ⟨j, j1, ?_, ?_⟩, ?_, by omega, by omega⟩, ?_⟩
  · rw [row 6 (by omega) k2]; exact j2
  · rw [row (76 + 84 * j) (by omega) (by
      have := k4 j j1
      rw [show 1077248 + (76 + 84 * j) = 1077324 + 84 * j by omega]
      exact this)]
    exact j3
  · rw [zRow_N N1 (by omega)]; exact k3
  · rcases im with im | im
    · exact .inl (k1.trans im)
    · exact .inr (zRok_ext (fun k hk => zRow_eq (by rw [← y_at8 N1 (by omega), ← y_at8 N (by omega)]; exact k5 k hk)) (zRok_le im (Nat.le_add_right b c)))
theorem zInv_keep {b c : Nat} {N N1 : mMem} (h : zInv b N) (hg : zGood zR9 N1) (hp : zPm N1) (hk : zKept N N1) (hc : zUpto c N N1) : zInv (b + c) N1 := by
  obtain ⟨k1, k2, k3, k4, k5⟩ := hk
  refine zInv_keepT h hg hp k1 k2 ?_ k4 k5 hc
  rw [zN_eq (N := N) (k := 7) k3, ← zRow_N N (by omega)]
  exact h.2.1.2.2.2.1
theorem zRk_kept {q : Nat} (hq : q = 0 ∨ q = 2 ∨ q = 3) {X : mMem → mMem → Prop} {k : Nat} {N N1 : mMem} (h : zRl zR9 X q k N N1) : zKept N N1 ∧ zUpto k N N1 := by
  have kk : ∀ key, key < 2097152 → zRkp q key = true → mAtk N1 key = mAtk N key := h.2.2.2.1
  refine ⟨⟨kk _ (by decide) ?_, kk _ (by decide) ?_, kk _ (by decide) ?_, fun j hj => kk _ (by omega) ?_, fun k hk => kk _ (by omega) ?_⟩, fun key hkey => ?_⟩
  · rcases hq with rfl | rfl | rfl <;> decide +kernel
  · rcases hq with rfl | rfl | rfl <;> decide +kernel
  · rcases hq with rfl | rfl | rfl <;> decide +kernel
  · obtain rfl | rfl | rfl | rfl | rfl | rfl | rfl | rfl := (by omega : j = 0 ∨ j = 1 ∨ j = 2 ∨ j = 3 ∨ j = 4 ∨ j = 5 ∨ j = 6 ∨ j = 7) <;> rcases hq with rfl | rfl | rfl <;> decide +kernel
  · unfold zRkp zRk1
    refine cond_i (fun _ => rfl) (fun _ => ?_)
    refine cond_i (fun e => by have := Nat.eq_of_beq_eq_true e; omega) (fun _ => ?_)
    exact cond_i (fun e => by have := Nat.eq_of_beq_eq_true e; omega) (fun _ => rfl)
  · have hr := h.2.2.2.2.1 key (by omega) (by
      show (Nat.beq key 1077258 || Nat.beq key 1077259) = true
      rcases hkey with rfl | rfl <;> rfl)
    exact hr
theorem zInv_room {b k : Nat} {N : mMem} (h : zInv b N) (hb : b + k ≤ 2147483647) : zRoom zR9 k N := fun key h1 h2 => by
  have h2 : (Nat.beq key 1077258 || Nat.beq key 1077259) = true := h2
  simp only [Bool.or_eq_true, Nat.beq_eq] at h2
  obtain ⟨-, ⟨-, -, -, -, c1, c2⟩, -⟩ := id h
  rcases h2 with rfl | rfl
  · obtain ⟨x, a, -⟩ := zGood_int h.1 (k := 10) (by omega)
    rw [zRow_int a] at c1
    exact ⟨x, by rw [show 1077258 = 1077248 + 10 by omega, y_at N (by omega)]; exact a, by omega⟩
  · obtain ⟨x, a, -⟩ := zGood_int h.1 (k := 11) (by omega)
    rw [zRow_int a] at c2
    exact ⟨x, by rw [show 1077259 = 1077248 + 11 by omega, y_at N (by omega)]; exact a, by omega⟩
/-! ===== calls that are agreed of ===== -/
noncomputable def zPubB (mi : Nat) (as : List zA) (r : Option (Bool × (Int × Int))) (q j : Nat) : Bool := (zQt mi).any fun i => decide (zSa i = as) && (decide (zSr i = r) && ((zSc i).all (fun c => decide (c = (1077324 + 84 * j, (0, 0))) || (Nat.beq c.1 1077254 && ((sILe c.2.1 ((j : Int) - 2) || sILe c.2.1 (-1)) && sILe 5 c.2.2))) && (Nat.ble (zSk i) 1 && (Nat.ble (zSf i) 10 && (Nat.ble (zSo i) 300 && Nat.beq (zSq i) q)))))
theorem zPub {mi q b : Nat} {as : List zA} {r : Option (Bool × (Int × Int))} {XN : Nat → Nat} {XF : Nat → Nat → Int32} {N : mMem} {bs : List Value} (hB : (List.range 8).all (zPubB mi as r q) = true) (hq : q = 0 ∨ q = 2 ∨ q = 3) (H : ∀ mi, ∀ i ∈ zQt mi, zVal zR9 zXp mTab mInf XN XF mi i) (hI : zInv b N) (hb : b ≤ 2147000000) (ha : sAll zArV as bs) :
    ∃ v N1, mRuns mTab mInf XN XF 10 300 mi (0, lv_args 0 bs, [], N) (v, N1) ∧ zInv (b + 1) N1 ∧ zAnV r v ∧ zRl zR9 zXp q 1 N N1 := by
  have hp := zInv_pm hI
  obtain ⟨g, ⟨b1, p1, ⟨j, j1, j2, j3⟩, t1, c1, c2⟩, im⟩ := id hI
  obtain ⟨i, hi, h⟩ := List.any_eq_true.mp (List.all_eq_true.mp hB j (List.mem_range.mpr j1))
  obtain ⟨h1, h⟩ := and_inv h
  obtain ⟨h2, h⟩ := and_inv h
  obtain ⟨h3, h⟩ := and_inv h
  obtain ⟨h4, h⟩ := and_inv h
  obtain ⟨h5, h⟩ := and_inv h
  obtain ⟨h6, h7⟩ := and_inv h
  have h1 := of_decide_eq_true h1
  have h2 := of_decide_eq_true h2
  have h4 := Nat.le_of_ble_eq_true h4
  have h5 := Nat.le_of_ble_eq_true h5
  have h6 := Nat.le_of_ble_eq_true h6
  have h7 := Nat.eq_of_beq_eq_true h7
  obtain ⟨v, N1, r1, r2, r3, r4, -⟩ := H mi i hi N bs ⟨hp, hp⟩ g (by rw [h1]; exact ha) (fun c hc => by
    have q := List.all_eq_true.mp h3 c hc
    rcases (Bool.or_eq_true _ _).mp q with q | q
    · have q := of_decide_eq_true q
      subst q
      obtain ⟨x, a, -⟩ := zGood_int g (k := 76 + 84 * j) (by omega)
      rw [zRow_int a] at j3
      exact ⟨x, by show mAtk N (1077324 + 84 * j) = _; rw [show 1077324 + 84 * j = 1077248 + (76 + 84 * j) by omega, y_at N (by omega)]; exact a, by show (0 : Int) ≤ _; omega, by show _ ≤ (0 : Int); omega⟩
    · obtain ⟨q1, q⟩ := and_inv q
      obtain ⟨q2, q3⟩ := and_inv q
      have q1 := Nat.eq_of_beq_eq_true q1
      obtain ⟨x, a, d1, d2⟩ := zGood_int g (k := 6) (by omega)
      rw [zRow_int a] at j2
      have d1 : -1 ≤ x.toInt := d1
      have d2 : x.toInt ≤ 5 := d2
      refine ⟨x, by rw [q1, show 1077254 = 1077248 + 6 by omega, y_at N (by omega)]; exact a, ?_, ?_⟩
      · rcases (Bool.or_eq_true _ _).mp q2 with q2 | q2
        · rw [sILe_d] at q2
          have := of_decide_eq_true q2
          omega
        · rw [sILe_d] at q2
          have := of_decide_eq_true q2
          omega
      · rw [sILe_d] at q3
        have := of_decide_eq_true q3
        omega) (zRoom_le (zInv_room hI (k := 1) (by omega)) h4)
  rw [h7] at r3
  have r3 : zRl zR9 zXp q 1 N N1 := zRl_le r3 h4
  obtain ⟨k1, k2⟩ := zRk_kept hq r3
  rw [h2] at r4
  exact ⟨v, N1, mRuns_more r1 h5 h6, zInv_keep hI r2 r3.2.2.2.2.2.2 k1 k2, r4, r3⟩

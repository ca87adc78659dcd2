/-! ===== what is agreed of a message's going holds ===== -/
theorem zSh_chk : ∀ k, k < 2048 → (zRc1 k).all (fun c => decide (c.1 ≠ 1077257 ∧ c.2.2.2.1 ≠ 1077257 ∧ c.1 < 2097152 ∧ c.2.2.2.1 < 2097152) && (decide (c.1 < 1077958 ∧ c.2.2.2.1 < 1077958) || (decide (1077958 ≤ c.1 ∧ 1077958 ≤ c.2.2.2.1 ∧ (c.1 - 1077958) / 7 = (c.2.2.2.1 - 1077958) / 7 ∧ c.1 < 1078658) && (decide (99 ≤ (c.1 - 1077958) / 7) || decide ((c.1 + 7, (c.2.1, (c.2.2.1, (c.2.2.2.1 + 7, c.2.2.2.2)))) ∈ zRc (c.1 + 7)))))) = true := by decide +kernel
theorem zRsn_sh : ∀ i, i < 693 → zRsn (710 + i) = zRsn (717 + i) := by decide +kernel
theorem y_at (M : mMem) {k : Nat} (h : k < 2048) : mAtk M (1077248 + k) = mSlot (mObj M 526) k := mAtk_key M (o := 526) (k := k) h
theorem yI_of {x : Int32} {n : Nat} (h : x.toInt = (n : Int)) : x = yI n := by
  have h1 := x.toInt_le
  have h2 : n < 2147483648 := by
    have : (n : Int) ≤ 2147483647 := by rw [← h]; exact h1
    omega
  exact Int32.toInt_inj.mp (h.trans (yI_int h2).symm)
section YGV
variable {XN : Nat → Nat} {XF : Nat → Nat → Int32} {zx : Nat → Bool} {con : Nat → List zS} {fr lo : Nat} {N M : mMem}
theorem yMod_good (h : zGood (zRw zx con) N) : yMod N := by
  obtain ⟨⟨h1, h2⟩, h3, -⟩ := h
  have q := h2 525 (by omega)
  have f : ∀ j s, zRs (1075200 + j) = some (.inr s) → j < 2048 → mSlot (mObj N 525) j = .ref s := fun j s a b => by
    have g := h3 (1075200 + j) (by omega) (.inr s) a
    rw [show 1075200 + j = 525 * 2048 + j by omega, mAtk_key N b] at g
    exact g
  refine ⟨h1, ⟨q.1, q.2.1⟩, ⟨f 1 526 rfl (by omega), f 2 527 rfl (by omega), f 6 528 rfl (by omega)⟩, fun o a b => ?_⟩
  have w : zWo (zRw zx con) o = (100, (1850, false)) := by
    obtain rfl | rfl | rfl := (by omega : o = 526 ∨ o = 527 ∨ o = 528)
    · rfl
    · rfl
    · rfl
  have q := h2 o b
  rw [w] at q
  exact ⟨q.1, q.2.1, fun k hk => q.2.2 rfl k hk (by omega)⟩
theorem yGone_at {r c : Nat} (h : yGone N M r c) (hc : c ≤ 99) {key : Nat} (hk : key < 2097152) : mAtk M key = if key = 1077257 then .int (yI c) else if 1077958 + 7 * r ≤ key ∧ key < 1077958 + 7 * c then mAtk N (key + 7) else mAtk N key := by
  show mSlot (mObj M (key / 2048)) (key % 2048) = _
  rw [h.2.2.2 (key / 2048) (key % 2048) (by omega) (by omega)]
  by_cases c1 : key = 1077257
  · rw [if_pos (by omega), if_pos c1]
  · rw [if_neg (by omega), if_neg c1]
    by_cases c2 : 1077958 + 7 * r ≤ key ∧ key < 1077958 + 7 * c
    · rw [if_pos (by omega), if_pos c2]
      have := y_at N (k := key % 2048 + 7) (by omega)
      rw [← this]
      congr 1
      omega
    · rw [if_neg (by omega), if_neg c2]
      rfl
theorem yGone_good {r c : Nat} (h : yGone N M r c) (hc : c ≤ 99) (hg : zGood (zRw zx con) N) : zGood (zRw zx con) M := by
  have hN := yMod_good hg
  obtain ⟨⟨h1, h2⟩, h3, h4⟩ := hg
  refine ⟨⟨h.1.trans h1, fun o ho => ?_⟩, fun key hk s hs => ?_, fun key hk q hq => ?_⟩
  · obtain ⟨a, b, d⟩ := h2 o ho
    refine ⟨(h.2.2.1 o ho).1.trans a, (h.2.2.1 o ho).2.trans b, fun e k e1 e2 => ?_⟩
    rw [h.2.2.2 o k (by omega) e2]
    by_cases c1 : o = 526 ∧ k = 9
    · rw [if_pos c1]; exact ⟨_, rfl⟩
    · rw [if_neg c1]
      by_cases c2 : o = 526 ∧ 710 + 7 * r ≤ k ∧ k < 710 + 7 * c
      · rw [if_pos c2]; exact (hN.2.2.2 526 (by omega) (by omega)).2.2 (k + 7) (by omega)
      · rw [if_neg c2]; exact d e k e1 e2
  · have hs : zRs key = some s := hs
    rw [yGone_at h hc hk]
    by_cases c1 : key = 1077257
    · rw [if_pos c1]
      subst c1
      have : s = .inl (0, 100) := by
        have e : zRs 1077257 = some (.inl (0, 100)) := rfl
        rw [e] at hs
        exact (Option.some.inj hs).symm
      rw [this]
      exact ⟨_, rfl, by rw [yI_int (by omega)]; show (0 : Int) ≤ _; omega, by rw [yI_int (by omega)]; show _ ≤ (100 : Int); omega⟩
    · rw [if_neg c1]
      by_cases c2 : 1077958 + 7 * r ≤ key ∧ key < 1077958 + 7 * c
      · rw [if_pos c2]
        refine h3 (key + 7) (by omega) s ?_
        show zRs (key + 7) = some s
        rw [← hs, zRs_now (by omega) (by omega), zRs_now (by omega) (by omega)]
        have e := zRsn_sh (key - 1077958) (by omega)
        rw [show (key + 7) % 2048 = 717 + (key - 1077958) by omega, show key % 2048 = 710 + (key - 1077958) by omega, e]
      · rw [if_neg c2]
        exact h3 key hk s hs
  · have hq : q ∈ zRc key := hq
    have hq0 := hq
    unfold zRc at hq
    cases e : Nat.beq (key / 2048) 526 with
    | false => rw [e] at hq; cases hq
    | true =>
      rw [e, cond_true] at hq
      have t := List.all_eq_true.mp (zSh_chk (key % 2048) (by omega)) q hq
      simp only [Bool.and_eq_true, Bool.or_eq_true, decide_eq_true_eq] at t
      obtain ⟨⟨t1, t2, t3, t4⟩, t⟩ := t
      have hz := h4 key hk q hq0
      have same : ¬ (1077958 + 7 * r ≤ q.1 ∧ q.1 < 1077958 + 7 * c) → ¬ (1077958 + 7 * r ≤ q.2.2.2.1 ∧ q.2.2.2.1 < 1077958 + 7 * c) → zCh q M := fun u v => by
        unfold zCh at hz ⊢
        rw [yGone_at h hc t3, yGone_at h hc t4, if_neg t1, if_neg t2, if_neg u, if_neg v]
        exact hz
      rcases t with t | ⟨⟨t5, t6, t7, t8⟩, t⟩
      · exact same (by omega) (by omega)
      · by_cases u : 1077958 + 7 * r ≤ q.1 ∧ q.1 < 1077958 + 7 * c
        · have v : 1077958 + 7 * r ≤ q.2.2.2.1 ∧ q.2.2.2.1 < 1077958 + 7 * c := by omega
          rcases t with t | t
          · omega
          · have hz := h4 (q.1 + 7) (by omega) _ t
            unfold zCh at hz ⊢
            rw [yGone_at h hc t3, yGone_at h hc t4, if_neg t1, if_neg t2, if_pos u, if_pos v]
            exact hz
        · exact same u (by omega)
theorem yGone_zN {r c k : Nat} (h : yGone N M r c) (hc : c ≤ 99) (hk : k < 1850) (h9 : k ≠ 9) : zN M k = if 710 + 7 * r ≤ k ∧ k < 710 + 7 * c then zN N (k + 7) else zN N k := by
  unfold zN
  rw [yGone_at h hc (by omega), if_neg (by omega)]
  by_cases e : 710 + 7 * r ≤ k ∧ k < 710 + 7 * c
  · rw [if_pos (by omega), if_pos e]
    rfl
  · rw [if_neg (by omega), if_neg e]
theorem yGone_due {r c : Nat} (hpm : zPm N) (h : yGone N M r c) (hc : c ≤ 99) (h9 : mAtk N 1077257 = .int (yI (c + 1))) : zXd N M ∧ (zDu N r = true → r ≤ c → zDc M < zDc N) := by
  have e7 : zN M 7 = zN N 7 := by rw [yGone_zN h hc (by omega) (by omega), if_neg (by omega)]
  have e9 : zN M 9 = (c : Int) := by
    rw [zN_int (k := 9) (x := yI c) (by rw [yGone_at h hc (by omega), if_pos rfl]), yI_int (by omega)]
  have n9 : zN N 9 = (c : Int) + 1 := by
    rw [zN_int (k := 9) h9, yI_int (by omega)]
    omega
  have hp : zPm N → zPm M := fun p i hi a b => by
    rw [e9] at a
    by_cases hir : i < r
    · rw [yGone_zN h hc (k := 710 + 7 * i) (by omega) (by omega), if_neg (by omega)] at b
      rw [yGone_zN h hc (k := 714 + 7 * i) (by omega) (by omega), if_neg (by omega)]
      exact p i hi (by omega) b
    · rw [yGone_zN h hc (k := 710 + 7 * i) (by omega) (by omega), if_pos (by omega), show 710 + 7 * i + 7 = 710 + 7 * (i + 1) by omega] at b
      rw [yGone_zN h hc (k := 714 + 7 * i) (by omega) (by omega), if_pos (by omega), show 714 + 7 * i + 7 = 714 + 7 * (i + 1) by omega]
      exact p (i + 1) (by omega) (by omega) b
  by_cases hr : r ≤ c
  · have hq : ∀ i, i < r → zDu M i = zDu N i := fun i hi => by
      unfold zDu
      rw [e7, e9, n9, yGone_zN h hc (by omega) (by omega), if_neg (by omega), decide_eq_true (p := (i : Int) < (c : Int)) (by omega), decide_eq_true (p := (i : Int) < (c : Int) + 1) (by omega)]
    have hs : ∀ i, r ≤ i → i < 99 → zDu M i = zDu N (i + 1) := fun i hi h9 => by
      unfold zDu
      by_cases e : i < c
      · rw [e7, e9, n9, yGone_zN h hc (by omega) (by omega), if_pos (by omega), decide_eq_true (p := (i : Int) < (c : Int)) (by omega), decide_eq_true (p := ((i + 1 : Nat) : Int) < (c : Int) + 1) (by omega), show 712 + 7 * (i + 1) = 712 + 7 * i + 7 by omega]
      · rw [e9, n9, decide_eq_false (p := (i : Int) < (c : Int)) (by omega), decide_eq_false (p := ((i + 1 : Nat) : Int) < (c : Int) + 1) (by omega), Bool.false_and, Bool.false_and]
    have hz := zCn_sh hq 99 (by omega) hs
    have h99 : zDu M 99 = false := by
      unfold zDu
      rw [e9, decide_eq_false (by omega), Bool.false_and]
    have hd : zDc M = zCn (zDu M) 99 := by
      show zCn (zDu M) 99 + (bif zDu M 99 then 1 else 0) = _
      rw [h99, cond_false, Nat.add_zero]
    have hd2 : zDc N = zCn (zDu N) (99 + 1) := rfl
    refine ⟨⟨⟨hpm, hp hpm⟩, e7, ?_⟩, fun hd3 _ => ?_⟩
    · rw [hd, hd2]; omega
    · rw [hd3] at hz
      rw [hd, hd2]
      have hz : zCn (zDu M) 99 + 1 = zCn (zDu N) (99 + 1) := hz
      omega
  · refine ⟨⟨⟨hpm, hp hpm⟩, e7, zCn_le 100 (fun i hi hq => ?_)⟩, fun _ h => absurd h hr⟩
    unfold zDu at hq ⊢
    obtain ⟨a, b⟩ := and_inv hq
    have a := of_decide_eq_true a
    rw [e9] at a
    rw [e7, yGone_zN h hc (by omega) (by omega), if_neg (by omega)] at b
    rw [n9, b, decide_eq_true (p := (i : Int) < (c : Int) + 1) (by omega)]
    rfl
theorem zRk_13 {key : Nat} (h : zRkp 13 key = true) : key ≠ 1077257 ∧ ¬ (1077958 ≤ key ∧ key < 1078658) := by
  unfold zRkp zRk1 at h
  have h := (cond_e h).2 rfl
  by_cases e : key / 2048 = 526
  · have h := (cond_e h).2 (nbeq_f (by omega))
    have h := (cond_e h).1 (by rw [e]; rfl)
    unfold zRk2 at h
    have h := (cond_e h).2 rfl
    have h := (cond_e h).2 rfl
    have h := (cond_e h).2 rfl
    have h := (cond_e h).2 rfl
    have h := not_e ((cond_e h).1 rfl)
    have h : ¬ (key % 2048 = 9 ∨ (710 ≤ key % 2048 ∧ key % 2048 < 1410)) := fun q => h (by
      simp only [Bool.or_eq_true, Bool.and_eq_true, Nat.beq_eq, Nat.ble_eq, Nat.blt_eq]
      exact q)
    omega
  · omega
theorem y165_val (hpm : zPm N) (hg : zGood (zRw zx con) N) {r : Nat} (hr : r ≤ 99) {x : Int32} (h9 : mAtk N 1077257 = .int x) (h1 : 1 ≤ x.toInt) (h2 : x.toInt ≤ 100) (hf : Nat.ble 1 fr = true) (hl : Nat.ble 22 lo = true) :
    ∃ M, mRuns mTab mInf XN XF fr lo 165 (0, lv_args 0 [.ref 525, .int (yI r)], [], N) (none, M) ∧ zGood (zRw zx con) M ∧ zRl (zRw zx con) zXd 13 0 N M ∧ (∃ y : Int32, mAtk M 1077257 = .int y ∧ y.toInt = x.toInt + (-1)) ∧ (zDu N r = true → zDc M < zDc N) := by
  have hN := yMod_good hg
  obtain ⟨c, hc⟩ : ∃ c : Nat, x.toInt = ((c + 1 : Nat) : Int) := ⟨(x.toInt - 1).toNat, by omega⟩
  have hx := yI_of hc
  subst hx
  have hc9 : c ≤ 99 := by omega
  obtain ⟨M, a, b⟩ := y165_run (XN := XN) (XF := XF) hN hr hc9 (by rw [← y_at N (by omega)]; exact h9) hf hl
  obtain ⟨d1, d2⟩ := yGone_due hpm b hc9 h9
  refine ⟨M, a, yGone_good b hc9 hg, ⟨fun e => (by cases e), b.1, b.2.1, fun key hk hw => ?_, fun key hk hw => ?_, d1⟩, ⟨yI c, by rw [yGone_at b hc9 (by omega), if_pos rfl], ?_⟩, fun hd => ?_⟩
  · obtain ⟨e1, e2⟩ := zRk_13 hw
    rw [yGone_at b hc9 hk, if_neg e1, if_neg (by omega)]
  · obtain ⟨q, hq⟩ := (zRw_ok zx con).2.2.2.1 key hw
    have hw : zRct key = true := hw
    obtain ⟨x, hx, -, -⟩ := hg.2.1 key hk _ hq
    refine ⟨x, x, hx, ?_, by omega⟩
    unfold zRct at hw
    simp only [Bool.or_eq_true, Nat.beq_eq] at hw
    rw [yGone_at b hc9 hk, if_neg (by omega), if_neg (by omega)]
    exact hx
  · rw [yI_int (by omega), hc]
    omega
  · refine d2 hd ?_
    unfold zDu at hd
    have := of_decide_eq_true (and_inv hd).1
    rw [zN_int (k := 9) h9, yI_int (by omega)] at this
    omega
theorem zV_165 : ∀ i ∈ zQt 165, zVal (zRw zx con) zXd mTab mInf XN XF 165 i := fun i hi => by
  have hi : i ∈ [(([(2, (525, (0, 0))), (0, (0, (0, 99)))], ([(1077257, (1, 100))], (none, (0, (1, (22, (13, (false, [(1077257, (-1))]))))))))  : zS)] := hi
  obtain rfl := List.mem_singleton.mp hi
  intro N bs hx0 hg ha hcell hroom
  obtain ⟨v1, m1, rfl, a1, ha⟩ := sAll_cons ha
  obtain ⟨v2, m2, rfl, a2, ha⟩ := sAll_cons ha
  obtain rfl := sAll_nil ha
  have a1 : v1 = .ref 525 := a1
  subst a1
  obtain ⟨w, rfl, l1, l2⟩ := a2
  have l1 : 0 ≤ w.toInt := l1
  have l2 : w.toInt ≤ 99 := l2
  obtain ⟨r, hr⟩ : ∃ r : Nat, w.toInt = (r : Int) := ⟨w.toInt.toNat, by omega⟩
  obtain rfl := yI_of hr
  obtain ⟨x, hx, x1, x2⟩ := hcell _ (List.mem_singleton.mpr rfl)
  obtain ⟨M, b1, b2, b3, ⟨y, b4, b5⟩, -⟩ := y165_val (XN := XN) (XF := XF) (fr := 1) (lo := 22) (r := r) hx0.1.1 hg (by omega) hx x1 x2 rfl rfl
  refine ⟨none, M, b1, b2, b3, rfl, fun e he => ?_⟩
  obtain rfl := List.mem_singleton.mp he
  exact ⟨x, y, hx, b4, b5⟩
end YGV

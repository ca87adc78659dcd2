/-! ===== the ring's arithmetic: what lies from one station to another; deadlines in the order in which the token comes ===== -/
noncomputable def dNx (n q : Nat) : Nat := if q + 1 < n then q + 1 else 0
noncomputable def dTd (f : Nat → Int) (n q s : Nat) : Int := dPfx f s - dPfx f q + (if s < q then dPfx f n else 0)
noncomputable def dPs (n q s : Nat) : Nat := if s < q then s + n - q else s - q
theorem dNx_lt {n q : Nat} (h : 0 < n) : dNx n q < n := by
  unfold dNx
  split <;> omega
theorem dNx_ne {n q : Nat} (h : 2 ≤ n) : dNx n q ≠ q := by
  unfold dNx
  split <;> omega
theorem dPfx_mn {f : Nat → Int} {m : Nat} (h : ∀ i, i < m → 0 ≤ f i) {k : Nat} (hk : k ≤ m) : dPfx f k ≤ dPfx f m := by
  obtain ⟨d, rfl⟩ : ∃ d, m = k + d := ⟨m - k, by omega⟩
  induction d with
  | zero => exact Int.le_refl _
  | succ d ih =>
    have e : dPfx f (k + (d + 1)) = dPfx f (k + d) + f (k + d) := rfl
    have := h (k + d) (by omega)
    have := ih (fun i hi => h i (by omega)) (by omega)
    omega
theorem dTd_0 (f : Nat → Int) (n q : Nat) : dTd f n q q = 0 := by
  unfold dTd
  rw [if_neg (by omega)]
  omega
theorem dTd_n {f : Nat → Int} {n q s : Nat} (hq : q < n) (hs : s < n) (hne : s ≠ q) : dTd f n (dNx n q) s = dTd f n q s - f q := by
  unfold dTd dNx
  by_cases h : q + 1 < n
  · rw [if_pos h, dPfx_s]
    by_cases c : s < q
    · rw [if_pos c, if_pos (by omega)]; omega
    · rw [if_neg c, if_neg (by omega)]; omega
  · have e : n = q + 1 := by omega
    subst e
    rw [if_neg h, if_neg (by omega), if_pos (by omega), dPfx_0, dPfx_s]
    omega
theorem dTd_q {f : Nat → Int} {n q : Nat} (hq : q < n) : dTd f n (dNx n q) q = dPfx f n - f q := by
  unfold dTd dNx
  by_cases h : q + 1 < n
  · rw [if_pos h, if_pos (by omega), dPfx_s]; omega
  · have e : n = q + 1 := by omega
    subst e
    rw [if_neg h, if_neg (by omega), dPfx_0, dPfx_s]; omega
theorem dTd_b {f : Nat → Int} {n q s : Nat} (h : ∀ i, i < n → 0 ≤ f i) (hq : q < n) (hs : s < n) : 0 ≤ dTd f n q s ∧ dTd f n q s ≤ dPfx f n := by
  unfold dTd
  have a := dPfx_mn (f := f) (m := n) h (k := q) (by omega)
  have b := dPfx_mn (f := f) (m := n) h (k := s) (by omega)
  have c := dPfx_mn (f := f) (m := s) (fun i hi => h i (by omega)) (k := 0) (by omega)
  have d := dPfx_mn (f := f) (m := q) (fun i hi => h i (by omega)) (k := 0) (by omega)
  rw [dPfx_0] at c d
  by_cases g : s < q
  · rw [if_pos g]
    have e := dPfx_mn (f := f) (m := q) (fun i hi => h i (by omega)) (k := s) (by omega)
    omega
  · rw [if_neg g]
    have e := dPfx_mn (f := f) (m := s) (fun i hi => h i (by omega)) (k := q) (by omega)
    omega
theorem dPs_n {n q s : Nat} (hq : q < n) (hs : s < n) (hne : s ≠ q) : dPs n (dNx n q) s + 1 = dPs n q s := by
  unfold dPs dNx
  by_cases h : q + 1 < n
  · rw [if_pos h]
    by_cases c : s < q
    · rw [if_pos c, if_pos (by omega)]; omega
    · rw [if_neg c, if_neg (by omega)]; omega
  · rw [if_neg h, if_neg (by omega), if_pos (by omega)]; omega
theorem dPs_q {n q : Nat} (hq : q < n) : dPs n (dNx n q) q = n - 1 := by
  unfold dPs dNx
  by_cases h : q + 1 < n
  · rw [if_pos h, if_pos (by omega)]; omega
  · rw [if_neg h, if_neg (by omega)]; omega
theorem dPs_0 (n q : Nat) : dPs n q q = 0 := by
  unfold dPs
  rw [if_neg (by omega)]; omega
theorem dPs_lt {n q s : Nat} (hq : q < n) (hs : s < n) : dPs n q s < n := by
  unfold dPs
  split <;> omega
/-- deadlines V, the token comes to q at D at the latest -/
noncomputable def dDue (n : Nat) (B now : Int) (c : Nat → Int) (q : Nat) (D : Int) (V : Nat → Int) : Prop :=
  (∀ s t, s < n → t < n → dPs n q s ≤ dPs n q t → V s ≤ V t) ∧ ∀ s, s < n → V s ≤ V q + B ∧ V s ≤ now + B ∧ D + dTd c n q s ≤ V s + B
theorem dDue_le {n : Nat} {B now now2 D D2 : Int} {c V V2 : Nat → Int} {q : Nat} (h : dDue n B now c q D V) (hq : q < n) (h1 : now ≤ now2) (h2 : D2 ≤ D) (h3 : ∀ s, s < n → V2 s = V s) : dDue n B now2 c q D2 V2 := by
  refine ⟨fun s t hs ht hp => ?_, fun s hs => ?_⟩
  · rw [h3 s hs, h3 t ht]
    exact h.1 s t hs ht hp
  · obtain ⟨a, b, d⟩ := h.2 s hs
    rw [h3 s hs, h3 q hq]
    exact ⟨a, by omega, by omega⟩
/-- the token comes to q -/
theorem dDue_arr {n : Nat} {B now m D2 : Int} {c V V2 : Nat → Int} {q : Nat} (hn : 2 ≤ n) (hq : q < n) (h : dDue n B now c q now V) (hc : ∀ i, i < n → 0 ≤ c i) (hm : 0 ≤ m) (hA : dPfx c n + m ≤ B) (v1 : V q < now → V2 q = V q + B) (v2 : now ≤ V q → V2 q = now + B) (v3 : ∀ s, s < n → s ≠ q → V2 s = V s) (hD : D2 ≤ now + c q ∨ (now < V q ∧ D2 ≤ V q + m - 1 + c q)) : dDue n B now c (dNx n q) D2 V2 := by
  have a0 : 0 ≤ dPfx c n := by
    have := dPfx_mn (f := c) (m := n) hc (k := 0) (by omega)
    rw [dPfx_0] at this
    exact this
  have nx := dNx_lt (n := n) (q := q) (by omega)
  have ne := dNx_ne (n := n) (q := q) hn
  have vq : V2 q ≤ V q + B ∧ V2 q ≤ now + B ∧ (V2 q = V q + B ∨ V2 q = now + B) := by
    by_cases z : V q < now
    · rw [v1 z]; omega
    · rw [v2 (by omega)]; omega
  have hqq := h.2 q hq
  rw [dTd_0] at hqq
  refine ⟨fun s t hs ht hp => ?_, fun s hs => ?_⟩
  · by_cases e : s = q
    · subst e
      rw [dPs_q hq] at hp
      by_cases e2 : t = s
      · rw [e2]; exact Int.le_refl _
      · have := dPs_n hq ht e2
        have := dPs_lt (n := n) (q := s) hq ht
        omega
    · have p1 := dPs_n hq hs e
      by_cases e2 : t = q
      · subst e2
        rw [v3 s hs e]
        have := h.2 s hs
        by_cases z : V t < now
        · rw [v1 z]; omega
        · rw [v2 (by omega)]; omega
      · have p2 := dPs_n hq ht e2
        rw [v3 s hs e, v3 t ht e2]
        exact h.1 s t hs ht (by omega)
  · have qn : V q ≤ V (dNx n q) := h.1 q _ hq nx (by rw [dPs_0]; omega)
    rw [v3 _ nx ne]
    by_cases e : s = q
    · subst e
      rw [dTd_q hq]
      refine ⟨by omega, by omega, ?_⟩
      rcases hD with hD | ⟨z, hD⟩
      · rcases vq.2.2 with w | w <;> omega
      · rw [v2 (by omega)]; omega
    · have hs2 := h.2 s hs
      have tb := dTd_b (f := c) (n := n) (q := q) (s := s) hc hq hs
      have qs : V q ≤ V s := h.1 q s hq hs (by rw [dPs_0]; omega)
      rw [v3 s hs e, dTd_n hq hs e]
      refine ⟨by omega, by omega, ?_⟩
      rcases hD with hD | ⟨z, hD⟩ <;> omega
/-- each let a token go a whole round before it comes again -/
noncomputable def dWent (n : Nat) (d : Nat → Int) (q : Nat) (E : Int) (W : Nat → Int) : Prop := ∀ s, s < n → W s + dPfx d n ≤ E + dTd d n q s
theorem dWent_arr {n : Nat} {now : Int} {d W : Nat → Int} {q : Nat} (hn : 2 ≤ n) (hq : q < n) (hd : ∀ i, i < n → 0 ≤ d i) (h : dWent n d q now W) : dWent n d (dNx n q) (now + d q) W := fun s hs => by
  by_cases e : s = q
  · subst e
    have := h s hs
    rw [dTd_0] at this
    have a0 := dPfx_mn (f := d) (m := n) hd (k := 0) (by omega)
    rw [dPfx_0] at a0
    rw [dTd_q hq]
    omega
  · have := h s hs
    rw [dTd_n hq hs e]
    omega
theorem dWent_go {n : Nat} {now E : Int} {d W W2 : Nat → Int} {h : Nat} (hn : 2 ≤ n) (hh : h < n) (hw : dWent n d (dNx n h) E W) (hE : E ≤ now + d h) (w1 : W2 h = now) (w2 : ∀ s, s < n → s ≠ h → W2 s = W s) : dWent n d (dNx n h) (now + d h) W2 := fun s hs => by
  by_cases e : s = h
  · subst e
    rw [w1, dTd_q hh]
    omega
  · have := hw s hs
    rw [w2 s hs e]
    omega
theorem dWent_le {n : Nat} {E E2 : Int} {d W W2 : Nat → Int} {q : Nat} (h : dWent n d q E W) (hE : E ≤ E2) (w : ∀ s, s < n → W2 s = W s) : dWent n d q E2 W2 := fun s hs => by
  have := h s hs
  rw [w s hs]
  omega

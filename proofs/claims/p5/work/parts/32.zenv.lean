/-! ===== what the box machine's values stand for: a list of ints, a variable each, that grows at its end ===== -/
noncomputable def zAt (ρ : List Int) (x : sI) : Option Int := match x.1 with
  | 0 => some x.2
  | j + 1 => (ρ[j]?).map (· + x.2)
noncomputable def zIn (ρ : List Int) (B : zB) : Prop := B.1 = ρ.length ∧ B.2.1.length = ρ.length ∧ (∀ i q a, zBx B i = some q → zAt ρ (i, 0) = some a → q.1 ≤ a ∧ a ≤ q.2) ∧ ∀ q ∈ B.2.2, ∃ a b, zAt ρ q.1 = some a ∧ zAt ρ q.2 = some b ∧ a < b
theorem zGl_eq : ∀ (l : List (Int × Int)) (i : Nat), zGl l i = l[i]?
  | [], i => rfl
  | q :: r, i => by
    show (bif Nat.beq i 0 then some q else zGl r (i - 1)) = _
    cases i with
    | zero => rfl
    | succ i =>
      show zGl r (i + 1 - 1) = r[i]?
      rw [Nat.add_sub_cancel]
      exact zGl_eq r i
theorem zSl_eq (v : Int × Int) : ∀ (l : List (Int × Int)) (i : Nat), zSl v l i = l.set i v
  | [], i => rfl
  | q :: r, i => by
    show (bif Nat.beq i 0 then v :: r else q :: zSl v r (i - 1)) = _
    cases i with
    | zero => rfl
    | succ i =>
      show q :: zSl v r (i + 1 - 1) = q :: r.set i v
      rw [Nat.add_sub_cancel, zSl_eq v r i]
theorem zAt_0 (ρ : List Int) (c : Int) : zAt ρ (0, c) = some c := rfl
theorem zAt_c {ρ : List Int} {i : Nat} {c a : Int} (d : Int) (h : zAt ρ (i, c) = some a) : zAt ρ (i, d) = some (a + (d - c)) := by
  cases i with
  | zero =>
    have h : some c = some a := h
    cases h
    show some d = some (c + (d - c))
    congr 1
    omega
  | succ j =>
    have h : (ρ[j]?).map (· + c) = some a := h
    show (ρ[j]?).map (· + d) = _
    cases e : ρ[j]? with
    | none => rw [e] at h; cases h
    | some b =>
      rw [e] at h
      cases h
      show some (b + d) = some (b + c + (d - c))
      congr 1
      omega
theorem zAt_x {ρ : List Int} (x : sI) {a : Int} (d : Int) (h : zAt ρ x = some a) : zAt ρ (x.1, x.2 + d) = some (a + d) := by
  have := zAt_c (x.2 + d) (show zAt ρ (x.1, x.2) = some a from h)
  rw [this]
  congr 1
  omega
theorem zAt_b {ρ : List Int} {x : sI} {a : Int} (h : zAt ρ x = some a) : zAt ρ (x.1, 0) = some (a - x.2) := by
  have := zAt_c 0 (show zAt ρ (x.1, x.2) = some a from h)
  rw [this]
  congr 1
  omega
theorem zAt_ext {ρ : List Int} {x : sI} {a : Int} (e : List Int) (h : zAt ρ x = some a) : zAt (ρ ++ e) x = some a := by
  obtain ⟨i, c⟩ := x
  cases i with
  | zero => exact h
  | succ j =>
    have h : (ρ[j]?).map (· + c) = some a := h
    show ((ρ ++ e)[j]?).map (· + c) = some a
    cases e1 : ρ[j]? with
    | none => rw [e1] at h; cases h
    | some b =>
      have hj : j < ρ.length := (List.getElem?_eq_some_iff.mp e1).1
      rw [List.getElem?_append_left hj]
      exact h
theorem zAt_new (ρ : List Int) (a : Int) : zAt (ρ ++ [a]) (ρ.length + 1, 0) = some a := by
  show ((ρ ++ [a])[ρ.length]?).map (· + 0) = some a
  rw [List.getElem?_append_right (Nat.le_refl _), Nat.sub_self]
  show some (a + 0) = some a
  rw [Int.add_zero]
theorem zAt_le {ρ : List Int} {x : sI} {a : Int} (h : zAt ρ x = some a) : x.1 ≤ ρ.length := by
  obtain ⟨i, c⟩ := x
  cases i with
  | zero => exact Nat.zero_le _
  | succ j =>
    have h : (ρ[j]?).map (· + c) = some a := h
    cases e1 : ρ[j]? with
    | none => rw [e1] at h; cases h
    | some b => exact (List.getElem?_eq_some_iff.mp e1).1
theorem zBx_0 (B : zB) : zBx B 0 = some (0, 0) := rfl
theorem zBx_s {B : zB} {j : Nat} (h : j + 1 ≤ B.1) : zBx B (j + 1) = B.2.1[B.1 - (j + 1)]? := by
  unfold zBx
  rw [nbeq_f (by omega), cond_false, show Nat.ble (j + 1) B.1 = true from Nat.ble_eq.mpr h, cond_true, zGl_eq]
  rfl
theorem zBx_n {B : zB} {j : Nat} (h : B.1 < j + 1) : zBx B (j + 1) = none := by
  unfold zBx
  rw [nbeq_f (by omega), cond_false]
  cases c : Nat.ble (j + 1) B.1 with
  | false => rfl
  | true => exact absurd (Nat.le_of_ble_eq_true c) (by omega)
theorem zIn_bx {ρ : List Int} {B : zB} {x : sI} {a : Int} (hi : zIn ρ B) (h : zAt ρ x = some a) : ∃ q, zBx B x.1 = some q ∧ q.1 + x.2 ≤ a ∧ a ≤ q.2 + x.2 := by
  have hl := zAt_le h
  have hb := zAt_b h
  have hq : ∃ q, zBx B x.1 = some q := by
    rcases hx : x.1 with _ | j
    · exact ⟨_, zBx_0 B⟩
    · have h1 := hi.1
      have h2 := hi.2.1
      rw [hx] at hl
      rw [zBx_s (by omega)]
      exact ⟨_, List.getElem?_eq_getElem (by omega)⟩
  obtain ⟨q, hq⟩ := hq
  have := hi.2.2.1 _ _ _ hq hb
  exact ⟨q, hq, by omega, by omega⟩
theorem zRg_inv {ρ : List Int} {B : zB} {x : sI} {a : Int} {k : Int → Int → Bool} (h : zRg B x k = true) (hi : zIn ρ B) (ha : zAt ρ x = some a) : ∃ l u, l ≤ a ∧ a ≤ u ∧ k l u = true := by
  unfold zRg at h
  rcases bif_inv h with ⟨c, h⟩ | ⟨-, h⟩
  · have c := Nat.eq_of_beq_eq_true c
    obtain ⟨i, d⟩ := x
    have c : i = 0 := c
    subst c
    have ha : some d = some a := ha
    cases ha
    exact ⟨_, _, Int.le_refl _, Int.le_refl _, h⟩
  · obtain ⟨q, hq, h1, h2⟩ := zIn_bx hi ha
    rw [hq] at h
    exact ⟨_, _, h1, h2, h⟩
theorem zIn_nar {ρ : List Int} {B : zB} {i : Nat} {a l u : Int} (hi : zIn ρ B) (ha : zAt ρ (i, 0) = some a) (h1 : l ≤ a) (h2 : a ≤ u) : zIn ρ (zNar B i l u) := by
  unfold zNar
  cases i with
  | zero => exact hi
  | succ j =>
    rw [nbeq_f (by omega), cond_false]
    have hj : j + 1 ≤ ρ.length := zAt_le ha
    have e1 := hi.1
    have e2 := hi.2.1
    refine ⟨e1, by rw [zSl_eq]; show (B.2.1.set _ _).length = _; rw [List.length_set]; exact e2, fun k q b hq hb => ?_, hi.2.2.2⟩
    cases k with
    | zero => exact hi.2.2.1 0 q b hq hb
    | succ m =>
      have hm : m + 1 ≤ ρ.length := zAt_le hb
      rw [zBx_s (by show m + 1 ≤ B.1; omega)] at hq
      have hq : (zSl (l, u) B.2.1 (B.1 - (j + 1)))[B.1 - (m + 1)]? = some q := hq
      rw [zSl_eq, List.getElem?_set] at hq
      by_cases e : B.1 - (j + 1) = B.1 - (m + 1)
      · have : j = m := by omega
        subst this
        rw [if_pos rfl] at hq
        split at hq
        · cases hq
          rw [ha] at hb
          cases hb
          exact ⟨h1, h2⟩
        · cases hq
      · rw [if_neg e] at hq
        exact hi.2.2.1 (m + 1) q b (by rw [zBx_s (by omega)]; exact hq) hb
theorem zIn_fact {ρ : List Int} {B : zB} {x y : sI} {a b : Int} (hi : zIn ρ B) (ha : zAt ρ x = some a) (hb : zAt ρ y = some b) (h : a < b) : zIn ρ (B.1, (B.2.1, (x, y) :: B.2.2)) := by
  refine ⟨hi.1, hi.2.1, hi.2.2.1, fun q hq => ?_⟩
  rcases List.mem_cons.mp hq with hq | hq
  · rw [hq]
    exact ⟨a, b, ha, hb, h⟩
  · exact hi.2.2.2 q hq
theorem zIn_fr {ρ : List Int} {B : zB} {l u a : Int} (hi : zIn ρ B) (h1 : l ≤ a) (h2 : a ≤ u) : zIn (ρ ++ [a]) (Nat.succ B.1, ((l, u) :: B.2.1, B.2.2)) := by
  have e1 := hi.1
  have e2 := hi.2.1
  refine ⟨by show B.1 + 1 = _; rw [List.length_append, e1]; rfl, by show ((l, u) :: B.2.1).length = _; rw [List.length_cons, List.length_append, e2]; rfl, fun k q b hq hb => ?_, fun q hq => ?_⟩
  · cases k with
    | zero => exact hi.2.2.1 0 q b hq hb
    | succ m =>
      have hm : m + 1 ≤ (ρ ++ [a]).length := zAt_le hb
      rw [List.length_append] at hm
      have hm : m + 1 ≤ ρ.length + 1 := hm
      rw [zBx_s (by show m + 1 ≤ B.1 + 1; omega)] at hq
      have hq : ((l, u) :: B.2.1)[B.1 + 1 - (m + 1)]? = some q := hq
      by_cases e : m = ρ.length
      · have e3 : B.1 + 1 - (m + 1) = 0 := by omega
        rw [e3] at hq
        cases hq
        have hb2 := zAt_new ρ a
        rw [e] at hb
        rw [hb2] at hb
        cases hb
        exact ⟨h1, h2⟩
      · have e3 : B.1 + 1 - (m + 1) = (B.1 - (m + 1)) + 1 := by omega
        rw [e3] at hq
        have hq : B.2.1[B.1 - (m + 1)]? = some q := hq
        obtain ⟨c, hc⟩ : ∃ c, zAt ρ (m + 1, 0) = some c := by
          show ∃ c, (ρ[m]?).map (· + 0) = some c
          rw [List.getElem?_eq_getElem (by omega)]
          exact ⟨_, rfl⟩
        have hc2 := zAt_ext [a] hc
        rw [hc2] at hb
        cases hb
        exact hi.2.2.1 (m + 1) q _ (by rw [zBx_s (by omega)]; exact hq) hc
  · obtain ⟨c, d, hc, hd, hcd⟩ := hi.2.2.2 q hq
    exact ⟨c, d, zAt_ext _ hc, zAt_ext _ hd, hcd⟩
theorem zFr_inv {ρ : List Int} {B : zB} {l u : Int} {k : zB → sI → Bool} (a : Int) (h : zFr B l u k = true) (hi : zIn ρ B) (h1 : l ≤ a) (h2 : a ≤ u) : ∃ B1 z, zIn (ρ ++ [a]) B1 ∧ k B1 z = true ∧ zAt (ρ ++ [a]) z = some a := by
  refine ⟨_, _, zIn_fr hi h1 h2, h, ?_⟩
  have := zAt_new ρ a
  rw [← hi.1] at this
  exact this
theorem zF32_inv {ρ : List Int} {B : zB} {k : zB → sI → Bool} (X : Int32) (h : zF32 B k = true) (hi : zIn ρ B) : ∃ e B1 z, zIn (ρ ++ e) B1 ∧ k B1 z = true ∧ zAt (ρ ++ e) z = some X.toInt := by
  have h1 := X.le_toInt
  have h2 := X.toInt_lt
  obtain ⟨B1, z, a, b, c⟩ := zFr_inv X.toInt h hi (by omega) (by omega)
  exact ⟨_, B1, z, a, b, c⟩
theorem zF64_inv {ρ : List Int} {B : zB} {k : zB → sI → Bool} (X : Int64) (h : zF64 B k = true) (hi : zIn ρ B) : ∃ e B1 z, zIn (ρ ++ e) B1 ∧ k B1 z = true ∧ zAt (ρ ++ e) z = some X.toInt := by
  have h1 := X.le_toInt
  have h2 := X.toInt_lt
  obtain ⟨B1, z, a, b, c⟩ := zFr_inv X.toInt h hi (by omega) (by omega)
  exact ⟨_, B1, z, a, b, c⟩
theorem zFrB_inv {ρ : List Int} {B : zB} {l u : Int} {k : zB → sI → Bool} (a : Int) (h : zFr B l u k = true) (hi : zIn ρ B) (h1 : l ≤ a) (h2 : a ≤ u) : ∃ e B1 z, zIn (ρ ++ e) B1 ∧ k B1 z = true ∧ zAt (ρ ++ e) z = some a := by
  obtain ⟨B1, z, a, b, c⟩ := zFr_inv a h hi h1 h2
  exact ⟨_, B1, z, a, b, c⟩
theorem zCut_inv {ρ : List Int} {B : zB} {v : sI} {a m : Int} {k1 k2 : zB → Bool} (h : zCut B v m k1 k2 = true) (hi : zIn ρ B) (ha : zAt ρ v = some a) :
    (a ≤ m ∧ ∃ B1, zIn ρ B1 ∧ k1 B1 = true) ∨ (m < a ∧ ∃ B1, zIn ρ B1 ∧ k2 B1 = true) := by
  unfold zCut at h
  obtain ⟨q, hq, h1, h2⟩ := zIn_bx hi ha
  rw [hq] at h
  simp only [Bool.and_eq_true, Bool.or_eq_true, sILt_d, decide_eq_true_eq] at h
  have hb := zAt_b ha
  by_cases c : a ≤ m
  · refine .inl ⟨c, zNar B v.1 q.1 (m - v.2), zIn_nar hi hb (by omega) (by omega), ?_⟩
    rcases h.1 with h3 | h3
    · omega
    · exact h3
  · refine .inr ⟨by omega, zNar B v.1 (m - v.2 + 1) q.2, zIn_nar hi hb (by omega) (by omega), ?_⟩
    rcases h.2 with h3 | h3
    · omega
    · exact h3
theorem zCsu_inv {ρ : List Int} {v : sI} {a : Int} {k : zB → Int → Bool} (ha : zAt ρ v = some a) : ∀ (f : Nat) (B : zB), zCsu f B v k = true → zIn ρ B → ∃ B1, zIn ρ B1 ∧ k B1 a = true
  | 0, _, h, _ => by cases h
  | f + 1, B, h, hi => by
    have h : (zRg B v fun l h => bif sIEq l h then k B l else bif sILt 2000 (h - l) then false else zCut B v ((l + h) / 2) (fun B1 => zCsu f B1 v k) (fun B1 => zCsu f B1 v k)) = true := h
    obtain ⟨l, u, h1, h2, h⟩ := zRg_inv h hi ha
    rcases bif_inv h with ⟨c, h⟩ | ⟨-, h⟩
    · rw [sIEq_d] at c
      have c := of_decide_eq_true c
      have e : l = a := by omega
      exact ⟨B, hi, by rw [← e]; exact h⟩
    · rcases bif_inv h with ⟨-, h⟩ | ⟨-, h⟩
      · cases h
      · rcases zCut_inv h hi ha with ⟨-, B1, hi1, h⟩ | ⟨-, B1, hi1, h⟩
        · exact zCsu_inv ha f B1 h hi1
        · exact zCsu_inv ha f B1 h hi1
theorem zCst_inv {ρ : List Int} {B : zB} {v : sI} {a : Int} {k : zB → Int → Bool} (h : zCst B v k = true) (hi : zIn ρ B) (ha : zAt ρ v = some a) : ∃ B1, zIn ρ B1 ∧ k B1 a = true := by
  unfold zCst at h
  obtain ⟨l, u, h1, h2, h⟩ := zRg_inv h hi ha
  rcases bif_inv h with ⟨c, h⟩ | ⟨-, h⟩
  · rw [sIEq_d] at c
    have c := of_decide_eq_true c
    have e : l = a := by omega
    exact ⟨B, hi, by rw [← e]; exact h⟩
  · exact zCsu_inv ha 12 B h hi
theorem zKn_inv {ρ : List Int} {B : zB} {x y : sI} {a b : Int} (h : zKn B x y = true) (hi : zIn ρ B) (ha : zAt ρ x = some a) (hb : zAt ρ y = some b) : a < b := by
  unfold zKn at h
  obtain ⟨q, hq, c⟩ := List.any_eq_true.mp h
  simp only [Bool.and_eq_true, Nat.beq_eq, sILe_d, decide_eq_true_eq] at c
  obtain ⟨c1, c2, c3⟩ := c
  obtain ⟨a1, b1, h1, h2, h3⟩ := hi.2.2.2 q hq
  have ha1 := zAt_c q.1.2 (show zAt ρ (x.1, x.2) = some a from ha)
  have hb1 := zAt_c q.2.2 (show zAt ρ (y.1, y.2) = some b from hb)
  rw [← c1] at ha1
  rw [← c2] at hb1
  have e1 : zAt ρ q.1 = _ := ha1
  have e2 : zAt ρ q.2 = _ := hb1
  rw [h1] at e1
  rw [h2] at e2
  cases e1
  cases e2
  omega
theorem zFa1_in {ρ : List Int} {B : zB} {x : sI} {a l h l1 h1 : Int} (hi : zIn ρ B) (ha : zAt ρ x = some a) (c1 : l1 ≤ a) (c2 : a ≤ h1) : zIn ρ (zFa1 B x l h l1 h1) := by
  unfold zFa1
  cases (sILt l l1 || sILt h1 h) with
  | false => exact hi
  | true => exact zIn_nar hi (zAt_b ha) (by omega) (by omega)
theorem zFa_inv {ρ : List Int} {B : zB} {x y : sI} {a b : Int} {k : zB → Bool} (h : zFa B x y k = true) (hi : zIn ρ B) (ha : zAt ρ x = some a) (hb : zAt ρ y = some b) (hab : a < b) : ∃ B1, zIn ρ B1 ∧ k B1 = true := by
  unfold zFa at h
  obtain ⟨l1, u1, a1, a2, h⟩ := zRg_inv h hi ha
  obtain ⟨l2, u2, b1, b2, h⟩ := zRg_inv h hi hb
  refine ⟨_, zIn_fact (x := x) (y := y) (B := zFa1 (zFa1 B x l1 u1 l1 (bif sILt (u2 - 1) u1 then u2 - 1 else u1)) y l2 u2 (bif sILt l2 (l1 + 1) then l1 + 1 else l2) u2) ?_ ha hb hab, h⟩
  refine zFa1_in (zFa1_in hi ha a1 ?_) hb ?_ b2
  · cases sILt (u2 - 1) u1 with
    | true => rw [cond_true]; omega
    | false => exact a2
  · cases sILt l2 (l1 + 1) with
    | true => rw [cond_true]; omega
    | false => exact b1
theorem zSame {ρ : List Int} {x y : sI} {a b : Int} (h : x.1 = y.1) (ha : zAt ρ x = some a) (hb : zAt ρ y = some b) : a - x.2 = b - y.2 := by
  have h1 := zAt_b ha
  have h2 := zAt_b hb
  rw [h, h2] at h1
  have h1 := Option.some.inj h1
  omega
theorem zLt_inv {ρ : List Int} {B : zB} {x y : sI} {a b : Int} {k : zB → Bool → Bool} (h : zLt B x y k = true) (hi : zIn ρ B) (ha : zAt ρ x = some a) (hb : zAt ρ y = some b) : ∃ B1, zIn ρ B1 ∧ k B1 (decide (a < b)) = true := by
  unfold zLt at h
  simp only [sIEq_d, sILt_d, sILe_d] at h
  rcases bif_inv h with ⟨c, h⟩ | ⟨-, h⟩
  · have c := zSame (Nat.eq_of_beq_eq_true c) ha hb
    refine ⟨B, hi, ?_⟩
    have e : (a < b) = (x.2 < y.2) := propext ⟨fun h => by omega, fun h => by omega⟩
    simp only [e]
    exact h
  obtain ⟨l1, u1, a1, a2, h⟩ := zRg_inv h hi ha
  obtain ⟨l2, u2, b1, b2, h⟩ := zRg_inv h hi hb
  rcases bif_inv h with ⟨c, h⟩ | ⟨-, h⟩
  · have c := of_decide_eq_true c
    exact ⟨B, hi, by rw [decide_eq_true (by omega)]; exact h⟩
  rcases bif_inv h with ⟨c, h⟩ | ⟨-, h⟩
  · have c := of_decide_eq_true c
    exact ⟨B, hi, by rw [decide_eq_false (by omega)]; exact h⟩
  rcases bif_inv h with ⟨c, h⟩ | ⟨-, h⟩
  · exact ⟨B, hi, by rw [decide_eq_true (zKn_inv c hi ha hb)]; exact h⟩
  rcases bif_inv h with ⟨c, h⟩ | ⟨-, h⟩
  · have := zKn_inv c hi hb (zAt_x x 1 ha)
    exact ⟨B, hi, by rw [decide_eq_false (by omega)]; exact h⟩
  rcases bif_inv h with ⟨c, h⟩ | ⟨-, h⟩
  · have c := of_decide_eq_true c
    rcases zCut_inv h hi ha with ⟨d, B1, hi1, h⟩ | ⟨d, B1, hi1, h⟩
    · exact ⟨B1, hi1, by rw [decide_eq_true (by omega)]; exact h⟩
    · exact ⟨B1, hi1, by rw [decide_eq_false (by omega)]; exact h⟩
  rcases bif_inv h with ⟨c, h⟩ | ⟨-, h⟩
  · have c := of_decide_eq_true c
    rcases zCut_inv h hi hb with ⟨d, B1, hi1, h⟩ | ⟨d, B1, hi1, h⟩
    · exact ⟨B1, hi1, by rw [decide_eq_false (by omega)]; exact h⟩
    · exact ⟨B1, hi1, by rw [decide_eq_true (by omega)]; exact h⟩
  · obtain ⟨g1, g2⟩ := and_inv h
    by_cases d : a < b
    · obtain ⟨B1, hi1, h⟩ := zFa_inv g1 hi ha hb d
      exact ⟨B1, hi1, by rw [decide_eq_true d]; exact h⟩
    · obtain ⟨B1, hi1, h⟩ := zFa_inv g2 hi hb (zAt_x x 1 ha) (by omega)
      exact ⟨B1, hi1, by rw [decide_eq_false d]; exact h⟩
theorem zMx_le {a b c : Int} (h1 : a ≤ c) (h2 : b ≤ c) : zMx a b ≤ c := by
  unfold zMx
  cases sILt a b with
  | true => exact h2
  | false => exact h1
theorem zMn_le {a b c : Int} (h1 : c ≤ a) (h2 : c ≤ b) : c ≤ zMn a b := by
  unfold zMn
  cases sILt b a with
  | true => exact h2
  | false => exact h1
theorem zEq_inv {ρ : List Int} {B : zB} {x y : sI} {a b : Int} {k : zB → Bool → Bool} (h : zEq B x y k = true) (hi : zIn ρ B) (ha : zAt ρ x = some a) (hb : zAt ρ y = some b) : ∃ B1, zIn ρ B1 ∧ k B1 (decide (a = b)) = true := by
  unfold zEq at h
  simp only [sIEq_d, sILt_d, sILe_d] at h
  rcases bif_inv h with ⟨c, h⟩ | ⟨-, h⟩
  · have c := zSame (Nat.eq_of_beq_eq_true c) ha hb
    refine ⟨B, hi, ?_⟩
    have e : (a = b) = (x.2 = y.2) := propext ⟨fun h => by omega, fun h => by omega⟩
    simp only [e]
    exact h
  obtain ⟨l1, u1, a1, a2, h⟩ := zRg_inv h hi ha
  obtain ⟨l2, u2, b1, b2, h⟩ := zRg_inv h hi hb
  rcases bif_inv h with ⟨c, h⟩ | ⟨-, h⟩
  · simp only [Bool.or_eq_true, decide_eq_true_eq] at c
    exact ⟨B, hi, by rw [decide_eq_false (by omega)]; exact h⟩
  rcases bif_inv h with ⟨c, h⟩ | ⟨-, h⟩
  · rcases Bool.or_eq_true_iff.mp c with c | c
    · have := zKn_inv c hi ha hb
      exact ⟨B, hi, by rw [decide_eq_false (by omega)]; exact h⟩
    · have := zKn_inv c hi hb ha
      exact ⟨B, hi, by rw [decide_eq_false (by omega)]; exact h⟩
  rcases bif_inv h with ⟨c, h⟩ | ⟨-, h⟩
  · have c := of_decide_eq_true c
    rcases zCut_inv h hi ha with ⟨d, B1, hi1, h⟩ | ⟨d, B1, hi1, h⟩
    · exact ⟨B1, hi1, by rw [decide_eq_false (by omega)]; exact h⟩
    · rcases zCut_inv h hi1 ha with ⟨d2, B2, hi2, h⟩ | ⟨d2, B2, hi2, h⟩
      · exact ⟨B2, hi2, by rw [decide_eq_true (by omega)]; exact h⟩
      · exact ⟨B2, hi2, by rw [decide_eq_false (by omega)]; exact h⟩
  rcases bif_inv h with ⟨c, h⟩ | ⟨-, h⟩
  · have c := of_decide_eq_true c
    rcases zCut_inv h hi hb with ⟨d, B1, hi1, h⟩ | ⟨d, B1, hi1, h⟩
    · exact ⟨B1, hi1, by rw [decide_eq_false (by omega)]; exact h⟩
    · rcases zCut_inv h hi1 hb with ⟨d2, B2, hi2, h⟩ | ⟨d2, B2, hi2, h⟩
      · exact ⟨B2, hi2, by rw [decide_eq_true (by omega)]; exact h⟩
      · exact ⟨B2, hi2, by rw [decide_eq_false (by omega)]; exact h⟩
  · obtain ⟨g1, h⟩ := and_inv h
    obtain ⟨g2, g3⟩ := and_inv h
    by_cases d : a < b
    · obtain ⟨B1, hi1, h⟩ := zFa_inv g1 hi ha hb d
      exact ⟨B1, hi1, by rw [decide_eq_false (by omega)]; exact h⟩
    · by_cases d2 : b < a
      · obtain ⟨B1, hi1, h⟩ := zFa_inv g2 hi hb ha d2
        exact ⟨B1, hi1, by rw [decide_eq_false (by omega)]; exact h⟩
      · refine ⟨_, zFa1_in (zFa1_in hi ha ?_ ?_) hb ?_ ?_, by rw [decide_eq_true (by omega)]; exact g3⟩
        · exact zMx_le a1 (by omega)
        · exact zMn_le a2 (by omega)
        · exact zMx_le (by omega) b1
        · exact zMn_le (by omega) b2
theorem zCond_inv {ρ : List Int} {B : zB} {c : ClassFile.Cond} {x y : sI} {X Y : Int32} {k : zB → Bool → Bool} (h : zCond c B x y k = true) (hi : zIn ρ B) (hX : zAt ρ x = some X.toInt) (hY : zAt ρ y = some Y.toInt) : ∃ B1, zIn ρ B1 ∧ k B1 (mIf c X Y) = true := by
  have eq : decide (X = Y) = decide (X.toInt = Y.toInt) := decide_eq_decide.mpr Int32.toInt_inj.symm
  have lt1 : decide (X < Y) = decide (X.toInt < Y.toInt) := decide_eq_decide.mpr Int32.lt_iff_toInt_lt
  have lt2 : decide (Y < X) = decide (Y.toInt < X.toInt) := decide_eq_decide.mpr Int32.lt_iff_toInt_lt
  have le1 : decide (X ≤ Y) = !decide (Y.toInt < X.toInt) := by
    rw [← decide_not]
    exact decide_eq_decide.mpr (by rw [Int32.le_iff_toInt_le]; omega)
  have le2 : decide (Y ≤ X) = !decide (X.toInt < Y.toInt) := by
    rw [← decide_not]
    exact decide_eq_decide.mpr (by rw [Int32.le_iff_toInt_le]; omega)
  cases c
  · obtain ⟨B1, hi1, h⟩ := zEq_inv h hi hX hY
    exact ⟨B1, hi1, by show k B1 (decide (X = Y)) = true; rw [eq]; exact h⟩
  · obtain ⟨B1, hi1, h⟩ := zEq_inv (k := fun B1 b => k B1 (!b)) h hi hX hY
    exact ⟨B1, hi1, by show k B1 (!decide (X = Y)) = true; rw [eq]; exact h⟩
  · obtain ⟨B1, hi1, h⟩ := zLt_inv h hi hX hY
    exact ⟨B1, hi1, by show k B1 (decide (X < Y)) = true; rw [lt1]; exact h⟩
  · obtain ⟨B1, hi1, h⟩ := zLt_inv (k := fun B1 b => k B1 (!b)) h hi hX hY
    exact ⟨B1, hi1, by show k B1 (decide (Y ≤ X)) = true; rw [le2]; exact h⟩
  · obtain ⟨B1, hi1, h⟩ := zLt_inv h hi hY hX
    exact ⟨B1, hi1, by show k B1 (decide (Y < X)) = true; rw [lt2]; exact h⟩
  · obtain ⟨B1, hi1, h⟩ := zLt_inv (k := fun B1 b => k B1 (!b)) h hi hY hX
    exact ⟨B1, hi1, by show k B1 (decide (X ≤ Y)) = true; rw [le1]; exact h⟩
theorem zRg_2 {ρ : List Int} {B : zB} {x y : sI} {a b : Int} {k : Int → Int → Int → Int → Bool} (h : (zRg B x fun l1 h1 => zRg B y fun l2 h2 => k l1 h1 l2 h2) = true) (hi : zIn ρ B) (ha : zAt ρ x = some a) (hb : zAt ρ y = some b) : ∃ l1 u1 l2 u2, l1 ≤ a ∧ a ≤ u1 ∧ l2 ≤ b ∧ b ≤ u2 ∧ k l1 u1 l2 u2 = true := by
  obtain ⟨l1, u1, a1, a2, h⟩ := zRg_inv h hi ha
  obtain ⟨l2, u2, b1, b2, h⟩ := zRg_inv h hi hb
  exact ⟨l1, u1, l2, u2, a1, a2, b1, b2, h⟩
/-- an outcome: the list has grown -/
noncomputable def zO1 (ρ : List Int) (k : zB → sI → Bool) (a : Int) : Prop := ∃ e B1 z, zIn (ρ ++ e) B1 ∧ k B1 z = true ∧ zAt (ρ ++ e) z = some a
theorem zO1_0 {ρ : List Int} {B : zB} {k : zB → sI → Bool} {a : Int} {z : sI} (hi : zIn ρ B) (h : k B z = true) (ha : zAt ρ z = some a) : zO1 ρ k a := ⟨[], B, z, by rw [List.append_nil]; exact hi, h, by rw [List.append_nil]; exact ha⟩
theorem zAdd_inv {ρ : List Int} {B : zB} {x y : sI} {X Y : Int32} {k : zB → sI → Bool} (h : zAdd B x y k = true) (hi : zIn ρ B) (hX : zAt ρ x = some X.toInt) (hY : zAt ρ y = some Y.toInt) : zO1 ρ k (X + Y).toInt := by
  unfold zAdd at h
  simp only [sIEq_d, sILt_d, sILe_d] at h
  obtain ⟨l1, u1, l2, u2, a1, a2, b1, b2, h⟩ := zRg_2 h hi hX hY
  have ev : ∀ c : Int, X.toInt + Y.toInt = c → -2147483648 ≤ c → c ≤ 2147483647 → (X + Y).toInt = c := fun c hc h1 h2 => i32_val (by rw [i32_add, hc]) h1 h2
  rcases bif_inv h with ⟨c, h⟩ | ⟨-, h⟩
  · simp only [Bool.and_eq_true, decide_eq_true_eq] at c
    have c2 := sR32_inv c.2
    refine zO1_0 hi h ?_
    rw [ev (X.toInt + l2) (by omega) (by omega) (by omega)]
    exact zAt_x x l2 hX
  rcases bif_inv h with ⟨c, h⟩ | ⟨-, h⟩
  · simp only [Bool.and_eq_true, decide_eq_true_eq] at c
    have c2 := sR32_inv c.2
    refine zO1_0 hi h ?_
    rw [ev (Y.toInt + l1) (by omega) (by omega) (by omega)]
    exact zAt_x y l1 hY
  rcases bif_inv h with ⟨c, h⟩ | ⟨-, h⟩
  · have c2 := sR32_inv c
    have e := ev (X.toInt + Y.toInt) rfl (by omega) (by omega)
    exact zFrB_inv _ h hi (by omega) (by omega)
  · exact zF32_inv (X + Y) h hi
theorem zSub_inv {ρ : List Int} {B : zB} {x y : sI} {X Y : Int32} {k : zB → sI → Bool} (h : zSub B x y k = true) (hi : zIn ρ B) (hX : zAt ρ x = some X.toInt) (hY : zAt ρ y = some Y.toInt) : zO1 ρ k (X - Y).toInt := by
  unfold zSub at h
  simp only [sIEq_d, sILt_d, sILe_d] at h
  obtain ⟨l1, u1, l2, u2, a1, a2, b1, b2, h⟩ := zRg_2 h hi hX hY
  have ev : ∀ c : Int, X.toInt - Y.toInt = c → -2147483648 ≤ c → c ≤ 2147483647 → (X - Y).toInt = c := fun c hc h1 h2 => i32_val (by rw [i32_sub, hc]) h1 h2
  rcases bif_inv h with ⟨c, h⟩ | ⟨-, h⟩
  · simp only [Bool.and_eq_true, decide_eq_true_eq] at c
    have c2 := sR32_inv c.2
    refine zO1_0 hi h ?_
    rw [ev (X.toInt - l2) (by omega) (by omega) (by omega)]
    exact zAt_x x (-l2) hX
  rcases bif_inv h with ⟨c, h⟩ | ⟨-, h⟩
  · simp only [Bool.and_eq_true, Nat.beq_eq] at c
    have c2 := sR32_inv c.2
    have c1 := zSame c.1 hX hY
    refine zO1_0 hi h ?_
    rw [ev (x.2 - y.2) (by omega) (by omega) (by omega)]
    rfl
  rcases bif_inv h with ⟨c, h⟩ | ⟨-, h⟩
  · obtain ⟨B1, hi1, h⟩ := zCst_inv h hi hY
    obtain ⟨l, u, d1, d2, h⟩ := zRg_inv h hi1 hX
    obtain ⟨g, h⟩ := and_inv h
    have g := sR32_inv g
    refine zO1_0 hi1 h ?_
    rw [ev (X.toInt - Y.toInt) rfl (by omega) (by omega)]
    exact zAt_x x (-Y.toInt) hX
  rcases bif_inv h with ⟨c, h⟩ | ⟨-, h⟩
  · have c2 := sR32_inv c
    have e := ev (X.toInt - Y.toInt) rfl (by omega) (by omega)
    exact zFrB_inv _ h hi (by omega) (by omega)
  · exact zF32_inv (X - Y) h hi
theorem zSpl_inv {ρ : List Int} {B : zB} {v : sI} {a : Int} {k : zB → Bool} (h : zSpl B v k = true) (hi : zIn ρ B) (ha : zAt ρ v = some a) : ∃ B1, zIn ρ B1 ∧ k B1 = true := by
  unfold zSpl at h
  obtain ⟨l, u, h1, h2, h⟩ := zRg_inv h hi ha
  rcases bif_inv h with ⟨-, h⟩ | ⟨-, h⟩
  · exact ⟨B, hi, h⟩
  · exact zCst_inv h hi ha
theorem zC32 {ρ : List Int} {x : sI} {X : Int32} {l u : Int} (h : zAt ρ x = some X.toInt) (h1 : l ≤ X.toInt) (h2 : X.toInt ≤ u) (h3 : l = u) : X = Int32.ofInt l := i32_of (by omega)
theorem zMul_inv {ρ : List Int} {ns : Bool} {B : zB} {x y : sI} {X Y : Int32} {k : zB → sI → Bool} (h : zMul ns B x y k = true) (hi : zIn ρ B) (hX : zAt ρ x = some X.toInt) (hY : zAt ρ y = some Y.toInt) : zO1 ρ k (X * Y).toInt := by
  have h : ∃ B2, zIn ρ B2 ∧ (zRg B2 x fun l1 h1 => zRg B2 y fun l2 h2 =>
    bif sIEq (l1) (h1) && sIEq (l2) (h2) then k B2 (0, (Int32.ofInt l1 * Int32.ofInt l2).toInt) else
    bif (sILe 0 l1 && sILe 0 l2) && sR32 0 (h1 * h2) then zFr B2 0 (h1 * h2) k else zF32 B2 k) = true := by
    cases ns with
    | true => exact ⟨B, hi, h⟩
    | false =>
      have h : (zSpl B x fun B1 => zSpl B1 y fun B2 => zRg B2 x fun l1 h1 => zRg B2 y fun l2 h2 =>
        bif sIEq (l1) (h1) && sIEq (l2) (h2) then k B2 (0, (Int32.ofInt l1 * Int32.ofInt l2).toInt) else
        bif (sILe 0 l1 && sILe 0 l2) && sR32 0 (h1 * h2) then zFr B2 0 (h1 * h2) k else zF32 B2 k) = true := h
      obtain ⟨B1, hi1, h⟩ := zSpl_inv h hi hX
      exact zSpl_inv h hi1 hY
  obtain ⟨B2, hi2, h⟩ := h
  simp only [sIEq_d, sILt_d, sILe_d] at h
  obtain ⟨l1, u1, l2, u2, a1, a2, b1, b2, h⟩ := zRg_2 h hi2 hX hY
  rcases bif_inv h with ⟨c, h⟩ | ⟨-, h⟩
  · simp only [Bool.and_eq_true, decide_eq_true_eq] at c
    refine zO1_0 hi2 h ?_
    rw [zC32 hX a1 a2 c.1, zC32 hY b1 b2 c.2]
    rfl
  rcases bif_inv h with ⟨c, h⟩ | ⟨-, h⟩
  · obtain ⟨c1, c2⟩ := and_inv c
    simp only [Bool.and_eq_true, decide_eq_true_eq] at c1
    have c2 := sR32_inv c2
    have m1 : 0 ≤ X.toInt * Y.toInt := Int.mul_nonneg (by omega) (by omega)
    have m2 : X.toInt * Y.toInt ≤ u1 * u2 := Int.mul_le_mul a2 b2 (by omega) (by omega)
    have e : (X * Y).toInt = X.toInt * Y.toInt := by
      rw [Int32.toInt_mul]
      exact Int.bmod_eq_of_le (by omega) (by omega)
    exact zFrB_inv _ h hi2 (by omega) (by omega)
  · exact zF32_inv (X * Y) h hi2
theorem zNz_inv {ρ : List Int} {B : zB} {y : sI} {b : Int} {k : zB → Bool} (h : zNz B y k = true) (hi : zIn ρ B) (hb : zAt ρ y = some b) : b ≠ 0 ∧ ∃ B1, zIn ρ B1 ∧ k B1 = true := by
  unfold zNz at h
  simp only [sILt_d] at h
  obtain ⟨l, u, h1, h2, h⟩ := zRg_inv h hi hb
  rcases bif_inv h with ⟨c, h⟩ | ⟨-, h⟩
  · simp only [Bool.or_eq_true, decide_eq_true_eq] at c
    exact ⟨by omega, B, hi, h⟩
  · obtain ⟨B1, hi1, h⟩ := zEq_inv h hi hb (zAt_0 ρ 0)
    rcases bif_inv h with ⟨c, h⟩ | ⟨c, h⟩
    · cases h
    · exact ⟨of_decide_eq_false c, B1, hi1, h⟩
theorem i32_div {X Y : Int32} (h1 : 0 ≤ X.toInt) (h2 : 0 < Y.toInt) : (X / Y).toInt = X.toInt / Y.toInt := by
  rw [Int32.toInt_div]
  have e : X.toInt.tdiv Y.toInt = X.toInt / Y.toInt := Int.tdiv_eq_ediv_of_nonneg h1
  rw [e]
  have b1 : 0 ≤ X.toInt / Y.toInt := Int.ediv_nonneg h1 (by omega)
  have b2 : X.toInt / Y.toInt ≤ X.toInt := Int.ediv_le_self _ h1
  have b3 := X.toInt_lt
  exact Int.bmod_eq_of_le (by omega) (by omega)
theorem i32_rem {X Y : Int32} (h1 : 0 ≤ X.toInt) (h2 : 0 < Y.toInt) : (X - X / Y * Y).toInt = X.toInt % Y.toInt := by
  have e1 := i32_div h1 h2
  have d := Int.mul_ediv_add_emod X.toInt Y.toInt
  have r1 := Int.emod_nonneg X.toInt (show Y.toInt ≠ 0 by omega)
  have r2 := Int.emod_lt_of_pos X.toInt h2
  have b3 := X.toInt_lt
  have b4 := Y.toInt_lt
  have e2 : (X / Y * Y).toInt = X.toInt / Y.toInt * Y.toInt := by
    rw [Int32.toInt_mul, e1]
    have m : X.toInt / Y.toInt * Y.toInt = Y.toInt * (X.toInt / Y.toInt) := Int.mul_comm _ _
    exact Int.bmod_eq_of_le (by omega) (by omega)
  have m : X.toInt / Y.toInt * Y.toInt = Y.toInt * (X.toInt / Y.toInt) := Int.mul_comm _ _
  exact i32_val (by rw [i32_sub, e2]; congr 1; omega) (by omega) (by omega)
theorem zDiv_inv {ρ : List Int} {B : zB} {x y : sI} {X Y : Int32} {k : zB → sI → Bool} (h : zDiv B x y k = true) (hi : zIn ρ B) (hX : zAt ρ x = some X.toInt) (hY : zAt ρ y = some Y.toInt) : Y.toInt ≠ 0 ∧ zO1 ρ k (X / Y).toInt := by
  unfold zDiv at h
  obtain ⟨hz, B1, hi1, h⟩ := zNz_inv h hi hY
  refine ⟨hz, ?_⟩
  simp only [sIEq_d, sILt_d, sILe_d] at h
  obtain ⟨l1, u1, l2, u2, a1, a2, b1, b2, h⟩ := zRg_2 h hi1 hX hY
  rcases bif_inv h with ⟨c, h⟩ | ⟨-, h⟩
  · simp only [Bool.and_eq_true, decide_eq_true_eq] at c
    refine zO1_0 hi1 h ?_
    rw [zC32 hX a1 a2 c.1, zC32 hY b1 b2 c.2]
    rfl
  rcases bif_inv h with ⟨c, h⟩ | ⟨-, h⟩
  · simp only [Bool.and_eq_true, decide_eq_true_eq] at c
    have e := i32_div (X := X) (Y := Y) (by omega) (by omega)
    have q1 : 0 ≤ X.toInt / Y.toInt := Int.ediv_nonneg (by omega) (by omega)
    have q2 : X.toInt / Y.toInt ≤ X.toInt := Int.ediv_le_self _ (by omega)
    exact zFrB_inv _ h hi1 (by omega) (by omega)
  · exact zF32_inv (X / Y) h hi1
theorem zLo_inv {ρ : List Int} {B : zB} {x : sI} {a l : Int} (h : zLo B x l = true) (hi : zIn ρ B) (ha : zAt ρ x = some a) : l ≤ a := by
  unfold zLo at h
  rcases Bool.or_eq_true_iff.mp h with h | h
  · obtain ⟨l1, u1, a1, a2, h⟩ := zRg_inv h hi ha
    have h := sILe_t h
    omega
  · obtain ⟨q, hq, c⟩ := List.any_eq_true.mp h
    obtain ⟨c1, c2⟩ := and_inv c
    have c1 := Nat.eq_of_beq_eq_true c1
    obtain ⟨a1, b1, h1, h2, h3⟩ := hi.2.2.2 q hq
    obtain ⟨l1, u1, g1, g2, c2⟩ := zRg_inv c2 hi h1
    have c2 := sILe_t c2
    have := zSame c1 h2 ha
    omega
theorem zRem_inv {ρ : List Int} {B : zB} {x y : sI} {X Y : Int32} {k : zB → sI → Bool} (h : zRem B x y k = true) (hi : zIn ρ B) (hX : zAt ρ x = some X.toInt) (hY : zAt ρ y = some Y.toInt) : Y.toInt ≠ 0 ∧ zO1 ρ k (X - X / Y * Y).toInt := by
  unfold zRem at h
  obtain ⟨hz, B1, hi1, h⟩ := zNz_inv h hi hY
  refine ⟨hz, ?_⟩
  simp only [sIEq_d, sILt_d, sILe_d] at h
  obtain ⟨l1, u1, l2, u2, a1, a2, b1, b2, h⟩ := zRg_2 h hi1 hX hY
  rcases bif_inv h with ⟨c, h⟩ | ⟨-, h⟩
  · simp only [Bool.and_eq_true, decide_eq_true_eq] at c
    refine zO1_0 hi1 h ?_
    rw [zC32 hX a1 a2 c.1, zC32 hY b1 b2 c.2]
    rfl
  rcases bif_inv h with ⟨c, h⟩ | ⟨-, h⟩
  · obtain ⟨c1, c2⟩ := and_inv c
    have c1 := zLo_inv c1 hi1 hX
    have c2 := of_decide_eq_true c2
    have e := i32_rem (X := X) (Y := Y) (by omega) (by omega)
    have q1 : 0 ≤ X.toInt % Y.toInt := Int.emod_nonneg _ (by omega)
    have q2 : X.toInt % Y.toInt < Y.toInt := Int.emod_lt_of_pos _ (by omega)
    rcases bif_inv h with ⟨c2, h⟩ | ⟨-, h⟩
    · have c2 := of_decide_eq_true c2
      refine zO1_0 hi1 h ?_
      rw [e, Int.emod_eq_of_lt (by omega) (by omega)]
      exact hX
    · obtain ⟨e9, B2, z, hi2, h, hz⟩ := zFrB_inv (X.toInt % Y.toInt) h hi1 (by omega) (by omega)
      rw [← e] at hz q2
      rcases bif_inv h with ⟨-, h⟩ | ⟨-, h⟩
      · exact ⟨e9, B2, z, hi2, h, hz⟩
      · obtain ⟨B3, hi3, h⟩ := zFa_inv h hi2 hz (zAt_ext e9 hY) q2
        exact ⟨e9, B3, z, hi3, h, hz⟩
  · exact zF32_inv _ h hi1
theorem i32_and {X Y : Int32} (h : 0 ≤ Y.toInt) : 0 ≤ (X &&& Y).toInt ∧ (X &&& Y).toInt ≤ Y.toInt := by
  have h : 0 ≤ Y.toBitVec.toInt := h
  show 0 ≤ (X.toBitVec &&& Y.toBitVec).toInt ∧ (X.toBitVec &&& Y.toBitVec).toInt ≤ Y.toBitVec.toInt
  have hn : (X.toBitVec &&& Y.toBitVec).toNat ≤ Y.toBitVec.toNat := by
    rw [BitVec.toNat_and]
    exact Nat.and_le_right
  have hy := Y.toBitVec.isLt
  rw [BitVec.toInt_eq_toNat_cond] at h
  rw [BitVec.toInt_eq_toNat_cond, BitVec.toInt_eq_toNat_cond]
  split at h
  · next c =>
    rw [if_pos c, if_pos (by omega)]
    omega
  · omega
theorem i32_and_l {X Y : Int32} (h : 0 ≤ X.toInt) : 0 ≤ (X &&& Y).toInt ∧ (X &&& Y).toInt ≤ X.toInt := by
  have e : X &&& Y = Y &&& X := by
    apply Int32.toBitVec_inj.mp
    show X.toBitVec &&& Y.toBitVec = Y.toBitVec &&& X.toBitVec
    exact BitVec.and_comm _ _
  rw [e]
  exact i32_and h
theorem zAnd_inv {ρ : List Int} {B : zB} {x y : sI} {X Y : Int32} {k : zB → sI → Bool} (h : zAnd B x y k = true) (hi : zIn ρ B) (hX : zAt ρ x = some X.toInt) (hY : zAt ρ y = some Y.toInt) : zO1 ρ k (X &&& Y).toInt := by
  unfold zAnd at h
  simp only [sILe_d] at h
  obtain ⟨l1, u1, l2, u2, a1, a2, b1, b2, h⟩ := zRg_2 h hi hX hY
  rcases bif_inv h with ⟨c, h⟩ | ⟨-, h⟩
  · have c := of_decide_eq_true c
    have := i32_and (X := X) (Y := Y) (by omega)
    exact zFrB_inv _ h hi (by omega) (by omega)
  rcases bif_inv h with ⟨c, h⟩ | ⟨-, h⟩
  · have c := of_decide_eq_true c
    have := i32_and_l (X := X) (Y := Y) (by omega)
    exact zFrB_inv _ h hi (by omega) (by omega)
  · exact zF32_inv (X &&& Y) h hi
theorem i32_ush (X : Int32) : 0 ≤ ((X.toUInt32 >>> (Int32.toUInt32 (Int32.ofInt 8) &&& Int32.toUInt32 31)).toInt32).toInt ∧ ((X.toUInt32 >>> (Int32.toUInt32 (Int32.ofInt 8) &&& Int32.toUInt32 31)).toInt32).toInt ≤ 16777215 := by
  have e8 : Int32.toUInt32 (Int32.ofInt 8) &&& Int32.toUInt32 31 = 8 := by decide
  rw [e8]
  have hn : (X.toUInt32 >>> 8).toBitVec.toNat < 16777216 := by
    have h1 : (X.toUInt32 >>> 8).toNat = X.toUInt32.toNat >>> 8 := by
      rw [UInt32.toNat_shiftRight]
      rfl
    have h2 := X.toUInt32.toNat_lt
    show (X.toUInt32 >>> 8).toNat < _
    rw [h1, Nat.shiftRight_eq_div_pow]
    omega
  have e : ((X.toUInt32 >>> 8).toInt32).toInt = (X.toUInt32 >>> 8).toBitVec.toInt := rfl
  rw [e, BitVec.toInt_eq_toNat_cond, if_pos (by omega)]
  omega
theorem zUsh_inv {ρ : List Int} {B : zB} {y : sI} {X Y : Int32} {k : zB → sI → Bool} (h : zUsh B y k = true) (hi : zIn ρ B) (hY : zAt ρ y = some Y.toInt) : zO1 ρ k ((X.toUInt32 >>> (Y.toUInt32 &&& Int32.toUInt32 31)).toInt32).toInt := by
  unfold zUsh at h
  simp only [sIEq_d] at h
  obtain ⟨l, u, h1, h2, h⟩ := zRg_inv h hi hY
  rcases bif_inv h with ⟨c, h⟩ | ⟨-, h⟩
  · simp only [Bool.and_eq_true, decide_eq_true_eq] at c
    have e := i32_of (show Y.toInt = 8 by omega)
    rw [e]
    have := i32_ush X
    exact zFrB_inv _ h hi (by omega) (by omega)
  · exact zF32_inv _ h hi
theorem zHi_inv {ρ : List Int} {B : zB} {x : sI} {a u : Int} (h : zHi B x u = true) (hi : zIn ρ B) (ha : zAt ρ x = some a) : a ≤ u := by
  unfold zHi at h
  rcases Bool.or_eq_true_iff.mp h with h | h
  · obtain ⟨l1, u1, a1, a2, h⟩ := zRg_inv h hi ha
    have h := sILe_t h
    omega
  · obtain ⟨q, hq, c⟩ := List.any_eq_true.mp h
    obtain ⟨c1, c2⟩ := and_inv c
    have c1 := Nat.eq_of_beq_eq_true c1
    obtain ⟨a1, b1, h1, h2, h3⟩ := hi.2.2.2 q hq
    obtain ⟨l1, u1, g1, g2, c2⟩ := zRg_inv c2 hi h2
    have c2 := sILe_t c2
    have := zSame c1 h1 ha
    omega
theorem zFits_inv {ρ : List Int} {B : zB} {x : sI} {a l u : Int} (h : zFits B x l u = true) (hi : zIn ρ B) (ha : zAt ρ x = some a) : l ≤ a ∧ a ≤ u := by
  obtain ⟨h1, h2⟩ := and_inv h
  exact ⟨zLo_inv h1 hi ha, zHi_inv h2 hi ha⟩
theorem zLs_inv {ρ : List Int} {B : zB} {x y : sI} {a b : Int} (h : zLs B x y = true) (hi : zIn ρ B) (ha : zAt ρ x = some a) (hb : zAt ρ y = some b) : a < b := by
  unfold zLs at h
  rcases Bool.or_eq_true_iff.mp h with h | h
  · obtain ⟨h1, h2⟩ := and_inv h
    have h1 := zSame (Nat.eq_of_beq_eq_true h1) ha hb
    rw [sILt_d] at h2
    have h2 := of_decide_eq_true h2
    omega
  rcases Bool.or_eq_true_iff.mp h with h | h
  · exact zKn_inv h hi ha hb
  · obtain ⟨l1, u1, a1, a2, h⟩ := zRg_inv h hi ha
    obtain ⟨l2, u2, b1, b2, h⟩ := zRg_inv h hi hb
    rw [sILt_d] at h
    have h := of_decide_eq_true h
    omega

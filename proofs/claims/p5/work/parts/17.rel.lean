/-! ===== lists, cells and memories that are as the symbolic ones say ===== -/
noncomputable def sAll {α β : Type} (R : α → β → Prop) : List α → List β → Prop
  | [], [] => True
  | a :: l, b :: m => R a b ∧ sAll R l m
  | _, _ => False
theorem sAll_nil {α β : Type} {R : α → β → Prop} {m : List β} (h : sAll R [] m) : m = [] := by
  cases m with
  | nil => rfl
  | cons b m => exact h.elim
theorem sAll_cons {α β : Type} {R : α → β → Prop} {a : α} {l : List α} {m : List β} (h : sAll R (a :: l) m) : ∃ b m1, m = b :: m1 ∧ R a b ∧ sAll R l m1 := by
  cases m with
  | nil => exact h.elim
  | cons b m => exact ⟨b, m, rfl, h.1, h.2⟩
theorem sAll_len {α β : Type} {R : α → β → Prop} : ∀ {l : List α} {m : List β}, sAll R l m → m.length = l.length
  | [], m, h => by rw [sAll_nil h]; rfl
  | a :: l, m, h => by
    obtain ⟨b, m1, rfl, -, h⟩ := sAll_cons h
    rw [List.length_cons, List.length_cons, sAll_len h]
theorem sAll_take {α β : Type} {R : α → β → Prop} : ∀ (n : Nat) {l : List α} {m : List β}, sAll R l m → sAll R (l.take n) (m.take n)
  | 0, _, _, _ => trivial
  | n + 1, [], m, h => by rw [sAll_nil h]; trivial
  | n + 1, a :: l, m, h => by
    obtain ⟨b, m1, rfl, h1, h⟩ := sAll_cons h
    exact ⟨h1, sAll_take n h⟩
theorem sAll_drop {α β : Type} {R : α → β → Prop} : ∀ (n : Nat) {l : List α} {m : List β}, sAll R l m → sAll R (l.drop n) (m.drop n)
  | 0, _, _, h => h
  | n + 1, [], m, h => by rw [sAll_nil h]; trivial
  | n + 1, a :: l, m, h => by
    obtain ⟨b, m1, rfl, h1, h⟩ := sAll_cons h
    exact sAll_drop n h
theorem sAll_app {α β : Type} {R : α → β → Prop} : ∀ {l l2 : List α} {m m2 : List β}, sAll R l m → sAll R l2 m2 → sAll R (l ++ l2) (m ++ m2)
  | [], l2, m, m2, h, h2 => by rw [sAll_nil h]; exact h2
  | a :: l, l2, m, m2, h, h2 => by
    obtain ⟨b, m1, rfl, h1, h⟩ := sAll_cons h
    exact ⟨h1, sAll_app h h2⟩
theorem sAll_rev {α β : Type} {R : α → β → Prop} : ∀ {l : List α} {m : List β}, sAll R l m → sAll R l.reverse m.reverse
  | [], m, h => by rw [sAll_nil h]; trivial
  | a :: l, m, h => by
    obtain ⟨b, m1, rfl, h1, h⟩ := sAll_cons h
    rw [List.reverse_cons, List.reverse_cons]
    exact sAll_app (sAll_rev h) ⟨h1, trivial⟩
noncomputable def sSR (ρ : Nat → Int) : List sV → List Value → Prop := sAll (sRel ρ)
noncomputable def sLR (ρ : Nat → Int) : List (Nat × sV) → List (Nat × Value) → Prop := sAll fun q r => q.1 = r.1 ∧ sRel ρ q.2 r.2
noncomputable def sCR (ρ : Nat → Int) (c : sCell) (d : mCell) : Prop := c.1 = d.1 ∧ c.2.1 = d.2.1 ∧ c.2.1 ≤ 2048 ∧ ∀ k, k < c.2.1 → sRel ρ (sLook c k) (mSlot d k)
noncomputable def sMR (ρ : Nat → Int) (M : sMem) (N : mMem) : Prop := M.1 = N.1 ∧ M.2.1 = N.2.1 ∧ M.1 ≤ 1024 ∧ ∀ o, o < M.1 → sCR ρ (sObj M o) (mObj N o)
noncomputable def sGR (ρ : Nat → Int) (x : sCfg) (y : mCfg) : Prop := x.1 = y.1 ∧ sLR ρ x.2.1 y.2.1 ∧ sSR ρ x.2.2.1 y.2.2.1 ∧ sMR ρ x.2.2.2 y.2.2.2
noncomputable def sOR (ρ : Nat → Int) (a : Option sV) (v : Option Value) : Prop := match a, v with
  | none, none => True
  | some a, some v => sRel ρ a v
  | _, _ => False
noncomputable def sWR (ρ : Nat → Int) (w : Option sV × sMem) (z : Option Value × mMem) : Prop := sOR ρ w.1 z.1 ∧ sMR ρ w.2 z.2
noncomputable def sRR (ρ : Nat → Int) (r : sRes) (s : mRes) : Prop := match r, s with
  | .inl x, .inl y => sGR ρ x y
  | .inr w, .inr z => sWR ρ w z
  | _, _ => False
theorem sSR_i {ρ : Nat → Int} {x : sI} {S : List sV} {V : List Value} (h : sSR ρ (.inl x :: S) V) : ∃ y W, V = .int y :: W ∧ y.toInt = sDn ρ x ∧ sSR ρ S W := by
  obtain ⟨b, m, rfl, h1, h2⟩ := sAll_cons h
  obtain ⟨y, rfl, h1⟩ := sRel_i h1
  exact ⟨y, m, rfl, h1, h2⟩
theorem sSR_l {ρ : Nat → Int} {x : sI} {S : List sV} {V : List Value} (h : sSR ρ (.inr (.inl x) :: S) V) : ∃ y W, V = .long y :: W ∧ y.toInt = sDn ρ x ∧ sSR ρ S W := by
  obtain ⟨b, m, rfl, h1, h2⟩ := sAll_cons h
  obtain ⟨y, rfl, h1⟩ := sRel_l h1
  exact ⟨y, m, rfl, h1, h2⟩
theorem sSR_r {ρ : Nat → Int} {o : Nat} {S : List sV} {V : List Value} (h : sSR ρ (.inr (.inr (some o)) :: S) V) : ∃ W, V = .ref o :: W ∧ True ∧ sSR ρ S W := by
  obtain ⟨b, m, rfl, h1, h2⟩ := sAll_cons h
  obtain rfl := sRel_r h1
  exact ⟨m, rfl, trivial, h2⟩
theorem sSR_n {ρ : Nat → Int} {S : List sV} {V : List Value} (h : sSR ρ (.inr (.inr none) :: S) V) : ∃ W, V = .null :: W ∧ True ∧ sSR ρ S W := by
  obtain ⟨b, m, rfl, h1, h2⟩ := sAll_cons h
  obtain rfl := sRel_n h1
  exact ⟨m, rfl, trivial, h2⟩
theorem sSR_v {ρ : Nat → Int} {a : sV} {S : List sV} {V : List Value} (h : sSR ρ (a :: S) V) : ∃ v W, V = v :: W ∧ sRel ρ a v ∧ sSR ρ S W := sAll_cons h
theorem sCats_rel {ρ : Nat → Int} : ∀ {S : List sV} {V : List Value}, sSR ρ S V → mCats V = sCats S
  | [], V, h => by rw [sAll_nil h]; rfl
  | a :: S, V, h => by
    obtain ⟨v, W, rfl, h1, h⟩ := sSR_v h
    have ih := sCats_rel h
    have e : mCats (v :: W) = v.category + mCats W := by simp [mCats]
    rw [e, ih, sCat_rel h1]
    rfl
theorem sLk_rel {ρ : Nat → Int} {i : Nat} {a : sV} : ∀ {L : List (Nat × sV)} {N : List (Nat × Value)}, sLR ρ L N → sLk L i = some a → ∃ v, mLk N i = some v ∧ sRel ρ a v
  | [], N, h, h2 => by cases h2
  | q :: L, N, h, h2 => by
    obtain ⟨r, W, rfl, ⟨h1, h3⟩, h⟩ := sAll_cons h
    have h2 : (bif Nat.beq q.1 i then some q.2 else sLk L i) = some a := h2
    rw [h1] at h2
    cases hb : Nat.beq r.1 i with
    | true =>
      rw [hb, cond_true] at h2
      cases h2
      exact ⟨r.2, by unfold mLk; rw [List.find?_cons_of_pos (by simpa using hb)]; rfl, h3⟩
    | false =>
      rw [hb, cond_false] at h2
      obtain ⟨v, h4, h5⟩ := sLk_rel h h2
      refine ⟨v, ?_, h5⟩
      unfold mLk at h4 ⊢
      rw [List.find?_cons_of_neg (by simp [hb])]
      exact h4
theorem nbeq (a b : Nat) : (a == b) = Nat.beq a b := by
  rw [Bool.eq_iff_iff, beq_iff_eq, Nat.beq_eq]
theorem nbeq_f {a b : Nat} (h : ¬ a = b) : Nat.beq a b = false := by
  cases c : Nat.beq a b with
  | false => rfl
  | true => exact absurd (Nat.eq_of_beq_eq_true c) h
theorem sF1_rel {ρ : Nat → Int} {i : Nat} : ∀ {L : List (Nat × sV)} {N : List (Nat × Value)}, sLR ρ L N → sLR ρ (sF1 i L) (N.filter (fun q => !(q.1 == i) && !(q.1 + 1 == i && q.2.category == 2)))
  | [], N, h => by rw [sAll_nil h]; exact trivial
  | q :: L, N, h => by
    obtain ⟨r, W, rfl, ⟨h1, h3⟩, h⟩ := sAll_cons h
    have ih := sF1_rel (i := i) h
    show sLR ρ (bif Nat.beq q.1 i || (Nat.beq (q.1 + 1) i && Nat.beq (sCat q.2) 2) then sF1 i L else q :: sF1 i L) _
    rw [h1, List.filter_cons, nbeq, nbeq, nbeq, sCat_rel h3]
    cases Nat.beq r.1 i <;> cases Nat.beq (r.1 + 1) i <;> cases Nat.beq (sCat q.2) 2 <;> first | exact ih | exact ⟨⟨h1, h3⟩, ih⟩
theorem sF2_rel {ρ : Nat → Int} {i : Nat} : ∀ {L : List (Nat × sV)} {N : List (Nat × Value)}, sLR ρ L N → sLR ρ (sF2 i L) (N.filter (fun q => !(q.1 == i) && (!(q.1 == i + 1) && !(q.1 + 1 == i && q.2.category == 2))))
  | [], N, h => by rw [sAll_nil h]; exact trivial
  | q :: L, N, h => by
    obtain ⟨r, W, rfl, ⟨h1, h3⟩, h⟩ := sAll_cons h
    have ih := sF2_rel (i := i) h
    show sLR ρ (bif Nat.beq q.1 i || (Nat.beq q.1 (i + 1) || (Nat.beq (q.1 + 1) i && Nat.beq (sCat q.2) 2)) then sF2 i L else q :: sF2 i L) _
    rw [h1, List.filter_cons, nbeq, nbeq, nbeq, nbeq, sCat_rel h3]
    cases Nat.beq r.1 i <;> cases Nat.beq r.1 (i + 1) <;> cases Nat.beq (r.1 + 1) i <;> cases Nat.beq (sCat q.2) 2 <;> first | exact ih | exact ⟨⟨h1, h3⟩, ih⟩
theorem sSt1_rel {ρ : Nat → Int} {i : Nat} {a : sV} {v : Value} {L : List (Nat × sV)} {N : List (Nat × Value)} (h : sLR ρ L N) (ha : sRel ρ a v) : sLR ρ (sSt1 L i a) (mSt1 N i v) := ⟨⟨rfl, ha⟩, sF1_rel h⟩
theorem sSt2_rel {ρ : Nat → Int} {i : Nat} {a : sV} {v : Value} {L : List (Nat × sV)} {N : List (Nat × Value)} (h : sLR ρ L N) (ha : sRel ρ a v) : sLR ρ (sSt2 L i a) (mSt2 N i v) := ⟨⟨rfl, ha⟩, sF2_rel h⟩
theorem sArgs_rel {ρ : Nat → Int} : ∀ {S : List sV} {V : List Value} (i : Nat), sSR ρ S V → sLR ρ (sArgs i S) (lv_args i V)
  | [], V, i, h => by rw [sAll_nil h]; exact trivial
  | a :: S, V, i, h => by
    obtain ⟨v, W, rfl, h1, h⟩ := sSR_v h
    have hc := sCat_rel h1
    have e : (if v.category = 2 then i + 2 else i + 1) = i + sCat a := by
      rw [hc]
      rcases a with x | x | x <;> rfl
    show sLR ρ ((i, a) :: sArgs (i + sCat a) S) ((i, v) :: lv_args (if v.category = 2 then i + 2 else i + 1) W)
    rw [e]
    exact ⟨⟨rfl, h1⟩, sArgs_rel _ h⟩
/-! ===== cells ===== -/
theorem sEqV_eq {x y : sV} (h : sEqV x y = true) : x = y := by
  rcases x with x | x | x | x <;> rcases y with y | y | y | y <;> first | (cases h; done) | rfl | (rw [sEqI_eq h]; done) | (rw [Nat.eq_of_beq_eq_true h])
theorem sLa_rep (d v : sV) (k j : Nat) : ∀ l : List (Nat × sV), sLa d (sRep l k v) j = if k = j then v else sLa d l j
  | [] => by
    show (bif Nat.beq k j then v else d) = _
    by_cases e : k = j
    · rw [if_pos e, e, Nat.beq_refl]; rfl
    · rw [if_neg e, nbeq_f e]; rfl
  | q :: r => by
    have ih := sLa_rep d v k j r
    show sLa d (bif Nat.beq q.1 k then (k, v) :: r else q :: sRep r k v) j = _
    cases hq : Nat.beq q.1 k with
    | true =>
      have hk := Nat.eq_of_beq_eq_true hq
      show (bif Nat.beq k j then v else sLa d r j) = if k = j then v else (bif Nat.beq q.1 j then q.2 else sLa d r j)
      rw [hk]
      by_cases e : k = j
      · rw [if_pos e, e, Nat.beq_refl]; rfl
      · rw [if_neg e, nbeq_f e]; rfl
    | false =>
      show (bif Nat.beq q.1 j then q.2 else sLa d (sRep r k v) j) = if k = j then v else (bif Nat.beq q.1 j then q.2 else sLa d r j)
      rw [ih]
      by_cases e : k = j
      · have : Nat.beq q.1 j = false := by rw [← e]; exact hq
        rw [if_pos e, if_pos e, this]; rfl
      · rw [if_neg e, if_neg e]
theorem sCset_look (c : sCell) (k j : Nat) (v : sV) : sLook (c.1, c.2.1, c.2.2.1, sRep c.2.2.2 k v) j = if k = j then v else sLook c j := sLa_rep _ _ _ _ _
theorem sCR_set1 {ρ : Nat → Int} {c : sCell} {d : mCell} {k : Nat} {a : sV} {v : Value} (h : sCR ρ c d) (hk : k < c.2.1) (ha : sRel ρ a v) : sCR ρ (c.1, c.2.1, c.2.2.1, sRep c.2.2.2 k a) (mCset d k v) := by
  refine ⟨h.1, h.2.1, h.2.2.1, fun j hj => ?_⟩
  have hj : j < c.2.1 := hj
  have h3 := h.2.2.1
  rw [sCset_look, mSlot_set (by omega) (by omega)]
  by_cases e : k = j
  · rw [if_pos e, if_pos e]; exact ha
  · rw [if_neg e, if_neg e]; exact h.2.2.2 j hj
theorem sCR_set0 {ρ : Nat → Int} {c : sCell} {d : mCell} {k : Nat} {v : Value} (h : sCR ρ c d) (hk : k < c.2.1) (ha : sRel ρ (sLook c k) v) : sCR ρ c (mCset d k v) := by
  refine ⟨h.1, h.2.1, h.2.2.1, fun j hj => ?_⟩
  have h3 := h.2.2.1
  rw [mSlot_set (by omega) (by omega)]
  by_cases e : k = j
  · rw [if_pos e, ← e]; exact ha
  · rw [if_neg e]; exact h.2.2.2 j hj
theorem sCR_set {ρ : Nat → Int} {c : sCell} {d : mCell} {k : Nat} {a : sV} {v : Value} (h : sCR ρ c d) (hk : k < c.2.1) (ha : sRel ρ a v) : sCR ρ (sCset c k a) (mCset d k v) := by
  unfold sCset
  cases he : sEqV (sLook c k) a with
  | true => rw [cond_true]; exact sCR_set0 h hk (by rw [sEqV_eq he]; exact ha)
  | false => rw [cond_false]; exact sCR_set1 h hk ha
theorem sCset_n (c : sCell) (k : Nat) (a : sV) : (sCset c k a).2.1 = c.2.1 := by
  unfold sCset
  cases sEqV (sLook c k) a <;> rfl
theorem sGt_eq : ∀ (d : Nat) (t : mTr sCell d) (i : Nat), sGt d t i = mGet d t i
  | 0, _, _ => rfl
  | d + 1, t, i => by
    show (bif Nat.beq (i % 2) 0 then sGt d (mF t) (i / 2) else sGt d (mS t) (i / 2)) = (bif Nat.beq (i % 2) 0 then mGet d (mF t) (i / 2) else mGet d (mS t) (i / 2))
    rw [sGt_eq d, sGt_eq d]
theorem sSe_eq : ∀ (d : Nat) (t : mTr sCell d) (i : Nat) (v : sCell), sSe d t i v = mSet d t i v
  | 0, _, _, _ => rfl
  | d + 1, t, i, v => by
    show (bif Nat.beq (i % 2) 0 then mP (sSe d (mF t) (i / 2) v) (mS t) else mP (mF t) (sSe d (mS t) (i / 2) v)) = (bif Nat.beq (i % 2) 0 then mP (mSet d (mF t) (i / 2) v) (mS t) else mP (mF t) (mSet d (mS t) (i / 2) v))
    rw [sSe_eq d, sSe_eq d]
theorem sObj_put {M : sMem} {o k : Nat} {c : sCell} (ho : o < 1024) (hk : k < 1024) : sObj (sPut M o c) k = if o = k then c else sObj M k := by
  show sGt 10 (sSe 10 M.2.2 o c) k = if o = k then c else sGt 10 M.2.2 k
  rw [sGt_eq, sGt_eq, sSe_eq]
  exact mGet_set 10 M.2.2 o k c ho hk
theorem sObj_new {M : sMem} {k : Nat} {c : sCell} (ho : M.1 < 1024) (hk : k < 1024) : sObj (sNew M c) k = if M.1 = k then c else sObj M k := by
  show sGt 10 (sSe 10 M.2.2 M.1 c) k = if M.1 = k then c else sGt 10 M.2.2 k
  rw [sGt_eq, sGt_eq, sSe_eq]
  exact mGet_set 10 M.2.2 M.1 k c ho hk
theorem sMR_put {ρ : Nat → Int} {M : sMem} {N : mMem} {o : Nat} {c : sCell} {d : mCell} (h : sMR ρ M N) (ho : o < M.1) (hc : sCR ρ c d) : sMR ρ (sPut M o c) (mPut N o d) := by
  have h3 := h.2.2.1
  refine ⟨h.1, h.2.1, h.2.2.1, fun k hk => ?_⟩
  have hk : k < M.1 := hk
  rw [sObj_put (by omega) (by omega), mObj_put (by omega) (by omega)]
  by_cases e : o = k
  · rw [if_pos e, if_pos e]; exact hc
  · rw [if_neg e, if_neg e]; exact h.2.2.2 k hk
theorem sMR_put0 {ρ : Nat → Int} {M : sMem} {N : mMem} {o : Nat} {d : mCell} (h : sMR ρ M N) (ho : o < M.1) (hc : sCR ρ (sObj M o) d) : sMR ρ M (mPut N o d) := by
  have h3 := h.2.2.1
  refine ⟨h.1, h.2.1, h.2.2.1, fun k hk => ?_⟩
  rw [mObj_put (by omega) (by omega)]
  by_cases e : o = k
  · rw [if_pos e, ← e]; exact hc
  · rw [if_neg e]; exact h.2.2.2 k hk
theorem sMR_set {ρ : Nat → Int} {M : sMem} {N : mMem} {o k : Nat} {a : sV} {v : Value} (h : sMR ρ M N) (ho : o < M.1) (hk : k < (sObj M o).2.1) (ha : sRel ρ a v) : sMR ρ (sSet M o k a) (mPut N o (mCset (mObj N o) k v)) := by
  have hc := h.2.2.2 o ho
  unfold sSet
  cases he : sEqV (sLook (sObj M o) k) a with
  | true => rw [cond_true]; exact sMR_put0 h ho (sCR_set0 hc hk (by rw [sEqV_eq he]; exact ha))
  | false => rw [cond_false]; exact sMR_put h ho (sCR_set1 hc hk ha)
theorem sMR_new {ρ : Nat → Int} {M : sMem} {N : mMem} {c : sCell} {d : mCell} (h : sMR ρ M N) (ho : M.1 < 1024) (hc : sCR ρ c d) : sMR ρ (sNew M c) (mNew N d) := by
  have e1 := h.1
  have e2 := h.2.1
  refine ⟨by show M.1 + 1 = N.1 + 1; omega, by show M.2.1 + c.2.1 = N.2.1 + d.2.1; rw [e2, hc.2.1], ho, fun k hk => ?_⟩
  have hk : k < M.1 + 1 := hk
  rw [sObj_new ho (by omega), mObj_new (by omega) (by omega), ← e1]
  by_cases e : M.1 = k
  · rw [if_pos e, if_pos e]; exact hc
  · rw [if_neg e, if_neg e]; exact h.2.2.2 k (by omega)
theorem sCR_ints {ρ : Nat → Int} {n : Nat} (h0 : ρ 0 = 0) (hn : n ≤ 2048) : sCR ρ (100, n, .inl (0, 0), []) (100, n, mFill 11 (.int 0)) := by
  refine ⟨rfl, rfl, hn, fun k _ => ?_⟩
  have e : mSlot (100, n, mFill 11 (.int 0)) k = .int 0 := mGet_fill 11 _ k
  rw [e]
  show (0 : Int32).toInt = ρ 0 + 0
  rw [h0]
  rfl
theorem sCR_refs {ρ : Nat → Int} {n : Nat} (hn : n ≤ 2048) : sCR ρ (102, n, .inr (.inr none), []) (102, n, mFill 11 .null) := by
  refine ⟨rfl, rfl, hn, fun k _ => ?_⟩
  have e : mSlot (102, n, mFill 11 .null) k = .null := mGet_fill 11 _ k
  rw [e]
  exact trivial
theorem sLa_map (d : sV) (f : Nat → sV) (k : Nat) : ∀ l : List Nat, k ∈ l → sLa d (l.map fun j => (j, f j)) k = f k
  | [], h => by cases h
  | i :: l, h => by
    show (bif Nat.beq i k then f i else sLa d (l.map fun j => (j, f j)) k) = f k
    by_cases e : i = k
    · rw [e, Nat.beq_refl]; rfl
    · rw [nbeq_f e, cond_false]
      refine sLa_map d f k l ?_
      rcases List.mem_cons.mp h with h | h
      · exact absurd h.symm e
      · exact h
theorem sDef_kinds : ∀ ci, ci < 9 → ∀ j, j < mNX ci → (sEqV (sDefV (mTyX ci j)) (.inl (0, 0)) = true ∧ defaultValue (mTyX ci j) = .int 0) ∨ (sEqV (sDefV (mTyX ci j)) (.inr (.inr none)) = true ∧ defaultValue (mTyX ci j) = .null) := by decide +kernel
theorem mNX_le (ci : Nat) : mNX ci ≤ 2048 := by
  unfold mNX
  split <;> omega
theorem sCR_def {ρ : Nat → Int} {ci : Nat} (h0 : ρ 0 = 0) (h : ci < 9) : sCR ρ (ci, mNX ci, .inr (.inr none), sDef ci) (ci, mNX ci, mDef ci) := by
  refine ⟨rfl, rfl, mNX_le ci, fun k hk => ?_⟩
  have hk : k < mNX ci := hk
  have e : mSlot (ci, mNX ci, mDef ci) k = defaultValue (mTyX ci k) := mDef_ok ci h k hk
  have e2 : sLook (ci, mNX ci, .inr (.inr none), sDef ci) k = sDefV (mTyX ci k) := sLa_map _ (fun k => sDefV (mTyX ci k)) k _ (List.mem_range.mpr hk)
  rw [e, e2]
  rcases sDef_kinds ci h k hk with ⟨a, b⟩ | ⟨a, b⟩
  · rw [sEqV_eq a, b]
    show (0 : Int32).toInt = ρ 0 + 0
    rw [h0]
    rfl
  · rw [sEqV_eq a, b]
    exact trivial
theorem sRows_1 (k : Nat) (M : sMem) : ∀ n, (sRows k n M).1 = M.1 + n
  | 0 => rfl
  | n + 1 => by
    show (sRows k n M).1 + 1 = _
    rw [sRows_1 k M n]
    omega
theorem sMR_rows {ρ : Nat → Int} {M : sMem} {N : mMem} {k : Nat} (h0 : ρ 0 = 0) (hk : k ≤ 2048) (h : sMR ρ M N) : ∀ n, M.1 + n ≤ 1024 → sMR ρ (sRows k n M) (mRows k n N)
  | 0, _ => h
  | n + 1, hn => sMR_new (sMR_rows h0 hk h n (by omega)) (by rw [sRows_1]; omega) (sCR_ints h0 hk)
theorem sLa_refs (d : sV) (o k : Nat) : ∀ (n i : Nat), i ≤ k → k < i + n → sLa d (sRefs o n i) k = .inr (.inr (some (o + k)))
  | 0, _, h1, h2 => by omega
  | n + 1, i, h1, h2 => by
    show (bif Nat.beq i k then .inr (.inr (some (o + i))) else sLa d (sRefs o n (i + 1)) k) = _
    by_cases e : i = k
    · rw [e, Nat.beq_refl]; rfl
    · rw [nbeq_f e, cond_false]
      exact sLa_refs d o k n (i + 1) (by omega) (by omega)
theorem sCR_outer {ρ : Nat → Int} {n o : Nat} (hn : n ≤ 2048) : sCR ρ (101, n, .inr (.inr none), sRefs o n 0) (101, n, mRefs o n) := by
  refine ⟨rfl, rfl, hn, fun k hk => ?_⟩
  have hk : k < n := hk
  have e : mSlot (101, n, mRefs o n) k = .ref (o + k) := mRefs_get o n k hn hk
  have e2 : sLook (101, n, .inr (.inr none), sRefs o n 0) k = .inr (.inr (some (o + k))) := sLa_refs _ o k n 0 (Nat.zero_le _) (by omega)
  rw [e, e2]
  exact rfl
theorem sCpy_rel {ρ : Nat → Int} {f : Nat → sV} {g : Nat → Value} {sp dp : Nat} : ∀ (n : Nat) {c : sCell} {d : mCell} {k : sCell → Bool}, sCpy f sp dp n c k = true → sCR ρ c d → (∀ j, j < n → sRel ρ (f (sp + j)) (g (sp + j))) → dp + n ≤ c.2.1 →
    ∃ c1, k c1 = true ∧ c1.2.1 = c.2.1 ∧ sCR ρ c1 (d.1, d.2.1, mCpy g sp dp n d.2.2)
  | 0, c, d, k, h, hc, _, _ => ⟨c, h, rfl, hc⟩
  | n + 1, c, d, k, h, hc, hf, hn => by
    unfold sCpy at h
    obtain ⟨c1, h1, h2, h3⟩ := sCpy_rel n h hc (fun j hj => hf j (by omega)) (by omega)
    have hv := hf n (by omega)
    split at h1
    · next x hx =>
      rw [hx] at hv
      obtain ⟨y, hy, hv⟩ := sRel_i hv
      refine ⟨_, h1, by rw [sCset_n, h2], ?_⟩
      have h4 := sCR_set (k := dp + n) (a := .inl x) (v := .int y) h3 (by omega) hv
      have e : mIof (g (sp + n)) = y := by rw [hy]; rfl
      show sCR ρ _ (d.1, d.2.1, mSet 11 (mCpy g sp dp n d.2.2) (dp + n) (.int (mIof (g (sp + n)))))
      rw [e]
      exact h4
    · cases h1

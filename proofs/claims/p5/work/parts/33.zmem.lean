/-! ===== values, locals, memories that are as the box machine says ===== -/
noncomputable def zRel (ρ : List Int) (a : sV) (v : Value) : Prop := match a, v with
  | .inl x, .int y => zAt ρ x = some y.toInt
  | .inr (.inl x), .long y => zAt ρ x = some y.toInt
  | .inr (.inr none), .null => True
  | .inr (.inr (some o)), .ref p => p = o
  | _, _ => False
theorem zRel_i {ρ : List Int} {x : sI} {v : Value} (h : zRel ρ (.inl x) v) : ∃ y, v = .int y ∧ zAt ρ x = some y.toInt := by
  cases v with
  | int y => exact ⟨y, rfl, h⟩
  | _ => exact h.elim
theorem zRel_l {ρ : List Int} {x : sI} {v : Value} (h : zRel ρ (.inr (.inl x)) v) : ∃ y, v = .long y ∧ zAt ρ x = some y.toInt := by
  cases v with
  | long y => exact ⟨y, rfl, h⟩
  | _ => exact h.elim
theorem zRel_n {ρ : List Int} {v : Value} (h : zRel ρ (.inr (.inr none)) v) : v = .null := by
  cases v with
  | null => rfl
  | _ => exact h.elim
theorem zRel_r {ρ : List Int} {o : Nat} {v : Value} (h : zRel ρ (.inr (.inr (some o))) v) : v = .ref o := by
  cases v with
  | ref p => exact congrArg Value.ref h
  | _ => exact h.elim
theorem zRel_ext {ρ : List Int} {a : sV} {v : Value} (e : List Int) (h : zRel ρ a v) : zRel (ρ ++ e) a v := by
  rcases a with x | x | x | o
  · obtain ⟨y, rfl, h⟩ := zRel_i h
    exact zAt_ext e h
  · obtain ⟨y, rfl, h⟩ := zRel_l h
    exact zAt_ext e h
  · obtain rfl := zRel_n h
    exact trivial
  · obtain rfl := zRel_r h
    exact rfl
theorem zCat_rel {ρ : List Int} {a : sV} {v : Value} (h : zRel ρ a v) : v.category = sCat a := by
  rcases a with x | x | x | o
  · obtain ⟨y, rfl, -⟩ := zRel_i h; rfl
  · obtain ⟨y, rfl, -⟩ := zRel_l h; rfl
  · obtain rfl := zRel_n h; rfl
  · obtain rfl := zRel_r h; rfl
noncomputable def zSR (ρ : List Int) : List sV → List Value → Prop := sAll (zRel ρ)
theorem sAll_mono {α β : Type} {R Q : α → β → Prop} (h : ∀ a b, R a b → Q a b) : ∀ {l : List α} {m : List β}, sAll R l m → sAll Q l m
  | [], m, h2 => by rw [sAll_nil h2]; trivial
  | a :: l, m, h2 => by
    obtain ⟨b, m1, rfl, h3, h2⟩ := sAll_cons h2
    exact ⟨h a b h3, sAll_mono h h2⟩
theorem zSR_ext {ρ : List Int} {S : List sV} {V : List Value} (e : List Int) (h : zSR ρ S V) : zSR (ρ ++ e) S V := sAll_mono (fun _ _ => zRel_ext e) h
theorem zSR_i {ρ : List Int} {x : sI} {S : List sV} {V : List Value} (h : zSR ρ (.inl x :: S) V) : ∃ y W, V = .int y :: W ∧ zAt ρ x = some y.toInt ∧ zSR ρ S W := by
  obtain ⟨b, m, rfl, h1, h2⟩ := sAll_cons h
  obtain ⟨y, rfl, h1⟩ := zRel_i h1
  exact ⟨y, m, rfl, h1, h2⟩
theorem zSR_l {ρ : List Int} {x : sI} {S : List sV} {V : List Value} (h : zSR ρ (.inr (.inl x) :: S) V) : ∃ y W, V = .long y :: W ∧ zAt ρ x = some y.toInt ∧ zSR ρ S W := by
  obtain ⟨b, m, rfl, h1, h2⟩ := sAll_cons h
  obtain ⟨y, rfl, h1⟩ := zRel_l h1
  exact ⟨y, m, rfl, h1, h2⟩
theorem zSR_r {ρ : List Int} {o : Nat} {S : List sV} {V : List Value} (h : zSR ρ (.inr (.inr (some o)) :: S) V) : ∃ W, V = .ref o :: W ∧ True ∧ zSR ρ S W := by
  obtain ⟨b, m, rfl, h1, h2⟩ := sAll_cons h
  obtain rfl := zRel_r h1
  exact ⟨m, rfl, trivial, h2⟩
theorem zSR_n {ρ : List Int} {S : List sV} {V : List Value} (h : zSR ρ (.inr (.inr none) :: S) V) : ∃ W, V = .null :: W ∧ True ∧ zSR ρ S W := by
  obtain ⟨b, m, rfl, h1, h2⟩ := sAll_cons h
  obtain rfl := zRel_n h1
  exact ⟨m, rfl, trivial, h2⟩
theorem zSR_v {ρ : List Int} {a : sV} {S : List sV} {V : List Value} (h : zSR ρ (a :: S) V) : ∃ v W, V = v :: W ∧ zRel ρ a v ∧ zSR ρ S W := sAll_cons h
theorem zCats_rel {ρ : List Int} : ∀ {S : List sV} {V : List Value}, zSR ρ S V → mCats V = sCats S
  | [], V, h => by rw [sAll_nil h]; rfl
  | a :: S, V, h => by
    obtain ⟨v, W, rfl, h1, h⟩ := zSR_v h
    have ih := zCats_rel h
    have e : mCats (v :: W) = v.category + mCats W := by simp [mCats]
    rw [e, ih, zCat_rel h1]
    rfl
theorem bif_inv2 {α : Type} {c : Bool} {a b x : α} (h : (bif c then a else b) = x) : (c = true ∧ a = x) ∨ (c = false ∧ b = x) := by
  cases c
  · exact .inr ⟨rfl, h⟩
  · exact .inl ⟨rfl, h⟩
/-! ===== locals ===== -/
noncomputable def zLR (ρ : List Int) (L : List (Nat × sV)) (N : List (Nat × Value)) : Prop := ∀ i a, sLk L i = some a → ∃ v, mLk N i = some v ∧ zRel ρ a v
theorem zLR_ext {ρ : List Int} {L : List (Nat × sV)} {N : List (Nat × Value)} (e : List Int) (h : zLR ρ L N) : zLR (ρ ++ e) L N := fun i a ha => by
  obtain ⟨v, h1, h2⟩ := h i a ha
  exact ⟨v, h1, zRel_ext e h2⟩
theorem sLk_cons (q : Nat × sV) (L : List (Nat × sV)) (i : Nat) : sLk (q :: L) i = bif Nat.beq q.1 i then some q.2 else sLk L i := rfl
theorem mLk_cons (q : Nat × Value) (N : List (Nat × Value)) (i : Nat) : mLk (q :: N) i = bif Nat.beq q.1 i then some q.2 else mLk N i := by
  unfold mLk
  cases hb : Nat.beq q.1 i with
  | true => rw [List.find?_cons_of_pos (by simpa using hb)]; rfl
  | false => rw [List.find?_cons_of_neg (by simp [hb])]; rfl
theorem mLk_fil {p : Nat × Value → Bool} {j : Nat} {w : Value} : ∀ {N : List (Nat × Value)}, mLk N j = some w → p (j, w) = true → mLk (N.filter p) j = some w
  | [], h, _ => by cases h
  | q :: N, h, hp => by
    rw [mLk_cons] at h
    cases hb : Nat.beq q.1 j with
    | true =>
      rw [hb, cond_true] at h
      cases h
      have e : q = (j, q.2) := Prod.ext (Nat.eq_of_beq_eq_true hb) rfl
      have hq : p q = true := by rw [e]; exact hp
      rw [List.filter_cons_of_pos hq, mLk_cons, hb]
      rfl
    | false =>
      rw [hb, cond_false] at h
      have ih := mLk_fil h hp
      rw [List.filter_cons]
      split
      · rw [mLk_cons, hb]; exact ih
      · exact ih
theorem zDl_lk (i j : Nat) (a : sV) : ∀ L : List (Nat × sV), sLk (zDl i L) j = some a → j ≠ i ∧ sLk L j = some a
  | [], h => by cases h
  | q :: L, h => by
    have h : sLk (bif Nat.beq q.1 i then zDl i L else q :: zDl i L) j = some a := h
    cases hb : Nat.beq q.1 i with
    | true =>
      rw [hb, cond_true] at h
      obtain ⟨h1, h2⟩ := zDl_lk i j a L h
      refine ⟨h1, ?_⟩
      have e := Nat.eq_of_beq_eq_true hb
      rw [sLk_cons, nbeq_f (by omega)]
      exact h2
    | false =>
      rw [hb, cond_false, sLk_cons] at h
      rw [sLk_cons]
      cases hc : Nat.beq q.1 j with
      | true =>
        rw [hc, cond_true] at h
        refine ⟨?_, h⟩
        intro e
        rw [e] at hc
        rw [hb] at hc
        cases hc
      | false =>
        rw [hc, cond_false] at h
        exact zDl_lk i j a L h
theorem zDb_lk (i j : Nat) (a : sV) (L : List (Nat × sV)) (h : sLk (zDb i L) j = some a) : sLk L j = some a ∧ (j + 1 = i → sCat a ≠ 2) := by
  unfold zDb at h
  cases c : Nat.beq i 0 with
  | true =>
    rw [c, cond_true] at h
    have c := Nat.eq_of_beq_eq_true c
    exact ⟨h, fun e => by omega⟩
  | false =>
    rw [c, cond_false] at h
    split at h
    · obtain ⟨h1, h2⟩ := zDl_lk _ _ _ _ h
      exact ⟨h2, fun e => by omega⟩
    · next hn =>
      refine ⟨h, fun e hc => ?_⟩
      have e1 : i - 1 = j := by omega
      rw [e1] at hn
      rcases a with x | x | x
      · cases hc
      · exact hn x h
      · cases hc
theorem zSt1_rel {ρ : List Int} {i : Nat} {a : sV} {v : Value} {L : List (Nat × sV)} {N : List (Nat × Value)} (h : zLR ρ L N) (ha : zRel ρ a v) : zLR ρ (zSt1 L i a) (mSt1 N i v) := fun j b hb => by
  have hb : (bif Nat.beq i j then some a else sLk (zDl i (zDb i L)) j) = some b := hb
  unfold mSt1
  rw [mLk_cons]
  rcases bif_inv2 hb with ⟨c, hb⟩ | ⟨c, hb⟩
  · cases hb
    rw [c]
    exact ⟨v, rfl, ha⟩
  · rw [c]
    obtain ⟨h1, h2⟩ := zDl_lk _ _ _ _ hb
    obtain ⟨h3, h4⟩ := zDb_lk _ _ _ _ h2
    obtain ⟨w, h5, h6⟩ := h j b h3
    refine ⟨w, mLk_fil h5 ?_, h6⟩
    have hc := zCat_rel h6
    show (!(j == i) && !(j + 1 == i && w.category == 2)) = true
    rw [nbeq, nbeq, nbeq, nbeq_f h1, hc]
    by_cases e : j + 1 = i
    · rw [nbeq_f (h4 e)]
      simp
    · rw [nbeq_f e]
      rfl
theorem zSt2_rel {ρ : List Int} {i : Nat} {a : sV} {v : Value} {L : List (Nat × sV)} {N : List (Nat × Value)} (h : zLR ρ L N) (ha : zRel ρ a v) : zLR ρ (zSt2 L i a) (mSt2 N i v) := fun j b hb => by
  have hb : (bif Nat.beq i j then some a else sLk (zDl (i + 1) (zDl i (zDb i L))) j) = some b := hb
  unfold mSt2
  rw [mLk_cons]
  rcases bif_inv2 hb with ⟨c, hb⟩ | ⟨c, hb⟩
  · cases hb
    rw [c]
    exact ⟨v, rfl, ha⟩
  · rw [c]
    obtain ⟨h0, hb⟩ := zDl_lk _ _ _ _ hb
    obtain ⟨h1, h2⟩ := zDl_lk _ _ _ _ hb
    obtain ⟨h3, h4⟩ := zDb_lk _ _ _ _ h2
    obtain ⟨w, h5, h6⟩ := h j b h3
    refine ⟨w, mLk_fil h5 ?_, h6⟩
    have hc := zCat_rel h6
    show (!(j == i) && (!(j == i + 1) && !(j + 1 == i && w.category == 2))) = true
    rw [nbeq, nbeq, nbeq, nbeq, nbeq_f h1, nbeq_f h0, hc]
    by_cases e : j + 1 = i
    · rw [nbeq_f (h4 e)]
      simp
    · rw [nbeq_f e]
      rfl
theorem zArgs_rel {ρ : List Int} : ∀ {S : List sV} {V : List Value} (i : Nat), zSR ρ S V → zLR ρ (sArgs i S) (lv_args i V)
  | [], V, i, h => fun j a hj => by cases hj
  | a :: S, V, i, h => by
    obtain ⟨v, W, rfl, h1, h⟩ := zSR_v h
    have hc := zCat_rel h1
    have e : (if v.category = 2 then i + 2 else i + 1) = i + sCat a := by
      rw [hc]
      rcases a with x | x | x <;> rfl
    show zLR ρ ((i, a) :: sArgs (i + sCat a) S) ((i, v) :: lv_args (if v.category = 2 then i + 2 else i + 1) W)
    rw [e]
    have ih := zArgs_rel (i + sCat a) h
    intro j b hb
    rw [sLk_cons] at hb
    rw [mLk_cons]
    rcases bif_inv2 hb with ⟨c, hb⟩ | ⟨c, hb⟩
    · cases hb
      have c : Nat.beq i j = true := c
      show ∃ w, (bif Nat.beq i j then some v else _) = some w ∧ _
      rw [c]
      exact ⟨v, rfl, h1⟩
    · have c : Nat.beq i j = false := c
      show ∃ w, (bif Nat.beq i j then some v else _) = some w ∧ _
      rw [c]
      exact ih j b hb
/-! ===== memory ===== -/
noncomputable def mAtk (N : mMem) (key : Nat) : Value := mSlot (mObj N (key / 2048)) (key % 2048)
theorem mAtk_key (N : mMem) {o k : Nat} (hk : k < 2048) : mAtk N (o * 2048 + k) = mSlot (mObj N o) k := by
  unfold mAtk
  rw [show (o * 2048 + k) / 2048 = o by omega, show (o * 2048 + k) % 2048 = k by omega]
theorem mAtk_put {N : mMem} {o k key : Nat} {v : Value} (ho : o < 1024) (hk : k < 2048) (hkey : key < 2097152) : mAtk (mPut N o (mCset (mObj N o) k v)) key = if key = o * 2048 + k then v else mAtk N key := by
  unfold mAtk
  rw [mObj_put ho (by omega)]
  by_cases e : o = key / 2048
  · rw [if_pos e, mSlot_set hk (by omega)]
    by_cases e2 : k = key % 2048
    · rw [if_pos e2, if_pos (by omega)]
    · rw [if_neg e2, if_neg (by omega), e]
  · rw [if_neg e, if_neg (by omega)]
theorem mAtk_put1 {N : mMem} {o key : Nat} {c : mCell} (ho : o < 1024) (hkey : key < 2097152) (h : key / 2048 ≠ o) : mAtk (mPut N o c) key = mAtk N key := by
  unfold mAtk
  rw [mObj_put ho (by omega), if_neg (by omega)]
noncomputable def zShape (W : zW) (N : mMem) : Prop := N.1 = 529 ∧ ∀ o, o < 529 → (mObj N o).1 = (zWo W o).1 ∧ (mObj N o).2.1 = (zWo W o).2.1 ∧ ((zWo W o).1 = 100 → ∀ k, k < (zWo W o).2.1 → k < 2048 → ∃ x, mSlot (mObj N o) k = .int x)
noncomputable def zSp (s : (Int × Int) ⊕ Nat) (v : Value) : Prop := match s with
  | .inl q => ∃ x, v = .int x ∧ q.1 ≤ x.toInt ∧ x.toInt ≤ q.2
  | .inr r => v = .ref r
noncomputable def zCh (c : zC) (N : mMem) : Prop := ∀ x y, mAtk N c.1 = .int x → mAtk N c.2.2.2.1 = .int y → (c.2.1 ≤ c.2.2.1 → c.2.1 ≤ x.toInt → x.toInt ≤ c.2.2.1 → c.2.2.2.2.1 ≤ y.toInt ∧ y.toInt ≤ c.2.2.2.2.2) ∧ (c.2.2.1 < c.2.1 → y.toInt + c.2.2.2.2.1 < x.toInt + c.2.2.2.2.2)
noncomputable def zGood (W : zW) (N : mMem) : Prop := zShape W N ∧ (∀ key, key < 2097152 → ∀ s, zWs W key = some s → zSp s (mAtk N key)) ∧ ∀ key, key < 2097152 → ∀ c ∈ zWc W key, zCh c N
noncomputable def zRl (W : zW) (X : mMem → mMem → Prop) (c k : Nat) (N N1 : mMem) : Prop := (c = 1 → N1 = N) ∧ N1.1 = N.1 ∧ N1.2.1 = N.2.1 ∧ (∀ key, key < 2097152 → zWk W c key = true → mAtk N1 key = mAtk N key) ∧ (∀ key, key < 2097152 → zWt W key = true → ∃ x y, mAtk N key = .int x ∧ mAtk N1 key = .int y ∧ y.toInt ≤ x.toInt + (k : Int)) ∧ X N N1
noncomputable def zRoom (W : zW) (k : Nat) (N : mMem) : Prop := ∀ key, key < 2097152 → zWt W key = true → ∃ x, mAtk N key = .int x ∧ x.toInt + (k : Int) ≤ 2147483647
/-- what a world must keep -/
noncomputable def zWok (W : zW) : Prop := (∀ key s, zWs W key = some s → (zWo W (key / 2048)).2.2 = false) ∧ (∀ key c, c ∈ zWc W key → c.1 < 2097152 ∧ c.2.2.2.1 < 2097152 ∧ c ∈ zWc W c.1 ∧ c ∈ zWc W c.2.2.2.1 ∧ (∃ q, zWs W c.1 = some (.inl q)) ∧ ∃ q, zWs W c.2.2.2.1 = some (.inl q)) ∧ (∀ c key, c ≠ 1 → zWk W c key = true → (zWo W (key / 2048)).2.2 = false) ∧ (∀ key, zWt W key = true → ∃ q, zWs W key = some (.inl q)) ∧ (∀ o, (zWo W o).2.2 = true → (zWo W o).1 = 100) ∧ (∀ c d, zWu W c d = true → (d = 1 → c = 1) ∧ ∀ key, key < 2097152 → zWk W d key = true → zWk W c key = true) ∧ (∀ key, zWk W 1 key = true) ∧ ∀ key, zWx W key = true → (zWo W (key / 2048)).2.2 = false
noncomputable def zXok (W : zW) (X : mMem → mMem → Prop) (c0 : Nat) : Prop := (∀ N N1 N2, X N N1 → X N1 N2 → X N N2) ∧ (∀ N N1, X N N → (∀ key, key < 2097152 → (zWk W c0 key = true ∨ zWx W key = true) → mAtk N1 key = mAtk N key) → X N N1) ∧ ∀ N N1, X N N1 → X N1 N1
noncomputable def zDet (T : Nat → List mE) (I : Nat → mI) (XN : Nat → Nat) (XF : Nat → Nat → Int32) (ρ : List Int) (d : Option (sI × (Nat × (Nat × Nat)))) (N : mMem) : Prop :=
  ∀ x m f l, d = some (x, (m, (f, l))) → ∃ v : Int32, zAt ρ x = some v.toInt ∧ mRuns T I XN XF f l m (0, lv_args 0 [.ref 525], [], N) (some (.int v), N)
/-- the overlay over a memory that was good at the last cut -/
noncomputable def zOv (W : zW) (ρ : List Int) (ov : zO) (N0 N : mMem) : Prop :=
  (∀ key, key < 2097152 → ∀ s, zWs W key = some s → (∃ a, zLk ov key = some (a, true)) ∨ mAtk N key = mAtk N0 key) ∧
  ∀ key a d, zLk ov key = some (a, d) → key < 2097152 ∧ zRel ρ a (mAtk N key) ∧ (∃ x, a = .inl x) ∧ (d = true → ∃ q, zWs W key = some (.inl q)) ∧ (d = false → ∀ s, zWs W key = some s → mAtk N key = mAtk N0 key)
noncomputable def zMR (W : zW) (X : mMem → mMem → Prop) (c0 : Nat) (T : Nat → List mE) (I : Nat → mI) (XN : Nat → Nat) (XF : Nat → Nat → Int32) (Ne : mMem) (ρ : List Int) (M : zM) (N : mMem) : Prop :=
  ∃ N0, zGood W N0 ∧ zShape W N ∧ zOv W ρ M.1 N0 N ∧ zRl W X c0 M.2.1 Ne N ∧ zDet T I XN XF ρ M.2.2 N
theorem zNo1 {W : zW} {c key : Nat} (hW : zWok W) (h : zWk W c key = false) (e : c = 1) : False := by
  rw [e, hW.2.2.2.2.2.2.1 key] at h
  cases h
section ZMM
variable {W : zW} {X : mMem → mMem → Prop} {c0 : Nat} {T : Nat → List mE} {I : Nat → mI} {XN : Nat → Nat} {XF : Nat → Nat → Int32} {Ne : mMem}
theorem zDet_ext {ρ : List Int} {d : Option (sI × (Nat × (Nat × Nat)))} {N : mMem} (e : List Int) (h : zDet T I XN XF ρ d N) : zDet T I XN XF (ρ ++ e) d N := fun x m f l hd => by
  obtain ⟨v, h1, h2⟩ := h x m f l hd
  exact ⟨v, zAt_ext e h1, h2⟩
theorem zDet_none {ρ : List Int} {N : mMem} : zDet T I XN XF ρ none N := fun x m f l hd => by cases hd
theorem zOv_ext {ρ : List Int} {ov : zO} {N0 N : mMem} (e : List Int) (h : zOv W ρ ov N0 N) : zOv W (ρ ++ e) ov N0 N :=
  ⟨h.1, fun key a d hk => by
    obtain ⟨h1, h2, h3⟩ := h.2 key a d hk
    exact ⟨h1, zRel_ext e h2, h3⟩⟩
theorem zMR_ext {ρ : List Int} {M : zM} {N : mMem} (e : List Int) (h : zMR W X c0 T I XN XF Ne ρ M N) : zMR W X c0 T I XN XF Ne (ρ ++ e) M N := by
  obtain ⟨N0, h1, h2, h3, h4, h5⟩ := h
  exact ⟨N0, h1, h2, zOv_ext e h3, h4, zDet_ext e h5⟩
theorem zOv_int {ρ : List Int} {ov : zO} {N0 N : mMem} {key : Nat} {q : Int × Int} (hg : zGood W N0) (h : zOv W ρ ov N0 N) (hk : key < 2097152) (hs : zWs W key = some (.inl q)) : ∃ y, mAtk N key = .int y := by
  rcases h.1 key hk _ hs with ⟨a, ha⟩ | e
  · obtain ⟨-, h2, ⟨x, hx⟩, -⟩ := h.2 key a true ha
    rw [hx] at h2
    obtain ⟨y, hy, -⟩ := zRel_i h2
    exact ⟨y, hy⟩
  · obtain ⟨y, hy, -⟩ := hg.2.1 key hk _ hs
    exact ⟨y, e.trans hy⟩
theorem zLk_cons (q : Nat × (sV × Bool)) (ov : zO) (key : Nat) : zLk (q :: ov) key = bif Nat.beq q.1 key then some q.2 else zLk ov key := rfl
theorem zClz_inv {ρ : List Int} {ov : zO} {N0 N : mMem} {key : Nat} {y : Int32} (hW : zWok W) (hO : zOv W ρ ov N0 N) (hy : mAtk N0 key = .int y) : ∀ (cs : List zC) (B : zB) (l u : Int) (k : zB → Int → Int → Bool), (∀ c ∈ cs, zCh c N0 ∧ ∃ q, zWs W c.1 = some (.inl q)) → zClz ov key cs B l u k = true → zIn ρ B → l ≤ y.toInt → y.toInt ≤ u →
    ∃ B1 l1 u1, zIn ρ B1 ∧ k B1 l1 u1 = true ∧ l1 ≤ y.toInt ∧ y.toInt ≤ u1
  | [], B, l, u, k, _, h, hi, h1, h2 => ⟨B, l, u, hi, h, h1, h2⟩
  | c :: cs, B, l, u, k, hc, h, hi, h1, h2 => by
    have ih := fun B l u k => zClz_inv hW hO hy cs B l u k (fun d hd => hc d (List.mem_cons_of_mem _ hd))
    have h : (bif Nat.beq c.2.2.2.1 key then (match zLk ov c.1 with
      | some (.inl v, false) => zLt B v (0, c.2.1) fun B1 b => bif b then zClz ov key cs B1 l u k else zLt B1 (0, c.2.2.1) v fun B2 b2 => bif b2 then zClz ov key cs B2 l u k else zClz ov key cs B2 (zMx l c.2.2.2.2.1) (zMn u c.2.2.2.2.2) k
      | _ => zClz ov key cs B l u k) else zClz ov key cs B l u k) = true := h
    rcases bif_inv h with ⟨e, h⟩ | ⟨-, h⟩
    · have e := Nat.eq_of_beq_eq_true e
      split at h
      · next v hv =>
        obtain ⟨h3, h4, -, -, h5⟩ := hO.2 _ _ _ hv
        obtain ⟨q, hq⟩ := (hc c List.mem_cons_self).2
        have h6 := h5 rfl _ hq
        obtain ⟨x, hx, hx2⟩ := zRel_i h4
        obtain ⟨B1, hi1, h⟩ := zLt_inv h hi hx2 (zAt_0 ρ c.2.1)
        rcases bif_inv h with ⟨-, h⟩ | ⟨c1, h⟩
        · exact ih B1 l u k h hi1 h1 h2
        · have c1 := of_decide_eq_false c1
          obtain ⟨B2, hi2, h⟩ := zLt_inv h hi1 (zAt_0 ρ c.2.2.1) hx2
          rcases bif_inv h with ⟨-, h⟩ | ⟨c2, h⟩
          · exact ih B2 l u k h hi2 h1 h2
          · have c2 := of_decide_eq_false c2
            have h7 := ((hc c List.mem_cons_self).1 x y (h6.symm.trans hx) (by rw [e]; exact hy)).1 (by omega) (by omega) (by omega)
            exact ih B2 _ _ k h hi2 (zMx_le h1 h7.1) (zMn_le h2 h7.2)
      · exact ih B l u k h hi h1 h2
    · exact ih B l u k h hi h1 h2
theorem zClr_inv {ρ : List Int} {ov : zO} {N0 N : mMem} {key : Nat} {y : Int32} {x : sI} (hO : zOv W ρ ov N0 N) (hy : mAtk N0 key = .int y) (hx : zAt ρ x = some y.toInt) : ∀ (cs : List zC) (B : zB) (k : zB → Bool), (∀ c ∈ cs, zCh c N0 ∧ ∃ q, zWs W c.1 = some (.inl q)) → zClr ov key x cs B k = true → zIn ρ B → ∃ B1, zIn ρ B1 ∧ k B1 = true
  | [], B, k, _, h, hi => ⟨B, hi, h⟩
  | c :: cs, B, k, hc, h, hi => by
    have ih := fun B k => zClr_inv hO hy hx cs B k (fun d hd => hc d (List.mem_cons_of_mem _ hd))
    have h : (bif Nat.beq c.2.2.2.1 key && sILt c.2.2.1 c.2.1 then (match zLk ov c.1 with
      | some (.inl v, false) => zFa B (x.1, x.2 + c.2.2.2.2.1) (v.1, v.2 + c.2.2.2.2.2) fun B1 => zClr ov key x cs B1 k
      | _ => zClr ov key x cs B k) else zClr ov key x cs B k) = true := h
    rcases bif_inv h with ⟨e, h⟩ | ⟨-, h⟩
    · obtain ⟨e, e2⟩ := and_inv e
      have e := Nat.eq_of_beq_eq_true e
      rw [sILt_d] at e2
      have e2 := of_decide_eq_true e2
      split at h
      · next v hv =>
        obtain ⟨h3, h4, -, -, h5⟩ := hO.2 _ _ _ hv
        obtain ⟨q, hq⟩ := (hc c List.mem_cons_self).2
        have h6 := h5 rfl _ hq
        obtain ⟨z, hz, hz2⟩ := zRel_i h4
        have h7 := ((hc c List.mem_cons_self).1 z y (h6.symm.trans hz) (by rw [e]; exact hy)).2 e2
        obtain ⟨B1, hi1, h⟩ := zFa_inv h hi (zAt_x x _ hx) (zAt_x v _ hz2) h7
        exact ih B1 k h hi1
      · exact ih B k h hi
    · exact ih B k h hi
theorem zOv_push {ρ : List Int} {ov : zO} {N0 N : mMem} {key : Nat} {x : sI} (h : zOv W ρ ov N0 N) (hn : zLk ov key = none) (hk : key < 2097152) (hr : zRel ρ (.inl x) (mAtk N key)) : zOv W ρ ((key, (.inl x, false)) :: ov) N0 N := by
  refine ⟨fun k hk2 s hs => ?_, fun k a d hk2 => ?_⟩
  · rcases h.1 k hk2 s hs with ⟨a, ha⟩ | e
    · refine .inl ⟨a, ?_⟩
      have : key ≠ k := fun e => by rw [e] at hn; rw [hn] at ha; cases ha
      rw [zLk_cons, nbeq_f this]
      exact ha
    · exact .inr e
  · rw [zLk_cons] at hk2
    rcases bif_inv2 hk2 with ⟨c, hk2⟩ | ⟨-, hk2⟩
    · have c : key = k := Nat.eq_of_beq_eq_true c
      cases hk2
      subst c
      refine ⟨hk, hr, ⟨x, rfl⟩, fun h => (by cases h), fun _ s hs => ?_⟩
      rcases h.1 key hk s hs with ⟨a, ha⟩ | e
      · rw [hn] at ha; cases ha
      · exact e
    · exact h.2 k a d hk2
theorem zRead_inv {ρ : List Int} {R : zR} {M : zM} {B : zB} {key : Nat} {k : zB → zM → sV → Bool} {N : mMem} (hW : zWok W) (h : zRead W R M B key k = true) (hi : zIn ρ B) (hk : key < 2097152) (hM : zMR W X c0 T I XN XF Ne ρ M N) (hR : zRoom W R.2.1 Ne) :
    ∃ e B1 M1 w, zIn (ρ ++ e) B1 ∧ k B1 M1 w = true ∧ zMR W X c0 T I XN XF Ne (ρ ++ e) M1 N ∧ zRel (ρ ++ e) w (mAtk N key) := by
  obtain ⟨N0, hg, hs, ho, hrl, hd⟩ := hM
  unfold zRead at h
  split at h
  · next q hq =>
    obtain ⟨h1, h2, -⟩ := ho.2 key q.1 q.2 hq
    refine ⟨[], B, M, q.1, ?_, h, ?_, ?_⟩
    · rw [List.append_nil]; exact hi
    · rw [List.append_nil]; exact ⟨N0, hg, hs, ho, hrl, hd⟩
    · rw [List.append_nil]; exact h2
  · next hn =>
    split at h
    · cases h
    · next r hr =>
      have e : mAtk N key = .ref r := by
        rcases ho.1 key hk _ hr with ⟨a, ha⟩ | e
        · rw [hn] at ha; cases ha
        · exact e.trans (hg.2.1 key hk _ hr)
      refine ⟨[], B, M, _, ?_, h, ?_, ?_⟩
      · rw [List.append_nil]; exact hi
      · rw [List.append_nil]; exact ⟨N0, hg, hs, ho, hrl, hd⟩
      · rw [e]; exact rfl
    · next q hq =>
      have e : mAtk N key = mAtk N0 key := by
        rcases ho.1 key hk _ hq with ⟨a, ha⟩ | e
        · rw [hn] at ha; cases ha
        · exact e
      obtain ⟨y, hy, h1, h2⟩ := hg.2.1 key hk _ hq
      have hyN : mAtk N key = .int y := e.trans hy
      obtain ⟨B1, l, u, hi1, h, a1, a2⟩ := zClz_inv hW ho hy (zWc W key) B q.1 q.2 _ (fun c hc => ⟨hg.2.2 key hk c hc, (hW.2.1 key c hc).2.2.2.2.1⟩) h hi h1 h2
      rcases bif_inv h with ⟨c, h⟩ | ⟨-, h⟩
      · rw [sIEq_d] at c
        have c := of_decide_eq_true c
        have hr : zRel ρ (.inl (0, l)) (mAtk N key) := by
          rw [hyN]
          show some l = some y.toInt
          congr 1
          omega
        refine ⟨[], B1, _, _, ?_, h, ?_, ?_⟩
        · rw [List.append_nil]; exact hi1
        · rw [List.append_nil]; exact ⟨N0, hg, hs, zOv_push ho hn hk hr, hrl, hd⟩
        · rw [List.append_nil]; exact hr
      · have hb : y.toInt ≤ (bif zWt W key && (Nat.blt M.2.1 R.2.1 && sILe 2147483647 u) then 2147483646 else u) := by
          cases hc : (zWt W key && (Nat.blt M.2.1 R.2.1 && sILe 2147483647 u)) with
          | false => rw [cond_false]; exact a2
          | true =>
            rw [cond_true]
            obtain ⟨c1, c2⟩ := and_inv hc
            obtain ⟨c2, -⟩ := and_inv c2
            have c2 := blt_lt c2
            obtain ⟨x1, y1, b1, b2, b3⟩ := hrl.2.2.2.2.1 key hk c1
            obtain ⟨x2, b4, b5⟩ := hR key hk c1
            rw [b1] at b4
            cases b4
            rw [hyN] at b2
            cases b2
            omega
        obtain ⟨e2, B2, z, hi2, h, hz⟩ := zFrB_inv y.toInt h hi1 a1 hb
        have hr : zRel (ρ ++ e2) (.inl z) (mAtk N key) := by
          rw [hyN]
          exact hz
        obtain ⟨B3, hi3, h⟩ := zClr_inv (zOv_ext e2 ho) hy hz (zWc W key) B2 _ (fun c hc => ⟨hg.2.2 key hk c hc, (hW.2.1 key c hc).2.2.2.2.1⟩) h hi2
        exact ⟨e2, B3, _, _, hi3, h, ⟨N0, hg, hs, zOv_push (zOv_ext e2 ho) hn hk hr, hrl, zDet_ext e2 hd⟩, hr⟩
theorem zLk_rm {key k : Nat} : ∀ {ov : zO}, k ≠ key → zLk (zRm key ov) k = zLk ov k
  | [], _ => rfl
  | q :: ov, h => by
    have ih := zLk_rm (ov := ov) h
    show zLk (bif Nat.beq q.1 key then ov else q :: zRm key ov) k = _
    rw [zLk_cons]
    cases c : Nat.beq q.1 key with
    | true =>
      rw [cond_true]
      have e : q.1 ≠ k := fun e => h (by rw [← e]; exact Nat.eq_of_beq_eq_true c)
      rw [nbeq_f e]
      rfl
    | false =>
      rw [cond_false, zLk_cons, ih]
theorem zLk_pt {ov : zO} {key k : Nat} {v : sV} {d : Bool} : zLk (zPt ov key v d) k = if key = k then some (v, d) else zLk ov k := by
  show zLk ((key, (v, d)) :: zRm key ov) k = _
  rw [zLk_cons]
  by_cases e : key = k
  · rw [if_pos e]
    show (bif Nat.beq key k then some (v, d) else _) = _
    rw [e, Nat.beq_refl]
    rfl
  · rw [if_neg e]
    show (bif Nat.beq key k then some (v, d) else _) = _
    rw [nbeq_f e, cond_false]
    exact zLk_rm (fun h => e h.symm)
/-- an int is laid into a cell -/
theorem zShape_put {N : mMem} {o k : Nat} {y : Int32} (hs : zShape W N) (ho : o < 529) (hk : k < 2048) (hk2 : (zWo W o).1 = 100 ∨ (zWo W o).1 < 100) : zShape W (mPut N o (mCset (mObj N o) k (.int y))) := by
  refine ⟨hs.1, fun p hp => ?_⟩
  rw [mObj_put (by omega) (by omega)]
  obtain ⟨h1, h2, h3⟩ := hs.2 p hp
  by_cases e : o = p
  · rw [if_pos e]
    subst e
    refine ⟨h1, h2, fun h4 j h5 h6 => ?_⟩
    rw [mSlot_set hk h6]
    by_cases e : k = j
    · rw [if_pos e]; exact ⟨y, rfl⟩
    · rw [if_neg e]; exact h3 h4 j h5 h6
  · rw [if_neg e]
    exact ⟨h1, h2, h3⟩
theorem zWrite_inv {ρ : List Int} {R : zR} {M : zM} {o k : Nat} {a : sV} {v : Value} {kk : zM → Bool} {N : mMem} (hW : zWok W) (hX : zXok W X R.1) (h : zWrite W R M (o * 2048 + k) a kk = true) (ho : o < 529) (hk : k < 2048) (hty : (zWo W o).1 = 100 ∨ (zWo W o).1 < 100) (ha : zRel ρ a v) (hM : zMR W X R.1 T I XN XF Ne ρ M N) :
    ∃ M1, kk M1 = true ∧ zMR W X R.1 T I XN XF Ne ρ M1 (mPut N o (mCset (mObj N o) k v)) := by
  obtain ⟨N0, hg, hs, hov, hrl, hd⟩ := hM
  unfold zWrite at h
  cases hq : zWs W (o * 2048 + k) with
  | none => rw [hq] at h; cases h
  | some sq =>
  cases sq with
  | inr r => rw [hq] at h; cases h
  | inl q =>
  cases a with
  | inr a => rw [hq] at h; cases h
  | inl y =>
    rw [hq] at h
    have h : ((!zWk W R.1 (o * 2048 + k) && !zWx W (o * 2048 + k)) && (bif zWt W (o * 2048 + k) then (match zLk M.1 (o * 2048 + k) with
      | some (.inl x, _) => sEqI y (x.1, x.2 + 1) && kk (zPt M.1 (o * 2048 + k) (.inl y) true, (Nat.succ M.2.1, none))
      | _ => false) else kk (zPt M.1 (o * 2048 + k) (.inl y) true, (M.2.1, none)))) = true := h
    obtain ⟨v, rfl, hy⟩ := zRel_i ha
    obtain ⟨g1, h⟩ := and_inv h
    obtain ⟨g1, gx⟩ := and_inv g1
    have g1 : zWk W R.1 (o * 2048 + k) = false := by
      cases c : zWk W R.1 (o * 2048 + k) with
      | false => rfl
      | true => rw [c] at g1; cases g1
    have gx : zWx W (o * 2048 + k) = false := by
      cases c : zWx W (o * 2048 + k) with
      | false => rfl
      | true => rw [c] at gx; cases gx
    have hkey : o * 2048 + k < 2097152 := by omega
    have hput : ∀ key, key < 2097152 → mAtk (mPut N o (mCset (mObj N o) k (.int v))) key = if key = o * 2048 + k then .int v else mAtk N key := fun key h => mAtk_put (by omega) hk h
    have hfr : ∀ key, key < 2097152 → (zWk W R.1 key = true ∨ zWx W key = true) → mAtk (mPut N o (mCset (mObj N o) k (.int v))) key = mAtk N key := fun key h1 h2 => by
      rw [hput key h1, if_neg]
      intro e
      rw [e] at h2
      rcases h2 with h2 | h2
      · rw [h2] at g1
        cases g1
      · rw [h2] at gx
        cases gx
    have hov2 : zOv W ρ (zPt M.1 (o * 2048 + k) (.inl y) true) N0 (mPut N o (mCset (mObj N o) k (.int v))) := by
      refine ⟨fun key h1 s h2 => ?_, fun key a d h1 => ?_⟩
      · rw [zLk_pt, hput key h1]
        by_cases e : o * 2048 + k = key
        · rw [if_pos e]; exact .inl ⟨_, rfl⟩
        · rw [if_neg e, if_neg (fun h => e h.symm)]
          exact hov.1 key h1 s h2
      · rw [zLk_pt] at h1
        by_cases e : o * 2048 + k = key
        · rw [if_pos e] at h1
          cases h1
          subst e
          refine ⟨hkey, ?_, ⟨y, rfl⟩, fun _ => ⟨q, hq⟩, fun h => by cases h⟩
          rw [hput _ hkey, if_pos rfl]
          exact hy
        · rw [if_neg e] at h1
          obtain ⟨b1, b2, b3, b4, b5⟩ := hov.2 key a d h1
          rw [hput key b1, if_neg (fun h => e h.symm)]
          exact ⟨b1, b2, b3, b4, b5⟩
    have hs2 := zShape_put (y := v) hs ho hk hty
    rcases bif_inv h with ⟨c, h⟩ | ⟨c, h⟩
    · split at h
      · next x b hx =>
        obtain ⟨g2, h⟩ := and_inv h
        have g2 := sEqI_eq g2
        obtain ⟨-, b2, -⟩ := hov.2 _ _ _ hx
        obtain ⟨z, hz, hz2⟩ := zRel_i b2
        refine ⟨_, h, N0, hg, hs2, hov2, ?_, zDet_none⟩
        obtain ⟨r1, r2, r3, r4, r5, r6⟩ := hrl
        refine ⟨fun e => ?_, r2, r3, fun key h1 h2 => (hfr key h1 (.inl h2)).trans (r4 key h1 h2), fun key h1 h2 => ?_, hX.1 _ _ _ r6 (hX.2.1 _ _ (hX.2.2 _ _ r6) hfr)⟩
        · exact (zNo1 hW g1 e).elim
        · obtain ⟨x1, y1, d1, d2, d3⟩ := r5 key h1 h2
          rw [hput key h1]
          by_cases e : key = o * 2048 + k
          · rw [if_pos e]
            rw [e] at d2 d1
            rw [hz] at d2
            cases d2
            refine ⟨x1, v, by rw [e]; exact d1, rfl, ?_⟩
            rw [g2] at hy
            have h9 := zAt_x x 1 hz2
            rw [h9] at hy
            have hy := Option.some.inj hy
            show _ ≤ x1.toInt + ((M.2.1 + 1 : Nat) : Int)
            omega
          · rw [if_neg e]
            refine ⟨x1, y1, d1, d2, ?_⟩
            show _ ≤ x1.toInt + ((M.2.1 + 1 : Nat) : Int)
            omega
      · cases h
    · refine ⟨_, h, N0, hg, hs2, hov2, ?_, zDet_none⟩
      obtain ⟨r1, r2, r3, r4, r5, r6⟩ := hrl
      refine ⟨fun e => (zNo1 hW g1 e).elim, r2, r3, fun key h1 h2 => (hfr key h1 (.inl h2)).trans (r4 key h1 h2), fun key h1 h2 => ?_, hX.1 _ _ _ r6 (hX.2.1 _ _ (hX.2.2 _ _ r6) hfr)⟩
      obtain ⟨x1, y1, d1, d2, d3⟩ := r5 key h1 h2
      rw [hput key h1, if_neg (fun e => by rw [e] at h2; rw [h2] at c; cases c)]
      exact ⟨x1, y1, d1, d2, d3⟩
end ZMM

/-! ===== what a memory says of the heap ===== -/
/-- our own cells lie from base on, one behind the other; what isn't ours at E -/
noncomputable def mAd (base : Nat) (E : Nat → Nat) (o : Nat) : Nat := if o < 1000000 then base + o else E (o - 1000000)
noncomputable def mTv (ad : Nat → Nat) (v : Value) : Value := match v with
  | .ref o => .ref (ad o)
  | w => w
abbrev mCs : Type := ClassId × ClassId × ClassId
noncomputable def mRof (v : Value) : Option Nat := match v with
  | .ref a => some a
  | _ => none
noncomputable def mIs (c : mCell) (j : Nat) : Int32 := if j < 2048 then mIof (mSlot c j) else 0
noncomputable def mQs (ad : Nat → Nat) (c : mCell) (j : Nat) : Option Nat := if j < 2048 then mRof (mTv ad (mSlot c j)) else none
noncomputable def mFs (ad : Nat → Nat) (c : mCell) : List Value := (List.range c.2.1).map fun k => mTv ad (mSlot c k)
noncomputable def mEnt (ad : Nat → Nat) (cs : mCs) (c : mCell) : va_E :=
  if c.1 < 100 then .inr (c.1, mFs ad c) else if c.1 = 100 then .inl (cs.1, c.2.1, .inl (mIs c)) else .inl (if c.1 = 101 then cs.2.1 else cs.2.2, c.2.1, .inr (.inr (.inr (.inr (mQs ad c)))))
noncomputable def mWs (ad : Nat → Nat) (cs : mCs) (M : mMem) : va_W := (List.range M.1).map fun o => (ad o, mEnt ad cs (mObj M o))
noncomputable def mTys (cs : mCs) : List (ClassId × FieldType) := [(cs.1, .int), (cs.2.1, .array .int), (cs.2.2, .object RX5)]
noncomputable def mA (base : Nat) : Nat → Prop := fun q => base ≤ q
noncomputable def mXt (base : Nat) (E XN : Nat → Nat) (XF : Nat → Nat → Int32) (s : State) : Prop :=
  (∀ k, 0 < k → k < 4 → va_Z "EarlyToken" (mSX k) "[I" (.ref (E k)) (mA base) s s.heap) ∧ (∀ k, k < 4 → va_X (E k) (XN k) (XF k) s s.heap ∧ E k < s.heap.size ∧ E k < base) ∧ va_AO RX5 s ∧ (Cond.arrayOver (.array .int)).before #[] s = true ∧ ∀ w ∈ lw_tbl, mNest w = true → va_Nw w s
theorem mWs_get {ad : Nat → Nat} {cs : mCs} {M : mMem} {o : Nat} (h : o < M.1) : (mWs ad cs M)[o]? = some (ad o, mEnt ad cs (mObj M o)) := by
  unfold mWs
  rw [List.getElem?_map, List.getElem?_range h]
  rfl
theorem mWs_inv {ad : Nat → Nat} {cs : mCs} {M : mMem} {k : Nat} {q : Nat × va_E} (h : (mWs ad cs M)[k]? = some q) : k < M.1 ∧ q = (ad k, mEnt ad cs (mObj M k)) := by
  have hk : k < M.1 := by
    have := (List.getElem?_eq_some_iff.mp h).1
    unfold mWs at this
    simpa using this
  refine ⟨hk, ?_⟩
  rw [mWs_get hk] at h
  exact (Option.some.inj h).symm
theorem mWs_len (ad : Nat → Nat) (cs : mCs) (M : mMem) : (mWs ad cs M).length = M.1 := by
  unfold mWs
  rw [List.length_map, List.length_range]
theorem mAd_own {base : Nat} {E : Nat → Nat} {o : Nat} (h : o < 1000000) : mAd base E o = base + o := if_pos h
theorem mAd_ext (base : Nat) (E : Nat → Nat) (k : Nat) : mAd base E (1000000 + k) = E k := by
  unfold mAd
  rw [if_neg (by omega), Nat.add_sub_cancel_left]
theorem mWs_D {base : Nat} {E : Nat → Nat} {cs : mCs} {M : mMem} (h : M.1 ≤ 1024) : va_D (mA base) (mWs (mAd base E) cs M) := by
  refine ⟨fun i j p q hi hj hpq => ?_, fun k q hk => ?_⟩
  · obtain ⟨h1, rfl⟩ := mWs_inv hi
    obtain ⟨h2, rfl⟩ := mWs_inv hj
    rw [mAd_own (by omega), mAd_own (by omega)] at hpq
    omega
  · obtain ⟨h1, rfl⟩ := mWs_inv hk
    show base ≤ mAd base E k
    rw [mAd_own (by omega)]
    omega
theorem mObj_put {M : mMem} {o k : Nat} {c : mCell} (ho : o < 1024) (hk : k < 1024) : mObj (mPut M o c) k = if o = k then c else mObj M k := mGet_set 10 M.2.2 o k c ho hk
theorem mObj_new {M : mMem} {k : Nat} {c : mCell} (ho : M.1 < 1024) (hk : k < 1024) : mObj (mNew M c) k = if M.1 = k then c else mObj M k := mGet_set 10 M.2.2 M.1 k c ho hk
theorem mSlot_set {c : mCell} {i k : Nat} {v : Value} (hi : i < 2048) (hk : k < 2048) : mSlot (mCset c i v) k = if i = k then v else mSlot c k := mGet_set 11 c.2.2 i k v hi hk
theorem mWs_put {ad : Nat → Nat} {cs : mCs} {M : mMem} {o : Nat} {c : mCell} {e : va_E} (h : M.1 ≤ 1024) (ho : o < M.1) (he : e = mEnt ad cs c) : (mWs ad cs M).set o (ad o, e) = mWs ad cs (mPut M o c) := by
  subst he
  apply List.ext_getElem?
  intro k
  by_cases hk : k < M.1
  · rw [mWs_get (M := mPut M o c) (show k < M.1 from hk), mObj_put (by omega) (by omega)]
    by_cases e : o = k
    · subst e
      rw [List.getElem?_set_self (by rw [mWs_len]; exact hk), if_pos rfl]
    · rw [List.getElem?_set_ne e, mWs_get hk, if_neg e]
  · rw [List.getElem?_eq_none (by rw [List.length_set, mWs_len]; omega), List.getElem?_eq_none (by rw [mWs_len]; show M.1 ≤ k; omega)]
theorem mWs_new {ad : Nat → Nat} {cs : mCs} {M : mMem} {c : mCell} (h : M.1 < 1024) : mWs ad cs (mNew M c) = mWs ad cs M ++ [(ad M.1, mEnt ad cs c)] := by
  apply List.ext_getElem?
  intro k
  by_cases hk : k < M.1
  · rw [mWs_get (M := mNew M c) (show k < M.1 + 1 by omega), mObj_new h (by omega), if_neg (by omega), List.getElem?_append_left (by rw [mWs_len]; exact hk), mWs_get hk]
  · by_cases e : k = M.1
    · subst e
      rw [mWs_get (M := mNew M c) (show M.1 < M.1 + 1 by omega), mObj_new h h, if_pos rfl, List.getElem?_append_right (by rw [mWs_len]; omega), mWs_len, Nat.sub_self]
      rfl
    · rw [List.getElem?_eq_none (by rw [mWs_len]; show M.1 + 1 ≤ k; omega), List.getElem?_eq_none (by rw [List.length_append, mWs_len]; show M.1 + 1 ≤ k; omega)]
theorem mFs_get {ad : Nat → Nat} {c : mCell} {k : Nat} (h : k < c.2.1) : (mFs ad c)[k]? = some (mTv ad (mSlot c k)) := by
  unfold mFs
  rw [List.getElem?_map, List.getElem?_range h]
  rfl
theorem mFs_len (ad : Nat → Nat) (c : mCell) : (mFs ad c).length = c.2.1 := by
  unfold mFs
  rw [List.length_map, List.length_range]
theorem mFs_set {ad : Nat → Nat} {c : mCell} {i : Nat} {v : Value} (hi : i < c.2.1) (hn : c.2.1 ≤ 2048) : (mFs ad c).set i (mTv ad v) = mFs ad (mCset c i v) := by
  apply List.ext_getElem?
  intro k
  by_cases hk : k < c.2.1
  · rw [mFs_get (c := mCset c i v) (show k < c.2.1 from hk), mSlot_set (by omega) (by omega)]
    by_cases e : i = k
    · subst e
      rw [List.getElem?_set_self (by rw [mFs_len]; exact hk), if_pos rfl]
    · rw [List.getElem?_set_ne e, mFs_get hk, if_neg e]
  · rw [List.getElem?_eq_none (by rw [List.length_set, mFs_len]; omega), List.getElem?_eq_none (by rw [mFs_len]; show c.2.1 ≤ k; omega)]
theorem mIs_set {c : mCell} {i : Nat} {x : Int32} (hi : i < 2048) : upd (mIs c) i x = mIs (mCset c i (.int x)) := by
  funext k
  show (if k = i then x else mIs c k) = _
  unfold mIs
  by_cases hk : k < 2048
  · rw [if_pos hk, if_pos hk, mSlot_set hi hk]
    by_cases e : i = k
    · rw [if_pos e, if_pos e.symm]; rfl
    · rw [if_neg e, if_neg (fun z => e z.symm)]
  · rw [if_neg hk, if_neg hk, if_neg (by omega)]
theorem mQs_set {ad : Nat → Nat} {c : mCell} {i u : Nat} (hi : i < 2048) : va_up (mQs ad c) i (some (ad u)) = mQs ad (mCset c i (.ref u)) := by
  funext k
  show (if k = i then some (ad u) else mQs ad c k) = _
  unfold mQs
  by_cases hk : k < 2048
  · rw [if_pos hk, if_pos hk, mSlot_set hi hk]
    by_cases e : i = k
    · rw [if_pos e, if_pos e.symm]; rfl
    · rw [if_neg e, if_neg (fun z => e z.symm)]
  · rw [if_neg hk, if_neg hk, if_neg (by omega)]
theorem mCpy_get (f : Nat → Value) (sp dp : Nat) (t : mTr Value 11) : ∀ (n k : Nat), dp + n ≤ 2048 → k < 2048 → mGet 11 (mCpy f sp dp n t) k = if dp ≤ k ∧ k < dp + n then .int (mIof (f (sp + (k - dp)))) else mGet 11 t k
  | 0, k, _, _ => by
    rw [if_neg (by omega)]
    rfl
  | n + 1, k, hn, hk => by
    show mGet 11 (mSet 11 (mCpy f sp dp n t) (dp + n) (.int (mIof (f (sp + n))))) k = _
    rw [mGet_set 11 _ (dp + n) k _ (by omega) hk, mCpy_get f sp dp t n k (by omega) hk]
    by_cases e : dp + n = k
    · rw [if_pos e, if_pos (by omega), show k - dp = n by omega]
    · rw [if_neg e]
      by_cases h : dp ≤ k ∧ k < dp + n
      · rw [if_pos h, if_pos (by omega)]
      · rw [if_neg h, if_neg (by omega)]
theorem mCpy_is {f : Nat → Value} {g : Nat → Int32} {c : mCell} {sp dp n : Nat} (hg : ∀ j, j < sp + n → g j = mIof (f j)) (hn : dp + n ≤ 2048) : va_cpy g (mIs c) sp dp n = mIs (c.1, c.2.1, mCpy f sp dp n c.2.2) := by
  funext k
  unfold va_cpy mIs
  by_cases hk : k < 2048
  · rw [if_pos hk, if_pos hk]
    show _ = mIof (mGet 11 (mCpy f sp dp n c.2.2) k)
    rw [mCpy_get f sp dp c.2.2 n k hn hk]
    by_cases h : dp ≤ k ∧ k < dp + n
    · rw [if_pos h, if_pos h, hg _ (by omega)]
      rfl
    · rw [if_neg h, if_neg h]
      rfl
  · rw [if_neg hk, if_neg hk, if_neg (by omega)]
theorem mTv_cat (ad : Nat → Nat) (v : Value) : (mTv ad v).category = v.category := by cases v <;> rfl
theorem mLk_mem {L : List (Nat × Value)} {i : Nat} {v : Value} (h : mLk L i = some v) : (i, v) ∈ L := by
  unfold mLk at h
  obtain ⟨q, hq, rfl⟩ := Option.map_eq_some_iff.mp h
  have h1 := List.mem_of_find?_eq_some hq
  have h2 := List.find?_some hq
  have h3 : q.1 = i := Nat.eq_of_beq_eq_true h2
  rw [← h3]
  exact h1
/-- the locals, their references as addresses -/
noncomputable def mLv (ad : Nat → Nat) (L : List (Nat × Value)) : List (Nat × Value) := L.map fun q => (q.1, mTv ad q.2)
theorem mLv_st1 {ad : Nat → Nat} {L : List (Nat × Value)} {i : Nat} {v : Value} : (i, mTv ad v) :: (mLv ad L).filter (fun q => !(q.1 == i) && !(q.1 + 1 == i && q.2.category == 2)) = mLv ad (mSt1 L i v) := by
  unfold mLv mSt1
  rw [List.map_cons, List.filter_map]
  congr 2
  apply List.filter_congr
  intro q _
  simp [mTv_cat]
theorem mLv_st2 {ad : Nat → Nat} {L : List (Nat × Value)} {i : Nat} {v : Value} : (i, mTv ad v) :: (mLv ad L).filter (fun q => !(q.1 == i) && (!(q.1 == i + 1) && !(q.1 + 1 == i && q.2.category == 2))) = mLv ad (mSt2 L i v) := by
  unfold mLv mSt2
  rw [List.map_cons, List.filter_map]
  congr 2
  apply List.filter_congr
  intro q _
  simp [mTv_cat]
theorem mLv_at {ad : Nat → Nat} {ls : Array Slot} {nL : Nat} {L : List (Nat × Value)} {i : Nat} {v : Value} (h : lv_has ls nL (mLv ad L)) (hl : mLk L i = some v) : ls[i]? = some (.val (mTv ad v)) :=
  h.2.2 (i, mTv ad v) (List.mem_map.mpr ⟨(i, v), mLk_mem hl, rfl⟩)
theorem mLv_args (ad : Nat → Nat) : ∀ (vs : List Value) (i : Nat), lv_args i (vs.map (mTv ad)) = mLv ad (lv_args i vs)
  | [], _ => rfl
  | v :: vs, i => by
    show (i, mTv ad v) :: lv_args (if (mTv ad v).category = 2 then i + 2 else i + 1) (vs.map (mTv ad)) = _
    rw [mTv_cat, mLv_args ad vs]
    rfl
theorem mCats_map (ad : Nat → Nat) (st : List Value) : ((st.map (mTv ad)).map fun v => v.category).sum = mCats st := by
  unfold mCats
  rw [List.map_map]
  congr 1
  apply List.map_congr_left
  intro v _
  exact mTv_cat ad v

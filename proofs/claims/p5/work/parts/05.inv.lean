/-! ===== what a step of the abstract machine says ===== -/
theorem mI1_inv {β : Type} {st : List Value} {k : Int32 → List Value → Option β} {z : β} (h : mI1 st k = some z) : ∃ x r, st = .int x :: r ∧ k x r = some z := by
  unfold mI1 at h
  split at h
  · exact ⟨_, _, rfl, h⟩
  · cases h
theorem mI2_inv {β : Type} {st : List Value} {k : Int32 → Int32 → List Value → Option β} {z : β} (h : mI2 st k = some z) : ∃ x y r, st = .int y :: .int x :: r ∧ k x y r = some z := by
  unfold mI2 at h
  split at h
  · exact ⟨_, _, _, rfl, h⟩
  · cases h
theorem mL1_inv {β : Type} {st : List Value} {k : Int64 → List Value → Option β} {z : β} (h : mL1 st k = some z) : ∃ x r, st = .long x :: r ∧ k x r = some z := by
  unfold mL1 at h
  split at h
  · exact ⟨_, _, rfl, h⟩
  · cases h
theorem mL2_inv {β : Type} {st : List Value} {k : Int64 → Int64 → List Value → Option β} {z : β} (h : mL2 st k = some z) : ∃ x y r, st = .long y :: .long x :: r ∧ k x y r = some z := by
  unfold mL2 at h
  split at h
  · exact ⟨_, _, _, rfl, h⟩
  · cases h
theorem mLI_inv {β : Type} {st : List Value} {k : Int64 → Int32 → List Value → Option β} {z : β} (h : mLI st k = some z) : ∃ x y r, st = .int y :: .long x :: r ∧ k x y r = some z := by
  unfold mLI at h
  split at h
  · exact ⟨_, _, _, rfl, h⟩
  · cases h
theorem mR1_inv {β : Type} {st : List Value} {k : Nat → List Value → Option β} {z : β} (h : mR1 st k = some z) : ∃ x r, st = .ref x :: r ∧ k x r = some z := by
  unfold mR1 at h
  split at h
  · exact ⟨_, _, rfl, h⟩
  · cases h
theorem mRI_inv {β : Type} {st : List Value} {k : Nat → Int32 → List Value → Option β} {z : β} (h : mRI st k = some z) : ∃ x i r, st = .int i :: .ref x :: r ∧ k x i r = some z := by
  unfold mRI at h
  split at h
  · exact ⟨_, _, _, rfl, h⟩
  · cases h
theorem mRIV_inv {β : Type} {st : List Value} {k : Nat → Int32 → Value → List Value → Option β} {z : β} (h : mRIV st k = some z) : ∃ x i v r, st = v :: .int i :: .ref x :: r ∧ k x i v r = some z := by
  unfold mRIV at h
  split at h
  · exact ⟨_, _, _, _, rfl, h⟩
  · cases h
theorem mVR_inv {β : Type} {st : List Value} {k : Value → Nat → List Value → Option β} {z : β} (h : mVR st k = some z) : ∃ v x r, st = v :: .ref x :: r ∧ k v x r = some z := by
  unfold mVR at h
  split at h
  · exact ⟨_, _, _, rfl, h⟩
  · cases h
theorem mV1_inv {β : Type} {st : List Value} {k : Value → List Value → Option β} {z : β} (h : mV1 st k = some z) : ∃ v r, st = v :: r ∧ k v r = some z := by
  unfold mV1 at h
  split at h
  · exact ⟨_, _, rfl, h⟩
  · cases h
theorem mV2_inv {β : Type} {st : List Value} {k : Value → Value → List Value → Option β} {z : β} (h : mV2 st k = some z) : ∃ v w r, st = v :: w :: r ∧ k v w r = some z := by
  unfold mV2 at h
  split at h
  · exact ⟨_, _, _, rfl, h⟩
  · cases h
theorem mWhen_inv {β : Type} {b : Bool} {x : Option β} {z : β} (h : mWhen b x = some z) : b = true ∧ x = some z := by
  unfold mWhen at h
  cases b
  · cases h
  · exact ⟨rfl, h⟩
theorem mNx_inv {pc : Nat} {L : List (Nat × Value)} {S : List Value} {M : mMem} {y : mCfg} (h : mNx pc L S M = some (.inl y)) : y = (pc, L, S, M) := by
  unfold mNx at h
  exact (Sum.inl.inj (Option.some.inj h)).symm
theorem mNx_no {pc : Nat} {L : List (Nat × Value)} {S : List Value} {M : mMem} {q : Option Value × mMem} (h : mNx pc L S M = some (.inr q)) : False := by
  unfold mNx at h
  cases h
theorem mPop_inv {β : Type} {S : List Value} {n : Nat} {k : List Value → List Value → Option β} {z : β} (h : mPop S n k = some z) : ∃ as r, S = as.reverse ++ r ∧ as.length = n ∧ k as r = some z := by
  obtain ⟨h1, h2⟩ := mWhen_inv h
  have h3 := Nat.le_of_ble_eq_true h1
  refine ⟨_, _, ?_, ?_, h2⟩
  · rw [List.reverse_reverse, List.take_append_drop]
  · rw [List.length_reverse, List.length_take]
    omega
theorem mBack_inv {pc : Nat} {L : List (Nat × Value)} {r : List Value} {x : Option (Option Value × mMem)} {z : mRes} (h : mBack pc L r x = some z) : ∃ v M', x = some (v, M') ∧ z = .inl (pc, L, v.toList ++ r, M') := by
  unfold mBack at h
  split at h
  · exact ⟨_, _, rfl, (Option.some.inj h).symm⟩
  · cases h
theorem mCall_inv {I : Nat → mI} {call : Nat → Nat → Nat → List Value → mMem → Option (Option Value × mMem)} {fr lo nx mi : Nat} {L : List (Nat × Value)} {as r : List Value} {M : mMem} {z : mRes} (h : mCall I call fr lo nx mi L as r M = some z) :
    mCats r ≤ 8 ∧ 1 ≤ fr ∧ 19 + (I mi).2.2.1 ≤ lo ∧ mCats as ≤ (I mi).2.2.1 ∧ ∃ v M', call mi (fr - 1) (lo - (19 + (I mi).2.2.1)) as M = some (v, M') ∧ z = .inl (nx, L, v.toList ++ r, M') := by
  obtain ⟨h1, h2⟩ := mWhen_inv h
  simp only [Bool.and_eq_true] at h1
  exact ⟨Nat.le_of_ble_eq_true h1.1, Nat.le_of_ble_eq_true h1.2.1, Nat.le_of_ble_eq_true h1.2.2.1, Nat.le_of_ble_eq_true h1.2.2.2, mBack_inv h2⟩
theorem mInB_in {i : Int32} {n : Nat} (h : mInB i n = true) : vp_in i n := by
  unfold mInB at h
  simp only [Bool.and_eq_true, Bool.not_eq_true', decide_eq_false_iff_not] at h
  have h2 : i.toNatClampNeg < n := by have := h.2; simpa [Nat.blt_eq] using this
  rintro (q | q)
  · exact h.1 q
  · omega
theorem mInO_in {i : Int32} {n : Nat} (h : mInO i n = true) : vp_in i n ∧ i.toNatClampNeg < n ∧ n ≤ 2048 := by
  unfold mInO at h
  simp only [Bool.and_eq_true, Bool.not_eq_true', decide_eq_false_iff_not] at h
  have h2 : i.toNatClampNeg < n := by have := h.2.1; simpa [Nat.blt_eq] using this
  refine ⟨?_, h2, Nat.le_of_ble_eq_true h.2.2⟩
  rintro (q | q)
  · exact h.1 q
  · omega
noncomputable def mTBL : List Jvm.Cond := lw_tbl.filter goodWord
theorem mW_in {wi : Nat} {w : Jvm.Cond} (h : mW wi w = true) : w ∈ mTBL := by
  unfold mW at h
  simp only [Bool.and_eq_true, decide_eq_true_eq] at h
  exact List.mem_filter.mpr ⟨List.mem_of_getElem? h.1, h.2⟩
theorem mWn_in {wi : Nat} {w : Jvm.Cond} (h : mWn wi w = true) : w ∈ lw_tbl ∧ mNest w = true := by
  unfold mWn at h
  simp only [Bool.and_eq_true, decide_eq_true_eq] at h
  exact ⟨List.mem_of_getElem? h.1, h.2⟩
theorem mTBL_good (ws : List Jvm.Cond) (h : ∀ w ∈ ws, w ∈ mTBL) : GoodIn mTBL ws := fun w hw => ⟨h w hw, good_of_word (List.mem_filter.mp (h w hw)).2⟩
/-- the words that are the same for all methods -/
noncomputable def mG : Prop := (∀ ci, ci < 9 → (∀ w ∈ u_ws (mRX ci) (mTX ci) (mNX ci), w ∈ mTBL) ∧ Cond.instantiable (mRX ci) (mNX ci) ∈ mTBL ∧ Cond.initialized (mRX ci) ∈ mTBL) ∧
  Cond.instanceMethod Lib.objectInit ∈ mTBL ∧ Cond.code Lib.objectInit ⟨#[0xb1]⟩ 1 none ∈ mTBL ∧ Cond.native arraycopyName ∈ mTBL ∧ Cond.static arraycopyName ∈ mTBL ∧ Cond.initialized "java/lang/System" ∈ mTBL ∧ Cond.arrayClass .int ∈ mTBL ∧ Cond.initialized "java/lang/Math" ∈ mTBL ∧ (Cond.static Lib.Math.max.name ∈ mTBL ∧ Cond.code Lib.Math.max.name Lib.Math.max.code 2 (some .int) ∈ mTBL) ∧ Cond.static Lib.Math.min.name ∈ mTBL ∧ Cond.code Lib.Math.min.name Lib.Math.min.code 2 (some .int) ∈ mTBL
/-- what stands in a frame of method mi; n0: how many objects were there at its start -/
noncomputable def mFr (I : Nat → mI) (mi base n0 : Nat) (E XN : Nat → Nat) (XF : Nat → Nat → Int32) (D : va_G) (cs : mCs) (p : Program) (s : State) (m : MethodId) (args : Array Value) (meth : Method) (c : Code) : Prop :=
  p.tables.exec = Jvm.exec ∧ c.code = (I mi).2.1 ∧ c.maxLocals = (I mi).2.2.1 ∧ s.vm.findClass (I mi).2.2.2.2.1 = some m.cls ∧ (∀ w ∈ mTBL, w.before args s = true) ∧ va_K D vwCl (mTys cs) s ∧ mXt base E XN XF s ∧ s.heap.size = base + n0 ∧ meth.name = (I mi).1.name
noncomputable def mPcond (base : Nat) (E XN : Nat → Nat) (XF : Nat → Nat → Int32) (D : va_G) (cs : mCs) (M : mMem) (U : State) : Prop := U.heap.size = base + M.1 ∧ va_P D vwCl (mWs (mAd base E) cs M) U.heap ∧ va_K D vwCl (mTys cs) U ∧ mXt base E XN XF U
noncomputable def mQc (base : Nat) (E : Nat → Nat) (D : va_G) (cs : mCs) (v : Option Value) (M2 : mMem) : Array Value → State → Outcome → State → Prop := fun _ st oc t => oc = .returned (v.map (mTv (mAd base E))) ∧ va_P D vwCl (mWs (mAd base E) cs M2) t.heap ∧ va_F (mA base) st t
noncomputable def mMet (l : Launch) (I : Nat → mI) (base : Nat) (E XN : Nat → Nat) (XF : Nat → Nat → Int32) (D : va_G) (cs : mCs) (mi fr lo : Nat) (as : List Value) (M1 : mMem) (v : Option Value) (M2 : mMem) : Prop :=
  Met l (I mi).1 (Cond.code (I mi).1 (I mi).2.1 (I mi).2.2.1 (I mi).2.2.2.1 :: mTBL) ({ frames := fr, cells := M2.1 - M1.1, slots := M2.2.1 - M1.2.1, locals := lo }) (va_Pc (as.map (mTv (mAd base E))) (mPcond base E XN XF D cs M1)) (mQc base E D cs v M2) (M2.1 - M1.1) (M2.2.1 - M1.2.1) (mA base)
theorem mXt_moved {base : Nat} {E XN : Nat → Nat} {XF : Nat → Nat → Int32} {u U : State} {A : Nat → Prop} (hA : A = mA base) (hvm : u.vm.Alike U.vm) (hq : ∀ a : Nat, a < u.heap.size → ¬ A a → U.heap[a]? = u.heap[a]?) (hz : u.heap.size ≤ U.heap.size) (hN : ∀ w, mNest w = true → va_Nw w u → va_Nw w U) (h : mXt base E XN XF u) : mXt base E XN XF U := by
  subst hA
  refine ⟨fun k h0 h4 => (va_Z.moved hvm (h.1 k h0 h4)).kept hq, fun k h4 => ?_, va_AO.moved hvm h.2.2.1, over_moved hvm h.2.2.2.1, fun w h1 h2 => hN w h2 (h.2.2.2.2 w h1 h2)⟩
  obtain ⟨h1, h2, h3⟩ := h.2.1 k h4
  exact ⟨(va_X.moved hvm h1).kept (hq _ h2 (Nat.not_le.mpr h3)), Nat.lt_of_lt_of_le h2 hz, h3⟩
section MSZ
variable {p : Program} {l : Launch} {e0 : Env} {R : Room} {s : State} {m : MethodId} {args : Array Value} {below : List Frame} {meth : Method} {c : Code} {H : Heap} {locs : List Loc} {cells slots : Nat} {Q : State → Prop} {D : va_G} {cs : mCs} {base n0 : Nat} {E : Nat → Nat} {M : mMem}
/-- no cell is there but ours: so the heap's size is known -/
theorem m_size {T : State} (X : Stand p l e0 R s m args below meth c T locs (M.1 - n0) slots) (hT : T.heap = H) (hsz : s.heap.size = base + n0) (hn : n0 ≤ M.1) (hP : va_P D vwCl (mWs (mAd base E) cs M) H) (hS : va_S (mA base) s.heap H locs) (hM : M.1 ≤ 1024) : H.size = base + M.1 := by
  have h1 := X.heapSize
  rw [hT, hsz] at h1
  have h2 := hS.1
  rw [hsz] at h2
  by_cases e : M.1 = n0
  · omega
  · have h3 := (hP (M.1 - 1) _ (mWs_get (by omega))).lt
    have h4 : mAd base E (M.1 - 1) = base + (M.1 - 1) := mAd_own (by omega)
    have h5 : mAd base E (M.1 - 1) < H.size := h3
    omega
theorem m_known {g : JFrame} (hsz : s.heap.size = base + n0) (hn : n0 ≤ M.1) (hP : va_P D vwCl (mWs (mAd base E) cs M) H) (hS : va_S (mA base) s.heap H locs) (hM : M.1 ≤ 1024) (k : H.size = base + M.1 → W p l e0 R s m args below meth c H locs (M.1 - n0) slots Q g) : W p l e0 R s m args below meth c H locs (M.1 - n0) slots Q g := by
  intro T hT X
  exact k (m_size X hT hsz hn hP hS hM) T hT X
theorem m_fresh {H1 : Heap} {q : Nat} {e : va_E} (hP : va_P D vwCl (mWs (mAd base E) cs M ++ [(q, e)]) H1) (hD : va_D (mA base) (mWs (mAd base E) cs M ++ [(q, e)])) (hz : H1.size ≤ base + M.1 + 1) (hM : M.1 ≤ 1024) : q = base + M.1 := by
  have hq : (mWs (mAd base E) cs M ++ [(q, e)])[M.1]? = some (q, e) := by
    rw [List.getElem?_append_right (by rw [mWs_len]; omega), mWs_len, Nat.sub_self]
    rfl
  have h1 : base ≤ q := hD.2 M.1 _ hq
  have h2 : q < H1.size := (hP M.1 _ hq).lt
  by_cases h : q < base + M.1
  · exfalso
    have ho : (mWs (mAd base E) cs M ++ [(q, e)])[q - base]? = some (mAd base E (q - base), mEnt (mAd base E) cs (mObj M (q - base))) := by
      rw [List.getElem?_append_left (by rw [mWs_len]; omega), mWs_get (by omega)]
    have := hD.1 (q - base) M.1 _ _ ho hq (show mAd base E (q - base) = q by rw [mAd_own (by omega)]; omega)
    omega
  · omega
end MSZ

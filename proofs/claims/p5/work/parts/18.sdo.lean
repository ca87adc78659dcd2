/-! ===== a symbolic step is a step ===== -/
theorem and_inv {a b : Bool} (h : (a && b) = true) : a = true ∧ b = true := by
  cases a <;> cases b <;> simp at h ⊢
theorem blt_lt {a b : Nat} (h : Nat.blt a b = true) : a < b := by rw [Nat.blt_eq] at h; exact h
theorem no_inv {p : Prop} (h : false = true) : p := (Bool.false_ne_true h).elim
theorem sI1_inv {S : List sV} {k : sI → List sV → Bool} (h : sI1 S k = true) : ∃ x r, S = .inl x :: r ∧ k x r = true := by
  unfold sI1 at h
  split at h
  · exact ⟨_, _, rfl, h⟩
  · cases h
theorem sI2_inv {S : List sV} {k : sI → sI → List sV → Bool} (h : sI2 S k = true) : ∃ x y r, S = .inl y :: .inl x :: r ∧ k x y r = true := by
  unfold sI2 at h
  split at h
  · exact ⟨_, _, _, rfl, h⟩
  · cases h
theorem sL1_inv {S : List sV} {k : sI → List sV → Bool} (h : sL1 S k = true) : ∃ x r, S = .inr (.inl x) :: r ∧ k x r = true := by
  unfold sL1 at h
  split at h
  · exact ⟨_, _, rfl, h⟩
  · cases h
theorem sL2_inv {S : List sV} {k : sI → sI → List sV → Bool} (h : sL2 S k = true) : ∃ x y r, S = .inr (.inl y) :: .inr (.inl x) :: r ∧ k x y r = true := by
  unfold sL2 at h
  split at h
  · exact ⟨_, _, _, rfl, h⟩
  · cases h
theorem sLI_inv {S : List sV} {k : sI → sI → List sV → Bool} (h : sLI S k = true) : ∃ x y r, S = .inl y :: .inr (.inl x) :: r ∧ k x y r = true := by
  unfold sLI at h
  split at h
  · exact ⟨_, _, _, rfl, h⟩
  · cases h
theorem sR1_inv {S : List sV} {k : Nat → List sV → Bool} (h : sR1 S k = true) : ∃ x r, S = .inr (.inr (some x)) :: r ∧ k x r = true := by
  unfold sR1 at h
  split at h
  · exact ⟨_, _, rfl, h⟩
  · cases h
theorem sRI_inv {S : List sV} {k : Nat → sI → List sV → Bool} (h : sRI S k = true) : ∃ x i r, S = .inl i :: .inr (.inr (some x)) :: r ∧ k x i r = true := by
  unfold sRI at h
  split at h
  · exact ⟨_, _, _, rfl, h⟩
  · cases h
theorem sRIV_inv {S : List sV} {k : Nat → sI → sV → List sV → Bool} (h : sRIV S k = true) : ∃ x i v r, S = v :: .inl i :: .inr (.inr (some x)) :: r ∧ k x i v r = true := by
  unfold sRIV at h
  split at h
  · exact ⟨_, _, _, _, rfl, h⟩
  · cases h
theorem sVR_inv {S : List sV} {k : sV → Nat → List sV → Bool} (h : sVR S k = true) : ∃ v x r, S = v :: .inr (.inr (some x)) :: r ∧ k v x r = true := by
  unfold sVR at h
  split at h
  · exact ⟨_, _, _, rfl, h⟩
  · cases h
theorem sV1_inv {S : List sV} {k : sV → List sV → Bool} (h : sV1 S k = true) : ∃ v r, S = v :: r ∧ k v r = true := by
  unfold sV1 at h
  split at h
  · exact ⟨_, _, rfl, h⟩
  · cases h
theorem sV2_inv {S : List sV} {k : sV → sV → List sV → Bool} (h : sV2 S k = true) : ∃ v w r, S = v :: w :: r ∧ k v w r = true := by
  unfold sV2 at h
  split at h
  · exact ⟨_, _, _, rfl, h⟩
  · cases h
theorem sN1_inv {S : List sV} {k : Option Nat → List sV → Bool} (h : sN1 S k = true) : ∃ x r, S = .inr (.inr x) :: r ∧ k x r = true := by
  unfold sN1 at h
  split at h
  · exact ⟨_, _, rfl, h⟩
  · cases h
theorem mWhen_t {β : Type} {b : Bool} {x : Option β} (h : b = true) : mWhen b x = x := by rw [h]; rfl
theorem mPop_t {β : Type} {S : List Value} {n : Nat} {k : List Value → List Value → Option β} (h : Nat.ble n S.length = true) : mPop S n k = k (S.take n).reverse (S.drop n) := by
  unfold mPop
  rw [h]
  rfl
noncomputable def sOut (ρ : Nat → Int) (k : sK) (md : Nat → Option mRes) : Prop := ∃ B1 r s, sIn ρ B1 ∧ k B1 r = true ∧ sRR ρ r s ∧ ∃ F, ∀ f, F ≤ f → md f = some s
theorem sOut_c {ρ : Nat → Int} {k : sK} {md : Nat → Option mRes} {B : sB} {r : sRes} (s : mRes) (hi : sIn ρ B) (hk : k B r = true) (hr : sRR ρ r s) (he : ∀ f, md f = some s) : sOut ρ k md := ⟨B, r, s, hi, hk, hr, 0, fun f _ => he f⟩
theorem sOut_e {ρ : Nat → Int} {k : sK} {md : Nat → Option mRes} (md2 : Nat → Option mRes) (h : ∀ f, md f = md2 f) (h2 : sOut ρ k md2) : sOut ρ k md := by
  obtain ⟨B1, r, s, a, b, c, F, d⟩ := h2
  exact ⟨B1, r, s, a, b, c, F, fun f hf => (h f).trans (d f hf)⟩
/-- what a call must keep -/
noncomputable def sHc (ρ : Nat → Int) (call : sCl) (mc : Nat → Nat → Nat → Nat → List Value → mMem → Option (Option Value × mMem)) : Prop :=
  ∀ (mi fr lo : Nat) (as : List sV) (M : sMem) (B : sB) (k : sRet), call mi fr lo as M B k = true → sIn ρ B → ∀ (bs : List Value) (K : mMem), sSR ρ as bs → sMR ρ M K → ∃ B1 w z, sIn ρ B1 ∧ k B1 w = true ∧ sWR ρ w z ∧ ∃ F, ∀ f, F ≤ f → mc f mi fr lo bs K = some z
theorem sOR_list {ρ : Nat → Int} {a : Option sV} {v : Option Value} (h : sOR ρ a v) : sSR ρ a.toList v.toList := by
  cases a <;> cases v
  · exact trivial
  · exact h.elim
  · exact h.elim
  · exact ⟨h, trivial⟩
theorem s_call {ρ : Nat → Int} {I : Nat → mI} {call : sCl} {mc : Nat → Nat → Nat → Nat → List Value → mMem → Option (Option Value × mMem)} {fr lo nx mi : Nat} {L : List (Nat × sV)} {as r : List sV} {M : sMem} {B : sB} {k : sK} {N : List (Nat × Value)} {bs V : List Value} {K : mMem}
    (hc : sHc ρ call mc) (h : sCall I call fr lo nx mi L as r M B k = true) (hi : sIn ρ B) (hL : sLR ρ L N) (ha : sSR ρ as bs) (hr : sSR ρ r V) (hM : sMR ρ M K) : sOut ρ k (fun f => mCall I (mc f) fr lo nx mi N bs V K) := by
  unfold sCall at h
  obtain ⟨g, h⟩ := and_inv h
  obtain ⟨B1, w, z, hi1, hk, hw, F, hF⟩ := hc _ _ _ _ _ _ _ h hi bs K ha hM
  refine ⟨B1, _, .inl (nx, N, z.1.toList ++ V, z.2), hi1, hk, ⟨rfl, hL, sAll_app (sOR_list hw.1) hr, hw.2⟩, F, fun f hf => ?_⟩
  show mCall I (mc f) fr lo nx mi N bs V K = _
  unfold mCall
  rw [sCats_rel hr, sCats_rel ha, mWhen_t g, hF f hf]
  rfl
theorem sR32_i {ρ : Nat → Int} {B : sB} {v : Int} (hi : sIn ρ B) (h : sR32 v v = true) : (Int32.ofInt v).toInt = sDn ρ (0, v) := by
  have h := sR32_inv h
  rw [sDn_0 hi]
  exact i32_val rfl h.1 h.2
theorem sFit_rel {ρ : Nat → Int} {B : sB} {ty : FieldType} {a : sV} {v : Value} (hi : sIn ρ B) (h : sFit B ty a = true) (ha : sRel ρ a v) : mFit ty v = true := by
  unfold sFit at h
  split at h
  · obtain ⟨y, rfl, -⟩ := sRel_i ha
    rfl
  · obtain ⟨y, rfl, hy⟩ := sRel_i ha
    obtain ⟨l, u, h1, h2, h⟩ := sRg_inv h hi
    obtain ⟨c1, c2⟩ := and_inv h
    have c1 := sILe_t c1
    have c2 := sILe_t c2
    have e : y = Int32.ofInt 0 ∨ y = Int32.ofInt 1 := by
      have : y.toInt = 0 ∨ y.toInt = 1 := by omega
      rcases this with e | e
      · exact .inl (i32_of e)
      · exact .inr (i32_of e)
    rcases e with rfl | rfl <;> rfl
  · obtain rfl := sRel_r ha
    rfl
  · obtain rfl := sRel_r ha
    rfl
  · cases h
theorem i32_neg {X : Int32} {a : Int} (h : X.toInt = a) (h0 : 0 ≤ a) : (!decide (X < 0)) = true := by
  have : ¬ X < 0 := by
    rw [Int32.lt_iff_toInt_lt, h]
    show ¬ a < 0
    omega
  rw [decide_eq_false this]
  rfl
theorem i32_nat {X : Int32} {a : Int} (h : X.toInt = a) : X.toNatClampNeg = a.toNat := by
  rw [← h]
  rfl
theorem mInO_t {X : Int32} {a : Int} {n : Nat} (h : X.toInt = a) (hx : sIx a n = true) : mInO X n = true := by
  unfold sIx at hx
  obtain ⟨c1, c2⟩ := and_inv hx
  unfold mInO
  rw [i32_neg h (sILe_t c1), i32_nat h]
  exact c2
theorem sIx_lt {a : Int} {n : Nat} (hx : sIx a n = true) : a.toNat < n := by
  unfold sIx at hx
  obtain ⟨-, c2⟩ := and_inv hx
  exact blt_lt (and_inv c2).1
theorem lg_cmp_i {X Y : Int64} {a b : Int} (hX : X.toInt = a) (hY : Y.toInt = b) : lg_cmp X Y = if b < a then 1 else if a = b then 0 else -1 := by
  have e1 : (X > Y) = (b < a) := propext (by show Y < X ↔ _; rw [Int64.lt_iff_toInt_lt, hX, hY])
  have e2 : (X = Y) = (a = b) := propext (by rw [← Int64.toInt_inj, hX, hY])
  unfold lg_cmp
  by_cases h1 : b < a
  · rw [if_pos h1, if_pos (by rw [e1]; exact h1)]
  · rw [if_neg h1, if_neg (by rw [e1]; exact h1)]
    by_cases h2 : a = b
    · rw [if_pos h2, if_pos (by rw [e2]; exact h2)]
    · rw [if_neg h2, if_neg (by rw [e2]; exact h2)]

/-! ===== a symbolic run is a run ===== -/
/-- a configuration's run ends, however much more fuel it is given -/
noncomputable def mRuns (T : Nat → List mE) (I : Nat → mI) (XN : Nat → Nat) (XF : Nat → Nat → Int32) (fr lo mi : Nat) (y : mCfg) (r : Option Value × mMem) : Prop := ∃ F, ∀ f, F ≤ f → mExec T I XN XF f fr lo mi y = some r
theorem mExec_at {T : Nat → List mE} {I : Nat → mI} {XN : Nat → Nat} {XF : Nat → Nat → Int32} {fr lo mi pc : Nat} {N : List (Nat × Value)} {V : List Value} {K : mMem} {e : mE} (f : Nat) (he : mFind (T mi) pc = some e) :
    mExec T I XN XF (f + 1) fr lo mi (pc, N, V, K) = match mDo I XN XF (fun mi1 fr1 lo1 as M => mExec T I XN XF f fr1 lo1 mi1 (0, lv_args 0 as, [], M)) fr lo (I mi).2.2.1 (I mi).2.2.2.1 e N V K with
      | none => none
      | some (.inr r) => some r
      | some (.inl y) => mExec T I XN XF f fr lo mi y := by
  rw [mExec]
  simp only [he]
  rfl
section SEX
variable {T : Nat → List mE} {I : Nat → mI} {XN : Nat → Nat} {XF : Nat → Nat → Int32} {sX : Nat → Nat → sI} {Sh : sSh} {ρ : Nat → Int}
theorem mRuns_step {fr lo mi pc F : Nat} {N : List (Nat × Value)} {V : List Value} {K : mMem} {e : mE} {y : mCfg} {r : Option Value × mMem} (he : mFind (T mi) pc = some e)
    (h : ∀ f, F ≤ f → mDo I XN XF (fun mi1 fr1 lo1 as M => mExec T I XN XF f fr1 lo1 mi1 (0, lv_args 0 as, [], M)) fr lo (I mi).2.2.1 (I mi).2.2.2.1 e N V K = some (.inl y)) (hr : mRuns T I XN XF fr lo mi y r) : mRuns T I XN XF fr lo mi (pc, N, V, K) r := by
  obtain ⟨G, hG⟩ := hr
  refine ⟨F + G + 1, fun f hf => ?_⟩
  obtain ⟨g, rfl⟩ : ∃ g, f = g + 1 := ⟨f - 1, by omega⟩
  rw [mExec_at g he, h g (by omega)]
  exact hG g (by omega)
theorem mRuns_end {fr lo mi pc F : Nat} {N : List (Nat × Value)} {V : List Value} {K : mMem} {e : mE} {r : Option Value × mMem} (he : mFind (T mi) pc = some e)
    (h : ∀ f, F ≤ f → mDo I XN XF (fun mi1 fr1 lo1 as M => mExec T I XN XF f fr1 lo1 mi1 (0, lv_args 0 as, [], M)) fr lo (I mi).2.2.1 (I mi).2.2.2.1 e N V K = some (.inr r)) : mRuns T I XN XF fr lo mi (pc, N, V, K) r := by
  refine ⟨F + 1, fun f hf => ?_⟩
  obtain ⟨g, rfl⟩ : ∃ g, f = g + 1 := ⟨f - 1, by omega⟩
  rw [mExec_at g he, h g (by omega)]
noncomputable def sShOk (T : Nat → List mE) (I : Nat → mI) (XN : Nat → Nat) (XF : Nat → Nat → Int32) (Sh : sSh) (ρ : Nat → Int) : Prop :=
  ∀ (mi fr lo : Nat) (x : sCfg) (B : sB) (y : sCfg), sTry (Sh mi x.1) fr lo x B = some y → sIn ρ B → ∀ u, sGR ρ x u → ∃ v, sGR ρ y v ∧ ∀ r, mRuns T I XN XF fr lo mi v r → mRuns T I XN XF fr lo mi u r
theorem sNext_inv {mi pc : Nat} {call : sCl} {fr lo nL : Nat} {rt : Option FieldType} {L : List (Nat × sV)} {S : List sV} {M : sMem} {B : sB} {k : sK} (h : sNext (sFm T I XN sX mi pc) call fr lo nL rt L S M B k = true) : ∃ e, mFind (T mi) pc = some e ∧ sDo I XN sX call fr lo nL rt e L S M B k = true := by
  unfold sFm at h
  cases he : mFind (T mi) pc with
  | none => rw [he] at h; exact no_inv h
  | some e => rw [he] at h; exact ⟨e, rfl, h⟩
theorem s_exec (hX : ∀ a j, a < 4 → j < XN a → (XF a j).toInt = sDn ρ (sX a j)) (hKn : sKn ρ) (hSh : sShOk T I XN XF Sh ρ) : ∀ (f fr lo mi : Nat) (x : sCfg) (B : sB) (k : sRet), sExec T I XN sX Sh f fr lo mi x B k = true → sIn ρ B → ∀ u, sGR ρ x u →
    ∃ B1 w z, sIn ρ B1 ∧ k B1 w = true ∧ sWR ρ w z ∧ mRuns T I XN XF fr lo mi u z
  | 0, _, _, _, _, _, _, h, _, _, _ => no_inv h
  | f + 1, fr, lo, mi, x, B, k, h, hi, u, hu => by
    have ih := s_exec hX hKn hSh f
    obtain ⟨pc, L, S, M⟩ := x
    obtain ⟨pc2, N, V, K⟩ := u
    obtain ⟨hp, hL, hS, hM⟩ := hu
    have hp : pc = pc2 := hp
    subst hp
    have h : (match sTry (Sh mi pc) fr lo (pc, L, S, M) B with
        | some y => sExec T I XN sX Sh f fr lo mi y B k
        | none => sNext (sFm T I XN sX mi pc) (fun mi1 fr1 lo1 as M B1 k1 => sExec T I XN sX Sh f fr1 lo1 mi1 (0, sArgs 0 as, [], M) B1 k1) fr lo (I mi).2.2.1 (I mi).2.2.2.1 L S M B fun B1 r => match r with
          | .inr w => k B1 w
          | .inl y => sExec T I XN sX Sh f fr lo mi y B1 k) = true := h
    cases ht : sTry (Sh mi pc) fr lo (pc, L, S, M) B with
    | some y =>
      rw [ht] at h
      obtain ⟨v, hv, hr⟩ := hSh mi fr lo (pc, L, S, M) B y ht hi (pc, N, V, K) ⟨rfl, hL, hS, hM⟩
      obtain ⟨B1, w, z, a, b, c, d⟩ := ih fr lo mi y B k h hi v hv
      exact ⟨B1, w, z, a, b, c, hr _ d⟩
    | none =>
      rw [ht] at h
      obtain ⟨e, he, h⟩ := sNext_inv h
      have hc : sHc ρ (fun mi1 fr1 lo1 as M B1 k1 => sExec T I XN sX Sh f fr1 lo1 mi1 (0, sArgs 0 as, [], M) B1 k1) (fun g mi1 fr1 lo1 as M => mExec T I XN XF g fr1 lo1 mi1 (0, lv_args 0 as, [], M)) := fun mi1 fr1 lo1 as M1 B1 k1 q hi1 bs K1 ha hm => ih fr1 lo1 mi1 _ B1 k1 q hi1 (0, lv_args 0 bs, [], K1) ⟨rfl, sArgs_rel 0 ha, trivial, hm⟩
      obtain ⟨B1, r, s, hi1, hk, hrr, F, hF⟩ := s_do hX hKn hc h hi hL hS hM
      cases r with
      | inl y => cases s with
        | inl v =>
          obtain ⟨B2, w, z, a, b, c, d⟩ := ih fr lo mi y B1 k hk hi1 v hrr
          exact ⟨B2, w, z, a, b, c, mRuns_step he hF d⟩
        | inr z => exact hrr.elim
      | inr w => cases s with
        | inl v => exact hrr.elim
        | inr z => exact ⟨B1, w, z, hi1, hk, hrr, mRuns_end he hF⟩
theorem s_go (hX : ∀ a j, a < 4 → j < XN a → (XF a j).toInt = sDn ρ (sX a j)) (hKn : sKn ρ) (hSh : sShOk T I XN XF Sh ρ) (stop : Nat) : ∀ (f fr lo mi : Nat) (x : sCfg) (B : sB) (k : sB → sCfg → Bool), sGo T I XN sX Sh stop f fr lo mi x B k = true → sIn ρ B → ∀ u, sGR ρ x u →
    ∃ B1 y v, sIn ρ B1 ∧ k B1 y = true ∧ sGR ρ y v ∧ ∀ r, mRuns T I XN XF fr lo mi v r → mRuns T I XN XF fr lo mi u r
  | 0, _, _, _, _, _, _, h, _, _, _ => no_inv h
  | f + 1, fr, lo, mi, x, B, k, h, hi, u, hu => by
    have ih := s_go hX hKn hSh stop f
    obtain ⟨pc, L, S, M⟩ := x
    obtain ⟨pc2, N, V, K⟩ := u
    obtain ⟨hp, hL, hS, hM⟩ := hu
    have hp : pc = pc2 := hp
    subst hp
    have h : sNext (sFm T I XN sX mi pc) (fun mi1 fr1 lo1 as M B1 k1 => sExec T I XN sX Sh f fr1 lo1 mi1 (0, sArgs 0 as, [], M) B1 k1) fr lo (I mi).2.2.1 (I mi).2.2.2.1 L S M B (fun B1 r => match r with
          | .inr _ => false
          | .inl y => bif Nat.beq y.1 stop then k B1 y else sGo T I XN sX Sh stop f fr lo mi y B1 k) = true := h
    obtain ⟨e, he, h⟩ := sNext_inv h
    have hc : sHc ρ (fun mi1 fr1 lo1 as M B1 k1 => sExec T I XN sX Sh f fr1 lo1 mi1 (0, sArgs 0 as, [], M) B1 k1) (fun g mi1 fr1 lo1 as M => mExec T I XN XF g fr1 lo1 mi1 (0, lv_args 0 as, [], M)) := fun mi1 fr1 lo1 as M1 B1 k1 q hi1 bs K1 ha hm => s_exec hX hKn hSh f fr1 lo1 mi1 _ B1 k1 q hi1 (0, lv_args 0 bs, [], K1) ⟨rfl, sArgs_rel 0 ha, trivial, hm⟩
    obtain ⟨B1, r, s, hi1, hk, hrr, F, hF⟩ := s_do hX hKn hc h hi hL hS hM
    cases r with
    | inr w => exact no_inv hk
    | inl y => cases s with
      | inr z => exact hrr.elim
      | inl v =>
        rcases bif_inv hk with ⟨-, hk⟩ | ⟨-, hk⟩
        · exact ⟨B1, y, v, hi1, hk, hrr, fun r hr => mRuns_step he hF hr⟩
        · obtain ⟨B2, y2, v2, a, b, c, d⟩ := ih fr lo mi y B1 k hk hi1 v hrr
          exact ⟨B2, y2, v2, a, b, c, fun r hr => mRuns_step he hF (d r hr)⟩
end SEX
noncomputable def sNo : sSh := fun _ _ => none
theorem sNo_ok {T : Nat → List mE} {I : Nat → mI} {XN : Nat → Nat} {XF : Nat → Nat → Int32} {ρ : Nat → Int} : sShOk T I XN XF sNo ρ := fun mi fr lo x B y h => by cases h

/-! ===== a run of the box machine is a run ===== -/
section ZRU
variable {W : zW} {X : mMem → mMem → Prop} {R : zR} {T : Nat → List mE} {I : Nat → mI} {XN : Nat → Nat} {XF : Nat → Nat → Int32} {sX : Nat → Nat → sI} {xs : Bool} {Ne : mMem}
theorem zNext_inv {mi pc : Nat} {call : zCl} {fr lo nL : Nat} {rt : Option FieldType} {L : List (Nat × sV)} {S : List sV} {M : zM} {B : zB} {k : zK} (h : zNext (zFm T I W R xs sX mi pc) call fr lo nL rt L S M B k = true) : ∃ e, mFind (T mi) pc = some e ∧ zDo I W R xs sX call fr lo nL rt e L S M B k = true := by
  unfold zFm at h
  cases he : mFind (T mi) pc with
  | none => rw [he] at h; exact no_inv h
  | some e => rw [he] at h; exact ⟨e, rfl, h⟩
theorem z_exec (hW : zWok W) (hX : zXok W X R.1) (hR : zRoom W R.2.1 Ne) (hv : ∀ mi, ∀ i ∈ zWi W mi, zVal W X T I XN XF mi i) (hsX : zSx XN XF sX) :
    ∀ (f fr lo mi : Nat) (x : zCfg) (B : zB) (k : zRet) (ρ : List Int), zExec T I W R xs sX f fr lo mi x B k = true → zIn ρ B → zXs XN XF xs ρ → ∀ u, zGR W X R.1 T I XN XF Ne ρ x u →
    ∃ e B1 w z, zIn (ρ ++ e) B1 ∧ k B1 w = true ∧ zWR W X R.1 T I XN XF Ne (ρ ++ e) w z ∧ mRuns T I XN XF fr lo mi u z
  | 0, _, _, _, _, _, _, _, h, _, _, _, _ => no_inv h
  | f + 1, fr, lo, mi, x, B, k, ρ, h, hi, hxs, u, hu => by
    have ih := z_exec hW hX hR hv hsX f
    obtain ⟨pc, L, S, M⟩ := x
    obtain ⟨pc2, N, V, K⟩ := u
    obtain ⟨hp, hL, hS, hM⟩ := hu
    have hp : pc = pc2 := hp
    subst hp
    have h : zNext (zFm T I W R xs sX mi pc) (fun mi1 fr1 lo1 as M B1 k1 => zExec T I W R xs sX f fr1 lo1 mi1 (0, sArgs 0 as, [], M) B1 k1) fr lo (I mi).2.2.1 (I mi).2.2.2.1 L S M B (fun B1 r => match r with
          | .inr w => k B1 w
          | .inl y => zExec T I W R xs sX f fr lo mi y B1 k) = true := h
    obtain ⟨e, he, h⟩ := zNext_inv h
    have hc : zHc W X R.1 T I XN XF xs Ne (fun mi1 fr1 lo1 as M B1 k1 => zExec T I W R xs sX f fr1 lo1 mi1 (0, sArgs 0 as, [], M) B1 k1) := fun ρ1 mi1 fr1 lo1 as M1 B1 k1 q hi1 hx1 bs K1 ha hm => ih fr1 lo1 mi1 _ B1 k1 ρ1 q hi1 hx1 (0, lv_args 0 bs, [], K1) ⟨rfl, zArgs_rel 0 ha, trivial, hm⟩
    obtain ⟨e1, B1, r, s, hi1, hk, hrr, F, hF⟩ := z_do hW hX hR hv hsX hc h hi hxs hL hS hM
    cases r with
    | inl y => cases s with
      | inl v =>
        obtain ⟨e2, B2, w, z, a, b, c, d⟩ := ih fr lo mi y B1 k (ρ ++ e1) hk hi1 (zXs_ext e1 hxs) v hrr
        rw [List.append_assoc] at a c
        exact ⟨_, B2, w, z, a, b, c, mRuns_step he hF d⟩
      | inr z => exact hrr.elim
    | inr w => cases s with
      | inl v => exact hrr.elim
      | inr z => exact ⟨e1, B1, w, z, hi1, hk, hrr, mRuns_end he hF⟩
theorem z_go (hW : zWok W) (hX : zXok W X R.1) (hR : zRoom W R.2.1 Ne) (hv : ∀ mi, ∀ i ∈ zWi W mi, zVal W X T I XN XF mi i) (hsX : zSx XN XF sX) (stop : Nat → Bool) :
    ∀ (f fr lo mi : Nat) (x : zCfg) (B : zB) (k : zK) (ρ : List Int), zGo T I W R xs sX stop f fr lo mi x B k = true → zIn ρ B → zXs XN XF xs ρ → ∀ u, zGR W X R.1 T I XN XF Ne ρ x u →
    ∃ e B1 r s, zIn (ρ ++ e) B1 ∧ k B1 r = true ∧ zRR W X R.1 T I XN XF Ne (ρ ++ e) r s ∧ match s with
      | .inl v => stop v.1 = true ∧ ∀ z, mRuns T I XN XF fr lo mi v z → mRuns T I XN XF fr lo mi u z
      | .inr z => mRuns T I XN XF fr lo mi u z
  | 0, _, _, _, _, _, _, _, h, _, _, _, _ => no_inv h
  | f + 1, fr, lo, mi, x, B, k, ρ, h, hi, hxs, u, hu => by
    have ih := z_go hW hX hR hv hsX stop f
    obtain ⟨pc, L, S, M⟩ := x
    obtain ⟨pc2, N, V, K⟩ := u
    obtain ⟨hp, hL, hS, hM⟩ := hu
    have hp : pc = pc2 := hp
    subst hp
    have h : zNext (zFm T I W R xs sX mi pc) (fun mi1 fr1 lo1 as M B1 k1 => zExec T I W R xs sX f fr1 lo1 mi1 (0, sArgs 0 as, [], M) B1 k1) fr lo (I mi).2.2.1 (I mi).2.2.2.1 L S M B (fun B1 r => match r with
          | .inr w => k B1 (.inr w)
          | .inl y => bif stop y.1 then k B1 (.inl y) else zGo T I W R xs sX stop f fr lo mi y B1 k) = true := h
    obtain ⟨e, he, h⟩ := zNext_inv h
    have hc : zHc W X R.1 T I XN XF xs Ne (fun mi1 fr1 lo1 as M B1 k1 => zExec T I W R xs sX f fr1 lo1 mi1 (0, sArgs 0 as, [], M) B1 k1) := fun ρ1 mi1 fr1 lo1 as M1 B1 k1 q hi1 hx1 bs K1 ha hm => z_exec hW hX hR hv hsX f fr1 lo1 mi1 _ B1 k1 ρ1 q hi1 hx1 (0, lv_args 0 bs, [], K1) ⟨rfl, zArgs_rel 0 ha, trivial, hm⟩
    obtain ⟨e1, B1, r, s, hi1, hk, hrr, F, hF⟩ := z_do hW hX hR hv hsX hc h hi hxs hL hS hM
    cases r with
    | inl y => cases s with
      | inr z => exact hrr.elim
      | inl v =>
        rcases bif_inv hk with ⟨hst, hk⟩ | ⟨-, hk⟩
        · refine ⟨e1, B1, .inl y, .inl v, hi1, hk, hrr, ?_, fun z hz => mRuns_step he hF hz⟩
          rw [← hrr.1]
          exact hst
        · obtain ⟨e2, B2, r2, s2, a, b, c, d⟩ := ih fr lo mi y B1 k (ρ ++ e1) hk hi1 (zXs_ext e1 hxs) v hrr
          rw [List.append_assoc] at a c
          refine ⟨_, B2, r2, s2, a, b, c, ?_⟩
          cases s2 with
          | inl v2 => exact ⟨d.1, fun z hz => mRuns_step he hF (d.2 z hz)⟩
          | inr z => exact mRuns_step he hF d
    | inr w => cases s with
      | inl v => exact hrr.elim
      | inr z => exact ⟨e1, B1, .inr w, .inr z, hi1, hk, hrr, mRuns_end he hF⟩
end ZRU

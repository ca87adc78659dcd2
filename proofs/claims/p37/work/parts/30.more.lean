/-! ===== more frames and locals do no harm ===== -/
theorem bif_inv2 {α : Type} {c : Bool} {a b x : α} (h : (bif c then a else b) = x) : (c = true ∧ a = x) ∨ (c = false ∧ b = x) := by
  cases c
  · exact .inr ⟨rfl, h⟩
  · exact .inl ⟨rfl, h⟩
/-! ===== locals ===== -/
theorem mPop_g {β : Type} {S : List Value} {n : Nat} {k : List Value → List Value → Option β} {y : β} (h : mPop S n k = some y) : Nat.ble n S.length = true ∧ k (S.take n).reverse (S.drop n) = some y := mWhen_inv h
theorem ble_more {a b c : Nat} (h : Nat.ble a b = true) (h2 : b ≤ c) : Nat.ble a c = true := Nat.ble_eq.mpr (Nat.le_trans (Nat.le_of_ble_eq_true h) h2)
section ZMO
variable {I : Nat → mI} {XN : Nat → Nat} {XF : Nat → Nat → Int32} {T : Nat → List mE}
theorem mCall_more {call call2 : Nat → Nat → Nat → List Value → mMem → Option (Option Value × mMem)} {fr lo fr2 lo2 nx mi : Nat} {L : List (Nat × Value)} {as r : List Value} {M : mMem} {y : mRes} (h : mCall I call fr lo nx mi L as r M = some y) (h1 : fr ≤ fr2) (h2 : lo ≤ lo2)
    (hc : ∀ mi f l as M r f2 l2, call mi f l as M = some r → f ≤ f2 → l ≤ l2 → call2 mi f2 l2 as M = some r) : mCall I call2 fr2 lo2 nx mi L as r M = some y := by
  unfold mCall at h ⊢
  obtain ⟨g, h⟩ := mWhen_inv h
  obtain ⟨g1, g⟩ := and_inv g
  obtain ⟨g2, g⟩ := and_inv g
  obtain ⟨g3, g4⟩ := and_inv g
  rw [mWhen_t (by rw [g1, ble_more g2 h1, ble_more g3 h2, g4]; rfl)]
  cases hq : call mi (fr - 1) (lo - (19 + (I mi).2.2.1)) as M with
  | none => rw [hq] at h; cases h
  | some r =>
    rw [hq] at h
    rw [hc _ _ _ _ _ _ (fr2 - 1) (lo2 - (19 + (I mi).2.2.1)) hq (by omega) (by omega)]
    exact h
set_option maxHeartbeats 4000000 in
theorem mDo_more {call call2 : Nat → Nat → Nat → List Value → mMem → Option (Option Value × mMem)} {fr lo fr2 lo2 nL : Nat} {rt : Option FieldType} {e : mE} {L : List (Nat × Value)} {S : List Value} {M : mMem} {y : mRes} (h : mDo I XN XF call fr lo nL rt e L S M = some y) (h1 : fr ≤ fr2) (h2 : lo ≤ lo2)
    (hc : ∀ mi f l as M r f2 l2, call mi f l as M = some r → f ≤ f2 → l ≤ l2 → call2 mi f2 l2 as M = some r) : mDo I XN XF call2 fr2 lo2 nL rt e L S M = some y := by
  obtain ⟨pc, len, ri, ni, v, r1, r2, wi⟩ := e
  cases ni
  case invokevirtual i =>
    have h : (mPop S (I r1).2.2.2.2.2.1 fun as r => match as with
      | .ref o :: _ => mWhen (Nat.blt o M.1 && Nat.beq (mObj M o).1 r2) (mCall I call fr lo (pc + len) r1 L as r M)
      | _ => none) = some y := h
    obtain ⟨g, h⟩ := mPop_g h
    show (mPop S (I r1).2.2.2.2.2.1 fun as r => match as with
      | .ref o :: _ => mWhen (Nat.blt o M.1 && Nat.beq (mObj M o).1 r2) (mCall I call2 fr2 lo2 (pc + len) r1 L as r M)
      | _ => none) = some y
    rw [mPop_t g]
    split at h
    · next o as hq =>
      rw [hq] at h ⊢
      obtain ⟨g2, h⟩ := mWhen_inv h
      exact (mWhen_t g2).trans (mCall_more h h1 h2 hc)
    · cases h
  case invokespecial i =>
    rcases bif_inv2 h with ⟨c, h⟩ | ⟨c, h⟩
    · obtain ⟨o, r, rfl, h⟩ := mR1_inv h
      obtain ⟨g, h⟩ := mWhen_inv h
      obtain ⟨g1, g2⟩ := and_inv g
      show (bif Nat.beq r2 0 then mWhen (Nat.ble 1 fr2 && Nat.ble (mCats r + 12) lo2) (mNx (pc + len) L r M) else _) = _
      rw [c, cond_true, mWhen_t (by rw [ble_more g1 h1, ble_more g2 h2]; rfl)]
      exact h
    · have h : (mPop S (I r1).2.2.2.2.2.1 fun as r => match as with
        | .ref _ :: _ => mCall I call fr lo (pc + len) r1 L as r M
        | _ => none) = some y := h
      obtain ⟨g, h⟩ := mPop_g h
      show (bif Nat.beq r2 0 then _ else mPop S (I r1).2.2.2.2.2.1 fun as r => match as with
        | .ref _ :: _ => mCall I call2 fr2 lo2 (pc + len) r1 L as r M
        | _ => none) = some y
      rw [c, cond_false, mPop_t g]
      split at h
      · next o as hq =>
        rw [hq] at h ⊢
        exact mCall_more h h1 h2 hc
      · cases h
  case invokestatic i =>
    rcases bif_inv2 h with ⟨c, h⟩ | ⟨c, h⟩
    · have h : (mPop S (I r1).2.2.2.2.2.1 fun as r => mCall I call fr lo (pc + len) r1 L as r M) = some y := h
      obtain ⟨g, h⟩ := mPop_g h
      show (bif Nat.beq r2 0 then (mPop S (I r1).2.2.2.2.2.1 fun as r => mCall I call2 fr2 lo2 (pc + len) r1 L as r M) else _) = some y
      rw [c, cond_true, mPop_t g]
      exact mCall_more h h1 h2 hc
    rcases bif_inv2 h with ⟨c1, h⟩ | ⟨c1, h⟩
    · show (bif Nat.beq r2 0 then _ else bif Nat.beq r2 1 then _ else _) = _
      rw [c, c1, cond_false, cond_true]
      split at h
      · next n dp b sp a r =>
        obtain ⟨g, h⟩ := mWhen_inv h
        obtain ⟨g1, g⟩ := and_inv g
        obtain ⟨g2, g⟩ := and_inv g
        rw [mWhen_t (by rw [ble_more g1 h1, ble_more g2 h2, g]; rfl)]
        exact h
      · cases h
    · obtain ⟨a, b, r, rfl, h⟩ := mI2_inv h
      obtain ⟨g, h⟩ := mWhen_inv h
      obtain ⟨g1, g2⟩ := and_inv g
      show (bif Nat.beq r2 0 then _ else bif Nat.beq r2 1 then _ else mWhen (Nat.ble 1 fr2 && Nat.ble (mCats r + 13) lo2) _) = _
      rw [c, c1, cond_false, cond_false, mWhen_t (by rw [ble_more g1 h1, ble_more g2 h2]; rfl)]
      exact h
  all_goals exact h
theorem mExec_more : ∀ (f fr lo mi : Nat) (x : mCfg) (r : Option Value × mMem) (fr2 lo2 : Nat), mExec T I XN XF f fr lo mi x = some r → fr ≤ fr2 → lo ≤ lo2 → mExec T I XN XF f fr2 lo2 mi x = some r
  | 0, _, _, _, _, _, _, _, h, _, _ => by cases h
  | f + 1, fr, lo, mi, x, r, fr2, lo2, h, h1, h2 => by
    have ih := mExec_more f
    have hc : ∀ mi' f1 l1 as M r f2 l2, mExec T I XN XF f f1 l1 mi' (0, lv_args 0 as, [], M) = some r → f1 ≤ f2 → l1 ≤ l2 → mExec T I XN XF f f2 l2 mi' (0, lv_args 0 as, [], M) = some r := fun mi' f1 l1 as M r f2 l2 a b c => ih f1 l1 mi' _ r f2 l2 a b c
    unfold mExec at h ⊢
    cases he : mFind (T mi) x.1 with
    | none => rw [he] at h; cases h
    | some e =>
      rw [he] at h
      dsimp only at h ⊢
      cases hd : mDo I XN XF (fun mi' fr' lo' as M => mExec T I XN XF f fr' lo' mi' (0, lv_args 0 as, [], M)) fr lo (I mi).2.2.1 (I mi).2.2.2.1 e x.2.1 x.2.2.1 x.2.2.2 with
      | none => rw [hd] at h; cases h
      | some y =>
        rw [hd] at h
        rw [mDo_more hd h1 h2 hc]
        cases y with
        | inr w => exact h
        | inl w => exact ih fr lo mi w r fr2 lo2 h h1 h2
theorem mRuns_more {fr lo mi fr2 lo2 : Nat} {x : mCfg} {r : Option Value × mMem} (h : mRuns T I XN XF fr lo mi x r) (h1 : fr ≤ fr2) (h2 : lo ≤ lo2) : mRuns T I XN XF fr2 lo2 mi x r := by
  obtain ⟨F, hF⟩ := h
  exact ⟨F, fun f hf => mExec_more f fr lo mi x r fr2 lo2 (hF f hf) h1 h2⟩
theorem mRuns_eq {fr lo mi : Nat} {x : mCfg} {r s : Option Value × mMem} (h : mRuns T I XN XF fr lo mi x r) (h2 : mRuns T I XN XF fr lo mi x s) : r = s := by
  obtain ⟨F, hF⟩ := h
  obtain ⟨G, hG⟩ := h2
  have a := hF (F + G) (by omega)
  have b := hG (F + G) (by omega)
  rw [a] at b
  exact Option.some.inj b
end ZMO

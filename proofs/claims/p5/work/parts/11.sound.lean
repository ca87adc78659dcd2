/-! ===== soundness: whatever the abstract machine's run gives, the machine gives ===== -/
theorem mFind_in {l : List mE} {pc : Nat} {e : mE} (h : mFind l pc = some e) : e ∈ l ∧ e.1 = pc := by
  unfold mFind at h
  have h2 := List.find?_some h
  exact ⟨List.mem_of_find?_eq_some h, Nat.eq_of_beq_eq_true h2⟩
theorem lg_sl_len : ∀ vs : List Value, (lg_sl vs).length = mCats vs
  | [] => rfl
  | v :: vs => by
    have ih := lg_sl_len vs
    have e : lg_sl (v :: vs) = lg_sl [v] ++ lg_sl vs := by simp [lg_sl]
    have e2 : mCats (v :: vs) = v.category + mCats vs := by simp [mCats]
    rw [e, List.length_append, ih, e2]
    congr 1
    cases v <;> simp [lg_sl, Value.category]
theorem lv_has_F0 {m : MethodId} {vs : List Value} {n : Nat} (h : mCats vs ≤ n) : ∃ ls : Array Slot, entryFrame m vs.toArray n = F0 m 0 ls [] ∧ lv_has ls n (lv_args 0 vs) :=
  ⟨_, lg_entry_eq m vs n, lv_entry vs (by rw [lg_sl_len]; exact h)⟩
theorem m_run_mono {T : Nat → List mE} {I : Nat → mI} {XN : Nat → Nat} {XF : Nat → Nat → Int32} (hT : ∀ mi, ∀ e ∈ T mi, mOk I mi e = true) : ∀ (f fr lo mi : Nat) (x : mCfg) (v : Option Value) (M2 : mMem), mExec T I XN XF f fr lo mi x = some (v, M2) → x.2.2.2.1 ≤ 1024 →
    x.2.2.2.1 ≤ M2.1 ∧ x.2.2.2.2.1 ≤ M2.2.1 ∧ M2.1 ≤ 1024
  | 0, _, _, _, _, _, _, h, _ => by cases h
  | f + 1, fr, lo, mi, x, v, M2, h, hM => by
    have ih := m_run_mono (T := T) (I := I) (XN := XN) (XF := XF) hT f
    unfold mExec at h
    split at h
    · cases h
    · next e he =>
      obtain ⟨hin, hpc⟩ := mFind_in he
      have hok := hT mi e hin
      obtain ⟨pc, len, ri, ni, v0, r1, r2, wi⟩ := e
      split at h
      · cases h
      · next r hr =>
        cases h
        obtain ⟨rfl, -, -⟩ := m_end hok hr
        exact ⟨Nat.le_refl _, Nat.le_refl _, hM⟩
      · next y hy =>
        obtain ⟨h1, h2, h3⟩ := m_mono hy hM (fun mi' fr' lo' as M1 v1 M3 q1 q2 => ih fr' lo' mi' (0, lv_args 0 as, [], M1) v1 M3 q2 q1)
        obtain ⟨g1, g2, g3⟩ := ih fr lo mi y v M2 h h3
        exact ⟨Nat.le_trans h1 g1, Nat.le_trans h2 g2, g3⟩
section MSO
variable {l : Launch} {D : va_G} {cs : mCs} {base : Nat} {E XN : Nat → Nat} {XF : Nat → Nat → Int32} {T : Nat → List mE} {I : Nat → mI}
/-- what a run of a body from a configuration gives, in any frame of it -/
noncomputable def mSnd (l : Launch) (D : va_G) (cs : mCs) (base : Nat) (E XN : Nat → Nat) (XF : Nat → Nat → Int32) (I : Nat → mI) (fr lo mi : Nat) (x : mCfg) (v : Option Value) (M2 : mMem) : Prop :=
  ∀ (p : Program) (e0 : Env) (R : Room) (s : State) (m : MethodId) (args : Array Value) (below : List Frame) (meth : Method) (c : Code) (H : Heap) (locs : List Loc) (ls : Array Slot) (Q : State → Prop) (n0 z0 : Nat),
    mFr I mi base n0 E XN XF D cs p s m args meth c → R.frames = fr → R.locals = lo → n0 ≤ x.2.2.2.1 → z0 ≤ x.2.2.2.2.1 → M2.1 - n0 ≤ R.cells → M2.2.1 - z0 ≤ R.slots →
    va_P D vwCl (mWs (mAd base E) cs x.2.2.2) H → va_S (mA base) s.heap H locs → lv_has ls (I mi).2.2.1 (mLv (mAd base E) x.2.1) →
    (∀ (H1 : Heap) (locs1 : List Loc) (ls1 : Array Slot) (pc1 : Nat), mEnd (I mi) (I mi).2.2.2.1 pc1 v → va_P D vwCl (mWs (mAd base E) cs M2) H1 → va_S (mA base) s.heap H1 locs1 → W p l e0 R s m args below meth c H1 locs1 (M2.1 - n0) (M2.2.1 - z0) Q (F0 m pc1 ls1 (v.map (mTv (mAd base E))).toList)) →
    W p l e0 R s m args below meth c H locs (x.2.2.2.1 - n0) (x.2.2.2.2.1 - z0) Q (F0 m x.1 ls (x.2.2.1.map (mTv (mAd base E))))
theorem m_met (hI : ∀ k, k < mNM → mMok (I k) = true) {fr lo mi : Nat} {as : List Value} {M1 M2 : mMem} {v : Option Value} (hmi : mi < mNM) (hc : mCats as ≤ (I mi).2.2.1) (h1 : M1.1 ≤ M2.1) (h2 : M1.2.1 ≤ M2.2.1)
    (h : mSnd l D cs base E XN XF I fr lo mi (0, lv_args 0 as, [], M1) v M2) : mMet l I base E XN XF D cs mi fr lo as M1 v M2 := by
  obtain ⟨w0, w1, w2, w3, w4, w5, w6, w7, w8⟩ := mMok_use (hI mi hmi)
  refine Met.ofW (cc := (I mi).2.1) (maxL := (I mi).2.2.1) (ret := (I mi).2.2.2.1) w2 rfl (fun p e s m args below meth c s₁ B hml hv => ?_)
  obtain ⟨rfl, hsz, hP, hK, hXt⟩ := hv
  have hts := atoms_spec (ws := Cond.code (I mi).1 (I mi).2.1 (I mi).2.2.1 (I mi).2.2.2.1 :: mTBL) B.pre
  have hlocks := B.notSynchronized
  obtain ⟨ls, e1, hl⟩ := lv_has_F0 (m := m) (vs := as.map (mTv (mAd base E))) (n := (I mi).2.2.1) (by
    have : mCats (as.map (mTv (mAd base E))) = mCats as := mCats_map _ _
    rw [this]
    exact hc)
  rw [e1]
  rw [mLv_args] at hl
  have F : mFr I mi base M1.1 E XN XF D cs p s m _ meth c := ⟨B.exec, B.bytes, hml, by rw [w4]; exact findClass_of_methodNamed B.named, fun w hw => hts w (List.mem_cons_of_mem _ hw), hK, hXt, hsz, (name_of_methodNamed B.named B.method).1⟩
  have k := h p e (headSpec (Cond.code (I mi).1 (I mi).2.1 (I mi).2.2.1 (I mi).2.2.2.1 :: mTBL) ({ frames := fr, cells := M2.1 - M1.1, slots := M2.2.1 - M1.2.1, locals := lo })).room s m (as.map (mTv (mAd base E))).toArray below meth c s.heap [] ls
    (MQ below (mQc base E D cs v M2) (as.map (mTv (mAd base E))).toArray s (M2.1 - M1.1) (M2.2.1 - M1.2.1) (mA base)) M1.1 M1.2.1 F rfl rfl (Nat.le_refl _) (Nat.le_refl _) (Nat.le_refl _) (Nat.le_refl _) hP va_S.rf hl (fun H1 locs1 ls1 pc1 hend hP1 hS1 => ?_)
  · have q1 : (0, lv_args 0 as, ([] : List Value), M1).2.2.2.1 - M1.1 = 0 := by show M1.1 - M1.1 = 0; omega
    have q2 : (0, lv_args 0 as, ([] : List Value), M1).2.2.2.2.1 - M1.2.1 = 0 := by show M1.2.1 - M1.2.1 = 0; omega
    rw [q1, q2] at k
    exact k
  · have hq : ∀ t : State, t.heap = H1 → s.WarmedH t.vm → mQc base E D cs v M2 (as.map (mTv (mAd base E))).toArray s (.returned (v.map (mTv (mAd base E)))) t := fun t ht _ => ⟨rfl, by rw [ht]; exact hP1, hS1.F ht⟩
    unfold mEnd at hend
    split at hend
    · obtain ⟨hd, ty, hty, hf⟩ := hend
      exact W.zret (ty := ty) B.exec B.bytes (B.returns.trans hty) (mFit_fits (ad := mAd base E) hf).1 hq hS1.2.2 hd hlocks
    · obtain ⟨hd, hty⟩ := hend
      exact W.lret B.exec B.bytes (B.returns.trans hty) hq hS1.2.2 hd hlocks
    · obtain ⟨hd, hty⟩ := hend
      exact W.vret B.exec B.bytes (B.returns.trans hty) hq hS1.2.2 hd hlocks
    · exact hend.elim
theorem m_sound (hT : ∀ mi, ∀ e ∈ T mi, mOk I mi e = true) (hI : ∀ k, k < mNM → mMok (I k) = true) (G : mG) : ∀ (f fr lo mi : Nat) (x : mCfg) (v : Option Value) (M2 : mMem), mExec T I XN XF f fr lo mi x = some (v, M2) → x.2.2.2.1 ≤ 1024 → mSnd l D cs base E XN XF I fr lo mi x v M2
  | 0, _, _, _, _, _, _, h, _ => by cases h
  | f + 1, fr, lo, mi, x, v, M2, h, hM => by
    have ih := m_sound hT hI G f
    have mono := m_run_mono (T := T) (I := I) (XN := XN) (XF := XF) hT f
    intro p e0 R s m args below meth c H locs ls Q n0 z0 F hRf hRl hn0 hz0 hRc hRs hP hS hl kk
    unfold mExec at h
    split at h
    · cases h
    · next e he =>
      obtain ⟨hin, hpc⟩ := mFind_in he
      have hok := hT mi e hin
      obtain ⟨pc, len, ri, ni, v0, r1, r2, wi⟩ := e
      have hpc : pc = x.1 := hpc
      rw [← hpc]
      split at h
      · cases h
      · next r hr =>
        cases h
        obtain ⟨rfl, hs, hend⟩ := m_end hok hr
        have k := kk H locs ls pc hend hP hS
        have e1 : x.2.2.1.map (mTv (mAd base E)) = (v.map (mTv (mAd base E))).toList := by rw [hs]; cases v <;> rfl
        rw [e1]
        exact k
      · next y hy =>
        obtain ⟨g1, g2, g3⟩ := m_mono hy hM (fun mi' fr' lo' as M1 v1 M3 q1 q2 => mono fr' lo' mi' (0, lv_args 0 as, [], M1) v1 M3 q2 q1)
        obtain ⟨k1, k2, k3⟩ := mono fr lo mi y v M2 h g3
        have next : ∀ (H1 : Heap) (locs1 : List Loc) (ls' : Array Slot), va_P D vwCl (mWs (mAd base E) cs y.2.2.2) H1 → va_S (mA base) s.heap H1 locs1 → lv_has ls' (I mi).2.2.1 (mLv (mAd base E) y.2.1) → W p l e0 R s m args below meth c H1 locs1 (y.2.2.2.1 - n0) (y.2.2.2.2.1 - z0) Q (F0 m y.1 ls' (y.2.2.1.map (mTv (mAd base E)))) :=
          fun H1 locs1 ls' hP1 hS1 hl1 => ih fr lo mi y v M2 h g3 p e0 R s m args below meth c H1 locs1 ls' Q n0 z0 F hRf hRl (Nat.le_trans hn0 g1) (Nat.le_trans hz0 g2) hRc hRs hP1 hS1 hl1 kk
        have hcl : mClass ni = 1 ∨ mClass ni = 2 ∨ mClass ni = 3 ∨ mClass ni = 4 := by cases ni <;> simp [mClass]
        rcases hcl with hcl | hcl | hcl | hcl
        · exact m_step1 F hok hy hcl hl (fun ls' hl1 hMe => by
            have k := next H locs ls' (by rw [hMe]; exact hP) hS hl1
            rw [hMe] at k
            exact k)
        · exact m_step2 F G hok hy hcl hM hP hS hl (fun H1 locs1 ls' hP1 hS1 hl1 c1 c2 => by
            have k := next H1 locs1 ls' hP1 hS1 hl1
            rw [c1, c2] at k
            exact k)
        · exact m_step3 F G hok hy hcl hM hn0 hz0 (by omega) (by omega) hP hS hl next
        · exact m_step4 F G hI hok hy (fun mi' fr' lo' as M1 v1 M3 q1 q2 q3 q4 => by
            obtain ⟨a1, a2, a3⟩ := mono fr' lo' mi' (0, lv_args 0 as, [], M1) v1 M3 q2 q1
            exact ⟨a1, a2, m_met hI q3 q4 a1 a2 (ih fr' lo' mi' (0, lv_args 0 as, [], M1) v1 M3 q2 q1)⟩) hcl hM hn0 hz0 (by omega) (by omega) ⟨g1, g2⟩ hRf hRl hP hS hl next
end MSO

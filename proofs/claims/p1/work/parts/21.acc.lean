/-! ===== a loop that only counts is run through at once: variable 10 counts ===== -/
noncomputable def sFrI (x : sI) : Bool := bif Nat.beq x.1 10 then false else true
noncomputable def sFrV (a : sV) : Bool := match a with
  | .inl x => sFrI x
  | .inr (.inl x) => sFrI x
  | .inr (.inr _) => true
noncomputable def sAlQ {α : Type} (p : α → Bool) (l : List α) : Bool := List.rec (motive := fun _ => Bool) true (fun q _ ih => p q && ih) l
noncomputable def sFrL (l : List (Nat × sV)) : Bool := sAlQ (fun q => sFrV q.2) l
noncomputable def sFrC (c : sCell) : Bool := match c with
  | (_, _, v, l) => sFrV v && sFrL l
noncomputable def sAllO (p : Nat → Bool) (n : Nat) : Bool := Nat.rec (motive := fun _ => Bool) true (fun i ih => p i && ih) n
noncomputable def sFrG (x : sCfg) : Bool := sFrL x.2.1 && (sAlQ sFrV x.2.2.1 && sAllO (fun o => sFrC (sObj x.2.2.2 o)) x.2.2.2.1)
noncomputable def sEqL (l : List (Nat × sV)) : List (Nat × sV) → Bool := List.rec (motive := fun _ => List (Nat × sV) → Bool) (fun m => match m with
    | [] => true
    | _ :: _ => false) (fun q _ ih m => match m with
    | [] => false
    | r :: m => Nat.beq q.1 r.1 && (sEqV q.2 r.2 && ih m)) l
noncomputable def sEqS (l : List sV) : List sV → Bool := List.rec (motive := fun _ => List sV → Bool) (fun m => match m with
    | [] => true
    | _ :: _ => false) (fun q _ ih m => match m with
    | [] => false
    | r :: m => sEqV q r && ih m) l
noncomputable def sEqC (c d : sCell) : Bool := match c with
  | (k1, n1, v1, l1) => match d with
    | (k2, n2, v2, l2) => Nat.beq k1 k2 && (Nat.beq n1 n2 && (sEqV v1 v2 && (sEqL l1 l2 || (sAlQ (fun q => sEqV (sLa v1 l1 q.1) (sLa v2 l2 q.1)) l1 && sAlQ (fun q => sEqV (sLa v1 l1 q.1) (sLa v2 l2 q.1)) l2))))
noncomputable def sEqG (x y : sCfg) : Bool := Nat.beq x.1 y.1 && (sEqL x.2.1 y.2.1 && (sEqS x.2.2.1 y.2.2.1 && (Nat.beq x.2.2.2.1 y.2.2.2.1 && (Nat.beq x.2.2.2.2.1 y.2.2.2.2.1 && sAllO (fun o => sEqC (sObj x.2.2.2 o) (sObj y.2.2.2 o)) x.2.2.2.1))))
/-- the counter's local and the slot that counts with it get a value -/
noncomputable def sXv (ik o s : Nat) (x : sCfg) (v : sI) : sCfg := (x.1, sRep x.2.1 ik (.inl v), x.2.2.1, sPut x.2.2.2 o ((sObj x.2.2.2 o).1, (sObj x.2.2.2 o).2.1, (sObj x.2.2.2 o).2.2.1, sRep (sObj x.2.2.2 o).2.2.2 s (.inl v)))
noncomputable def sLim (lim : Option Nat) (L : List (Nat × sV)) : Option sI := match lim with
  | none => some (0, 2000)
  | some i => match sLk L i with
    | some (.inl n) => some n
    | _ => none
noncomputable def sAcc (T : Nat → List mE) (I : Nat → mI) (XN : Nat → Nat) (sX : Nat → Nat → sI) (mi ik o s : Nat) (lim : Option Nat) (fr lo : Nat) (x : sCfg) (B : sB) : Option sCfg := match sLim lim x.2.1 with
  | none => none
  | some n => bif Nat.blt o x.2.2.2.1 && ((sEqL x.2.1 (sRep x.2.1 ik (.inl (0, 0))) && sEqV (sLook (sObj x.2.2.2 o) s) (.inl (0, 0))) && (sFrI n && (sFrG x && (sRg B n fun l h => sILe 0 l && sGo T I XN sX sNo x.1 3000 fr lo mi (sXv ik o s x (10, 0)) (B.1.set 9 (0, h - 1), [((10, 0), n)]) (fun _ y => sEqG y (sXv ik o s x (10, 1))))))) then some (sXv ik o s x n) else none
/-! ===== it is sound ===== -/
theorem sAllO_inv {p : Nat → Bool} : ∀ {n : Nat}, sAllO p n = true → ∀ i, i < n → p i = true
  | 0, _, i, h => by omega
  | n + 1, h, i, hi => by
    have h : (p n && sAllO p n) = true := h
    obtain ⟨h1, h2⟩ := and_inv h
    by_cases e : i = n
    · rw [e]; exact h1
    · exact sAllO_inv h2 i (by omega)
theorem sAlQ_inv {α : Type} {p : α → Bool} : ∀ {l : List α}, sAlQ p l = true → ∀ q ∈ l, p q = true
  | [], _, q, hq => by cases hq
  | a :: l, h, q, hq => by
    obtain ⟨h1, h2⟩ := and_inv (show (p a && sAlQ p l) = true from h)
    rcases List.mem_cons.mp hq with e | e
    · rw [e]; exact h1
    · exact sAlQ_inv h2 q e
theorem sFrI_inv {x : sI} (h : sFrI x = true) : x.1 ≠ 10 := by
  intro e
  unfold sFrI at h
  rw [e] at h
  exact no_inv h
theorem sLa_no {d : sV} {k : Nat} : ∀ {l : List (Nat × sV)}, (∀ q ∈ l, ¬ q.1 = k) → sLa d l k = d
  | [], _ => rfl
  | q :: l, h => by
    show (bif Nat.beq q.1 k then q.2 else sLa d l k) = d
    rw [nbeq_f (h q (List.mem_cons_self)), cond_false]
    exact sLa_no fun r hr => h r (List.mem_cons_of_mem _ hr)
theorem sEqL_eq : ∀ {l m : List (Nat × sV)}, sEqL l m = true → l = m
  | [], [], _ => rfl
  | [], _ :: _, h => no_inv h
  | _ :: _, [], h => no_inv h
  | q :: l, r :: m, h => by
    have h : (Nat.beq q.1 r.1 && (sEqV q.2 r.2 && sEqL l m)) = true := h
    obtain ⟨h1, h⟩ := and_inv h
    obtain ⟨h2, h⟩ := and_inv h
    rw [sEqL_eq h, Prod.ext (Nat.eq_of_beq_eq_true h1) (sEqV_eq h2)]
theorem sEqS_eq : ∀ {l m : List sV}, sEqS l m = true → l = m
  | [], [], _ => rfl
  | [], _ :: _, h => no_inv h
  | _ :: _, [], h => no_inv h
  | q :: l, r :: m, h => by
    have h : (sEqV q r && sEqS l m) = true := h
    obtain ⟨h2, h⟩ := and_inv h
    rw [sEqS_eq h, sEqV_eq h2]
theorem sEqC_look {c d : sCell} (h : sEqC c d = true) : c.1 = d.1 ∧ c.2.1 = d.2.1 ∧ ∀ k, sLook c k = sLook d k := by
  obtain ⟨k1, n1, v1, l1⟩ := c
  obtain ⟨k2, n2, v2, l2⟩ := d
  have h : (Nat.beq k1 k2 && (Nat.beq n1 n2 && (sEqV v1 v2 && (sEqL l1 l2 || (sAlQ (fun q => sEqV (sLa v1 l1 q.1) (sLa v2 l2 q.1)) l1 && sAlQ (fun q => sEqV (sLa v1 l1 q.1) (sLa v2 l2 q.1)) l2))))) = true := h
  obtain ⟨h1, h⟩ := and_inv h
  obtain ⟨h2, h⟩ := and_inv h
  obtain ⟨h3, h⟩ := and_inv h
  refine ⟨Nat.eq_of_beq_eq_true h1, Nat.eq_of_beq_eq_true h2, fun k => ?_⟩
  show sLa v1 l1 k = sLa v2 l2 k
  rcases Bool.or_eq_true_iff.mp h with h | h
  · rw [sEqL_eq h, sEqV_eq h3]
  obtain ⟨h4, h5⟩ := and_inv h
  by_cases e : ∃ q ∈ l1, q.1 = k
  · obtain ⟨q, hq, e⟩ := e
    rw [← e]
    exact sEqV_eq (sAlQ_inv h4 q hq)
  by_cases f : ∃ q ∈ l2, q.1 = k
  · obtain ⟨q, hq, f⟩ := f
    rw [← f]
    exact sEqV_eq (sAlQ_inv h5 q hq)
  rw [sLa_no fun q hq he => e ⟨q, hq, he⟩, sLa_no fun q hq he => f ⟨q, hq, he⟩]
  exact sEqV_eq h3
theorem sEqC_tr {ρ : Nat → Int} {c d : sCell} {m : mCell} (h : sEqC c d = true) (hc : sCR ρ c m) : sCR ρ d m := by
  obtain ⟨h1, h2, hl⟩ := sEqC_look h
  refine ⟨by rw [← h1]; exact hc.1, by rw [← h2]; exact hc.2.1, by rw [← h2]; exact hc.2.2.1, fun k hk => ?_⟩
  rw [← hl k]
  exact hc.2.2.2 k (by rw [h2]; exact hk)
theorem sEqG_tr {ρ : Nat → Int} {x y : sCfg} {u : mCfg} (h : sEqG x y = true) (hx : sGR ρ x u) : sGR ρ y u := by
  unfold sEqG at h
  obtain ⟨h1, h⟩ := and_inv h
  obtain ⟨h2, h⟩ := and_inv h
  obtain ⟨h3, h⟩ := and_inv h
  obtain ⟨h4, h⟩ := and_inv h
  obtain ⟨h5, h6⟩ := and_inv h
  have h4 := Nat.eq_of_beq_eq_true h4
  have h5 := Nat.eq_of_beq_eq_true h5
  obtain ⟨a, b, c, d1, d2, d3, d4⟩ := hx
  refine ⟨by rw [← Nat.eq_of_beq_eq_true h1]; exact a, by rw [← sEqL_eq h2]; exact b, by rw [← sEqS_eq h3]; exact c, by rw [← h4]; exact d1, by rw [← h5]; exact d2, by rw [← h4]; exact d3, fun o ho => ?_⟩
  rw [← h4] at ho
  exact sEqC_tr (sAllO_inv h6 o ho) (d4 o ho)
theorem sFrV_rel {ρ σ : Nat → Int} (hρ : ∀ i, i ≠ 10 → ρ i = σ i) {a : sV} {w : Value} (hf : sFrV a = true) (h : sRel ρ a w) : sRel σ a w := by
  have hd : ∀ x : sI, sFrI x = true → sDn ρ x = sDn σ x := fun x hx => by
    unfold sDn
    rw [hρ _ (sFrI_inv hx)]
  rcases a with x | x | q | o
  · obtain ⟨y, rfl, hy⟩ := sRel_i h
    show y.toInt = sDn σ x
    rw [← hd x hf]
    exact hy
  · obtain ⟨y, rfl, hy⟩ := sRel_l h
    show y.toInt = sDn σ x
    rw [← hd x hf]
    exact hy
  · obtain rfl := sRel_n h
    exact trivial
  · obtain rfl := sRel_r h
    exact rfl
theorem sFrV_val {ρ σ : Nat → Int} {v v2 : sI} {w : Value} (hv : sDn ρ v = sDn σ v2) (h : sRel ρ (.inl v) w) : sRel σ (.inl v2) w := by
  obtain ⟨y, rfl, hy⟩ := sRel_i h
  show y.toInt = sDn σ v2
  rw [← hv]
  exact hy
theorem sFrL_rel {ρ σ : Nat → Int} (hρ : ∀ i, i ≠ 10 → ρ i = σ i) : ∀ {l : List (Nat × sV)} {N : List (Nat × Value)}, sFrL l = true → sLR ρ l N → sLR σ l N
  | [], N, _, h => by rw [sAll_nil h]; exact trivial
  | q :: l, N, hf, h => by
    obtain ⟨r, W, rfl, ⟨h1, h2⟩, h⟩ := sAll_cons h
    obtain ⟨f1, f2⟩ := and_inv (show (sFrV q.2 && sFrL l) = true from hf)
    exact ⟨⟨h1, sFrV_rel hρ f1 h2⟩, sFrL_rel hρ f2 h⟩
theorem sFrS_rel {ρ σ : Nat → Int} (hρ : ∀ i, i ≠ 10 → ρ i = σ i) : ∀ {l : List sV} {N : List Value}, sAlQ sFrV l = true → sSR ρ l N → sSR σ l N
  | [], N, _, h => by rw [sAll_nil h]; exact trivial
  | q :: l, N, hf, h => by
    obtain ⟨r, W, rfl, h2, h⟩ := sAll_cons h
    obtain ⟨f1, f2⟩ := and_inv (show (sFrV q && sAlQ sFrV l) = true from hf)
    exact ⟨sFrV_rel hρ f1 h2, sFrS_rel hρ f2 h⟩
theorem sRep_rel {ρ σ : Nat → Int} (hρ : ∀ i, i ≠ 10 → ρ i = σ i) {k : Nat} {v v2 : sI} (hv : sDn ρ v = sDn σ v2) : ∀ {l : List (Nat × sV)} {N : List (Nat × Value)}, sFrL l = true → sLR ρ (sRep l k (.inl v)) N → sLR σ (sRep l k (.inl v2)) N
  | [], N, _, h => by
    have h : sLR ρ [(k, Sum.inl v)] N := h
    obtain ⟨r, W, rfl, ⟨h1, h2⟩, h⟩ := sAll_cons h
    exact ⟨⟨h1, sFrV_val hv h2⟩, by rw [sAll_nil h]; exact trivial⟩
  | q :: l, N, hf, h => by
    obtain ⟨f1, f2⟩ := and_inv (show (sFrV q.2 && sFrL l) = true from hf)
    have h : sLR ρ (bif Nat.beq q.1 k then (k, .inl v) :: l else q :: sRep l k (.inl v)) N := h
    show sLR σ (bif Nat.beq q.1 k then (k, .inl v2) :: l else q :: sRep l k (.inl v2)) N
    cases hb : Nat.beq q.1 k with
    | true =>
      rw [hb, cond_true] at h
      obtain ⟨r, W, rfl, ⟨h1, h2⟩, h⟩ := sAll_cons h
      exact ⟨⟨h1, sFrV_val hv h2⟩, sFrL_rel hρ f2 h⟩
    | false =>
      rw [hb, cond_false] at h
      obtain ⟨r, W, rfl, ⟨h1, h2⟩, h⟩ := sAll_cons h
      exact ⟨⟨h1, sFrV_rel hρ f1 h2⟩, sRep_rel hρ hv f2 h⟩
theorem sLa_fr {d : sV} {k : Nat} (hd : sFrV d = true) : ∀ {l : List (Nat × sV)}, sFrL l = true → sFrV (sLa d l k) = true
  | [], _ => hd
  | q :: l, hf => by
    obtain ⟨f1, f2⟩ := and_inv (show (sFrV q.2 && sFrL l) = true from hf)
    show sFrV (bif Nat.beq q.1 k then q.2 else sLa d l k) = true
    cases Nat.beq q.1 k with
    | true => exact f1
    | false => exact sLa_fr hd f2
theorem sFrC_rel {ρ σ : Nat → Int} (hρ : ∀ i, i ≠ 10 → ρ i = σ i) {c : sCell} {d : mCell} (hf : sFrC c = true) (h : sCR ρ c d) : sCR σ c d := by
  obtain ⟨f1, f2⟩ := and_inv (show (sFrV c.2.2.1 && sFrL c.2.2.2) = true from hf)
  exact ⟨h.1, h.2.1, h.2.2.1, fun k hk => sFrV_rel hρ (sLa_fr f1 f2) (h.2.2.2 k hk)⟩
theorem sMR_sh {ρ σ : Nat → Int} {M : sMem} {K : mMem} {o : Nat} {c c2 : sCell} (ho : o < M.1) (hc : ∀ d, sCR ρ c d → sCR σ c2 d) (hr : ∀ q, q < M.1 → ∀ d, sCR ρ (sObj M q) d → sCR σ (sObj M q) d) (h : sMR ρ (sPut M o c) K) : sMR σ (sPut M o c2) K := by
  have e1 : M.1 = K.1 := h.1
  have e2 : M.2.1 = K.2.1 := h.2.1
  have e3 : M.1 ≤ 1024 := h.2.2.1
  have e4 : ∀ q, q < M.1 → sCR ρ (sObj (sPut M o c) q) (mObj K q) := h.2.2.2
  have e5 : ∀ q, q < M.1 → sCR σ (sObj (sPut M o c2) q) (mObj K q) := fun q hq => by
    have d4 := e4 q hq
    rw [sObj_put (by omega) (by omega)] at d4 ⊢
    by_cases e : o = q
    · rw [if_pos e] at d4 ⊢
      exact hc _ d4
    · rw [if_neg e] at d4 ⊢
      exact hr q hq _ d4
  exact ⟨e1, e2, e3, e5⟩
theorem sCR_sh {ρ σ : Nat → Int} (hρ : ∀ i, i ≠ 10 → ρ i = σ i) {c : sCell} {d : mCell} {s : Nat} {v v2 : sI} (hv : sDn ρ v = sDn σ v2) (hf : sFrC c = true) (h : sCR ρ (c.1, c.2.1, c.2.2.1, sRep c.2.2.2 s (.inl v)) d) : sCR σ (c.1, c.2.1, c.2.2.1, sRep c.2.2.2 s (.inl v2)) d := by
  obtain ⟨g1, g2⟩ := and_inv (show (sFrV c.2.2.1 && sFrL c.2.2.2) = true from hf)
  refine ⟨h.1, h.2.1, h.2.2.1, fun k hk => ?_⟩
  have hr := h.2.2.2 k hk
  rw [sCset_look] at hr ⊢
  by_cases e2 : s = k
  · rw [if_pos e2] at hr ⊢
    exact sFrV_val hv hr
  · rw [if_neg e2] at hr ⊢
    exact sFrV_rel hρ (sLa_fr g1 g2) hr
theorem sXv_sh {ρ σ : Nat → Int} (hρ : ∀ i, i ≠ 10 → ρ i = σ i) {ik o s : Nat} {x : sCfg} {v v2 : sI} {u : mCfg} (hf : sFrG x = true) (hv : sDn ρ v = sDn σ v2) (ho : o < x.2.2.2.1) (h : sGR ρ (sXv ik o s x v) u) : sGR σ (sXv ik o s x v2) u := by
  unfold sFrG at hf
  obtain ⟨f1, hf⟩ := and_inv hf
  obtain ⟨f2, f3⟩ := and_inv hf
  have a : x.1 = u.1 := h.1
  have b : sLR ρ (sRep x.2.1 ik (.inl v)) u.2.1 := h.2.1
  have c : sSR ρ x.2.2.1 u.2.2.1 := h.2.2.1
  have d : sMR ρ (sPut x.2.2.2 o ((sObj x.2.2.2 o).1, (sObj x.2.2.2 o).2.1, (sObj x.2.2.2 o).2.2.1, sRep (sObj x.2.2.2 o).2.2.2 s (.inl v))) u.2.2.2 := h.2.2.2
  have d2 : sMR σ (sPut x.2.2.2 o ((sObj x.2.2.2 o).1, (sObj x.2.2.2 o).2.1, (sObj x.2.2.2 o).2.2.1, sRep (sObj x.2.2.2 o).2.2.2 s (.inl v2))) u.2.2.2 := sMR_sh ho (fun m hm => sCR_sh hρ hv (sAllO_inv f3 o ho) hm) (fun q hq m hm => sFrC_rel hρ (sAllO_inv f3 q hq) hm) d
  exact ⟨a, sRep_rel hρ hv f1 b, sFrS_rel hρ f2 c, d2⟩
theorem sXv_0 {ρ : Nat → Int} {ik o s : Nat} {x : sCfg} {v : sI} {u : mCfg} (h1 : sEqL x.2.1 (sRep x.2.1 ik (.inl v)) = true) (h2 : sEqV (sLook (sObj x.2.2.2 o) s) (.inl v) = true) (ho : o < x.2.2.2.1) (h : sGR ρ x u) : sGR ρ (sXv ik o s x v) u := by
  have h3 : x.2.2.2.1 ≤ 1024 := h.2.2.2.2.2.1
  have d : sMR ρ (sPut x.2.2.2 o ((sObj x.2.2.2 o).1, (sObj x.2.2.2 o).2.1, (sObj x.2.2.2 o).2.2.1, sRep (sObj x.2.2.2 o).2.2.2 s (.inl v))) u.2.2.2 := by
    have e5 : ∀ q, q < x.2.2.2.1 → sCR ρ (sObj (sPut x.2.2.2 o ((sObj x.2.2.2 o).1, (sObj x.2.2.2 o).2.1, (sObj x.2.2.2 o).2.2.1, sRep (sObj x.2.2.2 o).2.2.2 s (.inl v))) q) (mObj u.2.2.2 q) := fun q hq => by
      have d4 := h.2.2.2.2.2.2 q hq
      rw [sObj_put (by omega) (by omega)]
      by_cases e : o = q
      · rw [if_pos e, e]
        refine ⟨d4.1, d4.2.1, d4.2.2.1, fun k hk => ?_⟩
        rw [sCset_look]
        by_cases e2 : s = k
        · rw [if_pos e2, ← sEqV_eq h2, e2, e]
          exact d4.2.2.2 k hk
        · rw [if_neg e2]
          exact d4.2.2.2 k hk
      · rw [if_neg e]
        exact d4
    exact ⟨h.2.2.2.1, h.2.2.2.2.1, h3, e5⟩
  have b : sLR ρ (sRep x.2.1 ik (.inl v)) u.2.1 := by
    rw [← sEqL_eq h1]
    exact h.2.1
  exact ⟨h.1, b, h.2.2.1, d⟩
noncomputable def sUp (ρ : Nat → Int) (j : Int) (i : Nat) : Int := if i = 10 then j else ρ i
theorem sUp_10 (ρ : Nat → Int) (j : Int) : sUp ρ j 10 = j := if_pos rfl
theorem sUp_n (ρ : Nat → Int) (j : Int) {i : Nat} (h : i ≠ 10) : sUp ρ j i = ρ i := if_neg h
section SAC
variable {T : Nat → List mE} {I : Nat → mI} {XN : Nat → Nat} {XF : Nat → Nat → Int32} {sX : Nat → Nat → sI} {ρ : Nat → Int}
theorem sAcc_ok (hX : ∀ a j, a < 4 → j < XN a → (XF a j).toInt = sDn ρ (sX a j)) (hX10 : ∀ a j, (sX a j).1 ≠ 10) (hKn : sKn ρ) {mi ik o s fr lo : Nat} {lim : Option Nat} {x y : sCfg} {B : sB} {u : mCfg} (h : sAcc T I XN sX mi ik o s lim fr lo x B = some y) (hi : sIn ρ B) (hu : sGR ρ x u) :
    ∃ v, sGR ρ y v ∧ ∀ r, mRuns T I XN XF fr lo mi v r → mRuns T I XN XF fr lo mi u r := by
  unfold sAcc at h
  split at h
  · cases h
  · next n hn =>
    cases hb : Nat.blt o x.2.2.2.1 && ((sEqL x.2.1 (sRep x.2.1 ik (.inl (0, 0))) && sEqV (sLook (sObj x.2.2.2 o) s) (.inl (0, 0))) && (sFrI n && (sFrG x && (sRg B n fun l h => sILe 0 l && sGo T I XN sX sNo x.1 3000 fr lo mi (sXv ik o s x (10, 0)) (B.1.set 9 (0, h - 1), [((10, 0), n)]) (fun _ y => sEqG y (sXv ik o s x (10, 1))))))) with
    | false => rw [hb] at h; cases h
    | true =>
      rw [hb, cond_true] at h
      have hy : sXv ik o s x n = y := Option.some.inj h
      subst hy
      obtain ⟨g1, hb⟩ := and_inv hb
      obtain ⟨g2, hb⟩ := and_inv hb
      obtain ⟨g2, g22⟩ := and_inv g2
      obtain ⟨g3, hb⟩ := and_inv hb
      obtain ⟨g4, hb⟩ := and_inv hb
      obtain ⟨l, m, b1, b2, hb⟩ := sRg_inv hb hi
      obtain ⟨g5, go⟩ := and_inv hb
      have g1 := blt_lt g1
      have g5 := sILe_t g5
      have hn10 := sFrI_inv g3
      have hKj : ∀ j, sKn (sUp ρ j) := fun j => by
        unfold sKn
        rw [sUp_n ρ j (by omega : 2 ≠ 10), sUp_n ρ j (by omega : 1 ≠ 10), sUp_n ρ j (by omega : 7 ≠ 10), sUp_n ρ j (by omega : 3 ≠ 10), sUp_n ρ j (by omega : 8 ≠ 10), sUp_n ρ j (by omega : 4 ≠ 10), sUp_n ρ j (by omega : 9 ≠ 10), sUp_n ρ j (by omega : 11 ≠ 10)]
        exact hKn
      have hDj : ∀ j (z : sI), z.1 ≠ 10 → sDn (sUp ρ j) z = sDn ρ z := fun j z hz => by
        unfold sDn
        rw [sUp_n ρ j hz]
      have hD10 : ∀ j c, sDn (sUp ρ j) (10, c) = j + c := fun j c => by
        show sUp ρ j 10 + c = _
        rw [sUp_10]
      have hXj : ∀ j a b, a < 4 → b < XN a → (XF a b).toInt = sDn (sUp ρ j) (sX a b) := fun j a b ha hb => by
        rw [hDj j _ (hX10 a b)]
        exact hX a b ha hb
      have key : ∀ j : Nat, (j : Int) ≤ sDn ρ n → ∃ v, sGR (sUp ρ j) (sXv ik o s x (10, 0)) v ∧ ∀ r, mRuns T I XN XF fr lo mi v r → mRuns T I XN XF fr lo mi u r := by
        intro j
        induction j with
        | zero =>
          intro _
          refine ⟨u, sXv_sh (ρ := ρ) (v := (0, 0)) (fun i hne => (sUp_n ρ _ hne).symm) g4 ?_ g1 (sXv_0 g2 g22 g1 hu), fun r hr => hr⟩
          rw [sDn_0 hi, hD10]
          rfl
        | succ j ih =>
          intro hj
          obtain ⟨v, hv, hr⟩ := ih (by omega)
          have hin : sIn (sUp ρ (j : Int)) (B.1.set 9 (0, m - 1), [((10, 0), n)]) := by
            refine ⟨fun i q hq => ?_, fun q hq => ?_⟩
            · cases i with
              | zero =>
                rw [sUp_n ρ _ (by omega)]
                exact hi.1 0 q hq
              | succ i =>
                have hq2 : (B.1.set 9 (0, m - 1))[i]? = some q := hq
                rw [List.getElem?_set] at hq2
                by_cases e : 9 = i
                · rw [if_pos e] at hq2
                  split at hq2
                  · cases hq2
                    subst e
                    rw [sUp_10]
                    constructor
                    · show (0 : Int) ≤ j
                      omega
                    · show (j : Int) ≤ m - 1
                      omega
                  · cases hq2
                · rw [if_neg e] at hq2
                  rw [sUp_n ρ _ (by omega)]
                  exact hi.1 (i + 1) q hq2
            · obtain rfl := List.mem_singleton.mp hq
              show sDn (sUp ρ j) (10, 0) < sDn (sUp ρ j) n
              rw [hD10, hDj _ _ hn10]
              omega
          obtain ⟨B1, y, w, -, hk, hy, hs⟩ := s_go (hXj j) (hKj j) sNo_ok x.1 3000 fr lo mi _ _ _ go hin v hv
          refine ⟨w, sXv_sh (ρ := sUp ρ j) (v := (10, 1)) (fun i hne => ?_) g4 ?_ g1 (sEqG_tr hk hy), fun r q => hr r (hs r q)⟩
          · rw [sUp_n ρ _ hne, sUp_n ρ _ hne]
          · rw [hD10, hD10]
            omega
      obtain ⟨v, hv, hr⟩ := key (sDn ρ n).toNat (by omega)
      refine ⟨v, sXv_sh (ρ := sUp ρ ((sDn ρ n).toNat : Int)) (v := (10, 0)) (fun i hne => sUp_n ρ _ hne) g4 ?_ g1 hv, hr⟩
      rw [hD10]
      omega
end SAC

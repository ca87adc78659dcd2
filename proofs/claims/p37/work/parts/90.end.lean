/-! ===== the claim out of one walk of the law's body: begun from kit/laws/SKELETON.whole, with the law's name as a premise more ===== -/
theorem mLen_sp {args : Array Value} {s : State} {t : Term} {v : Value} (h : (Term.length t).eval args s none [] s = some v) :
    ∃ a cell, t.eval args s none [] s = some (.ref a) ∧ s.arrayAt? a = some cell ∧ cell.slots.size < 2147483648 ∧ v = .int cell.slots.size.toInt32 := by
  simp only [Term.eval, Option.bind_eq_bind] at h
  cases ht : t.eval args s none [] s with
  | none => simp [ht] at h
  | some x =>
    cases x <;> simp [ht] at h
    case ref a =>
      obtain ⟨cell, hcell, h⟩ := Option.bind_eq_some_iff.mp h
      by_cases hn : cell.slots.size < 2147483648
      · rw [if_pos hn] at h; cases h; exact ⟨a, cell, rfl, hcell, hn, rfl⟩
      · rw [if_neg hn] at h; cases h
theorem mStat {args : Array Value} {s : State} {tm : Term} {f : Nat → Int32} (harr : (Cond.arrayOf tm .int).before args s = true) (hlen : (Term.length tm).eval args s none [] s = some (.int 6))
    (hel : ∀ j : Nat, j < 6 → (Term.elem tm (.int (Int32.ofNat j))).eval args s none [] s = some (.int (f j))) : ∃ t : Nat, tm.eval args s none [] s = some (.ref t) ∧ va_X t 6 f s s.heap ∧ t < s.heap.size := by
  obtain ⟨t, cell, ht, hat, hn, hv⟩ := mLen_sp hlen
  obtain ⟨hcell, hkn, -, -⟩ := State.arrayAt?_spec hat
  obtain ⟨hof, -⟩ := Cond.arrayOf_spec harr ht hcell
  have hsz : cell.slots.size = 6 := by
    have e : Int32.ofNat cell.slots.size = Int32.ofNat 6 := (Value.int.inj hv).symm
    have h1 : (Int32.ofNat cell.slots.size).toNatClampNeg = cell.slots.size := Int32.toNatClampNeg_ofNat_of_lt hn
    have h2 : (Int32.ofNat 6).toNatClampNeg = 6 := Int32.toNatClampNeg_ofNat_of_lt (by omega)
    rw [e, h2] at h1
    exact h1.symm
  refine ⟨t, ht, ⟨cell, hcell, hof, hkn, hsz, fun j hj => ?_⟩, (Array.getElem?_eq_some_iff.mp hcell).1⟩
  obtain ⟨a, i, cell2, h1, h2, h3, h4, h5⟩ := Term.elem_spec (hel j hj)
  cases ht.symm.trans h1
  cases hat.symm.trans h3
  have hi : i = Int32.ofNat j := by
    have e : (Term.int (Int32.ofNat j)).eval args s none [] s = some (.int (Int32.ofNat j)) := rfl
    cases h2.symm.trans e
    rfl
  have hc : i.toNatClampNeg = j := by rw [hi]; exact Int32.toNatClampNeg_ofNat_of_lt (by omega)
  rw [hc] at h5
  exact h5
theorem mOverA {args : Array Value} {s : State} {ty : FieldType} (h : (Cond.arrayOver (.array ty)).before args s = true) : ∃ comp c k, s.vm.classes[c]? = some k ∧ k.kind = .array comp (.array ty) ∧ s.vm.findClass ("[" ++ (FieldType.array ty).toString) = some c := by
  simp only [Cond.before, Cond.holds, Cond.value, beq_iff_eq] at h
  cases hc : s.vm.findClass (FieldType.array ty).toString with
  | none => simp [hc] at h
  | some comp =>
    simp only [hc, Option.bind_some, Option.bind_eq_some_iff, Option.map_eq_some_iff] at h
    obtain ⟨c, hi, k, hk, hb⟩ := h
    cases hkind : k.kind with
    | array component ty2 =>
      rw [hkind] at hb
      simp at hb
      exact ⟨component, c, k, hk, by rw [hkind, hb.1], hb.2⟩
    | _ => rw [hkind] at hb; simp at hb
theorem m_D {s : State} {args : Array Value} (hts : ∀ w ∈ mTBL, w.before args s = true) : ∃ D : va_G, ∀ (k : Nat) (q : vw_C), vwCl[k]? = some q → u_Kn s q.1 q.2.1 q.2.2 (D.1 k) (D.2 k) := by
  have hkn : ∀ ci, ∃ x : ClassId × (Nat → Nat), ci < 8 → u_Kn s (mRX ci) (mTX ci) (mNX ci) x.1 x.2 := fun ci => by
    obtain ⟨a0, -, -⟩ := u_known hts (mG_ok.1 0 (by omega)).1 (hts _ (mG_ok.1 0 (by omega)).2.1)
    by_cases h : ci < 8
    · obtain ⟨a, b, c⟩ := u_known hts (mG_ok.1 ci h).1 (hts _ (mG_ok.1 ci h).2.1)
      exact ⟨(a, b), fun _ => c⟩
    · exact ⟨(a0, fun _ => 0), fun z => absurd z h⟩
  refine ⟨(fun k => (hkn k).choose.1, fun k => (hkn k).choose.2), fun k q hq => ?_⟩
  have hk : k < 8 := (List.getElem?_eq_some_iff.mp hq).1
  rw [mCl_get k hk] at hq
  cases hq
  exact (hkn k).choose_spec hk
theorem m_cs {s : State} {args : Array Value} (h1 : (Cond.arrayClass .int).before args s = true) (h2 : (Cond.arrayOver (.array .int)).before args s = true) (h3 : (Cond.arrayOver (.object RX5)).before args s = true) : ∃ cs : mCs, ∀ (k : Nat) (q : ClassId × FieldType), (mTys cs)[k]? = some q → ArrOfT s q.1 q.2 ∧ va_RA s q.1 q.2 := by
  obtain ⟨c1, k1, p1, a1, b1, d1⟩ := Cond.arrayClass_spec h1
  obtain ⟨p2, c2, k2, a2, b2, d2⟩ := mOverA h2
  obtain ⟨p3, c3, k3, a3, e3, b3, d3, f3⟩ := Cond.arrayOver_spec h3
  refine ⟨(c1, c2, c3), fun k q hq => ?_⟩
  have hk : k < 3 := (List.getElem?_eq_some_iff.mp hq).1
  obtain rfl | rfl | rfl := (by omega : k = 0 ∨ k = 1 ∨ k = 2)
  · cases hq
    exact ⟨fun N z => ⟨(fun k h => by cases h), k1, b1, p1, d1⟩, a1⟩
  · cases hq
    exact ⟨fun N z => ⟨(fun k h => by cases h), k2, a2, p2, b2⟩, d2⟩
  · cases hq
    exact ⟨fun N z => ⟨(fun k h => by cases h), k3, b3, p3, d3⟩, k3, p3, b3, d3, a3, f3⟩
theorem mNest_tab {w : Cond} (h : mNest w = true) : w.onTables = true := by
  cases w <;> first | rfl | (cases h; done)
theorem m_st1 {b : Nat} {s : State} {xs : Nat → Int32} (hgv : (Jvm.Cond.and given_1 narrow_1).before #[Value.ref b] s = true) (hts : ∀ w ∈ lw_tbl, w.before #[Value.ref b] s = true) : ∃ t : Nat, va_X t 6 (sXF xs 1) s s.heap ∧ t < s.heap.size ∧ va_Z "EarlyToken" (mSX 1) "[I" (.ref t) (mA s.heap.size) s s.heap := by
  have hs := flat_of_before _ hgv
  have harr : (Cond.arrayOf (.static "EarlyToken" "TOLD_FIRST" "[I") .int).before #[Value.ref b] s = true := hs _ (by decide +kernel)
  have hlen := va_eqt (hs (.eq (.length (.static "EarlyToken" "TOLD_FIRST" "[I")) (.int 6)) (by decide +kernel))
  have h0 := va_eqt (hs (.eq (.elem (.static "EarlyToken" "TOLD_FIRST" "[I") (.int 0)) (.int 10)) (by decide +kernel))
  have h1 := va_eqt (hs (.eq (.elem (.static "EarlyToken" "TOLD_FIRST" "[I") (.int 1)) (.int 200)) (by decide +kernel))
  have h2 := va_eqt (hs (.eq (.elem (.static "EarlyToken" "TOLD_FIRST" "[I") (.int 2)) (.int 20)) (by decide +kernel))
  have h3 := va_eqt (hs (.eq (.elem (.static "EarlyToken" "TOLD_FIRST" "[I") (.int 3)) (.int 0)) (by decide +kernel))
  have h4 := va_eqt (hs (.eq (.elem (.static "EarlyToken" "TOLD_FIRST" "[I") (.int 4)) (.int 0)) (by decide +kernel))
  have h5 := va_eqt (hs (.eq (.elem (.static "EarlyToken" "TOLD_FIRST" "[I") (.int 5)) (.int 0)) (by decide +kernel))
  obtain ⟨t, h7, h8, h9⟩ := mStat (f := sXF xs 1) harr hlen (fun j hj => by
    obtain rfl | rfl | rfl | rfl | rfl | rfl := (by omega : j = 0 ∨ j = 1 ∨ j = 2 ∨ j = 3 ∨ j = 4 ∨ j = 5)
    · exact h0
    · exact h1
    · exact h2
    · exact h3
    · exact h4
    · exact h5)
  refine ⟨t, h8, h9, va_Zref (hts _ (List.mem_of_getElem? (i := 98) (by decide +kernel))) (hts _ ((List.mem_filter.mp (mG_ok.1 7 (by omega)).2.2).1)) h7 (fun a ha hb => Nat.not_lt.mpr hb ha)⟩
theorem m_st2 {b : Nat} {s : State} {xs : Nat → Int32} (hgv : (Jvm.Cond.and given_1 narrow_1).before #[Value.ref b] s = true) (hts : ∀ w ∈ lw_tbl, w.before #[Value.ref b] s = true) : ∃ t : Nat, va_X t 6 (sXF xs 2) s s.heap ∧ t < s.heap.size ∧ va_Z "EarlyToken" (mSX 2) "[I" (.ref t) (mA s.heap.size) s s.heap := by
  have hs := flat_of_before _ hgv
  have harr : (Cond.arrayOf (.static "EarlyToken" "TOLD_LEAST" "[I") .int).before #[Value.ref b] s = true := hs _ (by decide +kernel)
  have hlen := va_eqt (hs (.eq (.length (.static "EarlyToken" "TOLD_LEAST" "[I")) (.int 6)) (by decide +kernel))
  have h0 := va_eqt (hs (.eq (.elem (.static "EarlyToken" "TOLD_LEAST" "[I") (.int 0)) (.int 1)) (by decide +kernel))
  have h1 := va_eqt (hs (.eq (.elem (.static "EarlyToken" "TOLD_LEAST" "[I") (.int 1)) (.int 50)) (by decide +kernel))
  have h2 := va_eqt (hs (.eq (.elem (.static "EarlyToken" "TOLD_LEAST" "[I") (.int 2)) (.int 5)) (by decide +kernel))
  have h3 := va_eqt (hs (.eq (.elem (.static "EarlyToken" "TOLD_LEAST" "[I") (.int 3)) (.int 0)) (by decide +kernel))
  have h4 := va_eqt (hs (.eq (.elem (.static "EarlyToken" "TOLD_LEAST" "[I") (.int 4)) (.int 0)) (by decide +kernel))
  have h5 := va_eqt (hs (.eq (.elem (.static "EarlyToken" "TOLD_LEAST" "[I") (.int 5)) (.int 0)) (by decide +kernel))
  obtain ⟨t, h7, h8, h9⟩ := mStat (f := sXF xs 2) harr hlen (fun j hj => by
    obtain rfl | rfl | rfl | rfl | rfl | rfl := (by omega : j = 0 ∨ j = 1 ∨ j = 2 ∨ j = 3 ∨ j = 4 ∨ j = 5)
    · exact h0
    · exact h1
    · exact h2
    · exact h3
    · exact h4
    · exact h5)
  refine ⟨t, h8, h9, va_Zref (hts _ (List.mem_of_getElem? (i := 708) (by decide +kernel))) (hts _ ((List.mem_filter.mp (mG_ok.1 7 (by omega)).2.2).1)) h7 (fun a ha hb => Nat.not_lt.mpr hb ha)⟩
theorem m_st3 {b : Nat} {s : State} {xs : Nat → Int32} (hgv : (Jvm.Cond.and given_1 narrow_1).before #[Value.ref b] s = true) (hts : ∀ w ∈ lw_tbl, w.before #[Value.ref b] s = true) : ∃ t : Nat, va_X t 6 (sXF xs 3) s s.heap ∧ t < s.heap.size ∧ va_Z "EarlyToken" (mSX 3) "[I" (.ref t) (mA s.heap.size) s s.heap := by
  have hs := flat_of_before _ hgv
  have harr : (Cond.arrayOf (.static "EarlyToken" "TOLD_MOST" "[I") .int).before #[Value.ref b] s = true := hs _ (by decide +kernel)
  have hlen := va_eqt (hs (.eq (.length (.static "EarlyToken" "TOLD_MOST" "[I")) (.int 6)) (by decide +kernel))
  have h0 := va_eqt (hs (.eq (.elem (.static "EarlyToken" "TOLD_MOST" "[I") (.int 0)) (.int 50)) (by decide +kernel))
  have h1 := va_eqt (hs (.eq (.elem (.static "EarlyToken" "TOLD_MOST" "[I") (.int 1)) (.int 999)) (by decide +kernel))
  have h2 := va_eqt (hs (.eq (.elem (.static "EarlyToken" "TOLD_MOST" "[I") (.int 2)) (.int 50)) (by decide +kernel))
  have h3 := va_eqt (hs (.eq (.elem (.static "EarlyToken" "TOLD_MOST" "[I") (.int 3)) (.int 500)) (by decide +kernel))
  have h4 := va_eqt (hs (.eq (.elem (.static "EarlyToken" "TOLD_MOST" "[I") (.int 4)) (.int 500)) (by decide +kernel))
  have h5 := va_eqt (hs (.eq (.elem (.static "EarlyToken" "TOLD_MOST" "[I") (.int 5)) (.int 500)) (by decide +kernel))
  obtain ⟨t, h7, h8, h9⟩ := mStat (f := sXF xs 3) harr hlen (fun j hj => by
    obtain rfl | rfl | rfl | rfl | rfl | rfl := (by omega : j = 0 ∨ j = 1 ∨ j = 2 ∨ j = 3 ∨ j = 4 ∨ j = 5)
    · exact h0
    · exact h1
    · exact h2
    · exact h3
    · exact h4
    · exact h5)
  refine ⟨t, h8, h9, va_Zref (hts _ (List.mem_of_getElem? (i := 710) (by decide +kernel))) (hts _ ((List.mem_filter.mp (mG_ok.1 7 (by omega)).2.2).1)) h7 (fun a ha hb => Nat.not_lt.mpr hb ha)⟩
/-- the walk of the whole law -/
theorem m_law {p : Program} {e : Env} {s : State} {m : MethodId} {below : List Frame} {meth : Method} {c : Code} (l : Launch) {b L : Nat} {xs : Nat → Int32} (hL : L ≤ 260) (hx : p.tables.exec = Jvm.exec) (hb : c.code = code) (hr : meth.sig.returnType = ret) (hml : c.maxLocals = 10) (hown : s.vm.findClass RL = some m.cls) (hnm : meth.name = yL_law.name)
    (hts : ∀ w ∈ lw_tbl, w.before #[Value.ref b] s = true) (hX : va_X b L xs s s.heap) (hbl : b < s.heap.size) (hgv : (Jvm.Cond.and given_1 narrow_1).before #[Value.ref b] s = true) {Q : State → Prop}
    (kk : ∀ (H1 : Heap) (ls1 : Array Slot) (pc1 k n : Nat), decode code pc1 = .ok (.ireturn, 1) → k ≤ 600000 → n ≤ 7302250 → W p l e room_1 s m #[Value.ref b] below meth c H1 [] k n Q (F0 m pc1 ls1 [.int 1])) :
    W p l e room_1 s m #[Value.ref b] below meth c s.heap [] 0 0 Q (entryFrame m ([Value.ref b] : List Value).toArray 10) := by
  obtain ⟨M2, ⟨F, hF⟩, hM1, hM2⟩ : sGood L xs := law_good hL
  have hrun := hF F (Nat.le_refl F)
  have hts2 : ∀ w ∈ mTBL, w.before #[Value.ref b] s = true := fun w hw => hts w ((List.mem_filter.mp hw).1)
  have hAI : (Cond.arrayOver (.array .int)).before #[Value.ref b] s = true := hts _ (List.mem_of_getElem? (i := 35) (by decide +kernel))
  have hAO : (Cond.arrayOver (.object RX5)).before #[Value.ref b] s = true := hts _ (List.mem_of_getElem? (i := 27) (by decide +kernel))
  obtain ⟨D, hD⟩ := m_D hts2
  obtain ⟨cs, hcs⟩ := m_cs (hts _ ((List.mem_filter.mp mG_ok.2.2.2.2.2.2.1).1)) hAI hAO
  obtain ⟨t1, x1, y1, z1⟩ := m_st1 (xs := xs) hgv hts
  obtain ⟨t2, x2, y2, z2⟩ := m_st2 (xs := xs) hgv hts
  obtain ⟨t3, x3, y3, z3⟩ := m_st3 (xs := xs) hgv hts
  generalize hE : (fun k : Nat => match k with
    | 0 => b
    | 1 => t1
    | 2 => t2
    | _ => t3) = E
  have E0 : E 0 = b := by subst hE; rfl
  have E1 : E 1 = t1 := by subst hE; rfl
  have E2 : E 2 = t2 := by subst hE; rfl
  have E3 : E 3 = t3 := by subst hE; rfl
  have hXt : mXt s.heap.size E (sXNl L) (sXF xs) s := by
    refine ⟨fun k h0 h4 => ?_, fun k h4 => ?_, va_AO.of hAO, hAI, fun w hw hn => va_Nw.of (mNest_tab hn) (hts w hw)⟩
    · obtain rfl | rfl | rfl := (by omega : k = 1 ∨ k = 2 ∨ k = 3)
      · rw [E1]; exact z1
      · rw [E2]; exact z2
      · rw [E3]; exact z3
    · obtain rfl | rfl | rfl | rfl := (by omega : k = 0 ∨ k = 1 ∨ k = 2 ∨ k = 3)
      · rw [E0]; exact ⟨hX, hbl, hbl⟩
      · rw [E1]; exact ⟨x1, y1, y1⟩
      · rw [E2]; exact ⟨x2, y2, y2⟩
      · rw [E3]; exact ⟨x3, y3, y3⟩
  have hFr : mFr mInf 99 s.heap.size 0 E (sXNl L) (sXF xs) D cs p s m #[Value.ref b] meth c := ⟨hx, hb, hml, hown, hts2, ⟨hD, hcs⟩, hXt, rfl, hnm⟩
  have hl := lv_entry ([.ref b]) (n := 10) (Nat.le_of_ble_eq_true rfl)
  rw [lg_entry_eq]
  generalize (lg_sl ([.ref b]) ++ List.replicate (10 - (lg_sl ([.ref b])).length) Slot.unset).toArray = ls at hl ⊢
  have hl : lv_has ls 10 [(0, .ref b)] := hl
  have eb : mAd s.heap.size E 1000000 = b := (mAd_ext s.heap.size E 0).trans E0
  have hl2 : lv_has ls 10 (mLv (mAd s.heap.size E) [(0, .ref 1000000)]) := by
    have e : mLv (mAd s.heap.size E) [(0, .ref 1000000)] = [(0, .ref b)] := by
      show [((0 : Nat), Value.ref (mAd s.heap.size E 1000000))] = _
      rw [eb]
    rw [e]
    exact hl
  have snd := m_sound (l := l) (D := D) (cs := cs) (base := s.heap.size) (E := E) mT_ok mI_ok mG_ok F 9 324 99 (0, [(0, .ref 1000000)], [], m0) (some (.int 1)) M2 hrun (Nat.zero_le _)
  have k := snd p e room_1 s m #[Value.ref b] below meth c s.heap [] ls Q 0 0 hFr rfl rfl (Nat.zero_le _) (Nat.zero_le _) (by show M2.1 - 0 ≤ 600000; omega) (by show M2.2.1 - 0 ≤ 7302250; omega)
    (fun k q h => by
      obtain ⟨h1, -⟩ := mWs_inv h
      exact absurd h1 (Nat.not_lt_zero k)) va_S.rf hl2 (fun H1 locs1 ls1 pc1 hend hP1 hS1 => ?_)
  · exact k
  · have hd : decode code pc1 = .ok (.ireturn, 1) := hend.1
    refine va_forget (fun q hq => hS1.2.2 q hq) ?_
    exact kk H1 ls1 pc1 _ _ hd (by omega) (by omega)
/-! THE CLAIM OUT OF ONE WALK OF THE LAW'S BODY. Your part is whole_start (and what it stands on); all else here is the same for every law, but numbers. -/
def R_law : String := "EarlyTokenLaw"
def lw_P (b : Addr) (xs : List Int32) (args : Array Value) (s : State) : Prop := args = #[.ref b] ∧ s.IntsAt b xs ∧ xs.length ≤ 260 ∧ (Jvm.Cond.and given_1 narrow_1).before args s = true
def lw_Q (_ : Array Value) (s : State) (o : Outcome) (t : State) : Prop := o = .returned (some (.int 1)) ∧ Framed s o t [] 600000 7302250
def lw_Z (below : List Frame) (a : Array Value) (s : State) : State → Prop := fun t => ∃ o, t.status = .running ∧ Ended t below o ∧ lw_Q a s o t
/-- the law's own end, with 1 on the stack, nothing written that was there before, its room as the claim has it -/
theorem lw_ret {p : Program} {l : Launch} {e : Env} {s : State} {m : MethodId} {below : List Frame} {meth : Method} {c : Code} {b : Nat} (hx : p.tables.exec = Jvm.exec) (hb : c.code = code) (hr : meth.sig.returnType = ret) (hlocks : meth.locks = false) {pc : Nat} {H : Heap} {ls : Array Slot} (hdg : decode code pc = .ok (.ireturn, 1)) : W p l e room_1 s m #[Value.ref b] below meth c H [] 600000 7302250 (lw_Z below #[Value.ref b] s) (F0 m pc ls [.int 1]) := by
  intro T hT X
  obtain ⟨fs, hret, hrun, hended, hW, hframe⟩ := X.leave (v := some (.int 1)) (hlocks := hlocks) (fun h => by rw [hr] at h; cases h)
  have hmeth' : T.vm.method? m = some meth := X.method'
  refine ⟨T.setFrames fs, ?_, .returned (some (.int 1)), hrun, hended, rfl, ⟨_, rfl⟩, hW, hframe⟩
  jvm_step X.here [X.here.top, hx, hb, hdg, hmeth', hr, ret, narrow_b1]
  (try refine ⟨rfl, ?_⟩); (try refine ⟨rfl, ?_⟩)
  first | (intro acts; rw [hret _ acts rfl rfl rfl]) | rw [hret _ _ rfl rfl rfl]
  exact Steps.refl _
/-- what holds at the law's entry: the machine, the code, the tables' words (any of lw_tbl by 'hts w (by decide +kernel)'), the script of L ints xs at the cell b, what the Statement gives of the start (any of its parts by flat_of_before) -/
def lw_At (p : Program) (s : State) (m : MethodId) (meth : Method) (c : Code) (b L : Nat) (xs : Nat → Int32) : Prop :=
  p.tables.exec = Jvm.exec ∧ c.code = code ∧ meth.sig.returnType = ret ∧ c.maxLocals = 10 ∧ s.vm.findClass R_law = some m.cls ∧ (∀ w ∈ lw_tbl, w.before #[Value.ref b] s = true) ∧ va_X b L xs s s.heap ∧ b < s.heap.size ∧ meth.locks = false ∧ (Jvm.Cond.and given_1 narrow_1).before #[Value.ref b] s = true
-- ===== YOUR PART BEGINS =====
/-- YOUR PART: from the entry, for every script of at most 260 ints, the law comes to its end with true ('hflags': the launch's flags, for a law that throws: no stack traces) -/
theorem whole_start {p : Program} {e : Env} {s : State} {m : MethodId} {below : List Frame} {meth : Method} {c : Code} (l : Launch) (hflags : l.flags = flags0) {b L : Nat} {xs : Nat → Int32} (hL : L ≤ 260) (C0 : lw_At p s m meth c b L xs) (hnm : meth.name = yL_law.name) : W p l e room_1 s m #[Value.ref b] below meth c s.heap [] 0 0 (lw_Z below #[Value.ref b] s) (entryFrame m ([Value.ref b] : List Value).toArray 10) := by
  obtain ⟨hx, hb, hr, hml, hown, hts, hX, hbl, hlocks, hgv⟩ := id C0
  exact m_law l hL hx hb hr hml hown hnm hts hX hbl hgv (fun H1 ls1 pc1 k n hd hk hn => W.widen hk hn (lw_ret hx hb hr hlocks hd))
-- ===== YOUR PART ENDS =====
set_option maxHeartbeats 4000000 in
theorem lw_walk (l : Launch) (hflags : l.flags = flags0) (b : Addr) (xs : List Int32) : MetFree l x (headSpec (Jvm.Cond.code x code maxLocals ret :: tables_1) room_1) (lw_P b xs) (fun _ _ _ _ _ => True) lw_Q := by
  refine MetFree.of_bodyS (code := code) (maxLocals := maxLocals) (ret := ret) (by decide) ?_ ?_
  · intro args s m h hn
    obtain ⟨meth, c, h1, h2, h3, h4, h5, h6, -, -⟩ := Cond.code_spec hn (atoms_spec (ws := Jvm.Cond.code x code maxLocals ret :: tables_1) h _ List.mem_cons_self)
    exact ⟨meth, c, h1, h2, h3, h4, h5, h6⟩
  · intro p e s m args below meth c s₁ B hml0 hP _
    obtain ⟨rfl, hx, hbd, hgv⟩ := hP
    obtain ⟨scr, harrAt, hlist, hof, hsmall⟩ := hx
    obtain ⟨hcb, hkn, -, -⟩ := State.arrayAt?_spec harrAt
    have hown : s.vm.findClass R_law = some m.cls := findClass_of_methodNamed B.named
    have hts0 : ∀ c ∈ (Jvm.Cond.code x code maxLocals ret :: tables_1), c.before #[Value.ref b] s = true := atoms_spec (ws := Jvm.Cond.code x code maxLocals ret :: tables_1) B.pre
    have hts : ∀ w ∈ lw_tbl, w.before #[Value.ref b] s = true := k2_hts_sels lw_privs (fun w hw => hts0 w (List.mem_cons_of_mem _ hw)) lw_privs_ok
    have hml : c.maxLocals = 10 := B.maxLocals_eq (hts0 _ List.mem_cons_self)
    have X₀ : Stand p l e room_1 s m #[Value.ref b] below meth c s₁ [] 0 0 := Stand.of_body B
    have hh0 : s₁.heap = s.heap := by rw [B.state]; rfl
    have hsz : scr.slots.size = xs.length := by rw [← Array.length_toList, hlist, List.length_map]
    have hval : ∀ j : Nat, j < xs.length → scr.slots[j]? = some (.int (xs.getD j 0)) := fun j hj => by
      rw [← Array.getElem?_toList, hlist]
      simp [hj]
    have hbl : b < s.heap.size := (Array.getElem?_eq_some_iff.mp hcb).1
    have hX : va_X b xs.length (fun j => xs.getD j 0) s s.heap := ⟨scr, hcb, hof, hkn, hsz, hval⟩
    have K : W p l e room_1 s m #[Value.ref b] below meth c s₁.heap [] 0 0 (lw_Z below #[Value.ref b] s) (entryFrame m ([Value.ref b] : List Value).toArray 10) := by
      rw [hh0]
      exact whole_start l hflags hbd ⟨B.exec, B.bytes, B.returns, hml, hown, hts, hX, hbl, B.notSynchronized, hgv⟩ (name_of_methodNamed B.named B.method).1
    obtain ⟨t, a1, o, b1, b2, b3⟩ := K s₁ rfl X₀
    exact ⟨t, o, a1, b1, b2, b3⟩
theorem lw_pre_spec {args : Array Value} {s : State} (h : (Jvm.Cond.and given_1 narrow_1).before args s = true) (hr : rest_1_c.before args s = true) : ∃ (b : Addr) (xs : List Int32), lw_P b xs args s := by
  have hs := flat_of_before _ h
  have hq := flat_of_before _ hr
  have hc : (Cond.count 1).before args s = true := hs _ (by decide +kernel)
  have harr : (Cond.arrayOf (.arg 0) .int).before args s = true := hs _ (by decide +kernel)
  have hle : (Cond.le (.length (.arg 0)) (.int 260)).before args s = true := hs _ (by decide +kernel)
  have hlen : (Cond.isInt (.length (.arg 0))).before args s = true := hq _ (by decide +kernel)
  have hall : (Cond.all (.arg 0) (.isInt (.elem (.arg 0) (.index 0)))).before args s = true := hq _ (by decide +kernel)
  obtain ⟨b, xs, hb, hx⟩ := State.ints_of_pre rfl harr hlen hall
  have hsm : xs.length < 2 ^ 31 := hx.choose_spec.2.2.2
  have hev : (Term.length (.arg 0)).eval args s none [] s = some (.int xs.length.toInt32) := hx.length_eval hb
  have hv := Cond.le_ints hev (show (Term.int 260).eval args s none [] s = some (.int 260) from rfl)
  have hd : xs.length.toInt32 ≤ 260 := by
    simpa [Cond.before, Cond.holds, hv] using hle
  have hN : xs.length ≤ 260 := (Int32.ofNat_le_ofNat hsm (by decide)).mp (show Int32.ofNat xs.length ≤ Int32.ofNat 260 from hd)
  exact ⟨b, xs, Cond.one_arg hc (show args[0]? = some (.ref b) from hb), hx, hN, h⟩
theorem lw_comes (l : Launch) (hflags : l.flags = flags0) : Comes l x (Jvm.Cond.code x code maxLocals ret :: tables_1) room_1 (fun tb e args s => Calls_1 tb e args s ∧ rest_1 tb e args s ∧ Pre_1 tb e args s)
    (fun _ _ args s o t => lw_Q args s o t) := by
  intro p e ha hc hk s m args below hf hfit hheap happ hpre
  obtain ⟨b, xs, hP⟩ := lw_pre_spec hpre.2.2 hpre.2.1
  obtain ⟨k, o, h1, h2, h3, hQ⟩ := lw_walk l hflags b xs p e ha hc hk s m args below hf ((Spec.applies_iff_loose hf).mp happ).1 hP trivial
  exact ⟨k, o, h1, h2, h3, hQ⟩
theorem lw_frame {s t : State} {o : Outcome} {args : Array Value} (h : Framed s o t [] 600000 7302250) :
    Framed s o t (fieldLocs frame_1_writes args s ++ arrayLocs frame_1_arrays args s ++ staticLocs frame_1_statics s) 600000 7302250 := h
theorem lw_limb (L : Cond) (hL : ∀ (args : Array Value) (s t : State), L.after args s (.returned (some (.int 1))) t = true) :
    ArmFor flags0 classFile x code maxLocals ret World_1 tables_1 room_1 Calls_1 rest_1 Pre_1
      (fun tb e a s o t => postC L tb e a s o t ∧ Framed s o t (fieldLocs frame_1_writes a s ++ arrayLocs frame_1_arrays a s ++ staticLocs frame_1_statics s) 600000 7302250) := by
  intro l hflags _ _ p e ha hc hk s m args below hf hfit hheap happ hpre
  obtain ⟨k, o, h1, h2, h3, rfl, hF⟩ := lw_comes l hflags p e ha hc hk s m args below hf hfit hheap happ hpre
  exact ⟨k, _, h1, h2, h3, hL args s _, lw_frame hF⟩
theorem i_vc : Claimed_1_1 ∧ Claimed_1_2 := ⟨lw_limb limb_1_1 (fun args s t => by simp [limb_1_1, Cond.after, Cond.holds, Cond.value]), lw_limb limb_1_2 (fun args s t => Cond.after_iff.mpr (by
  first | (rw [show limb_1_2 = Cond.eq .result (.int 1) from rfl, Cond.eq_ints (x := 1) (y := 1) rfl rfl]; simp; done) | (simp [limb_1_2, Cond.value, Term.eval]; done)))⟩

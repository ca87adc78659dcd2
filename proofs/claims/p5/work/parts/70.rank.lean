/-! ===== all that is agreed of the check's methods but ticks holds, if their checks come out ===== -/
noncomputable def zChecks : Prop := ∀ mi, mi ≠ 165 → mi ≠ 166 → mi ≠ 186 → mi ≠ 202 → ∃ ns, (zQtb mi).all (zChq (zQr zRx (zQrk mi)) ns mi) = true
theorem zKind_chk : (List.range 256).all (fun m => Nat.beq m 202 || (zQtb m).all (fun p => !(Nat.beq (zSq p.1) 5))) = true := by decide +kernel
theorem zKind_5 {m : Nat} (h : m ≠ 202) {i : zS} (hi : i ∈ zQt m) : zSq i ≠ 5 := by
  obtain ⟨p, hp, rfl⟩ := List.mem_map.mp hi
  by_cases c : m < 256
  · have q := List.all_eq_true.mp zKind_chk m (List.mem_range.mpr c)
    rw [nbeq_f h] at q
    have q := List.all_eq_true.mp q p hp
    exact fun e => by rw [e] at q; cases q
  · rw [(zQrk_out (by omega)).2] at hp
    cases hp
section YRK
variable {xs : Nat → Int32} {L : Nat}
theorem zR_val (H : zChecks) : ∀ r mi, zQrk mi < r → mi ≠ 202 → ∀ i ∈ zQt mi, zVal (zRw zRx fun _ => []) zXd mTab mInf (sXNl L) (sXF xs) mi i
  | 0, _, h, _, _, _ => by omega
  | r + 1, mi, h, hne, i, hi => by
    have ih := zR_val H r
    have no : ∀ mj, zQrk mj < 6 → mj ≠ 202 := fun mj a e => by
      rw [e] at a
      have : zQrk 202 = 6 := rfl
      omega
    have h5 := zQrk_5 hne
    by_cases c1 : mi = 165
    · subst c1; exact zV_165 i hi
    by_cases c2 : mi = 166
    · subst c2; exact zV_166 i hi
    by_cases c4 : mi = 186
    · subst c4
      have e : zQrk 186 = 5 := rfl
      exact zV_186 (fun mj a j hj => ih mj (by omega) (no mj (by omega)) j hj) i hi
    obtain ⟨ns, hc⟩ := H mi c1 c2 c4 hne
    obtain ⟨p, hp, rfl⟩ := List.mem_map.mp hi
    exact zChk_snd (W := zQr zRx (zQrk mi)) (zRw_ok _ _) (zXd_ok (zKind_5 hne hi)) (fun mj j hj => ih mj (by have := (zQr_con hj).1; omega) (no mj (by have := (zQr_con hj).1; omega)) j (zQr_con hj).2) (zSx_x xs L) (List.all_eq_true.mp hc p hp)
noncomputable abbrev zR9 : zW := zRw zRx fun _ => []
noncomputable def zTicksOk : Prop := (zQtb 202).all (zChq (zQr zRx (zQrk 202)) false 202) = true
theorem zR_all (H : zChecks) (H2 : zTicksOk) (mi : Nat) : ∀ i ∈ zQt mi, zVal zR9 zXp mTab mInf (sXNl L) (sXF xs) mi i := fun i hi => by
  by_cases h : mi = 202
  · subst h
    obtain ⟨p, hp, rfl⟩ := List.mem_map.mp hi
    have e : zQrk 202 = 6 := rfl
    exact zChk_snd (W := zQr zRx (zQrk 202)) (zRw_ok _ _) zXp_ok (fun mj j hj => by
      have a := (zQr_con hj).1
      exact zVal_p (zR_val H 6 mj (by omega) (fun e2 => by rw [e2] at a; omega) j (zQr_con hj).2)) (zSx_x xs L) (List.all_eq_true.mp H2 p hp)
  · exact zVal_p (zR_val H 6 mi (by have := zQrk_5 h; omega) h i hi)
end YRK

/-! ===== cut: CUTS exactly; written by wip/box/gen84g.py ===== -/
theorem h_19_0 : mFind (mTab 19) 0 = some (0, 1, .iload_n 1, .iload 1, 0, 0, 0, 0) := mFb_eq (by decide +kernel)
theorem h_19_1 : mFind (mTab 19) 1 = some (1, 3, .ifCond .lt 15, .ifCond .lt 15, 0, 16, 0, 0) := mFb_eq (by decide +kernel)
theorem h_19_4 : mFind (mTab 19) 4 = some (4, 1, .iload_n 1, .iload 1, 0, 0, 0, 0) := mFb_eq (by decide +kernel)
theorem h_19_5 : mFind (mTab 19) 5 = some (5, 1, .aload_n 0, .aload 0, 0, 0, 0, 0) := mFb_eq (by decide +kernel)
theorem h_19_6 : mFind (mTab 19) 6 = some (6, 3, .getfield 9, .getfield 9, 0, 3, 0, 375) := mFb_eq (by decide +kernel)
theorem h_19_9 : mFind (mTab 19) 9 = some (9, 3, .if_icmp .ge 7, .if_icmp .ge 7, 0, 16, 0, 0) := mFb_eq (by decide +kernel)
theorem h_19_12 : mFind (mTab 19) 12 = some (12, 1, .iconst 1, .iconst 0, 1, 0, 0, 0) := mFb_eq (by decide +kernel)
theorem h_19_13 : mFind (mTab 19) 13 = some (13, 3, .goto 4, .goto 4, 0, 17, 0, 0) := mFb_eq (by decide +kernel)
theorem h_19_16 : mFind (mTab 19) 16 = some (16, 1, .iconst 0, .iconst 0, 0, 0, 0, 0) := mFb_eq (by decide +kernel)
theorem h_19_17 : mFind (mTab 19) 17 = some (17, 1, .ireturn, .ireturn, 0, 0, 0, 0) := mFb_eq (by decide +kernel)
theorem h_22_0 : mFind (mTab 22) 0 = some (0, 1, .aload_n 0, .aload 0, 0, 0, 0, 0) := mFb_eq (by decide +kernel)
theorem h_22_1 : mFind (mTab 22) 1 = some (1, 3, .getfield 78, .getfield 78, 0, 3, 3, 381) := mFb_eq (by decide +kernel)
theorem h_22_4 : mFind (mTab 22) 4 = some (4, 1, .iconst 1, .iconst 0, 1, 0, 0, 0) := mFb_eq (by decide +kernel)
theorem h_22_5 : mFind (mTab 22) 5 = some (5, 1, .iload_n 1, .iload 1, 0, 0, 0, 0) := mFb_eq (by decide +kernel)
theorem h_22_6 : mFind (mTab 22) 6 = some (6, 1, .ishl, .ishl, 0, 0, 0, 0) := mFb_eq (by decide +kernel)
theorem h_22_7 : mFind (mTab 22) 7 = some (7, 1, .iand, .iand, 0, 0, 0, 0) := mFb_eq (by decide +kernel)
theorem h_22_8 : mFind (mTab 22) 8 = some (8, 3, .ifCond .eq 7, .ifCond .eq 7, 0, 15, 0, 0) := mFb_eq (by decide +kernel)
theorem h_22_11 : mFind (mTab 22) 11 = some (11, 1, .iconst 1, .iconst 0, 1, 0, 0, 0) := mFb_eq (by decide +kernel)
theorem h_22_12 : mFind (mTab 22) 12 = some (12, 3, .goto 4, .goto 4, 0, 16, 0, 0) := mFb_eq (by decide +kernel)
theorem h_22_15 : mFind (mTab 22) 15 = some (15, 1, .iconst 0, .iconst 0, 0, 0, 0, 0) := mFb_eq (by decide +kernel)
theorem h_22_16 : mFind (mTab 22) 16 = some (16, 1, .ireturn, .ireturn, 0, 0, 0, 0) := mFb_eq (by decide +kernel)
theorem h_93_0 : mFind (mTab 93) 0 = some (0, 1, .aload_n 0, .aload 0, 0, 0, 0, 0) := mFb_eq (by decide +kernel)
theorem h_93_1 : mFind (mTab 93) 1 = some (1, 3, .getfield 12, .getfield 12, 0, 7, 0, 427) := mFb_eq (by decide +kernel)
theorem h_93_4 : mFind (mTab 93) 4 = some (4, 1, .iload_n 1, .iload 1, 0, 0, 0, 0) := mFb_eq (by decide +kernel)
theorem h_93_5 : mFind (mTab 93) 5 = some (5, 3, .invokevirtual 51, .invokevirtual 51, 0, 19, 3, 511) := mFb_eq (by decide +kernel)
theorem h_93_8 : mFind (mTab 93) 8 = some (8, 3, .ifCond .eq 15, .ifCond .eq 15, 0, 23, 0, 0) := mFb_eq (by decide +kernel)
theorem h_93_11 : mFind (mTab 93) 11 = some (11, 1, .aload_n 0, .aload 0, 0, 0, 0, 0) := mFb_eq (by decide +kernel)
theorem h_93_12 : mFind (mTab 93) 12 = some (12, 3, .getfield 12, .getfield 12, 0, 7, 0, 427) := mFb_eq (by decide +kernel)
theorem h_93_15 : mFind (mTab 93) 15 = some (15, 1, .iload_n 1, .iload 1, 0, 0, 0, 0) := mFb_eq (by decide +kernel)
theorem h_93_16 : mFind (mTab 93) 16 = some (16, 3, .invokevirtual 58, .invokevirtual 58, 0, 22, 3, 519) := mFb_eq (by decide +kernel)
theorem h_93_19 : mFind (mTab 93) 19 = some (19, 1, .iload_n 2, .iload 2, 0, 0, 0, 0) := mFb_eq (by decide +kernel)
theorem h_93_20 : mFind (mTab 93) 20 = some (20, 3, .if_icmp .ne 5, .if_icmp .ne 5, 0, 25, 0, 0) := mFb_eq (by decide +kernel)
theorem h_93_23 : mFind (mTab 93) 23 = some (23, 1, .iconst 0, .iconst 0, 0, 0, 0, 0) := mFb_eq (by decide +kernel)
theorem h_93_24 : mFind (mTab 93) 24 = some (24, 1, .ireturn, .ireturn, 0, 0, 0, 0) := mFb_eq (by decide +kernel)
theorem h_93_25 : mFind (mTab 93) 25 = some (25, 1, .aload_n 0, .aload 0, 0, 0, 0, 0) := mFb_eq (by decide +kernel)
theorem h_93_26 : mFind (mTab 93) 26 = some (26, 3, .getfield 12, .getfield 12, 0, 7, 0, 427) := mFb_eq (by decide +kernel)
theorem h_93_29 : mFind (mTab 93) 29 = some (29, 1, .dup, .dup, 0, 0, 0, 0) := mFb_eq (by decide +kernel)
theorem h_93_30 : mFind (mTab 93) 30 = some (30, 3, .getfield 61, .getfield 61, 0, 3, 3, 382) := mFb_eq (by decide +kernel)
theorem h_93_33 : mFind (mTab 93) 33 = some (33, 1, .iconst 1, .iconst 0, 1, 0, 0, 0) := mFb_eq (by decide +kernel)
theorem h_93_34 : mFind (mTab 93) 34 = some (34, 1, .iload_n 1, .iload 1, 0, 0, 0, 0) := mFb_eq (by decide +kernel)
theorem h_93_35 : mFind (mTab 93) 35 = some (35, 1, .ishl, .ishl, 0, 0, 0, 0) := mFb_eq (by decide +kernel)
theorem h_93_36 : mFind (mTab 93) 36 = some (36, 1, .ixor, .ixor, 0, 0, 0, 0) := mFb_eq (by decide +kernel)
theorem h_93_37 : mFind (mTab 93) 37 = some (37, 3, .putfield 61, .putfield 61, 0, 3, 3, 382) := mFb_eq (by decide +kernel)
theorem h_93_40 : mFind (mTab 93) 40 = some (40, 1, .iload_n 2, .iload 2, 0, 0, 0, 0) := mFb_eq (by decide +kernel)
theorem h_93_41 : mFind (mTab 93) 41 = some (41, 3, .ifCond .eq 27, .ifCond .eq 27, 0, 68, 0, 0) := mFb_eq (by decide +kernel)
theorem h_93_68 : mFind (mTab 93) 68 = some (68, 1, .iconst 1, .iconst 0, 1, 0, 0, 0) := mFb_eq (by decide +kernel)
theorem h_93_69 : mFind (mTab 93) 69 = some (69, 1, .ireturn, .ireturn, 0, 0, 0, 0) := mFb_eq (by decide +kernel)
theorem h_168_18 : mFind (mTab 168) 18 = some (18, 1, .iload_n 2, .iload 2, 0, 0, 0, 0) := mFb_eq (by decide +kernel)
theorem h_168_19 : mFind (mTab 168) 19 = some (19, 3, .if_icmp .ne 5, .if_icmp .ne 5, 0, 24, 0, 0) := mFb_eq (by decide +kernel)
theorem h_168_22 : mFind (mTab 168) 22 = some (22, 1, .iconst 0, .iconst 0, 0, 0, 0, 0) := mFb_eq (by decide +kernel)
theorem h_168_23 : mFind (mTab 168) 23 = some (23, 1, .ireturn, .ireturn, 0, 0, 0, 0) := mFb_eq (by decide +kernel)
theorem h_168_24 : mFind (mTab 168) 24 = some (24, 1, .aload_n 0, .aload 0, 0, 0, 0, 0) := mFb_eq (by decide +kernel)
theorem h_168_25 : mFind (mTab 168) 25 = some (25, 3, .getfield 7, .getfield 7, 0, 8, 1, 972) := mFb_eq (by decide +kernel)
theorem h_168_28 : mFind (mTab 168) 28 = some (28, 2, .bipush 30, .iconst 0, 30, 0, 0, 0) := mFb_eq (by decide +kernel)
theorem h_168_30 : mFind (mTab 168) 30 = some (30, 1, .iload_n 1, .iload 1, 0, 0, 0, 0) := mFb_eq (by decide +kernel)
theorem h_168_31 : mFind (mTab 168) 31 = some (31, 1, .iadd, .iadd, 0, 0, 0, 0) := mFb_eq (by decide +kernel)
theorem h_168_32 : mFind (mTab 168) 32 = some (32, 1, .iload_n 2, .iload 2, 0, 0, 0, 0) := mFb_eq (by decide +kernel)
theorem h_168_33 : mFind (mTab 168) 33 = some (33, 3, .ifCond .eq 7, .ifCond .eq 7, 0, 40, 0, 0) := mFb_eq (by decide +kernel)
theorem h_168_36 : mFind (mTab 168) 36 = some (36, 1, .iconst 1, .iconst 0, 1, 0, 0, 0) := mFb_eq (by decide +kernel)
theorem h_168_37 : mFind (mTab 168) 37 = some (37, 3, .goto 4, .goto 4, 0, 41, 0, 0) := mFb_eq (by decide +kernel)
theorem h_168_40 : mFind (mTab 168) 40 = some (40, 1, .iconst 0, .iconst 0, 0, 0, 0, 0) := mFb_eq (by decide +kernel)
theorem h_168_41 : mFind (mTab 168) 41 = some (41, 1, .iastore, .iastore, 0, 0, 0, 0) := mFb_eq (by decide +kernel)
theorem h_168_42 : mFind (mTab 168) 42 = some (42, 1, .aload_n 0, .aload 0, 0, 0, 0, 0) := mFb_eq (by decide +kernel)
theorem h_168_43 : mFind (mTab 168) 43 = some (43, 3, .getfield 7, .getfield 7, 0, 8, 1, 972) := mFb_eq (by decide +kernel)
theorem h_168_46 : mFind (mTab 168) 46 = some (46, 2, .bipush 9, .iconst 0, 9, 0, 0, 0) := mFb_eq (by decide +kernel)
theorem h_168_48 : mFind (mTab 168) 48 = some (48, 1, .iaload, .iaload, 0, 0, 0, 0) := mFb_eq (by decide +kernel)
theorem h_168_49 : mFind (mTab 168) 49 = some (49, 1, .iconst 1, .iconst 0, 1, 0, 0, 0) := mFb_eq (by decide +kernel)
theorem h_168_50 : mFind (mTab 168) 50 = some (50, 1, .isub, .isub, 0, 0, 0, 0) := mFb_eq (by decide +kernel)
theorem h_168_51 : mFind (mTab 168) 51 = some (51, 1, .istore_n 3, .istore 3, 0, 0, 0, 0) := mFb_eq (by decide +kernel)
theorem h_168_52 : mFind (mTab 168) 52 = some (52, 1, .iload_n 3, .iload 3, 0, 0, 0, 0) := mFb_eq (by decide +kernel)
theorem h_168_53 : mFind (mTab 168) 53 = some (53, 3, .ifCond .lt 42, .ifCond .lt 42, 0, 95, 0, 0) := mFb_eq (by decide +kernel)
theorem h_168_56 : mFind (mTab 168) 56 = some (56, 1, .iload_n 2, .iload 2, 0, 0, 0, 0) := mFb_eq (by decide +kernel)
theorem h_168_57 : mFind (mTab 168) 57 = some (57, 3, .ifCond .eq 38, .ifCond .eq 38, 0, 95, 0, 0) := mFb_eq (by decide +kernel)
theorem h_168_81 : mFind (mTab 168) 81 = some (81, 3, .invokevirtual 119, .invokevirtual 119, 0, 165, 8, 1133) := mFb_eq (by decide +kernel)
theorem h_168_89 : mFind (mTab 168) 89 = some (89, 3, .iinc 3 (-1), .iinc 3 (-1), (-1), 0, 0, 0) := mFb_eq (by decide +kernel)
theorem h_168_92 : mFind (mTab 168) 92 = some (92, 3, .goto (-40), .goto (-40), 0, 52, 0, 0) := mFb_eq (by decide +kernel)
theorem h_168_95 : mFind (mTab 168) 95 = some (95, 1, .iconst 1, .iconst 0, 1, 0, 0, 0) := mFb_eq (by decide +kernel)
theorem h_168_96 : mFind (mTab 168) 96 = some (96, 1, .ireturn, .ireturn, 0, 0, 0, 0) := mFb_eq (by decide +kernel)
section YU0
variable {T : Nat → List mE} {I : Nat → mI} {XN : Nat → Nat} {XF : Nat → Nat → Int32} {fr lo mi pc len : Nat} {ri : ClassFile.Instr} {v : Int} {r1 r2 wi : Nat} {L : List (Nat × Value)} {S : List Value} {M : mMem} {r : Option Value × mMem}
theorem st_iand {x y : Int32} (he : mFind (T mi) pc = some (pc, len, ri, .iand, v, r1, r2, wi)) (k : mRuns T I XN XF fr lo mi (pc + len, L, .int (x &&& y) :: S, M) r) : mRuns T I XN XF fr lo mi (pc, L, .int y :: .int x :: S, M) r := st_0 he (fun _ => rfl) k
theorem st_ixor {x y : Int32} (he : mFind (T mi) pc = some (pc, len, ri, .ixor, v, r1, r2, wi)) (k : mRuns T I XN XF fr lo mi (pc + len, L, .int (x ^^^ y) :: S, M) r) : mRuns T I XN XF fr lo mi (pc, L, .int y :: .int x :: S, M) r := st_0 he (fun _ => rfl) k
theorem st_ishl {x y : Int32} (he : mFind (T mi) pc = some (pc, len, ri, .ishl, v, r1, r2, wi)) (k : mRuns T I XN XF fr lo mi (pc + len, L, .int (x <<< (y &&& 31)) :: S, M) r) : mRuns T I XN XF fr lo mi (pc, L, .int y :: .int x :: S, M) r := st_0 he (fun _ => rfl) k
end YU0
noncomputable def uK (k : Nat) : Int × Int := ((k : Int), (k : Int))
noncomputable def uV : zW := zRw zRx fun _ => []
noncomputable def uA : zA := (0, (0, zR32))
noncomputable def uB : zA := (0, (0, (0, 1)))
theorem zGood_roomU {N : mMem} (hg : zGood zR9 N) : zRoom zR9 0 N := fun key hk hw => by
  obtain ⟨q, hq⟩ := (zRw_ok zRx (fun _ => [])).2.2.2.1 key hw
  obtain ⟨x, hx, -, -⟩ := hg.2.1 key hk _ hq
  have := x.toInt_lt
  exact ⟨x, hx, by omega⟩
theorem lb_cutS : zClB 93 [(2, (0, (0, 0))), uA, uB] (some (false, (0, 1))) 4 = true := by decide +kernel
theorem lm_cutS : (List.range 8).all (zPubB 168 [z525, uA, uB] (some (false, (0, 1))) 2) = true := by decide +kernel
noncomputable def uBit (u j : Nat) : Nat := u / 2 ^ j % 2
noncomputable def uNew (u l : Nat) : Int32 := yI u ^^^ (Int32.ofInt 1 <<< (yI l &&& 31))
theorem uCut_B : (List.range 256).all (fun u => (List.range 8).all fun j => decide ((yI u &&& (Int32.ofInt 1 <<< (yI j &&& 31))) = 0) == decide (uBit u j = 0)) = true := by decide +kernel
theorem uNew_B : (List.range 256).all (fun u => (List.range 8).all fun l => sILe 0 (uNew u l).toInt && (sILt (uNew u l).toInt 256 && (List.range 8).all fun j => sIEq ((uNew u l).toInt / 2 ^ j % 2) (bif Nat.beq j l then 1 - (uBit u l : Int) else (uBit u j : Int)))) = true := by decide +kernel
set_option maxRecDepth 100000 in
theorem y93_E : zSeg zCQ (0, (0, false)) 93 10 300 44 [(0, (2, (0, (0, 0)))), (1, (0, (0, (0, 7))))] [] [] [] (some (some (false, (1, 1)), [])) = true := by decide +kernel
set_option maxRecDepth 100000 in
theorem y168_A : (List.range 56).all (fun q => !(Nat.blt (q % 8) (q / 8 + 2)) || ([0, 1] : List Nat).all fun b => zSeg uV (0, (0, false)) 168 10 300 0 [(0, z525), (1, (0, (0, uK (q % 8)))), (2, (0, (0, (0, 1))))] [] [(1077254, (0, (0, (((q / 8 : Nat) : Int) - 1, ((q / 8 : Nat) : Int) - 1)))), (1077278 + q % 8, (0, (0, uK b)))] [(18, ([(0, z525)], ([(0, (0, uK b))], ([1, 2], []))))] none) = true := by decide +kernel
set_option maxRecDepth 100000 in
theorem y168_B : (List.range 7).all (fun q => ([(-2147483648, -1), (((q + 2 : Nat) : Int), 2147483647)] : List (Int × Int)).all fun r => zSeg uV (0, (0, false)) 168 10 300 0 [(0, z525), (1, (0, (0, r))), (2, (0, (0, (0, 1))))] [] [(1077254, (0, (0, (((q : Nat) : Int) - 1, ((q : Nat) : Int) - 1))))] [] (some (some (false, (0, 0)), []))) = true := by decide +kernel
set_option maxRecDepth 100000 in
theorem y168_C : (List.range 100).all (fun i => zSeg uV (1, (0, false)) 168 10 300 52 [(0, z525), (1, (0, (0, (0, 7)))), (2, (0, (0, (1, 1)))), (3, (0, (0, uK i)))] [] [] [(89, ([(0, z525)], ([], ([1, 2, 3], [])))), (81, ([(0, z525)], ([(0, (0, uK i)), z525], ([1, 2, 3], []))))] none) = true := by decide +kernel
set_option maxRecDepth 100000 in
theorem y168_D : zSeg uV (0, (0, false)) 168 10 300 84 [(0, z525), (1, (0, (0, zR32))), (2, (0, (0, zR32))), (3, (0, (0, zR32)))] [] [] [(89, ([(0, z525)], ([], ([1, 2, 3], []))))] none = true := by decide +kernel
theorem uClause_B : (List.range 2048).all (fun k => (zRc1 k).all fun c => !(Nat.ble 1077278 c.1 && Nat.blt c.1 1077286) && !(Nat.ble 1077278 c.2.2.2.1 && Nat.blt c.2.2.2.1 1077286)) = true := by decide +kernel
theorem uBox (l : Nat) (hl : l < 8) : zRs1 526 (30 + l) = some (.inl zR32) := by
  obtain rfl | rfl | rfl | rfl | rfl | rfl | rfl | rfl := (by omega : l = 0 ∨ l = 1 ∨ l = 2 ∨ l = 3 ∨ l = 4 ∨ l = 5 ∨ l = 6 ∨ l = 7) <;> decide +kernel
theorem zGood_cut {M : mMem} {l : Nat} {x : Int32} (hl : l < 8) (hg : zGood zR9 M) (hx : 0 ≤ x.toInt ∧ x.toInt ≤ 1) : zGood zR9 (mPut M 526 (mCset (mObj M 526) (30 + l) (.int x))) := by
  have at_ : ∀ key, key < 2097152 → mAtk (mPut M 526 (mCset (mObj M 526) (30 + l) (.int x))) key = if key = 526 * 2048 + (30 + l) then .int x else mAtk M key := fun key h => mAtk_put (by omega) (by omega) h
  refine ⟨zShape_put hg.1 (by omega) (by omega) (.inl (by decide +kernel)), fun key h s hs => ?_, fun key h c hc => ?_⟩
  · rw [at_ key h]
    by_cases e : key = 526 * 2048 + (30 + l)
    · rw [if_pos e]
      have q : zRs1 (key / 2048) (key % 2048) = some s := hs
      rw [e, show (526 * 2048 + (30 + l)) / 2048 = 526 by omega, show (526 * 2048 + (30 + l)) % 2048 = 30 + l by omega, uBox l hl] at q
      cases q
      exact ⟨x, rfl, z32 x⟩
    · rw [if_neg e]; exact hg.2.1 key h s hs
  · have q : c ∈ (bif Nat.beq (key / 2048) 526 then zRc1 (key % 2048) else []) := hc
    cases e : Nat.beq (key / 2048) 526 with
    | false => rw [e] at q; cases q
    | true =>
      rw [e, cond_true] at q
      obtain ⟨m1, m2, a1, e1, a2, b1, e2, b2⟩ := zRc_at (k := key % 2048) (by omega) q
      obtain ⟨w1, w2⟩ := and_inv (List.all_eq_true.mp (List.all_eq_true.mp uClause_B (key % 2048) (List.mem_range.mpr (by omega))) c q)
      have n1 : c.1 ≠ 526 * 2048 + (30 + l) := fun e => by
        rw [e, show Nat.ble 1077278 (526 * 2048 + (30 + l)) = true from Nat.ble_eq.mpr (by omega), show Nat.blt (526 * 2048 + (30 + l)) 1077286 = true from by rw [Nat.blt_eq]; omega] at w1
        cases w1
      have n2 : c.2.2.2.1 ≠ 526 * 2048 + (30 + l) := fun e => by
        rw [e, show Nat.ble 1077278 (526 * 2048 + (30 + l)) = true from Nat.ble_eq.mpr (by omega), show Nat.blt (526 * 2048 + (30 + l)) 1077286 = true from by rw [Nat.blt_eq]; omega] at w2
        cases w2
      have z := hg.2.2 key h c hc
      intro u v hu hv
      rw [at_ c.1 (by omega), if_neg n1] at hu
      rw [at_ c.2.2.2.1 (by omega), if_neg n2] at hv
      exact z u v hu hv
section YCU
variable {xs : Nat → Int32} {L : Nat}
theorem y19_run {N : mMem} (hg : zGood zC0 N) {n : Int32} (hn : mAtk N 2048 = .int n) (s : Int32) : mRuns mTab mInf (sXNl L) (sXF xs) 9 200 19 (0, lv_args 0 [.ref 1, .int s], [], N) (some (.int (if 0 ≤ s.toInt ∧ s.toInt < n.toInt then Int32.ofInt 1 else Int32.ofInt 0)), N) := by
  have c1 := cRing hg (o := 1) (.inl rfl)
  rw [show 2048 = 1 * 2048 + 0 by decide, mAtk_key N (by omega)] at hn
  have no : ∀ (h : ¬ (0 ≤ s.toInt ∧ s.toInt < n.toInt)), mRuns mTab mInf (sXNl L) (sXF xs) 9 200 19 (16, lv_args 0 [.ref 1, .int s], [], N) (some (.int (if 0 ≤ s.toInt ∧ s.toInt < n.toInt then Int32.ofInt 1 else Int32.ofInt 0)), N) := fun h => by
    rw [if_neg h]
    refine st_iconst h_19_16 ?_
    exact st_ireturn h_19_17 (ty := .boolean) rfl rfl
  refine st_iload h_19_0 (by rfl) ?_
  refine st_if h_19_1 ?_
  by_cases a : s.toInt < 0
  · rw [show mIf .lt s 0 = true from decide_eq_true (by rw [Int32.lt_iff_toInt_lt]; exact a), cond_true]
    exact no (by omega)
  rw [show mIf .lt s 0 = false from decide_eq_false (by rw [Int32.lt_iff_toInt_lt]; exact a), cond_false]
  refine st_iload h_19_4 (by rfl) ?_
  refine st_aload h_19_5 (by rfl) ?_
  refine st_getfield h_19_6 c1.1 c1.2.1 (by rw [c1.2.2]; rfl) hn ?_
  refine st_icmp h_19_9 ?_
  by_cases b : s.toInt < n.toInt
  · rw [show mIf .ge s n = false from decide_eq_false (by rw [Int32.le_iff_toInt_le]; omega), cond_false, if_pos (by omega)]
    refine st_iconst h_19_12 ?_
    refine st_goto h_19_13 ?_
    exact st_ireturn h_19_17 (ty := .boolean) rfl rfl
  · rw [show mIf .ge s n = true from decide_eq_true (by rw [Int32.le_iff_toInt_le]; omega), cond_true]
    exact no (by omega)
theorem y22_run {N : mMem} (hg : zGood zC0 N) {u j : Nat} (hu : u < 256) (hj : j < 8) (hn : mAtk N 2051 = .int (yI u)) : mRuns mTab mInf (sXNl L) (sXF xs) 9 200 22 (0, lv_args 0 [.ref 1, .int (yI j)], [], N) (some (.int (yI (uBit u j))), N) := by
  have c1 := cRing hg (o := 1) (.inl rfl)
  rw [show 2051 = 1 * 2048 + 3 by decide, mAtk_key N (by omega)] at hn
  have w := List.all_eq_true.mp (List.all_eq_true.mp uCut_B u (List.mem_range.mpr hu)) j (List.mem_range.mpr hj)
  have w := eq_of_beq w
  refine st_aload h_22_0 (by rfl) ?_
  refine st_getfield h_22_1 c1.1 c1.2.1 (by rw [c1.2.2]; rfl) hn ?_
  refine st_iconst h_22_4 ?_
  refine st_iload h_22_5 (by rfl) ?_
  refine st_ishl h_22_6 ?_
  refine st_iand h_22_7 ?_
  refine st_if h_22_8 ?_
  have ub : uBit u j = 0 ∨ uBit u j = 1 := by unfold uBit; omega
  rcases ub with e | e
  · rw [decide_eq_true e] at w
    rw [show mIf .eq (yI u &&& (Int32.ofInt 1 <<< (yI j &&& 31))) 0 = true from w, cond_true, e]
    refine st_iconst h_22_15 ?_
    exact st_ireturn h_22_16 (ty := .boolean) rfl rfl
  · rw [decide_eq_false (show ¬ uBit u j = 0 by omega)] at w
    rw [show mIf .eq (yI u &&& (Int32.ofInt 1 <<< (yI j &&& 31))) 0 = false from w, cond_false, e]
    refine st_iconst h_22_11 ?_
    refine st_goto h_22_12 ?_
    exact st_ireturn h_22_16 (ty := .boolean) rfl rfl
/-- whether cut answers 1 -/
noncomputable def uOk (n : Int) (u : Nat) (l s : Int32) : Prop := 0 ≤ l.toInt ∧ l.toInt < n ∧ ((uBit u l.toInt.toNat : Nat) : Int) ≠ s.toInt
theorem y93S (HC : ∀ mi, ∀ i ∈ zCt mi, zVal zC0 zXt mTab mInf (sXNl L) (sXF xs) mi i) {b : Nat} {N : mMem} (hI : zAll b N) {n : Int32} (hn : mAtk N 2048 = .int n) {u : Nat} (hu : u < 256) (hc : mAtk N 2051 = .int (yI u)) (l s : Int32) (hs : s.toInt = 0 ∨ s.toInt = 1) :
    ∃ v N1 kk, mRuns mTab mInf (sXNl L) (sXF xs) 10 300 93 (0, lv_args 0 [.ref 0, .int l, .int s], [], N) (some (.int v), N1) ∧ zAll b N1 ∧ zRl zC0 zXt 4 kk N N1 ∧ ((uOk n.toInt u l s ∧ v = Int32.ofInt 1 ∧ mAtk N1 2051 = .int (uNew u l.toInt.toNat)) ∨ (¬ uOk n.toInt u l s ∧ v = Int32.ofInt 0 ∧ mAtk N1 2051 = .int (yI u))) := by
  obtain ⟨v, N1, kk, r1, r2, r3, r4, rl⟩ := zClass lb_cutS HC hI (bs := [.ref 0, .int l, .int s]) ⟨rfl, ⟨l, rfl, z32 l⟩, ⟨s, rfl, by show (0 : Int) ≤ _; omega, by show _ ≤ (1 : Int); omega⟩, trivial⟩
  obtain ⟨x, hx, -, -⟩ := r3
  have hx : v = some (.int x) := hx
  subst hx
  refine ⟨x, N1, kk, r1, r2, rl, ?_⟩
  have hg := hI.1
  have c0 := cMain hg
  have c1 := cRing hg (o := 1) (.inl rfl)
  obtain ⟨n', d1, d2⟩ := cCell hg (o := 1) (k := 0) (.inl rfl) (by omega)
  have en : n' = n := Value.int.inj (d1.symm.trans hn)
  subst en
  obtain ⟨d2, d3⟩ := d2 rfl
  have hand : ∃ w M, mRuns mTab mInf (sXNl L) (sXF xs) 10 300 93 (0, lv_args 0 [.ref 0, .int l, .int s], [], N) (some (.int w), M) ∧ ((uOk n'.toInt u l s ∧ w = Int32.ofInt 1 ∧ mAtk M 2051 = .int (uNew u l.toInt.toNat)) ∨ (¬ uOk n'.toInt u l s ∧ w = Int32.ofInt 0 ∧ mAtk M 2051 = .int (yI u))) := by
    have front : ∀ z, mRuns mTab mInf (sXNl L) (sXF xs) 10 300 93 (bif mIf .eq (if 0 ≤ l.toInt ∧ l.toInt < n'.toInt then Int32.ofInt 1 else Int32.ofInt 0) 0 then 23 else 11, lv_args 0 [.ref 0, .int l, .int s], [], N) z → mRuns mTab mInf (sXNl L) (sXF xs) 10 300 93 (0, lv_args 0 [.ref 0, .int l, .int s], [], N) z := fun z hz => by
      refine st_aload h_93_0 (by rfl) ?_
      refine st_getfield h_93_1 c0.1 c0.2.1 (by rw [c0.2.2]; rfl) (cRef hg (k := 0) (by omega)) ?_
      refine st_iload h_93_4 (by rfl) ?_
      refine st_call (o := 1) (as := [.int l]) (S := []) (w := some (.int (if 0 ≤ l.toInt ∧ l.toInt < n'.toInt then Int32.ofInt 1 else Int32.ofInt 0))) (M1 := N) h_93_5 rfl rfl rfl c1.1 c1.2.1 rfl rfl rfl rfl (mRuns_more (y19_run hg hn l) (by decide) (by decide)) rfl ?_
      exact st_if h_93_8 hz
    have no : mRuns mTab mInf (sXNl L) (sXF xs) 10 300 93 (23, lv_args 0 [.ref 0, .int l, .int s], [], N) (some (.int (Int32.ofInt 0)), N) := by
      refine st_iconst h_93_23 ?_
      exact st_ireturn h_93_24 (ty := .boolean) rfl rfl
    by_cases c : 0 ≤ l.toInt ∧ l.toInt < n'.toInt
    · obtain ⟨j, hj⟩ : ∃ j : Nat, l.toInt = (j : Int) := ⟨l.toInt.toNat, by omega⟩
      have hj8 : j < 8 := by omega
      have el : l = yI j := yI_of hj
      subst el
      have ej : (yI j).toInt.toNat = j := by rw [hj]; rfl
      have mid : ∀ z, mRuns mTab mInf (sXNl L) (sXF xs) 10 300 93 (bif mIf .ne (yI (uBit u j)) s then 25 else 23, lv_args 0 [.ref 0, .int (yI j), .int s], [], N) z → mRuns mTab mInf (sXNl L) (sXF xs) 10 300 93 (0, lv_args 0 [.ref 0, .int (yI j), .int s], [], N) z := fun z hz => front z (by
        rw [if_pos c, show mIf .eq (Int32.ofInt 1) 0 = false from by decide, cond_false]
        refine st_aload h_93_11 (by rfl) ?_
        refine st_getfield h_93_12 c0.1 c0.2.1 (by rw [c0.2.2]; rfl) (cRef hg (k := 0) (by omega)) ?_
        refine st_iload h_93_15 (by rfl) ?_
        refine st_call (o := 1) (as := [.int (yI j)]) (S := []) (w := some (.int (yI (uBit u j)))) (M1 := N) h_93_16 rfl rfl rfl c1.1 c1.2.1 rfl rfl rfl rfl (mRuns_more (y22_run hg hu hj8 hc) (by decide) (by decide)) rfl ?_
        refine st_iload h_93_19 (by rfl) ?_
        exact st_icmp h_93_20 hz)
      have hb : (yI (uBit u j)).toInt = (uBit u j : Int) := yI_int (by unfold uBit; omega)
      by_cases e : ((uBit u j : Nat) : Int) = s.toInt
      · refine ⟨_, N, mid _ ?_, .inr ⟨fun h => h.2.2 (by rw [ej]; exact e), rfl, hc⟩⟩
        rw [show mIf .ne (yI (uBit u j)) s = false from by
          show (!decide (yI (uBit u j) = s)) = false
          rw [decide_eq_true (Int32.toInt_inj.mp (hb.trans e))]
          rfl, cond_false]
        exact no
      · have ok : uOk n'.toInt u (yI j) s := ⟨c.1, c.2, by rw [ej]; exact e⟩
        obtain ⟨N2, e2⟩ : ∃ N2, N2 = mPut N 1 (mCset (mObj N 1) 3 (.int (uNew u j))) := ⟨_, rfl⟩
        have g2 : zGood zC0 N2 := by rw [e2]; exact cGood_put hg (.inl rfl) (by omega) (fun h => by omega)
        have m2 : mAtk N2 2051 = .int (uNew u j) := by
          rw [e2, mAtk_put (by omega) (by omega) (by decide)]
          exact if_pos (by decide)
        have hc2 := hc
        rw [show 2051 = 1 * 2048 + 3 by decide, mAtk_key N (by omega)] at hc2
        have to40 : ∀ z, mRuns mTab mInf (sXNl L) (sXF xs) 10 300 93 (bif mIf .eq s 0 then 68 else 44, lv_args 0 [.ref 0, .int (yI j), .int s], [], N2) z → mRuns mTab mInf (sXNl L) (sXF xs) 10 300 93 (0, lv_args 0 [.ref 0, .int (yI j), .int s], [], N) z := fun z hz => mid z (by
          rw [show mIf .ne (yI (uBit u j)) s = true from by
            show (!decide (yI (uBit u j) = s)) = true
            rw [decide_eq_false (fun q => e (by rw [← hb, q]))]
            rfl, cond_true]
          refine st_aload h_93_25 (by rfl) ?_
          refine st_getfield h_93_26 c0.1 c0.2.1 (by rw [c0.2.2]; rfl) (cRef hg (k := 0) (by omega)) ?_
          refine st_dup h_93_29 rfl ?_
          refine st_getfield h_93_30 c1.1 c1.2.1 (by rw [c1.2.2]; rfl) hc2 ?_
          refine st_iconst h_93_33 ?_
          refine st_iload h_93_34 (by rfl) ?_
          refine st_ishl h_93_35 ?_
          refine st_ixor h_93_36 ?_
          refine st_putfield h_93_37 c1.1 c1.2.1 (by rw [c1.2.2]; rfl) (by rw [c1.2.2]; rfl) (by rfl) ?_
          rw [show yI u ^^^ (Int32.ofInt 1 <<< (yI j &&& 31)) = uNew u j from rfl, ← e2]
          refine st_iload h_93_40 (by rfl) ?_
          exact st_if h_93_41 hz)
        rcases hs with hs | hs
        · have es : s = Int32.ofInt 0 := Int32.toInt_inj.mp (by rw [hs]; decide)
          subst es
          refine ⟨Int32.ofInt 1, N2, to40 _ ?_, .inl ⟨ok, rfl, by rw [ej]; exact m2⟩⟩
          rw [show mIf .eq (Int32.ofInt 0) 0 = true from by decide, cond_true]
          refine st_iconst h_93_68 ?_
          exact st_ireturn h_93_69 (ty := .boolean) rfl rfl
        · have es : s = Int32.ofInt 1 := Int32.toInt_inj.mp (by rw [hs]; decide)
          subst es
          rcases zSeg_snd (R := (0, (0, false))) (X := zXt) (N := N2) (V := []) (Nl := lv_args 0 [.ref 0, .int (yI j), .int (Int32.ofInt 1)]) (XN := sXNl L) (XF := sXF xs) y93_E (zCw_ok _) (zXt_ok _ _) HC (zSx_x xs L) trivial g2 (fun key _ h => by cases h) (fun q hq => by
              simp only [List.mem_cons, List.not_mem_nil, or_false] at hq
              rcases hq with rfl | rfl
              · exact ⟨.ref 0, rfl, rfl⟩
              · exact ⟨.int (yI j), rfl, yI j, rfl, by show (0 : Int) ≤ _; omega, by show _ ≤ (7 : Int); omega⟩) trivial (fun q hq => by cases hq) with ⟨p, hpm, -⟩ | ⟨rt, hrt, ⟨zv, zm⟩, z1, z2, z3, z4, -⟩
          · cases hpm
          · cases hrt
            obtain ⟨y, hy, q1, q2⟩ := z4
            have hy : zv = some (.int y) := hy
            subst hy
            have q1 : 1 ≤ y.toInt := q1
            have q2 : y.toInt ≤ 1 := q2
            refine ⟨y, zm, to40 _ ?_, .inl ⟨ok, Int32.toInt_inj.mp (by rw [show (Int32.ofInt 1).toInt = 1 by decide]; omega), ?_⟩⟩
            · rw [show mIf .eq (Int32.ofInt 1) 0 = false from by decide, cond_false]
              exact z1
            · rw [ej]
              exact (z3.2.2.2.1 2051 (by decide) (by decide +kernel)).trans m2
    · refine ⟨_, N, front _ ?_, .inr ⟨fun h => c ⟨h.1, h.2.1⟩, rfl, hc⟩⟩
      rw [if_neg c, show mIf .eq (Int32.ofInt 0) 0 = true from by decide, cond_true]
      exact no
  obtain ⟨w, M, h1, h2⟩ := hand
  have ez := mRuns_one r1 h1
  have e1 : x = w := Value.int.inj (Option.some.inj (congrArg Prod.fst ez))
  have e2 : N1 = M := congrArg Prod.snd ez
  rw [e1, e2]
  exact h2
theorem keepU {Nl Nl2 : List (Nat × Value)} {is : List Nat} (h : ∀ i ∈ is, ∃ x : Int32, mLk Nl i = some (.int x) ∧ mLk Nl2 i = some (.int x)) {i : Nat} (hi : i ∈ is) {x : Int32} (hx : mLk Nl i = some (.int x)) : mLk Nl2 i = some (.int x) := by
  obtain ⟨y, a, b⟩ := h i hi
  rw [hx] at a
  have e : x = y := Value.int.inj (Option.some.inj a)
  rw [e]
  exact b
noncomputable def uC (N M : mMem) : Prop := ∀ j, j < 8 → mAtk M (1077278 + j) = mAtk N (1077278 + j)
noncomputable def uX (N N1 : mMem) : Prop := zXp N N1 ∧ mAtk N1 1077257 = mAtk N 1077257
theorem uX_ok {con : Nat → List zS} {c : Nat} : zXok (zRw zRx con) uX c := ⟨fun _ _ _ h1 h2 => ⟨(zXp_ok (con := con) (c := c)).1 _ _ _ h1.1 h2.1, h2.2.trans h1.2⟩, fun N N1 h hk => ⟨(zXp_ok (con := con) (c := c)).2.1 N N1 h.1 hk, hk 1077257 (by decide) (.inr (show zRx 1077257 = true by decide +kernel))⟩, fun _ _ h => ⟨(zXp_ok (con := con) (c := c)).2.2 _ _ h.1, rfl⟩⟩
/-- what goes by a LINK that is cut is lost: CUTS stand -/
theorem y168_loop {l : Int32} (hl : 0 ≤ l.toInt ∧ l.toInt ≤ 7) : ∀ (d : Nat) (N : mMem) (Nl : List (Nat × Value)) (w x : Int32), d ≤ 100 → mLk Nl 0 = some (.ref 525) → mLk Nl 1 = some (.int l) → mLk Nl 2 = some (.int (Int32.ofInt 1)) → mLk Nl 3 = some (.int w) → w.toInt = (d : Int) - 1 → zGood zR9 N → zPm N → mAtk N 1077257 = .int x → (d : Int) ≤ x.toInt →
    ∃ M, mRuns mTab mInf (sXNl L) (sXF xs) 10 300 168 (52, Nl, [], N) (some (.int (Int32.ofInt 1)), M) ∧ uC N M := fun d => by
  induction d with
  | zero =>
    intro N Nl w x hd l0 l1 l2 l3 hw hg hp hx hdx
    refine ⟨N, ?_, fun _ _ => rfl⟩
    refine st_iload h_168_52 l3 ?_
    refine st_if h_168_53 ?_
    rw [show mIf .lt w 0 = true from decide_eq_true (by rw [Int32.lt_iff_toInt_lt, show (0 : Int32).toInt = 0 by decide]; omega), cond_true]
    refine st_iconst h_168_95 ?_
    exact st_ireturn h_168_96 (ty := .boolean) rfl rfl
  | succ d ih =>
    intro N Nl w x hd l0 l1 l2 l3 hw hg hp hx hdx
    have ew : w = yI d := yI_of (by omega)
    subst ew
    have wI : (yI d + Int32.ofInt (-1)).toInt = (d : Int) - 1 := i32_val (by unfold yI; rw [← Int32.ofInt_add]; rfl) (by omega) (by omega)
    obtain ⟨x9, x9a, x9b, x9c⟩ := zGood_int hg (k := 9) (by omega)
    rw [← y_at N (by omega)] at x9a
    have ex9 : x9 = x := Value.int.inj (x9a.symm.trans hx)
    subst ex9
    have x9c : x9.toInt ≤ 100 := x9c
    have kp : ∀ {Nq Mq : mMem}, zRl uV zXp 1 0 Nq Mq → uC Nq Mq ∧ mAtk Mq 1077257 = mAtk Nq 1077257 := fun h => ⟨fun j hj => by rw [h.1 rfl], by rw [h.1 rfl]⟩
    have back : ∀ (M : mMem) (Nl3 : List (Nat × Value)) (y : Int32), mLk Nl3 0 = some (.ref 525) → mLk Nl3 1 = some (.int l) → mLk Nl3 2 = some (.int (Int32.ofInt 1)) → mLk Nl3 3 = some (.int (yI d)) → zGood zR9 M → zPm M → mAtk M 1077257 = .int y → (d : Int) ≤ y.toInt → ∃ M2, mRuns mTab mInf (sXNl L) (sXF xs) 10 300 168 (89, Nl3, [], M) (some (.int (Int32.ofInt 1)), M2) ∧ uC M M2 := fun M Nl3 y k0 k1 k2 k3 hgM hpM hy hdy => by
      obtain ⟨M2, r1, r2⟩ := ih M (mSt1 Nl3 3 (.int (yI d + Int32.ofInt (-1)))) (yI d + Int32.ofInt (-1)) y (by omega) (mLk_ne k0 (by omega) rfl) (mLk_ne k1 (by omega) rfl) (mLk_ne k2 (by omega) rfl) mLk_same wI hgM hpM hy hdy
      refine ⟨M2, ?_, r2⟩
      refine st_iinc h_168_89 k3 (by rfl) ?_
      exact st_goto h_168_92 r1
    rcases zSeg_snd (R := (1, (0, false))) (X := zXp) (N := N) (V := []) (Nl := Nl) (XN := sXNl L) (XF := sXF xs) (List.all_eq_true.mp y168_C d (List.mem_range.mpr (by omega))) (zRw_ok _ _) zXp_ok (fun _ _ h => by cases h) (zSx_x xs L) ⟨hp, hp⟩ hg (zGood_roomU hg) (fun q hq => by
        simp only [List.mem_cons, List.not_mem_nil, or_false] at hq
        rcases hq with rfl | rfl | rfl | rfl
        · exact ⟨_, l0, rfl⟩
        · exact ⟨_, l1, l, rfl, hl⟩
        · exact ⟨_, l2, _, rfl, by decide, by decide⟩
        · exact ⟨_, l3, yI d, rfl, by show (d : Int) ≤ _; omega, by show _ ≤ (d : Int); omega⟩) trivial (fun q hq => by cases hq) with ⟨p, hpm, Nl2, V2, N2, ⟨a1, a2, a3, -, a5, a6⟩, hrun⟩ | ⟨rt, hrt, -⟩
    · have a5 : zGood zR9 N2 := a5
      have hp2 : zPm N2 := a6.2.2.2.2.2.2
      obtain ⟨kc, k9⟩ := kp a6
      simp only [List.mem_cons, List.not_mem_nil, or_false] at hpm
      rcases hpm with rfl | rfl
      · obtain ⟨v0, x0, x1⟩ := a1 (0, z525) List.mem_cons_self
        have x1 : v0 = .ref 525 := x1
        subst x1
        have a2 : sAll zArV [] V2 := a2
        obtain rfl := sAll_nil a2
        obtain ⟨M2, r1, r2⟩ := back N2 Nl2 x9 x0 (keepU (is := [1, 2, 3]) a3 (i := 1) (by decide) l1) (keepU (is := [1, 2, 3]) a3 (i := 2) (by decide) l2) (keepU (is := [1, 2, 3]) a3 (i := 3) (by decide) l3) a5 hp2 (k9.trans hx) (by omega)
        exact ⟨M2, hrun _ r1, fun j hj => (r2 j hj).trans (kc j hj)⟩
      · obtain ⟨v0, x0, x1⟩ := a1 (0, z525) List.mem_cons_self
        have x1 : v0 = .ref 525 := x1
        subst x1
        have a2 : sAll zArV [(0, (0, uK d)), z525] V2 := a2
        obtain ⟨u0, r0, f0, ⟨mi', f1, f2, f3⟩, f4⟩ := sAll_cons a2
        obtain ⟨u1, r1, f5, f6, f7⟩ := sAll_cons f4
        have f6 : u1 = .ref 525 := f6
        obtain rfl := sAll_nil f7
        have f2 : (d : Int) ≤ mi'.toInt := f2
        have f3 : mi'.toInt ≤ (d : Int) := f3
        have em : mi' = yI d := yI_of (by omega)
        subst em
        subst f6 f5 f1 f0
        have k1 := keepU (is := [1, 2, 3]) a3 (i := 1) (by decide) l1
        have k2 := keepU (is := [1, 2, 3]) a3 (i := 2) (by decide) l2
        have k3 := keepU (is := [1, 2, 3]) a3 (i := 3) (by decide) l3
        obtain ⟨M, g1, g2, g3, ⟨y, g4, g5⟩, -⟩ := y165_val (fr := 9) (lo := 200) (XN := sXNl L) (XF := sXF xs) (zx := zRx) (con := fun _ => []) (N := N2) hp2 a5 (r := d) (by omega) (k9.trans hx) (by omega) x9c rfl rfl
        have gp : zPm M := g3.2.2.2.2.2.1.2
        have gc : uC N2 M := fun j hj => g3.2.2.2.1 _ (by omega) (by
          obtain rfl | rfl | rfl | rfl | rfl | rfl | rfl | rfl := (by omega : j = 0 ∨ j = 1 ∨ j = 2 ∨ j = 3 ∨ j = 4 ∨ j = 5 ∨ j = 6 ∨ j = 7) <;> decide +kernel)
        rcases zSeg_snd (R := (0, (0, false))) (X := uX) (N := M) (V := []) (Nl := Nl2) (XN := sXNl L) (XF := sXF xs) y168_D (zRw_ok _ _) uX_ok (fun _ _ h => by cases h) (zSx_x xs L) ⟨⟨gp, gp⟩, rfl⟩ g2 (zGood_roomU g2) (fun q hq => by
            simp only [List.mem_cons, List.not_mem_nil, or_false] at hq
            rcases hq with rfl | rfl | rfl | rfl
            · exact ⟨_, x0, rfl⟩
            · exact ⟨_, k1, l, rfl, z32 l⟩
            · exact ⟨_, k2, _, rfl, z32 _⟩
            · exact ⟨_, k3, yI d, rfl, z32 _⟩) trivial (fun q hq => by cases hq) with ⟨p, hpm, Nl3, V3, N3, ⟨b1, b2, b3, -, b5, b6⟩, hrun2⟩ | ⟨rt, hrt, -⟩
        · obtain rfl := List.mem_singleton.mp hpm
          have b5 : zGood zR9 N3 := b5
          have kc2 : uC M N3 := fun j hj => (zRk_k (.inl rfl) b6).1.2.2.2.2.1 (by omega) j hj
          have k92 : mAtk N3 1077257 = mAtk M 1077257 := b6.2.2.2.2.2.2
          obtain ⟨v0, x0', x1⟩ := b1 (0, z525) List.mem_cons_self
          have x1 : v0 = .ref 525 := x1
          subst x1
          have b2 : sAll zArV [] V3 := b2
          obtain rfl := sAll_nil b2
          obtain ⟨M2, r1, r2⟩ := back N3 Nl3 y x0' (keepU (is := [1, 2, 3]) b3 (i := 1) (by decide) k1) (keepU (is := [1, 2, 3]) b3 (i := 2) (by decide) k2) (keepU (is := [1, 2, 3]) b3 (i := 3) (by decide) k3) b5 b6.2.2.2.2.2.1.2 (k92.trans g4) (by omega)
          refine ⟨M2, hrun _ ?_, fun j hj => (r2 j hj).trans ((kc2 j hj).trans ((gc j hj).trans (kc j hj)))⟩
          exact st_call (o := 525) (as := [.int (yI d)]) (S := []) (w := none) (M1 := M) h_168_81 rfl rfl rfl (yM_b (yMod_good a5)) (yM_c (yMod_good a5)) rfl rfl rfl rfl (mRuns_more g1 (by decide) (by decide)) rfl (hrun2 _ r1)
        · cases hrt
    · cases hrt
theorem y168S (H : ∀ mi, ∀ i ∈ zQt mi, zVal zR9 zXp mTab mInf (sXNl L) (sXF xs) mi i) {b : Nat} {N : mMem} (hI : zAll b N) (hb : b ≤ 2147000000) {n : Int32} (hn : mAtk N 1077254 = .int n) {u : Nat} (hu : u < 256) (hc : ∀ j, j < 8 → mAtk N (1077278 + j) = .int (yI (uBit u j))) (l s : Int32) (hs : s.toInt = 0 ∨ s.toInt = 1) :
    ∃ v N1, mRuns mTab mInf (sXNl L) (sXF xs) 10 300 168 (0, lv_args 0 [.ref 525, .int l, .int s], [], N) (some (.int v), N1) ∧ zAll (b + 1) N1 ∧ zRl zR9 zXp 2 1 N N1 ∧ ((uOk (n.toInt + 3) u l s ∧ v = Int32.ofInt 1 ∧ ∀ j, j < 8 → mAtk N1 (1077278 + j) = if j = l.toInt.toNat then .int s else mAtk N (1077278 + j)) ∨ (¬ uOk (n.toInt + 3) u l s ∧ v = Int32.ofInt 0 ∧ uC N N1)) := by
  obtain ⟨v, N1, r1, r2, r3, r4, rl⟩ := zCheck lm_cutS (.inr (.inl rfl)) H hI hb (bs := [.ref 525, .int l, .int s]) ⟨rfl, ⟨l, rfl, z32 l⟩, ⟨s, rfl, by show (0 : Int) ≤ _; omega, by show _ ≤ (1 : Int); omega⟩, trivial⟩
  obtain ⟨x, hx, -, -⟩ := r3
  have hx : v = some (.int x) := hx
  subst hx
  refine ⟨x, N1, r1, r2, rl, ?_⟩
  have hg := hI.2.1
  have hp := zInv_pm hI.2
  obtain ⟨n', n0, n1, n2, n3⟩ := zN_cell hI.2 (k := 6) (by omega)
  have n2 : -1 ≤ n'.toInt := n2
  have n3 : n'.toInt ≤ 5 := n3
  have en : n' = n := Value.int.inj (n0.symm.trans hn)
  subst en
  obtain ⟨m, hm⟩ : ∃ m : Nat, n'.toInt = (m : Int) - 1 := ⟨(n'.toInt + 1).toNat, by omega⟩
  have sb : ∀ q ∈ ([(0, z525), (1, (0, (0, zR32))), (2, (0, (0, (0, 1))))] : List (Nat × zL)), True := fun _ _ => trivial
  have hand : ∃ w M, mRuns mTab mInf (sXNl L) (sXF xs) 10 300 168 (0, lv_args 0 [.ref 525, .int l, .int s], [], N) (some (.int w), M) ∧ ((uOk (n'.toInt + 3) u l s ∧ w = Int32.ofInt 1 ∧ ∀ j, j < 8 → mAtk M (1077278 + j) = if j = l.toInt.toNat then .int s else mAtk N (1077278 + j)) ∨ (¬ uOk (n'.toInt + 3) u l s ∧ w = Int32.ofInt 0 ∧ uC N M)) := by
    by_cases c : 0 ≤ l.toInt ∧ l.toInt < n'.toInt + 3
    · obtain ⟨k, hk⟩ : ∃ k : Nat, l.toInt = (k : Int) := ⟨l.toInt.toNat, by omega⟩
      have hk8 : k < 8 := by omega
      have el : l = yI k := yI_of hk
      subst el
      have ek : (yI k).toInt.toNat = k := by rw [hk]; rfl
      have ub : uBit u k = 0 ∨ uBit u k = 1 := by unfold uBit; omega
      have hbI : (yI (uBit u k)).toInt = (uBit u k : Int) := yI_int (by omega)
      have w := List.all_eq_true.mp y168_A (8 * m + k) (List.mem_range.mpr (by omega))
      rw [show (8 * m + k) / 8 = m by omega, show (8 * m + k) % 8 = k by omega, show Nat.blt k (m + 2) = true from by rw [Nat.blt_eq]; omega, Bool.not_true, Bool.false_or] at w
      have w := List.all_eq_true.mp w (uBit u k) (by rcases ub with e | e <;> rw [e] <;> decide)
      rcases zSeg_snd (R := (0, (0, false))) (X := zXp) (N := N) (V := []) (Nl := lv_args 0 [.ref 525, .int (yI k), .int s]) (XN := sXNl L) (XF := sXF xs) w (zRw_ok _ _) zXp_ok (fun _ _ h => by cases h) (zSx_x xs L) ⟨hp, hp⟩ hg (zGood_roomU hg) (fun q hq => by
          simp only [List.mem_cons, List.not_mem_nil, or_false] at hq
          rcases hq with rfl | rfl | rfl
          · exact ⟨.ref 525, rfl, rfl⟩
          · exact ⟨.int (yI k), rfl, yI k, rfl, by show (k : Int) ≤ _; omega, by show _ ≤ (k : Int); omega⟩
          · exact ⟨.int s, rfl, s, rfl, by show (0 : Int) ≤ _; omega, by show _ ≤ (1 : Int); omega⟩) trivial (fun q hq => by
          simp only [List.mem_cons, List.not_mem_nil, or_false] at hq
          rcases hq with rfl | rfl
          · exact ⟨n', n0, by show (m : Int) - 1 ≤ _; omega, by show _ ≤ (m : Int) - 1; omega⟩
          · exact ⟨_, hc k hk8, by show ((uBit u k : Nat) : Int) ≤ _; omega, by show _ ≤ ((uBit u k : Nat) : Int); omega⟩) with ⟨p, hpm, Nl2, V2, N2, ⟨a1, a2, a3, -, a5, a6⟩, hrun⟩ | ⟨rt, hrt, -⟩
      · obtain rfl := List.mem_singleton.mp hpm
        have a5 : zGood zR9 N2 := a5
        have hp2 : zPm N2 := a6.2.2.2.2.2.2
        have kc : uC N N2 := fun j hj => (zRk_k (.inl rfl) a6).1.2.2.2.2.1 (by omega) j hj
        obtain ⟨v0, x0, x1⟩ := a1 (0, z525) List.mem_cons_self
        have x1 : v0 = .ref 525 := x1
        subst x1
        have a2 : sAll zArV [(0, (0, uK (uBit u k)))] V2 := a2
        obtain ⟨u0, r0, f0, ⟨mb, f1, f2, f3⟩, f4⟩ := sAll_cons a2
        obtain rfl := sAll_nil f4
        have f2 : ((uBit u k : Nat) : Int) ≤ mb.toInt := f2
        have f3 : mb.toInt ≤ ((uBit u k : Nat) : Int) := f3
        have em : mb = yI (uBit u k) := yI_of (by omega)
        subst em
        subst f1 f0
        have l1 := keepU (is := [1, 2]) a3 (i := 1) (by decide) (show mLk (lv_args 0 [.ref 525, .int (yI k), .int s]) 1 = some (.int (yI k)) from rfl)
        have l2 := keepU (is := [1, 2]) a3 (i := 2) (by decide) (show mLk (lv_args 0 [.ref 525, .int (yI k), .int s]) 2 = some (.int s) from rfl)
        by_cases e : ((uBit u k : Nat) : Int) = s.toInt
        · refine ⟨Int32.ofInt 0, N2, hrun _ ?_, .inr ⟨fun h => h.2.2 (by rw [ek]; exact e), rfl, kc⟩⟩
          refine st_iload h_168_18 l2 ?_
          refine st_icmp h_168_19 ?_
          rw [show mIf .ne (yI (uBit u k)) s = false from by
            show (!decide (yI (uBit u k) = s)) = false
            rw [decide_eq_true (Int32.toInt_inj.mp (hbI.trans e))]
            rfl, cond_false]
          refine st_iconst h_168_22 ?_
          exact st_ireturn h_168_23 (ty := .boolean) rfl rfl
        · have ok : uOk (n'.toInt + 3) u (yI k) s := ⟨c.1, c.2, by rw [ek]; exact e⟩
          have hN2 := yMod_good a5
          have h2 := yRw_0 N2 526 (fun _ => Value.null) 0
          have w3 := yRw_s (x := s) (yRw_0 N2 526 (fun _ => Value.int s) (30 + k)) (by omega) (by omega) (by omega) rfl
          obtain ⟨N3, e3⟩ : ∃ N3, N3 = mPut N2 526 (mCset (mObj N2 526) (30 + k) (.int s)) := ⟨_, rfl⟩
          have g3 : zGood zR9 N3 := by rw [e3]; exact zGood_cut hk8 a5 (by omega)
          have p3 : ∀ key, key < 2097152 → mAtk N3 key = if key = 526 * 2048 + (30 + k) then .int s else mAtk N2 key := fun key hkey => by rw [e3]; exact mAtk_put (by omega) (by omega) hkey
          have pm3 : zPm N3 := fun i hi a b => by
            have z : ∀ j, j < 1850 → j ≠ 30 + k → zN N3 j = zN N2 j := fun j hj hjk => zN_eq (by rw [p3 _ (by omega), if_neg (by omega)])
            rw [z 9 (by omega) (by omega)] at a
            rw [z (710 + 7 * i) (by omega) (by omega)] at b
            rw [z (714 + 7 * i) (by omega) (by omega)]
            exact hp2 i hi a b
          rw [← e3] at w3
          have hN3 := yMod_good g3
          obtain ⟨x9, x9a, x9b, x9c⟩ := zGood_int g3 (k := 9) (by omega)
          have x9b : 0 ≤ x9.toInt := x9b
          have x9c : x9.toInt ≤ 100 := x9c
          have x9d := x9a
          rw [← y_at N3 (by omega)] at x9d
          have cuts3 : ∀ j, j < 8 → mAtk N3 (1077278 + j) = if j = k then .int s else mAtk N (1077278 + j) := fun j hj => by
            rw [p3 _ (by omega)]
            by_cases ej : j = k
            · rw [if_pos (by omega), if_pos ej]
            · rw [if_neg (by omega), if_neg ej]
              exact kc j hj
          have to52 : ∀ z, mRuns mTab mInf (sXNl L) (sXF xs) 10 300 168 (52, mSt1 Nl2 3 (.int (x9 - Int32.ofInt 1)), [], N3) z → mRuns mTab mInf (sXNl L) (sXF xs) 10 300 168 (18, Nl2, [.int (yI (uBit u k))], N2) z := fun z hz => by
            refine st_iload h_168_18 l2 ?_
            refine st_icmp h_168_19 ?_
            rw [show mIf .ne (yI (uBit u k)) s = true from by
              show (!decide (yI (uBit u k) = s)) = true
              rw [decide_eq_false (fun q => e (by rw [← hbI, q]))]
              rfl, cond_true]
            refine st_aload h_168_24 x0 ?_
            refine st_getfield h_168_25 (yM_lt hN2 h2 525 (by omega)) (yM_k hN2 h2) (yM_n hN2 h2 1 (by omega)) (yM_f h2 (by omega) 1 (by omega) hN2.2.2.1.1) ?_
            refine st_iconst h_168_28 ?_
            refine st_iload h_168_30 l1 ?_
            refine st_iadd h_168_31 ?_
            rw [show Int32.ofInt 30 + yI k = yI (30 + k) from by unfold yI; rw [← Int32.ofInt_add]; rfl]
            refine st_iload h_168_32 l2 ?_
            refine st_if h_168_33 ?_
            have tail : mRuns mTab mInf (sXNl L) (sXF xs) 10 300 168 (41, Nl2, [.int s, .int (yI (30 + k)), .ref 526], N2) z := by
              refine st_iastore (i := yI (30 + k)) h_168_41 (yM_lt hN2 h2 526 (by omega)) (yR_k hN2 h2 526 (by omega) (by omega)) (yR_i hN2 h2 526 (by omega) (by omega) (by omega)) ?_
              rw [yI_nat (by omega), ← e3]
              refine st_aload h_168_42 x0 ?_
              refine st_getfield h_168_43 (yM_lt hN2 w3 525 (by omega)) (yM_k hN2 w3) (yM_n hN2 w3 1 (by omega)) (yM_f w3 (by omega) 1 (by omega) hN2.2.2.1.1) ?_
              refine st_iconst h_168_46 ?_
              refine st_iaload (i := yI 9) (x := x9) h_168_48 rfl (yM_lt hN2 w3 526 (by omega)) (yR_k hN2 w3 526 (by omega) (by omega)) (yR_i hN2 w3 526 (by omega) (by omega) (by omega)) (by rw [yI_nat (by omega)]; exact x9a) ?_
              refine st_iconst h_168_49 ?_
              refine st_isub h_168_50 ?_
              refine st_istore h_168_51 (by rfl) ?_
              exact hz
            rcases hs with hs | hs
            · have es : s = Int32.ofInt 0 := Int32.toInt_inj.mp (by rw [hs]; decide)
              subst es
              rw [show mIf .eq (Int32.ofInt 0) 0 = true from by decide, cond_true]
              exact st_iconst h_168_40 tail
            · have es : s = Int32.ofInt 1 := Int32.toInt_inj.mp (by rw [hs]; decide)
              subst es
              rw [show mIf .eq (Int32.ofInt 1) 0 = false from by decide, cond_false]
              refine st_iconst h_168_36 ?_
              exact st_goto h_168_37 tail
          have w9 : (x9 - Int32.ofInt 1).toInt = x9.toInt - 1 := i32_val (by rw [Int32.ofInt_sub, Int32.ofInt_toInt]) (by omega) (by omega)
          rcases hs with hs | hs
          · have es : s = Int32.ofInt 0 := Int32.toInt_inj.mp (by rw [hs]; decide)
            subst es
            refine ⟨Int32.ofInt 1, N3, hrun _ (to52 _ ?_), .inl ⟨ok, rfl, by rw [ek]; exact cuts3⟩⟩
            have fin : ∀ Nl, mRuns mTab mInf (sXNl L) (sXF xs) 10 300 168 (95, Nl, [], N3) (some (.int (Int32.ofInt 1)), N3) := fun Nl => by
              refine st_iconst h_168_95 ?_
              exact st_ireturn h_168_96 (ty := .boolean) rfl rfl
            refine st_iload h_168_52 mLk_same ?_
            refine st_if h_168_53 ?_
            cases mIf .lt (x9 - Int32.ofInt 1) 0 with
            | true => rw [cond_true]; exact fin _
            | false =>
              rw [cond_false]
              refine st_iload h_168_56 (mLk_ne l2 (by omega) rfl) ?_
              refine st_if h_168_57 ?_
              rw [show mIf .eq (Int32.ofInt 0) 0 = true from by decide, cond_true]
              exact fin _
          · have es : s = Int32.ofInt 1 := Int32.toInt_inj.mp (by rw [hs]; decide)
            subst es
            obtain ⟨d, hd⟩ : ∃ d : Nat, x9.toInt = (d : Int) := ⟨x9.toInt.toNat, by omega⟩
            obtain ⟨M, q1, q2⟩ := y168_loop (xs := xs) (L := L) (l := yI k) (by omega) d N3 (mSt1 Nl2 3 (.int (x9 - Int32.ofInt 1))) (x9 - Int32.ofInt 1) x9 (by omega) (mLk_ne x0 (by omega) rfl) (mLk_ne l1 (by omega) rfl) (mLk_ne l2 (by omega) rfl) mLk_same (by omega) g3 pm3 x9d (by omega)
            exact ⟨Int32.ofInt 1, M, hrun _ (to52 _ q1), .inl ⟨ok, rfl, fun j hj => by rw [q2 j hj, ek]; exact cuts3 j hj⟩⟩
      · cases hrt
    · obtain ⟨r, hr, q1, q2⟩ : ∃ r : Int × Int, r ∈ ([(-2147483648, -1), (((m + 2 : Nat) : Int), 2147483647)] : List (Int × Int)) ∧ r.1 ≤ l.toInt ∧ l.toInt ≤ r.2 := by
        have g := i32_rg l
        by_cases d : l.toInt ≤ -1
        · exact ⟨_, List.mem_cons_self, g.1, d⟩
        · exact ⟨_, List.mem_cons_of_mem _ List.mem_cons_self, by show ((m + 2 : Nat) : Int) ≤ _; omega, g.2⟩
      rcases zSeg_snd (R := (0, (0, false))) (X := zXp) (N := N) (V := []) (Nl := lv_args 0 [.ref 525, .int l, .int s]) (XN := sXNl L) (XF := sXF xs) (List.all_eq_true.mp (List.all_eq_true.mp y168_B m (List.mem_range.mpr (by omega))) r hr) (zRw_ok _ _) zXp_ok (fun _ _ h => by cases h) (zSx_x xs L) ⟨hp, hp⟩ hg (zGood_roomU hg) (fun q hq => by
          simp only [List.mem_cons, List.not_mem_nil, or_false] at hq
          rcases hq with rfl | rfl | rfl
          · exact ⟨.ref 525, rfl, rfl⟩
          · exact ⟨.int l, rfl, l, rfl, q1, q2⟩
          · exact ⟨.int s, rfl, s, rfl, by show (0 : Int) ≤ _; omega, by show _ ≤ (1 : Int); omega⟩) trivial (fun q hq => by
          obtain rfl := List.mem_singleton.mp hq
          exact ⟨n', n0, by show (m : Int) - 1 ≤ _; omega, by show _ ≤ (m : Int) - 1; omega⟩) with ⟨p, hpm, -⟩ | ⟨rt, hrt, ⟨zv, zm⟩, z1, z2, z3, z4, -⟩
      · cases hpm
      · cases hrt
        obtain ⟨y, hy, b1, b2⟩ := z4
        have hy : zv = some (.int y) := hy
        subst hy
        have b1 : 0 ≤ y.toInt := b1
        have b2 : y.toInt ≤ 0 := b2
        exact ⟨y, zm, z1, .inr ⟨fun h => c ⟨h.1, h.2.1⟩, Int32.toInt_inj.mp (by rw [show (Int32.ofInt 0).toInt = 0 by decide]; omega), fun j hj => (zRk_k (.inl rfl) z3).1.2.2.2.2.1 (by omega) j hj⟩⟩
  obtain ⟨w, M, h1, h2⟩ := hand
  have ez := mRuns_one r1 h1
  have e1 : x = w := Value.int.inj (Option.some.inj (congrArg Prod.fst ez))
  have e2 : N1 = M := congrArg Prod.snd ez
  rw [e1, e2]
  exact h2
/-- the relation through cut -/
theorem lRel_cut {N N1 N2 : mMem} {k1 k2 : Nat} (hr : lRel N) (h1 : zRl zC0 zXt 4 k1 N N1) (h2 : zRl zR9 zXp 2 k2 N1 N2) (hu : lFC = true → ∃ u : Int32, 0 ≤ u.toInt ∧ u.toInt < 256 ∧ mAtk N1 2051 = .int u ∧ ∀ j, j < 8 → mAtk N2 (1077278 + j) = .int (Int32.ofInt (u.toInt / 2 ^ j % 2))) : lRel N2 := by
  have mv := zMv_rl h2
  have hf := (zRk_k (.inr (.inl rfl)) h2).1
  obtain ⟨f5, f6, fa, fb, -, f8⟩ := hf
  have fa := fa (by omega)
  have fb := fb (by omega)
  have lo := fun key (h : key < 1075200) => mv.2.2 key h
  have k3 : ∀ key, key < 2097152 → zKc 4 key = true → mAtk N1 key = mAtk N key := fun key a b => h1.2.2.2.1 key a b
  have lo2 : ∀ key, key < 1075200 → zKc 4 key = true → mAtk N2 key = mAtk N key := fun key a b => (lo key a).trans (k3 key (by omega) b)
  have hi2 : ∀ key, 1075200 ≤ key → key < 2097152 → mAtk N1 key = mAtk N key := fun key a b => k3 key b (by
    unfold zKc
    rw [Nat.ble_eq.mpr a]
    rfl)
  obtain ⟨r1, r2, r3, r4⟩ := hr
  refine ⟨f5.trans ((hi2 _ (by decide) (by decide)).trans (r1.trans (lo2 4 (by decide) (by decide +kernel)).symm)), fun k u v => ?_, ?_, fun e => ?_⟩
  · obtain rfl | rfl | rfl := (by omega : k = 1 ∨ k = 2 ∨ k = 3)
    · exact (lo2 270337 (by decide) (by decide +kernel)).trans (r2 1 u v)
    · exact (lo2 270338 (by decide) (by decide +kernel)).trans (r2 2 u v)
    · exact (lo2 270339 (by decide) (by decide +kernel)).trans (r2 3 u v)
  · obtain ⟨⟨n', x', d1, d2, d3⟩, g1, g2, g3⟩ := r3
    refine ⟨⟨n', x', (lo2 2048 (by decide) (by decide +kernel)).trans d1, f6.trans ((hi2 _ (by decide) (by decide)).trans d2), d3⟩, fun q => ?_, fun q => ?_, fun q => ?_⟩
    · obtain ⟨s, s1, s2⟩ := g1 q
      exact ⟨s, (lo2 2049 (by decide) (by decide +kernel)).trans s1, fa.trans ((hi2 _ (by decide) (by decide)).trans s2)⟩
    · obtain ⟨s, s1, s2⟩ := g2 q
      exact ⟨s, (lo2 2050 (by decide) (by decide +kernel)).trans s1, fb.trans ((hi2 _ (by decide) (by decide)).trans s2)⟩
    · obtain ⟨u, u0, u1, u2, u3⟩ := hu q
      refine ⟨u, u0, u1, (lo _ (by decide)).trans u2, fun j hj => ?_⟩
      show mAtk N2 (1077248 + (30 + j)) = _
      rw [show 1077248 + (30 + j) = 1077278 + j by omega]
      exact u3 j hj
  · rw [lo2 4 (by decide) (by decide +kernel)] at e
    refine lSide_all (fun k hk => ?_) (fun k hk => (f8 k hk).trans (hi2 _ (by omega) (by omega))) (r4 e)
    obtain rfl | rfl | rfl | rfl := (by omega : k = 0 ∨ k = 1 ∨ k = 2 ∨ k = 3)
    · exact lo2 806912 (by decide) (by decide +kernel)
    · exact lo2 806913 (by decide) (by decide +kernel)
    · exact lo2 806914 (by decide) (by decide +kernel)
    · exact lo2 806915 (by decide) (by decide +kernel)
theorem uBit_int (u j : Nat) : ((u : Int) / 2 ^ j % 2) = (uBit u j : Int) := by
  unfold uBit
  norm_cast
/-- CUTS of both sides after a cut -/
theorem uNew_ok {u l : Nat} (hu : u < 256) (hl : l < 8) : 0 ≤ (uNew u l).toInt ∧ (uNew u l).toInt < 256 ∧ ∀ j, j < 8 → (uNew u l).toInt / 2 ^ j % 2 = if j = l then 1 - (uBit u l : Int) else (uBit u j : Int) := by
  obtain ⟨h1, h2⟩ := and_inv (List.all_eq_true.mp (List.all_eq_true.mp uNew_B u (List.mem_range.mpr hu)) l (List.mem_range.mpr hl))
  obtain ⟨h2, h3⟩ := and_inv h2
  rw [sILe_d] at h1
  rw [sILt_d] at h2
  refine ⟨of_decide_eq_true h1, of_decide_eq_true h2, fun j hj => ?_⟩
  have h := List.all_eq_true.mp h3 j (List.mem_range.mpr hj)
  rw [sIEq_d] at h
  have h := of_decide_eq_true h
  rw [h]
  by_cases e : j = l
  · rw [if_pos e, e, Nat.beq_refl, cond_true]
  · rw [if_neg e, nbeq_f e, cond_false]
end YCU

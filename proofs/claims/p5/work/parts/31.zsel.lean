/-! ===== the box machine: a row of a body, its run ===== -/
abbrev zK : Type := zB → zRes → Bool
abbrev zCl : Type := Nat → Nat → Nat → List sV → zM → zB → zRet → Bool
/-- arguments that are told one by one are split -/
noncomputable def zAsp (as : List zA) : List sV → zB → (zB → Bool) → Bool :=
  List.rec (motive := fun _ => List sV → zB → (zB → Bool) → Bool) (fun _ B k => k B) (fun a _ ih vs B k => match vs with
    | .inl x :: r => bif Nat.beq a.1 0 && sIEq a.2.2.1 a.2.2.2 then zCst B x fun B1 _ => ih r B1 k else ih r B k
    | _ :: r => ih r B k
    | [] => k B) as
noncomputable def zCall (I : Nat → mI) (W : zW) (R : zR) (call : zCl) (fr lo nx mi : Nat) (L : List (Nat × sV)) (as r : List sV) (M : zM) (B : zB) (k : zK) : Bool :=
  (Nat.ble (sCats r) 8 && (Nat.ble 1 fr && (Nat.ble (19 + (I mi).2.2.1) lo && Nat.ble (sCats as) (I mi).2.2.1))) && match zWi W mi with
    | [] => call mi (fr - 1) (lo - (19 + (I mi).2.2.1)) as M B fun B1 w => k B1 (.inl (nx, L, w.1.toList ++ r, w.2))
    | i :: is => zFl W B M.1 && zAsp (zSa i) as B fun B0 => zAgr W R B0 M mi (fr - 1) (lo - (19 + (I mi).2.2.1)) as (fun B1 w => k B1 (.inl (nx, L, w.1.toList ++ r, w.2))) (i :: is)
/-- an index is within an array -/
noncomputable def zIx (B : zB) (i : sI) (n : Nat) : Bool := Nat.ble n 2048 && (zLo B i 0 && zHi B i ((n : Int) - 1))
abbrev zHn : Type := zCl → Nat → Nat → Nat → Option FieldType → List (Nat × sV) → List sV → zM → zB → zK → Bool
noncomputable def zSel (I : Nat → mI) (W : zW) (R : zR) (xs : Bool) (sX : Nat → Nat → sI) (nx pc : Nat) (v : Int) (r1 r2 : Nat) (ni : ClassFile.Instr) : Option zHn := match ni with
    | .iconst _ => some fun call fr lo nL rt L S M B k => sR32 v v && k B (.inl (nx, L, .inl (0, v) :: S, M))
    | .lconst _ => some fun call fr lo nL rt L S M B k => (sILe (-9223372036854775808) (v) && sILe (v) (9223372036854775807)) && k B (.inl (nx, L, .inr (.inl (0, v)) :: S, M))
    | .aconst_null => some fun call fr lo nL rt L S M B k => k B (.inl (nx, L, .inr (.inr none) :: S, M))
    | .iload i => some fun call fr lo nL rt L S M B k => match sLk L i with
      | some (.inl x) => k B (.inl (nx, L, .inl x :: S, M))
      | _ => false
    | .lload i => some fun call fr lo nL rt L S M B k => match sLk L i with
      | some (.inr (.inl x)) => k B (.inl (nx, L, .inr (.inl x) :: S, M))
      | _ => false
    | .aload i => some fun call fr lo nL rt L S M B k => match sLk L i with
      | some (.inr (.inr x)) => k B (.inl (nx, L, .inr (.inr x) :: S, M))
      | _ => false
    | .istore i => some fun call fr lo nL rt L S M B k => sI1 S fun x r => Nat.blt i nL && k B (.inl (nx, zSt1 L i (.inl x), r, M))
    | .lstore i => some fun call fr lo nL rt L S M B k => sL1 S fun x r => Nat.blt (i + 1) nL && k B (.inl (nx, zSt2 L i (.inr (.inl x)), r, M))
    | .astore i => some fun call fr lo nL rt L S M B k => sN1 S fun x r => Nat.blt i nL && k B (.inl (nx, zSt1 L i (.inr (.inr x)), r, M))
    | .iinc i _ => some fun call fr lo nL rt L S M B k => match sLk L i with
      | some (.inl x) => (Nat.blt i nL && sR32 v v) && zAdd B x (0, v) fun B1 z => k B1 (.inl (nx, zSt1 L i (.inl z), S, M))
      | _ => false
    | .iadd => some fun call fr lo nL rt L S M B k => sI2 S fun x y r => zAdd B x y fun B1 z => k B1 (.inl (nx, L, .inl z :: r, M))
    | .isub => some fun call fr lo nL rt L S M B k => sI2 S fun x y r => zSub B x y fun B1 z => k B1 (.inl (nx, L, .inl z :: r, M))
    | .imul => some fun call fr lo nL rt L S M B k => sI2 S fun x y r => zMul R.2.2 B x y fun B1 z => k B1 (.inl (nx, L, .inl z :: r, M))
    | .idiv => some fun call fr lo nL rt L S M B k => sI2 S fun x y r => zDiv B x y fun B1 z => k B1 (.inl (nx, L, .inl z :: r, M))
    | .irem => some fun call fr lo nL rt L S M B k => sI2 S fun x y r => zRem B x y fun B1 z => k B1 (.inl (nx, L, .inl z :: r, M))
    | .iand => some fun call fr lo nL rt L S M B k => sI2 S fun x y r => zAnd B x y fun B1 z => k B1 (.inl (nx, L, .inl z :: r, M))
    | .ior => some fun call fr lo nL rt L S M B k => sI2 S fun x y r => zF32 B fun B1 z => k B1 (.inl (nx, L, .inl z :: r, M))
    | .ixor => some fun call fr lo nL rt L S M B k => sI2 S fun x y r => zF32 B fun B1 z => k B1 (.inl (nx, L, .inl z :: r, M))
    | .ishl => some fun call fr lo nL rt L S M B k => sI2 S fun x y r => zF32 B fun B1 z => k B1 (.inl (nx, L, .inl z :: r, M))
    | .ishr => some fun call fr lo nL rt L S M B k => sI2 S fun x y r => zF32 B fun B1 z => k B1 (.inl (nx, L, .inl z :: r, M))
    | .iushr => some fun call fr lo nL rt L S M B k => sI2 S fun x y r => zUsh B y fun B1 z => k B1 (.inl (nx, L, .inl z :: r, M))
    | .ladd => some fun call fr lo nL rt L S M B k => sL2 S fun x y r => zF64 B fun B1 z => k B1 (.inl (nx, L, .inr (.inl z) :: r, M))
    | .lmul => some fun call fr lo nL rt L S M B k => sL2 S fun x y r => zF64 B fun B1 z => k B1 (.inl (nx, L, .inr (.inl z) :: r, M))
    | .ldiv => some fun call fr lo nL rt L S M B k => sL2 S fun x y r => zNz B y fun B1 => zF64 B1 fun B2 z => k B2 (.inl (nx, L, .inr (.inl z) :: r, M))
    | .land => some fun call fr lo nL rt L S M B k => sL2 S fun x y r => zF64 B fun B1 z => k B1 (.inl (nx, L, .inr (.inl z) :: r, M))
    | .lor => some fun call fr lo nL rt L S M B k => sL2 S fun x y r => zF64 B fun B1 z => k B1 (.inl (nx, L, .inr (.inl z) :: r, M))
    | .lshl => some fun call fr lo nL rt L S M B k => sLI S fun x y r => zF64 B fun B1 z => k B1 (.inl (nx, L, .inr (.inl z) :: r, M))
    | .lcmp => some fun call fr lo nL rt L S M B k => sL2 S fun x y r => zLt B y x fun B1 b => bif b then k B1 (.inl (nx, L, .inl (0, 1) :: r, M)) else zEq B1 x y fun B2 c => k B2 (.inl (nx, L, .inl (0, bif c then 0 else -1) :: r, M))
    | .i2l => some fun call fr lo nL rt L S M B k => sI1 S fun x r => k B (.inl (nx, L, .inr (.inl x) :: r, M))
    | .l2i => some fun call fr lo nL rt L S M B k => sL1 S fun x r => zRg B x fun l h => bif sR32 l h then k B (.inl (nx, L, .inl x :: r, M)) else zF32 B fun B1 z => k B1 (.inl (nx, L, .inl z :: r, M))
    | .dup => some fun call fr lo nL rt L S M B k => sV1 S fun w r => Nat.beq (sCat w) 1 && k B (.inl (nx, L, w :: w :: r, M))
    | .dup2 => some fun call fr lo nL rt L S M B k => sV2 S fun w u r => (Nat.beq (sCat w) 1 && Nat.beq (sCat u) 1) && k B (.inl (nx, L, w :: u :: w :: u :: r, M))
    | .pop => some fun call fr lo nL rt L S M B k => sV1 S fun w r => Nat.beq (sCat w) 1 && k B (.inl (nx, L, r, M))
    | .pop2 => some fun call fr lo nL rt L S M B k => sV1 S fun w r => Nat.beq (sCat w) 2 && k B (.inl (nx, L, r, M))
    | .ifCond c _ => some fun call fr lo nL rt L S M B k => sI1 S fun x r => zCond c B x (0, 0) fun B1 b => k B1 (.inl (bif b then r1 else nx, L, r, M))
    | .if_icmp c _ => some fun call fr lo nL rt L S M B k => sI2 S fun x y r => zCond c B x y fun B1 b => k B1 (.inl (bif b then r1 else nx, L, r, M))
    | .goto _ => some fun call fr lo nL rt L S M B k => k B (.inl (r1, L, S, M))
    | .ifnull _ => some fun call fr lo nL rt L S M B k => sN1 S fun x r => match x with
      | none => k B (.inl (r1, L, r, M))
      | some _ => k B (.inl (nx, L, r, M))
    | .ifnonnull _ => some fun call fr lo nL rt L S M B k => sN1 S fun x r => match x with
      | none => k B (.inl (nx, L, r, M))
      | some _ => k B (.inl (r1, L, r, M))
    | .tableswitch _ tl th offs => some fun call fr lo nL rt L S M B k => sI1 S fun x r => zLt B x (0, tl) fun B1 b => bif b then k B1 (.inl (r1, L, r, M)) else zLt B1 (0, th) x fun B2 c => bif c then k B2 (.inl (r1, L, r, M)) else zCst B2 x fun B3 a => match offs[(a - tl).toNat]? with
      | some off => decide (0 ≤ (pc : Int) + off) && k B3 (.inl (((pc : Int) + off).toNat, L, r, M))
      | none => false
    | .getfield _ => some fun call fr lo nL rt L S M B k => sR1 S fun o r => (Nat.blt o 529 && (Nat.beq (zWo W o).1 r1 && (Nat.blt r2 (zWo W o).2.1 && Nat.blt r2 2048))) && zRead W R M B (o * 2048 + r2) fun B1 M1 w => k B1 (.inl (nx, L, w :: r, M1))
    | .putfield _ => some fun call fr lo nL rt L S M B k => sVR S fun w o r => ((Nat.blt o 529 && (Nat.beq (zWo W o).1 r1 && (Nat.blt r2 (zWo W o).2.1 && (Nat.ble (zWo W o).2.1 2048 && Nat.blt r1 100)))) && zFit B (mTyX r1 r2) w) && zWrite W R M (o * 2048 + r2) w fun M1 => k B (.inl (nx, L, r, M1))
    | .getstatic _ => some fun call fr lo nL rt L S M B k => k B (.inl (nx, L, .inr (.inr (some (1000000 + r1))) :: S, M))
    | .iaload => some fun call fr lo nL rt L S M B k => sRI S fun o i r => bif Nat.blt o 1000000 then
          (Nat.blt o 529 && (Nat.beq (zWo W o).1 100 && zIx B i (zWo W o).2.1)) && zRg B i fun l h =>
            bif (zWo W o).2.2 then (bif sIEq l h then (match zLk M.1 (o * 2048 + l.toNat) with
                | some (.inl x, _) => k B (.inl (nx, L, .inl x :: r, M))
                | some _ => false
                | none => zF32 B fun B1 x => k B1 (.inl (nx, L, .inl x :: r, ((o * 2048 + l.toNat, (.inl x, false)) :: M.1, M.2))))
              else zF32 B fun B1 x => k B1 (.inl (nx, L, .inl x :: r, M))) else
            bif (R.2.2 && sILt 2 (h - l)) then zF32 B fun B1 x => k B1 (.inl (nx, L, .inl x :: r, M)) else
            zCst B i fun B1 a => zRead W R M B1 (o * 2048 + a.toNat) fun B2 M1 w => match w with
              | .inl x => k B2 (.inl (nx, L, .inl x :: r, M1))
              | _ => false
        else bif Nat.beq o 1000000 then xs && (Nat.beq i.1 1 && (sILe 0 i.2 && (sILe i.2 4 && k B (.inl (nx, L, .inl (2 + i.2.toNat, 0) :: r, M)))))
        else zCst B i fun B1 a => (Nat.blt (o - 1000000) 4 && (sILe (0) (a) && Nat.blt a.toNat 6)) && k B1 (.inl (nx, L, .inl (sX (o - 1000000) a.toNat) :: r, M))
    | .iastore => some fun call fr lo nL rt L S M B k => sRIV S fun o i w r => match w with
      | .inl x => (Nat.blt o 529 && (Nat.beq (zWo W o).1 100 && zIx B i (zWo W o).2.1)) && (bif (zWo W o).2.2 then (!Nat.beq R.1 1) && k B (.inl (nx, L, r, (zRo o M.1, (M.2.1, none)))) else zCst B i fun B1 a => zWrite W R M (o * 2048 + a.toNat) (.inl x) fun M1 => k B1 (.inl (nx, L, r, M1)))
      | _ => false
    | .aaload => some fun call fr lo nL rt L S M B k => sRI S fun o i r => (Nat.blt o 529 && ((Nat.beq (zWo W o).1 101 || Nat.beq (zWo W o).1 102) && zIx B i (zWo W o).2.1)) && zCst B i fun B1 a => zRead W R M B1 (o * 2048 + a.toNat) fun B2 M1 w => match w with
      | .inr (.inr x) => k B2 (.inl (nx, L, .inr (.inr x) :: r, M1))
      | _ => false
    | .invokevirtual _ => some fun call fr lo nL rt L S M B k => sPop S (I r1).2.2.2.2.2.1 fun as r => match as with
      | .inr (.inr (some o)) :: _ => (Nat.blt o 529 && Nat.beq (zWo W o).1 r2) && zCall I W R call fr lo (nx) r1 L as r M B k
      | _ => false
    | .invokespecial _ => some fun call fr lo nL rt L S M B k => bif Nat.beq r2 0 then sR1 S fun _ r => (Nat.ble 1 fr && Nat.ble (sCats r + 12) lo) && k B (.inl (nx, L, r, M))
        else sPop S (I r1).2.2.2.2.2.1 fun as r => match as with
      | .inr (.inr (some _)) :: _ => zCall I W R call fr lo (nx) r1 L as r M B k
      | _ => false
    | .invokestatic _ => some fun call fr lo nL rt L S M B k => bif Nat.beq r2 0 then sPop S (I r1).2.2.2.2.2.1 fun as r => zCall I W R call fr lo (nx) r1 L as r M B k
        else bif Nat.beq r2 1 then (match S with
      | .inl n :: .inl dp :: .inr (.inr (some b)) :: .inl sp :: .inr (.inr (some a)) :: r =>
          ((Nat.ble 1 fr && (Nat.ble (sCats r + 18) lo && (zFits B sp 0 2048 && (zFits B dp 0 2048 && (zFits B n 0 2048 && (Nat.blt b 529 && (Nat.beq (zWo W b).1 100 && ((zWo W b).2.2 && (Nat.ble (zWo W b).2.1 2048 && !Nat.beq R.1 1))))))))) &&
            (bif Nat.blt a 1000000 then Nat.blt a 529 && (Nat.beq (zWo W a).1 100 && Nat.ble (zWo W a).2.1 2048) else (Nat.blt (a - 1000000) 4 && !Nat.beq a 1000000))) &&
          zAdd B dp n fun B1 e => zHi B1 e ((zWo W b).2.1 : Nat) && zAdd B1 sp n fun B2 e2 => zHi B2 e2 (bif Nat.blt a 1000000 then ((zWo W a).2.1 : Nat) else 6) && k B2 (.inl (nx, L, r, (zRo b M.1, (M.2.1, none))))
      | _ => false)
        else sI2 S fun x y r => (Nat.ble 1 fr && Nat.ble (sCats r + 13) lo) && (bif Nat.beq r2 2 then zLt B x y fun B1 b => k B1 (.inl (nx, L, .inl (bif b then y else x) :: r, M)) else zLt B y x fun B1 b => k B1 (.inl (nx, L, .inl (bif b then y else x) :: r, M)))
    | .ireturn => some fun call fr lo nL rt L S M B k => sI1 S fun x r => match r, rt with
      | [], some ty => zFit B ty (.inl x) && k B (.inr (some (.inl x), M))
      | _, _ => false
    | .lreturn => some fun call fr lo nL rt L S M B k => sL1 S fun x r => match r, rt with
      | [], some .long => k B (.inr (some (.inr (.inl x)), M))
      | _, _ => false
    | .return_ => some fun call fr lo nL rt L S M B k => match S, rt with
      | [], none => k B (.inr (none, M))
      | _, _ => false
    | _ => none
noncomputable def zFe (I : Nat → mI) (W : zW) (R : zR) (xs : Bool) (sX : Nat → Nat → sI) (e : mE) : Option zHn := match e with
  | (pc, len, _, ni, v, r1, r2, _) => zSel I W R xs sX (pc + len) pc v r1 r2 ni
noncomputable def zNext (h : Option zHn) (call : zCl) (fr lo nL : Nat) (rt : Option FieldType) (L : List (Nat × sV)) (S : List sV) (M : zM) (B : zB) (k : zK) : Bool := match h with
  | none => false
  | some h => h call fr lo nL rt L S M B k
noncomputable def zDo (I : Nat → mI) (W : zW) (R : zR) (xs : Bool) (sX : Nat → Nat → sI) (call : zCl) (fr lo nL : Nat) (rt : Option FieldType) (e : mE) (L : List (Nat × sV)) (S : List sV) (M : zM) (B : zB) (k : zK) : Bool := zNext (zFe I W R xs sX e) call fr lo nL rt L S M B k
/-- what stands at a place of a body -/
noncomputable def zFm (T : Nat → List mE) (I : Nat → mI) (W : zW) (R : zR) (xs : Bool) (sX : Nat → Nat → sI) (mi pc : Nat) : Option zHn := match mFind (T mi) pc with
  | none => none
  | some e => zFe I W R xs sX e
noncomputable def zExec (T : Nat → List mE) (I : Nat → mI) (W : zW) (R : zR) (xs : Bool) (sX : Nat → Nat → sI) (f : Nat) : Nat → Nat → Nat → zCfg → zB → zRet → Bool :=
  Nat.rec (motive := fun _ => Nat → Nat → Nat → zCfg → zB → zRet → Bool) (fun _ _ _ _ _ _ => false)
    (fun _ ih fr lo mi x B k => match x with
      | (pc, L, S, M) => zNext (zFm T I W R xs sX mi pc) (fun mi1 fr1 lo1 as M B1 k1 => ih fr1 lo1 mi1 (0, sArgs 0 as, [], M) B1 k1) fr lo (I mi).2.2.1 (I mi).2.2.2.1 L S M B fun B1 r => match r with
          | .inr w => k B1 w
          | .inl y => ih fr lo mi y B1 k) f
/-- the same in the root's own frame: it stops where it is to stop, and at its end -/
noncomputable def zGo (T : Nat → List mE) (I : Nat → mI) (W : zW) (R : zR) (xs : Bool) (sX : Nat → Nat → sI) (stop : Nat → Bool) (f : Nat) : Nat → Nat → Nat → zCfg → zB → zK → Bool :=
  Nat.rec (motive := fun _ => Nat → Nat → Nat → zCfg → zB → zK → Bool) (fun _ _ _ _ _ _ => false)
    (fun g ih fr lo mi x B k => match x with
      | (pc, L, S, M) => zNext (zFm T I W R xs sX mi pc) (fun mi1 fr1 lo1 as M B1 k1 => zExec T I W R xs sX g fr1 lo1 mi1 (0, sArgs 0 as, [], M) B1 k1) fr lo (I mi).2.2.1 (I mi).2.2.2.1 L S M B fun B1 r => match r with
          | .inr w => k B1 (.inr w)
          | .inl y => bif stop y.1 then k B1 (.inl y) else ih fr lo mi y B1 k) f

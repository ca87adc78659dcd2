/-! ===== the abstract machine's step, and its run ===== -/
noncomputable def mRX (ci : Nat) : String := match ci with
  | 0 => RX0 | 1 => RX1 | 2 => RX2 | 3 => RX3 | 4 => RX4 | 5 => RX5 | 6 => RX6 | 7 => RX7 | _ => RX8
noncomputable def mTX (ci : Nat) : u_T := match ci with
  | 0 => TX0 | 1 => TX1 | 2 => TX2 | 3 => TX3 | 4 => TX4 | 5 => TX5 | 6 => TX6 | 7 => TX7 | _ => TX8
noncomputable def mTyX (ci : Nat) : Nat → FieldType := match ci with
  | 0 => tyX0 | 1 => tyX1 | 2 => tyX2 | 3 => tyX3 | 4 => tyX4 | 5 => tyX5 | 6 => tyX6 | 7 => tyX7 | _ => tyX8
noncomputable def mNX (ci : Nat) : Nat := match ci with
  | 0 => 3 | 1 => 12 | 2 => 4 | 3 => 13 | 4 => 4 | 5 => 19 | 6 => 3 | 7 => 5 | _ => 7
/-- the static arrays, by number -/
noncomputable def mSX (k : Nat) : String := match k with
  | 1 => "TOLD_FIRST" | 2 => "TOLD_LEAST" | _ => "TOLD_MOST"
noncomputable def mDef (ci : Nat) : mTr Value 11 := mLay 11 ((List.range (mNX ci)).map fun k => defaultValue (mTyX ci k)) 0 (mFill 11 .null)
noncomputable def mIof (v : Value) : Int32 := match v with
  | .int x => x
  | _ => 0
noncomputable def mRv (v : Value) : Value := match v with
  | .ref x => .ref x
  | _ => .null
noncomputable def mNx (pc : Nat) (L : List (Nat × Value)) (S : List Value) (M : mMem) : Option mRes := some (.inl (pc, L, S, M))
/-- n arguments off the stack, the first first -/
noncomputable def mPop {β : Type} (S : List Value) (n : Nat) (k : List Value → List Value → Option β) : Option β := mWhen (Nat.ble n S.length) (k (S.take n).reverse (S.drop n))
noncomputable def mBack (pc : Nat) (L : List (Nat × Value)) (r : List Value) (x : Option (Option Value × mMem)) : Option mRes := match x with
  | some (v, M') => mNx pc L (v.toList ++ r) M'
  | none => none
/-- n int slots of f from place sp on, to place dp -/
noncomputable def mCpy (f : Nat → Value) (sp dp : Nat) : Nat → mTr Value 11 → mTr Value 11
  | 0, t => t
  | n + 1, t => mSet 11 (mCpy f sp dp n t) (dp + n) (.int (mIof (f (sp + n))))
/-- n new rows behind the outer one -/
noncomputable def mRows (k : Nat) : Nat → mMem → mMem
  | 0, M => M
  | n + 1, M => mNew (mRows k n M) (100, k, mFill 11 (.int 0))
noncomputable def mRefs (o : Nat) : Nat → mTr Value 11
  | 0 => mFill 11 .null
  | n + 1 => mSet 11 (mRefs o n) n (.ref (o + n))
noncomputable def mCall (I : Nat → mI) (call : Nat → Nat → Nat → List Value → mMem → Option (Option Value × mMem)) (fr lo nx mi : Nat) (L : List (Nat × Value)) (as r : List Value) (M : mMem) : Option mRes :=
  mWhen (Nat.ble (mCats r) 8 && (Nat.ble 1 fr && (Nat.ble (19 + (I mi).2.2.1) lo && Nat.ble (mCats as) (I mi).2.2.1))) (mBack nx L r (call mi (fr - 1) (lo - (19 + (I mi).2.2.1)) as M))
noncomputable def mDo (I : Nat → mI) (XN : Nat → Nat) (XF : Nat → Nat → Int32) (call : Nat → Nat → Nat → List Value → mMem → Option (Option Value × mMem)) (fr lo nL : Nat) (rt : Option FieldType) (e : mE) (L : List (Nat × Value)) (S : List Value) (M : mMem) : Option mRes := match e with
  | (pc, len, _, ni, v, r1, r2, _) => match ni with
    | .iconst _ => mNx (pc + len) L (.int (Int32.ofInt v) :: S) M
    | .lconst _ => mNx (pc + len) L (.long (Int64.ofInt v) :: S) M
    | .aconst_null => mNx (pc + len) L (.null :: S) M
    | .iload i => match mLk L i with
      | some (.int x) => mNx (pc + len) L (.int x :: S) M
      | _ => none
    | .lload i => match mLk L i with
      | some (.long x) => mNx (pc + len) L (.long x :: S) M
      | _ => none
    | .aload i => match mLk L i with
      | some (.ref x) => mNx (pc + len) L (.ref x :: S) M
      | some .null => mNx (pc + len) L (.null :: S) M
      | _ => none
    | .istore i => mI1 S fun x r => mWhen (Nat.blt i nL) (mNx (pc + len) (mSt1 L i (.int x)) r M)
    | .lstore i => mL1 S fun x r => mWhen (Nat.blt (i + 1) nL) (mNx (pc + len) (mSt2 L i (.long x)) r M)
    | .astore i => mV1 S fun w r => mWhen (Nat.blt i nL) (match w with
      | .ref x => mNx (pc + len) (mSt1 L i (.ref x)) r M
      | .null => mNx (pc + len) (mSt1 L i .null) r M
      | _ => none)
    | .iinc i _ => match mLk L i with
      | some (.int x) => mWhen (Nat.blt i nL) (mNx (pc + len) (mSt1 L i (.int (x + Int32.ofInt v))) S M)
      | _ => none
    | .iadd => mI2 S fun x y r => mNx (pc + len) L (.int (x + y) :: r) M
    | .isub => mI2 S fun x y r => mNx (pc + len) L (.int (x - y) :: r) M
    | .imul => mI2 S fun x y r => mNx (pc + len) L (.int (x * y) :: r) M
    | .idiv => mI2 S fun x y r => mWhen (!decide (y = 0)) (mNx (pc + len) L (.int (x / y) :: r) M)
    | .irem => mI2 S fun x y r => mWhen (!decide (y = 0)) (mNx (pc + len) L (.int (x - x / y * y) :: r) M)
    | .iand => mI2 S fun x y r => mNx (pc + len) L (.int (x &&& y) :: r) M
    | .ior => mI2 S fun x y r => mNx (pc + len) L (.int (x ||| y) :: r) M
    | .ixor => mI2 S fun x y r => mNx (pc + len) L (.int (x ^^^ y) :: r) M
    | .ishl => mI2 S fun x y r => mNx (pc + len) L (.int (x <<< (y &&& 31)) :: r) M
    | .ishr => mI2 S fun x y r => mNx (pc + len) L (.int (x >>> (y &&& 31)) :: r) M
    | .iushr => mI2 S fun x y r => mNx (pc + len) L (.int ((x.toUInt32 >>> (y.toUInt32 &&& Int32.toUInt32 31)).toInt32) :: r) M
    | .ladd => mL2 S fun x y r => mNx (pc + len) L (.long (x + y) :: r) M
    | .lmul => mL2 S fun x y r => mNx (pc + len) L (.long (x * y) :: r) M
    | .ldiv => mL2 S fun x y r => mWhen (!decide (y = 0)) (mNx (pc + len) L (.long (x / y) :: r) M)
    | .land => mL2 S fun x y r => mNx (pc + len) L (.long (x &&& y) :: r) M
    | .lor => mL2 S fun x y r => mNx (pc + len) L (.long (x ||| y) :: r) M
    | .lshl => mLI S fun x y r => mNx (pc + len) L (.long (x <<< (y.toInt64 &&& 63)) :: r) M
    | .lcmp => mL2 S fun x y r => mNx (pc + len) L (.int (lg_cmp x y) :: r) M
    | .i2l => mI1 S fun x r => mNx (pc + len) L (.long x.toInt64 :: r) M
    | .l2i => mL1 S fun x r => mNx (pc + len) L (.int x.toInt32 :: r) M
    | .dup => mV1 S fun w r => mWhen (Nat.beq w.category 1) (mNx (pc + len) L (w :: w :: r) M)
    | .dup2 => mV2 S fun w u r => mWhen (Nat.beq w.category 1 && Nat.beq u.category 1) (mNx (pc + len) L (w :: u :: w :: u :: r) M)
    | .pop => mV1 S fun w r => mWhen (Nat.beq w.category 1) (mNx (pc + len) L r M)
    | .pop2 => mV1 S fun w r => mWhen (Nat.beq w.category 2) (mNx (pc + len) L r M)
    | .ifCond c _ => mI1 S fun x r => mNx (bif mIf c x 0 then r1 else pc + len) L r M
    | .if_icmp c _ => mI2 S fun x y r => mNx (bif mIf c x y then r1 else pc + len) L r M
    | .goto _ => mNx r1 L S M
    | .ifnull _ => mV1 S fun w r => match w with
      | .null => mNx r1 L r M
      | .ref _ => mNx (pc + len) L r M
      | _ => none
    | .ifnonnull _ => mV1 S fun w r => match w with
      | .null => mNx (pc + len) L r M
      | .ref _ => mNx r1 L r M
      | _ => none
    | .tableswitch _ lo hi offs => mI1 S fun x r => bif decide (x.toInt < lo) || decide (hi < x.toInt) then mNx r1 L r M else match offs[(x.toInt - lo).toNat]? with
      | some off => mWhen (decide (0 ≤ (pc : Int) + off)) (mNx ((pc : Int) + off).toNat L r M)
      | none => none
    | .getfield _ => mR1 S fun o r => mWhen (Nat.blt o M.1 && (Nat.beq (mObj M o).1 r1 && Nat.blt r2 (mObj M o).2.1)) (mNx (pc + len) L (mSlot (mObj M o) r2 :: r) M)
    | .putfield _ => mVR S fun w o r => mWhen (Nat.blt o M.1 && (Nat.beq (mObj M o).1 r1 && (Nat.blt r2 (mObj M o).2.1 && (Nat.ble (mObj M o).2.1 2048 && mFit (mTyX r1 r2) w)))) (mNx (pc + len) L r (mPut M o (mCset (mObj M o) r2 w)))
    | .getstatic _ => mNx (pc + len) L (.ref (1000000 + r1) :: S) M
    | .iaload => mRI S fun o i r => bif Nat.blt o 1000000 then mWhen (Nat.blt o M.1 && (Nat.beq (mObj M o).1 100 && mInO i (mObj M o).2.1)) (mNx (pc + len) L (.int (mIof (mSlot (mObj M o) i.toNatClampNeg)) :: r) M)
        else mWhen (Nat.blt (o - 1000000) 4 && mInB i (XN (o - 1000000))) (mNx (pc + len) L (.int (XF (o - 1000000) i.toNatClampNeg) :: r) M)
    | .iastore => mRIV S fun o i w r => mWhen (Nat.blt o M.1 && (Nat.beq (mObj M o).1 100 && (mInO i (mObj M o).2.1 && mFit .int w))) (mNx (pc + len) L r (mPut M o (mCset (mObj M o) i.toNatClampNeg w)))
    | .aaload => mRI S fun o i r => mWhen (Nat.blt o M.1 && ((Nat.beq (mObj M o).1 101 || Nat.beq (mObj M o).1 102) && mInO i (mObj M o).2.1)) (mNx (pc + len) L (mRv (mSlot (mObj M o) i.toNatClampNeg) :: r) M)
    | .aastore => mRIV S fun o i w r => match w with
      | .ref u => mWhen (Nat.blt o M.1 && (Nat.beq (mObj M o).1 102 && (mInO i (mObj M o).2.1 && (Nat.blt u M.1 && Nat.beq (mObj M u).1 5)))) (mNx (pc + len) L r (mPut M o (mCset (mObj M o) i.toNatClampNeg (.ref u))))
      | _ => none
    | .arraylength => mR1 S fun o r => mWhen (Nat.ble 1000000 o && Nat.blt (o - 1000000) 4) (mNx (pc + len) L (.int (Int32.ofNat (XN (o - 1000000))) :: r) M)
    | .invokevirtual _ => mPop S (I r1).2.2.2.2.2.1 fun as r => match as with
      | .ref o :: _ => mWhen (Nat.blt o M.1 && Nat.beq (mObj M o).1 r2) (mCall I call fr lo (pc + len) r1 L as r M)
      | _ => none
    | .invokespecial _ => bif Nat.beq r2 0 then mR1 S fun _ r => mWhen (Nat.ble 1 fr && Nat.ble (mCats r + 12) lo) (mNx (pc + len) L r M)
        else mPop S (I r1).2.2.2.2.2.1 fun as r => match as with
      | .ref _ :: _ => mCall I call fr lo (pc + len) r1 L as r M
      | _ => none
    | .invokestatic _ => bif Nat.beq r2 0 then mPop S (I r1).2.2.2.2.2.1 fun as r => mCall I call fr lo (pc + len) r1 L as r M
        else bif Nat.beq r2 1 then (match S with
      | .int n :: .int dp :: .ref b :: .int sp :: .ref a :: r => mWhen (Nat.ble 1 fr && (Nat.ble (mCats r + 18) lo && (!decide (sp < 0) && (!decide (dp < 0) && (!decide (n < 0) && (Nat.blt b M.1 && (Nat.beq (mObj M b).1 100 && (Nat.ble (dp.toNatClampNeg + n.toNatClampNeg) (mObj M b).2.1 && Nat.ble (mObj M b).2.1 2048))))))))
          (bif Nat.blt a 1000000 then mWhen (Nat.blt a M.1 && (Nat.beq (mObj M a).1 100 && (Nat.ble (sp.toNatClampNeg + n.toNatClampNeg) (mObj M a).2.1 && Nat.ble (mObj M a).2.1 2048))) (mNx (pc + len) L r (mPut M b ((mObj M b).1, (mObj M b).2.1, mCpy (mSlot (mObj M a)) sp.toNatClampNeg dp.toNatClampNeg n.toNatClampNeg (mObj M b).2.2)))
          else mWhen (Nat.blt (a - 1000000) 4 && Nat.ble (sp.toNatClampNeg + n.toNatClampNeg) (XN (a - 1000000))) (mNx (pc + len) L r (mPut M b ((mObj M b).1, (mObj M b).2.1, mCpy (fun j => .int (XF (a - 1000000) j)) sp.toNatClampNeg dp.toNatClampNeg n.toNatClampNeg (mObj M b).2.2))))
      | _ => none)
        else mI2 S fun x y r => mWhen (Nat.ble 1 fr && Nat.ble (mCats r + 13) lo) (mNx (pc + len) L (.int (bif Nat.beq r2 2 then (if x < y then y else x) else if y < x then y else x) :: r) M)
    | .new _ => mWhen (Nat.blt M.1 1024) (mNx (pc + len) L (.ref M.1 :: S) (mNew M (r1, mNX r1, mDef r1)))
    | .newarray _ => mI1 S fun n r => mWhen (Nat.blt M.1 1024 && (!decide (n < 0) && Nat.ble n.toNatClampNeg 2048)) (mNx (pc + len) L (.ref M.1 :: r) (mNew M (100, n.toNatClampNeg, mFill 11 (.int 0))))
    | .anewarray _ => mI1 S fun n r => mWhen (Nat.blt M.1 1024 && (!decide (n < 0) && Nat.ble n.toNatClampNeg 2048)) (mNx (pc + len) L (.ref M.1 :: r) (mNew M (102, n.toNatClampNeg, mFill 11 .null)))
    | .multianewarray _ _ => mI2 S fun n k r => mWhen (!decide (n < 0) && (!decide (k < 0) && (Nat.ble n.toNatClampNeg 2048 && (Nat.ble k.toNatClampNeg 2048 && Nat.ble (M.1 + 1 + n.toNatClampNeg) 1024)))) (mNx (pc + len) L (.ref M.1 :: r) (mRows k.toNatClampNeg n.toNatClampNeg (mNew M (101, n.toNatClampNeg, mRefs (M.1 + 1) n.toNatClampNeg))))
    | .ireturn => mI1 S fun x r => match r, rt with
      | [], some ty => mWhen (mFit ty (.int x)) (some (.inr (some (.int x), M)))
      | _, _ => none
    | .lreturn => mL1 S fun x r => match r, rt with
      | [], some .long => some (.inr (some (.long x), M))
      | _, _ => none
    | .return_ => match S, rt with
      | [], none => some (.inr (none, M))
      | _, _ => none
    | _ => none
/-- 2: reads or writes memory; 3: makes cells; 4: calls; 1: all else -/
noncomputable def mClass (ni : ClassFile.Instr) : Nat := match ni with
  | .getfield _ => 2 | .putfield _ => 2 | .getstatic _ => 2 | .iaload => 2 | .iastore => 2 | .aaload => 2 | .aastore => 2 | .arraylength => 2
  | .new _ => 3 | .newarray _ => 3 | .anewarray _ => 3 | .multianewarray _ _ => 3
  | .invokevirtual _ => 4 | .invokespecial _ => 4 | .invokestatic _ => 4
  | _ => 1
noncomputable def mFind (l : List mE) (pc : Nat) : Option mE := l.find? (fun e => Nat.beq e.1 pc)
/-- a run of method mi's body from a configuration; f: how many steps at most; fr, lo: frames and locals that are left -/
noncomputable def mExec (T : Nat → List mE) (I : Nat → mI) (XN : Nat → Nat) (XF : Nat → Nat → Int32) : Nat → Nat → Nat → Nat → mCfg → Option (Option Value × mMem)
  | 0, _, _, _, _ => none
  | f + 1, fr, lo, mi, x => match mFind (T mi) x.1 with
    | none => none
    | some e => match mDo I XN XF (fun mi' fr' lo' as M => mExec T I XN XF f fr' lo' mi' (0, lv_args 0 as, [], M)) fr lo (I mi).2.2.1 (I mi).2.2.2.1 e x.2.1 x.2.2.1 x.2.2.2 with
      | none => none
      | some (.inr r) => some r
      | some (.inl y) => mExec T I XN XF f fr lo mi y
/-! ===== what a table must keep, by a program ===== -/
/-- how many methods can be called -/
abbrev mNM : Nat := 251
noncomputable def mW (wi : Nat) (w : Jvm.Cond) : Bool := decide (lw_tbl[wi]? = some w) && goodWord w
/-- words of a nest mate's private members: they go by the state, not by a method's own words -/
noncomputable def mNest (w : Jvm.Cond) : Bool := match w with
  | .fieldLinkNest .. => true
  | .methodLinkNest .. => true
  | _ => false
noncomputable def mWn (wi : Nat) (w : Jvm.Cond) : Bool := decide (lw_tbl[wi]? = some w) && mNest w
noncomputable def mNrm (I : Nat → mI) (own : String) (isInit : Bool) (e : mE) : Bool := match e with
  | (pc, len, ri, ni, v, r1, r2, wi) => match ni with
    | .iconst _ => match ri with
      | .iconst n => Nat.beq len 1 && decide (Int32.ofInt n = Int32.ofInt v)
      | .bipush n => Nat.beq len 2 && decide ((Int8.ofInt n).toInt32 = Int32.ofInt v)
      | .sipush n => Nat.beq len 3 && decide ((Int16.ofInt n).toInt32 = Int32.ofInt v)
      | .ldc i => Nat.beq len 2 && mW wi (.constant own i (Int32.ofInt v))
      | .ldc_w i => Nat.beq len 3 && mW wi (.constant own i (Int32.ofInt v))
      | _ => false
    | .lconst _ => match ri with
      | .lconst n => Nat.beq len 1 && decide (Int64.ofNat (n : Nat) = Int64.ofInt v)
      | .ldc2_w i => Nat.beq len 3 && mW wi (.constantLong own i (Int64.ofInt v))
      | _ => false
    | .iload i => match ri with
      | .iload j => Nat.beq len 2 && Nat.beq j i
      | .iload_n j => Nat.beq len 1 && Nat.beq j i
      | _ => false
    | .lload i => match ri with
      | .lload j => Nat.beq len 2 && Nat.beq j i
      | .lload_n j => Nat.beq len 1 && Nat.beq j i
      | _ => false
    | .aload i => match ri with
      | .aload j => Nat.beq len 2 && Nat.beq j i
      | .aload_n j => Nat.beq len 1 && Nat.beq j i
      | _ => false
    | .istore i => match ri with
      | .istore j => Nat.beq len 2 && Nat.beq j i
      | .istore_n j => Nat.beq len 1 && Nat.beq j i
      | _ => false
    | .lstore i => match ri with
      | .lstore j => Nat.beq len 2 && Nat.beq j i
      | .lstore_n j => Nat.beq len 1 && Nat.beq j i
      | _ => false
    | .astore i => match ri with
      | .astore j => Nat.beq len 2 && Nat.beq j i
      | .astore_n j => Nat.beq len 1 && Nat.beq j i
      | _ => false
    | .iinc _ n => decide (ri = ni) && (Nat.beq len 3 && decide (n = v))
    | .ifCond _ off => decide (ri = ni) && (Nat.beq len 3 && decide ((pc : Int) + off = (r1 : Int)))
    | .if_icmp _ off => decide (ri = ni) && (Nat.beq len 3 && decide ((pc : Int) + off = (r1 : Int)))
    | .goto off => decide (ri = ni) && (Nat.beq len 3 && decide ((pc : Int) + off = (r1 : Int)))
    | .ifnull off => decide (ri = ni) && (Nat.beq len 3 && decide ((pc : Int) + off = (r1 : Int)))
    | .ifnonnull off => decide (ri = ni) && (Nat.beq len 3 && decide ((pc : Int) + off = (r1 : Int)))
    | .tableswitch d _ _ _ => decide (ri = ni) && decide ((pc : Int) + d = (r1 : Int))
    | .getfield i => decide (ri = ni) && (Nat.beq len 3 && (Nat.blt r1 9 && (Nat.blt r2 (mNX r1) && mW wi (.fieldLink own i (mTX r1 r2).1 (mTX r1 r2).2.1 (mTX r1 r2).2.2.1))))
    | .putfield i => decide (ri = ni) && (Nat.beq len 3 && (Nat.blt r1 9 && (Nat.blt r2 (mNX r1) && (mW wi (.fieldLink own i (mTX r1 r2).1 (mTX r1 r2).2.1 (mTX r1 r2).2.2.1) && (!(mTX r1 r2).2.2.2 || (isInit && decide ((mTX r1 r2).1 = own)))))))
    | .getstatic i => decide (ri = ni) && (Nat.beq len 3 && (Nat.blt 0 r1 && (Nat.blt r1 4 && (bif Nat.beq r2 0 then mW wi (.fieldLink own i "EarlyToken" (mSX r1) "[I") else mWn wi (.fieldLinkNest own i "EarlyToken" (mSX r1) "[I" "EarlyToken")))))
    | .invokevirtual i => decide (ri = ni) && (Nat.beq len 3 && (Nat.blt r1 mNM && (Nat.blt r2 9 && (decide ((I r1).1.cls = mRX r2) && (!(I r1).2.2.2.2.2.2.1 && (decide (¬ (I r1).1.name = "<init>") && mW wi (.methodLink own i (I r1).1)))))))
    | .invokespecial i => decide (ri = ni) && (Nat.beq len 3 && (match r2 with
      | 0 => mW wi (.methodLink own i Lib.objectInit)
      | 1 => Nat.blt r1 mNM && !(I r1).2.2.2.2.2.2.1 && (decide ((I r1).1.name = "<init>") && (decide ((I r1).2.2.2.1 = none) && mW wi (.methodLink own i (I r1).1)))
      | _ => Nat.blt r1 mNM && !(I r1).2.2.2.2.2.2.1 && (decide ((I r1).1.name = "<init>") && (decide ((I r1).2.2.2.1 = none) && mWn wi (.methodLinkNest own i (I r1).1 "EarlyToken")))))
    | .invokestatic i => decide (ri = ni) && (Nat.beq len 3 && (match r2 with
      | 0 => Nat.blt r1 mNM && ((I r1).2.2.2.2.2.2.1 && mW wi (.methodLink own i (I r1).1))
      | 1 => mW wi (.methodLink own i arraycopyName)
      | 2 => mW wi (.methodLink own i Lib.Math.max.name)
      | _ => mW wi (.methodLink own i Lib.Math.min.name)))
    | .new i => decide (ri = ni) && (Nat.beq len 3 && (Nat.blt r1 9 && mW wi (.classLink own i (mRX r1))))
    | .newarray t => decide (ri = ni) && (Nat.beq len 2 && decide (t = .int))
    | .anewarray i => decide (ri = ni) && (Nat.beq len 3 && mW wi (.classLink own i RX5))
    | .multianewarray i n => decide (ri = ni) && (Nat.beq len 4 && (Nat.beq n 2 && mW wi (.classLink own i "[[I")))
    | _ => decide (ri = ni) && Nat.beq len 1
/-- an entry of a method's table is right -/
noncomputable def mOk (I : Nat → mI) (mi : Nat) (e : mE) : Bool := decide (decode (I mi).2.1 e.1 = .ok (e.2.2.1, e.2.1)) && mNrm I (I mi).2.2.2.2.1 (decide ((I mi).1.name = "<init>")) e
/-- a method's words are right -/
noncomputable def mMok (x : mI) : Bool := match x with
  | (y, bytes, maxL, ret, own, n, st, w0, w1, w2, w3) => mW w0 (.code y bytes maxL ret) && (mW w1 (.initialized y.cls) && (plainName y.cls && (decide (y.cls ≠ "java/lang/invoke/MethodHandle") && (decide (y.cls ≠ "java/lang/invoke/VarHandle") &&
    (decide (own = y.cls) && (decide ((parseMethodDescriptor y.desc).map (fun d => d.parameters.length + (bif st then 0 else 1)) = some n) &&
    ((bif st then mW w2 (.static y) else mW w2 (.instanceMethod y)) && (st || (decide (y.name = "<init>") || mW w3 (.selects y.cls y y))))))))))

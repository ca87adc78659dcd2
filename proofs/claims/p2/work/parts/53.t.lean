/-! ===== try ===== -/
noncomputable def tE (W : zW) (ns : Bool) (mi : Nat) (p : zP) (K : zK) : Bool :=
  let i := p.1; let tms := p.2.1; let stop := (fun pc => tms.any fun t => Nat.beq t.1 pc); let hd0 := p.2.2.1; let hd := zHds p.2.2.2
  zAs (zSa i) (0, ([], [])) fun B vs => zTc ((zSc i).map fun c => (c.1, (0, (0, c.2)))) B [] fun B1 ov =>
    (zPre W (zSq i, (zSk i, ns)) hd0 (sArgs 0 vs) (ov, (0, none)) B1 fun B2 M2 => zGo mTab mInf W (zSq i, (zSk i, ns)) false sXX stop 3000 (zSf i) (zSo i) mi (0, sArgs 0 vs, [], M2) B2 K)
noncomputable def tT (W : zW) (ns : Bool) (mi : Nat) (p : zP) (a f : Nat) (K : Option (List (Nat × sI)) → zK) : Bool :=
  let i := p.1; let tms := p.2.1; let stop := (fun pc => tms.any fun t => Nat.beq t.1 pc); let hd0 := p.2.2.1; let hd := zHds p.2.2.2
  zAs (zSa i) (0, ([], [])) fun B vs => zTc ((zSc i).map fun c => (c.1, (0, (0, c.2)))) B [] fun B1 ov =>
    ((tms.drop a).take 1).all fun t => zTw B1.1 t && zTl t.2.1 B1 [] fun B2 L => zTc t.2.2.1 B2 [] fun B3 ov3 => zMsC t.2.2.2.2 L fun old =>
      zGo mTab mInf W (zSq i, (zSk i, ns)) false sXX stop f (zSf i) (zSo i) mi (t.1, L, [], (ov3, (t.2.2.2.1, none))) B3 (K (some old))
noncomputable def tK (W : zW) (ns : Bool) (p : zP) (old : Option (List (Nat × sI))) : zK := zEnd W (zSq p.1, (zSk p.1, ns)) [] p.1 p.2.1 (zHds p.2.2.2) old
theorem w1 : (tE (zQr zRx (zQrk 225)) false 225 zQ_225_0 (tK (zQr zRx (zQrk 225)) false zQ_225_0 none) = true) = True := by decide +kernel
theorem v0 : ((List.range 40).all (fun a => tT (zQr zRx (zQrk 225)) false 225 zQ_225_0 (0 + a) 3000 (tK (zQr zRx (zQrk 225)) false zQ_225_0))) = true := by decide +kernel
theorem v40 : ((List.range 40).all (fun a => tT (zQr zRx (zQrk 225)) false 225 zQ_225_0 (40 + a) 3000 (tK (zQr zRx (zQrk 225)) false zQ_225_0))) = true := by decide +kernel
theorem v80 : ((List.range 40).all (fun a => tT (zQr zRx (zQrk 225)) false 225 zQ_225_0 (80 + a) 3000 (tK (zQr zRx (zQrk 225)) false zQ_225_0))) = true := by decide +kernel
theorem v120 : ((List.range 45).all (fun a => tT (zQr zRx (zQrk 225)) false 225 zQ_225_0 (120 + a) 3000 (tK (zQr zRx (zQrk 225)) false zQ_225_0))) = true := by decide +kernel

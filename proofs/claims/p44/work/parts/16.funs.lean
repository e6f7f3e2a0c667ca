/-! ===== each method as a function of its arguments and of the numbers (printed from the bytecode by wip/whole/gen) ===== -/
noncomputable def F_X6_size (x0 : Nat) (x1 : Int32) (σ : Mem) : Option Int32 :=
  if x1 < 0 then
  some (-1 : Int32)
  else
  (gR 6 1 x0).bind fun p3 =>
  (aN p3).bind fun v4 =>
  if v4 ≤ x1 then
  some (-1 : Int32)
  else
  (gR 6 1 x0).bind fun p8 =>
  (aJ p8 x1 σ).bind fun v9 =>
  some v9
noncomputable def F_X8_read (x0 : Nat) (x1 : Int32) (σ : Mem) : Option Int32 :=
  if x1 < 0 then
  some (0 : Int32)
  else
  (aN x0).bind fun v2 =>
  if v2 ≤ x1 then
  some (0 : Int32)
  else
  (aJ x0 x1 σ).bind fun v5 =>
  some v5
noncomputable def F_X8_readK (x1 : Int32) (σ : Mem) : Option Int32 :=
  if x1 < 0 then
  some (0 : Int32)
  else
  if (6 : Int32) ≤ x1 then
  some (0 : Int32)
  else
  (aK x1).bind fun v3 =>
  some v3
noncomputable def F_X6_get (x0 : Nat) (x1 : Int32) (x2 : Int32) (σ : Mem) : Option Int32 :=
  if x2 < 0 then
  some (0 : Int32)
  else
  (F_X6_size x0 x1 σ).bind fun q2 =>
  if q2 ≤ x2 then
  some (0 : Int32)
  else
  (gR 6 2 x0).bind fun p6 =>
  (gI 6 0 x0 σ).bind fun v8 =>
  (F_X8_read p6 ((x1 * v8) + x2) σ).bind fun q9 =>
  some q9
noncomputable def F_X8_write (x0 : Nat) (x1 : Int32) (x2 : Int32) (σ : Mem) : Option Mem :=
  if x1 < 0 then
  some σ
  else
  (aN x0).bind fun v2 =>
  if v2 ≤ x1 then
  some σ
  else
  (sJ x0 x1 x2 σ).bind fun m5 =>
  some m5
noncomputable def F_X0_take_13 (x0 : Nat) (x1 : Nat) (x2 : Int32) : Int32 × Mem → Option (Int32 × Mem) := lp fun s =>
  (gI 0 4 x0 s.2).bind fun v2 =>
  if v2 ≤ s.1 then
  some (.inr (((1 : Int32), s.2)))
  else
  (chk 6 x1).bind fun _ =>
  (F_X6_get x1 x2 ((2 : Int32) * s.1) s.2).bind fun q5 =>
  (chk 6 x1).bind fun _ =>
  (F_X6_get x1 x2 (((2 : Int32) * s.1) + (1 : Int32)) s.2).bind fun q8 =>
  (gR 0 0 x0).bind fun p11 =>
  (F_X8_write p11 s.1 q5 s.2).bind fun q12 =>
  (gR 0 1 x0).bind fun p15 =>
  (F_X8_write p15 s.1 q8 q12).bind fun q16 =>
  if q5 < 0 then
  some (.inr (((0 : Int32), q16)))
  else
  if (99 : Int32) < q5 then
  some (.inr (((0 : Int32), q16)))
  else
  if q8 < 0 then
  some (.inr (((0 : Int32), q16)))
  else
  if q8 ≤ (30 : Int32) then
  some (.inl ((s.1 + (1 : Int32)), q16))
  else
  some (.inr (((0 : Int32), q16)))
noncomputable def F_X0_take (x0 : Nat) (x1 : Nat) (x2 : Int32) (σ : Mem) : Option (Int32 × Mem) :=
  (chk 6 x1).bind fun _ =>
  (F_X6_size x1 x2 σ).bind fun q23 =>
  (pI 0 4 x0 (q23 / (2 : Int32)) σ).bind fun m26 =>
  F_X0_take_13 (x0) (x1) (x2)  ((0 : Int32), m26)
noncomputable def F_X7_gapWith (x0 : Nat) (x1 : Int32) (x2 : Int32) (σ : Mem) : Option Int32 :=
  (gR 7 2 x0).bind fun p2 =>
  (F_X8_read p2 x1 σ).bind fun q3 =>
  (gR 7 3 x0).bind fun p6 =>
  (F_X8_read p6 x2 σ).bind fun q7 =>
  some (if 0 ≤ (q3 - q7) then (q3 - q7) else 0 - (q3 - q7))
noncomputable def F_X7_coldOf (x0 : Nat) (x1 : Int32) (σ : Mem) : Option Int32 :=
  (gR 7 0 x0).bind fun p2 =>
  (F_X8_read p2 (x1 - x1 / (4 : Int32) * (4 : Int32)) σ).bind fun q3 =>
  some q3
noncomputable def F_X8_barOf (x0 : Int32) (x1 : Int32) (σ : Mem) : Option Int32 :=
  if x0 = (1 : Int32) then
  some (x1 + (2 : Int32))
  else
  if x0 = (2 : Int32) then
  some (x1 / (2 : Int32))
  else
  if x0 = (3 : Int32) then
  some x1
  else
  if x0 = (4 : Int32) then
  some (x1 / (2 : Int32))
  else
  if x0 = (5 : Int32) then
  some (x1 + (2 : Int32))
  else
  some x1
noncomputable def F_X8_crossing (x0 : Int32) (x1 : Int32) (x2 : Int32) (x3 : Int32) (x4 : Int32) (σ : Mem) : Option Int32 :=
  (F_X8_barOf x0 x2 σ).bind fun q1 =>
  let w3 := (if (0 : Int32) < ((x1 + x4) - q1) then ((x1 + x4) - q1) else (0 : Int32))
  if x0 = (3 : Int32) then
  if (x3 - x3 / (2 : Int32) * (2 : Int32)) = 0 then
  some w3
  else
  some (0 : Int32)
  else
  if x0 = (4 : Int32) then
  if w3 ≤ 0 then
  some (0 : Int32)
  else
  some (w3 + (1 : Int32))
  else
  if x0 = (5 : Int32) then
  some (w3 / (2 : Int32))
  else
  some w3
noncomputable def F_X7_crossesAs (x0 : Nat) (x1 : Int32) (x2 : Int32) (x3 : Int32) (x4 : Int32) (σ : Mem) : Option Int32 :=
  (F_X7_gapWith x0 x1 x1 σ).bind fun q1 =>
  (F_X7_coldOf x0 x4 σ).bind fun q3 =>
  (F_X8_crossing x2 q1 x3 x4 q3 σ).bind fun q5 =>
  some q5
noncomputable def F_X0_fits_3 (x0 : Nat) (x1 : Nat) (x2 : Int32) (x3 : Int32) (x4 : Int32) (σ : Mem) : Int32 → Option Int32 := lp fun s =>
  (gI 0 4 x0 σ).bind fun v2 =>
  if v2 ≤ s then
  some (.inr ((1 : Int32)))
  else
  (gR 0 0 x0).bind fun p5 =>
  (F_X8_read p5 s σ).bind fun q6 =>
  (chk 7 x1).bind fun _ =>
  (F_X7_crossesAs x1 x2 x3 x4 q6 σ).bind fun q9 =>
  (gR 0 1 x0).bind fun p12 =>
  (F_X8_read p12 s σ).bind fun q13 =>
  if q9 = q13 then
  some (.inl ((s + (1 : Int32))))
  else
  some (.inr ((0 : Int32)))
noncomputable def F_X0_fits (x0 : Nat) (x1 : Nat) (x2 : Int32) (x3 : Int32) (x4 : Int32) (σ : Mem) : Option Int32 :=
  F_X0_fits_3 (x0) (x1) (x2) (x3) (x4) σ ((0 : Int32))
noncomputable def F_X0_thicksFitting_35 (x0 : Nat) (x1 : Nat) (x2 : Int32) (x3 : Int32) (x5 : Int32) (y0 : Int32) (y1 : Int32) (σ : Mem) : Option ((Int32 × Int32) ⊕ Int32) :=
  some (.inl ((y1 ||| y0), (x5 + (1 : Int32))))
noncomputable def F_X0_thicksFitting_6 (x0 : Nat) (x1 : Nat) (x2 : Int32) (x3 : Int32) (σ : Mem) : Int32 × Int32 → Option Int32 := lp fun s =>
  if (9 : Int32) < s.2 then
  some (.inr (s.1))
  else
  (F_X0_fits x0 x1 x2 x3 s.2 σ).bind fun q2 =>
  if q2 = 0 then
  F_X0_thicksFitting_35 (x0) (x1) (x2) (x3) (s.2) ((0 : Int32)) (s.1) σ
  else
  F_X0_thicksFitting_35 (x0) (x1) (x2) (x3) (s.2) (((1 : Int32) <<< (s.2 &&& 31))) (s.1) σ
noncomputable def F_X0_thicksFitting (x0 : Nat) (x1 : Nat) (x2 : Int32) (x3 : Int32) (σ : Mem) : Option Int32 :=
  F_X0_thicksFitting_6 (x0) (x1) (x2) (x3) σ ((0 : Int32), (0 : Int32))
noncomputable def F_X0_kindsFitting_35 (x0 : Nat) (x1 : Nat) (x2 : Int32) (x3 : Int32) (x5 : Int32) (y0 : Int32) (y1 : Int32) (σ : Mem) : Option ((Int32 × Int32) ⊕ Int32) :=
  some (.inl ((y1 ||| y0), (x5 + (1 : Int32))))
noncomputable def F_X0_kindsFitting_6 (x0 : Nat) (x1 : Nat) (x2 : Int32) (x3 : Int32) (σ : Mem) : Int32 × Int32 → Option Int32 := lp fun s =>
  if (6 : Int32) ≤ s.2 then
  some (.inr (s.1))
  else
  (F_X0_fits x0 x1 x2 s.2 x3 σ).bind fun q2 =>
  if q2 = 0 then
  F_X0_kindsFitting_35 (x0) (x1) (x2) (x3) (s.2) ((0 : Int32)) (s.1) σ
  else
  F_X0_kindsFitting_35 (x0) (x1) (x2) (x3) (s.2) (((1 : Int32) <<< (s.2 &&& 31))) (s.1) σ
noncomputable def F_X0_kindsFitting (x0 : Nat) (x1 : Nat) (x2 : Int32) (x3 : Int32) (σ : Mem) : Option Int32 :=
  F_X0_kindsFitting_6 (x0) (x1) (x2) (x3) σ ((0 : Int32), (0 : Int32))
noncomputable def F_J7_fill_53178_5 (x0 : Nat) (x1 : Int32) (x3 : Int32) : Int32 × Mem → Option Mem := lp fun s =>
  if x3 ≤ s.1 then
  some (.inr (s.2))
  else
  (sJ x0 s.1 x1 s.2).bind fun m2 =>
  some (.inl ((s.1 + (1 : Int32)), m2))
noncomputable def F_J7_fill_53178 (x0 : Nat) (x1 : Int32) (σ : Mem) : Option Mem :=
  (aN x0).bind fun v4 =>
  F_J7_fill_53178_5 (x0) (x1) (v4)  ((0 : Int32), σ)
noncomputable def F_X0_greatestPart_24 (x0 : Nat) (x1 : Nat) (x2 : Int32) (x3 : Int32) (x5 : Int32) : Int32 × Int32 × Mem → Option ((Int32 × Int32 × Mem) ⊕ (Int32 × Mem)) := lp fun s =>
  if (9 : Int32) < s.2.1 then
  some (.inr (.inl (s.1, (x5 + (1 : Int32)), s.2.2)))
  else
  (gR 0 2 x0).bind fun p4 =>
  (F_X8_read p4 x5 s.2.2).bind fun q5 =>
  if ((q5 >>> (s.2.1 &&& 31)) &&& (1 : Int32)) = (1 : Int32) then
  (chk 7 x1).bind fun _ =>
  (F_X7_crossesAs x1 x2 x5 s.2.1 x3 s.2.2).bind fun q9 =>
  (gR 0 3 x0).bind fun p12 =>
  (gR 0 3 x0).bind fun p14 =>
  (F_X8_read p14 q9 s.2.2).bind fun q15 =>
  (F_X8_write p12 q9 (q15 + (1 : Int32)) s.2.2).bind fun q17 =>
  (gR 0 3 x0).bind fun p20 =>
  (F_X8_read p20 q9 q17).bind fun q21 =>
  some (.inl ((if s.1 < q21 then q21 else s.1), (s.2.1 + (1 : Int32)), q17))
  else
  some (.inl (s.1, (s.2.1 + (1 : Int32)), s.2.2))
noncomputable def F_X0_greatestPart_14 (x0 : Nat) (x1 : Nat) (x2 : Int32) (x3 : Int32) : Int32 × Int32 × Mem → Option (Int32 × Mem) := lp fun s =>
  if (6 : Int32) ≤ s.2.1 then
  some (.inr ((s.1, s.2.2)))
  else
  F_X0_greatestPart_24 (x0) (x1) (x2) (x3) (s.2.1)  (s.1, (0 : Int32), s.2.2)
noncomputable def F_X0_greatestPart (x0 : Nat) (x1 : Nat) (x2 : Int32) (x3 : Int32) (σ : Mem) : Option (Int32 × Mem) :=
  (gR 0 3 x0).bind fun p24 =>
  (F_J7_fill_53178 p24 (0 : Int32) σ).bind fun q25 =>
  F_X0_greatestPart_14 (x0) (x1) (x2) (x3)  ((0 : Int32), (0 : Int32), q25)
noncomputable def F_X0_tellingNight_63 (x0 : Nat) (x1 : Nat) (x2 : Int32) : Int32 × Int32 × Mem → Option (Int32 × Mem) := lp fun s =>
  if (8 : Int32) ≤ s.2.1 then
  some (.inr ((s.1, s.2.2)))
  else
  (F_X0_greatestPart x0 x1 x2 s.2.1 s.2.2).bind fun q12 =>
  (gI 0 5 x0 q12.2).bind fun v15 =>
  if v15 ≤ q12.1 then
  some (.inl (s.1, (s.2.1 + (1 : Int32)), q12.2))
  else
  (pI 0 5 x0 q12.1 q12.2).bind fun m18 =>
  some (.inl (s.2.1, (s.2.1 + (1 : Int32)), m18))
noncomputable def F_X0_tellingNight_5 (x0 : Nat) (x1 : Nat) (x2 : Int32) : Int32 × Int32 × Mem → Option (Int32 × Mem) := lp fun s =>
  if (6 : Int32) ≤ s.2.1 then
  if s.1 = 0 then
  some (.inr (((-9 : Int32), s.2.2)))
  else
  (pI 0 5 x0 (1000000 : Int32) s.2.2).bind fun m4 =>
  (F_X0_tellingNight_63 (x0) (x1) (x2)  ((0 : Int32), (0 : Int32), m4)).map fun z => .inr (z)
  else
  (F_X0_thicksFitting x0 x1 x2 s.2.1 s.2.2).bind fun q5 =>
  (gR 0 2 x0).bind fun p8 =>
  (F_X8_write p8 s.2.1 q5 s.2.2).bind fun q9 =>
  some (.inl ((s.1 ||| q5), (s.2.1 + (1 : Int32)), q9))
noncomputable def F_X0_tellingNight (x0 : Nat) (x1 : Nat) (x2 : Int32) (σ : Mem) : Option (Int32 × Mem) :=
  F_X0_tellingNight_5 (x0) (x1) (x2)  ((0 : Int32), (0 : Int32), σ)
noncomputable def F_X7_thickOf (x0 : Nat) (x1 : Int32) (σ : Mem) : Option Int32 :=
  (gR 7 4 x0).bind fun p2 =>
  (F_X8_read p2 x1 σ).bind fun q3 =>
  some q3
noncomputable def F_X8_copyAll (x0 : Nat) (x1 : Nat) (σ : Mem) : Option Mem :=
  (aN x0).bind fun v1 =>
  (aN x1).bind fun v3 =>
  (cpI x0 (0 : Int32) x1 (0 : Int32) (if v3 < v1 then v3 else v1) σ).bind fun m5 =>
  some m5
noncomputable def F_X7_copyFrom (x0 : Nat) (x1 : Nat) (σ : Mem) : Option Mem :=
  (gR 7 0 x1).bind fun p2 =>
  (gR 7 0 x0).bind fun p4 =>
  (F_X8_copyAll p2 p4 σ).bind fun q5 =>
  (gR 7 1 x1).bind fun p8 =>
  (gR 7 1 x0).bind fun p10 =>
  (F_X8_copyAll p8 p10 q5).bind fun q11 =>
  (gR 7 2 x1).bind fun p14 =>
  (gR 7 2 x0).bind fun p16 =>
  (F_X8_copyAll p14 p16 q11).bind fun q17 =>
  (gR 7 3 x1).bind fun p20 =>
  (gR 7 3 x0).bind fun p22 =>
  (F_X8_copyAll p20 p22 q17).bind fun q23 =>
  (gR 7 4 x1).bind fun p26 =>
  (gR 7 4 x0).bind fun p28 =>
  (F_X8_copyAll p26 p28 q23).bind fun q29 =>
  (gR 7 5 x1).bind fun p32 =>
  (gR 7 5 x0).bind fun p34 =>
  (F_X8_copyAll p32 p34 q29).bind fun q35 =>
  (gR 7 6 x1).bind fun p38 =>
  (gR 7 6 x0).bind fun p40 =>
  (F_X8_copyAll p38 p40 q35).bind fun q41 =>
  (gI 7 7 x1 q41).bind fun v44 =>
  (pI 7 7 x0 v44 q41).bind fun m46 =>
  (gI 7 8 x1 m46).bind fun v48 =>
  (pI 7 8 x0 v48 m46).bind fun m50 =>
  (gI 7 9 x1 m50).bind fun v52 =>
  (pI 7 9 x0 v52 m50).bind fun m54 =>
  some m54
noncomputable def F_X2_copyAt (x0 : Nat) (x1 : Int32) (x2 : Nat) (σ : Mem) : Option (Option Nat × Mem) :=
  if x1 < 0 then
  some (none, σ)
  else
  (gR 2 0 x0).bind fun p3 =>
  (aN p3).bind fun v4 =>
  if v4 ≤ x1 then
  some (none, σ)
  else
  (gR 2 0 x0).bind fun p8 =>
  (aR p8 x1).bind fun p9 =>
  (chk 7 p9).bind fun _ =>
  (F_X7_copyFrom p9 x2 σ).bind fun q12 =>
  some ((some p9), q12)
noncomputable def F_X7_thinBed (x0 : Nat) (x1 : Int32) (x2 : Int32) (σ : Mem) : Option Mem :=
  (gR 7 4 x0).bind fun p2 =>
  (gR 7 4 x0).bind fun p4 =>
  (F_X8_read p4 x1 σ).bind fun q5 =>
  (F_X8_write p2 x1 (if (0 : Int32) < (q5 - x2) then (q5 - x2) else (0 : Int32)) σ).bind fun q7 =>
  some q7
noncomputable def F_X7_kindOf (x0 : Nat) (x1 : Int32) (σ : Mem) : Option Int32 :=
  (gR 7 1 x0).bind fun p2 =>
  (F_X8_read p2 x1 σ).bind fun q3 =>
  some q3
noncomputable def F_X7_liesIn (x0 : Nat) (x1 : Int32) (σ : Mem) : Option Int32 :=
  (gR 7 5 x0).bind fun p2 =>
  (F_X8_read p2 x1 σ).bind fun q3 =>
  some q3
noncomputable def F_X7_sleepIn (x0 : Nat) (x1 : Int32) (σ : Mem) : Option (Int32 × Mem) :=
  (F_X7_kindOf x0 x1 σ).bind fun q1 =>
  (F_X7_gapWith x0 x1 x1 σ).bind fun q3 =>
  (F_X7_thickOf x0 x1 σ).bind fun q5 =>
  (gI 7 9 x0 σ).bind fun v8 =>
  (gI 7 9 x0 σ).bind fun v10 =>
  (F_X7_coldOf x0 v10 σ).bind fun q11 =>
  (F_X8_crossing q1 q3 q5 v8 q11 σ).bind fun q13 =>
  (gR 7 5 x0).bind fun p16 =>
  (F_X7_liesIn x0 x1 σ).bind fun q17 =>
  (F_X8_write p16 x1 (if (q17 + q13) < (99 : Int32) then (q17 + q13) else (99 : Int32)) σ).bind fun q19 =>
  if q13 < (3 : Int32) then
  some (q13, q19)
  else
  (F_X7_thinBed x0 x1 (1 : Int32) q19).bind fun q22 =>
  some (q13, q22)
noncomputable def F_X7_passNight_4 (x0 : Nat) : Int32 × Int32 × Mem → Option (Int32 × Mem) := lp fun s =>
  (gI 7 8 x0 s.2.2).bind fun v2 =>
  if v2 ≤ s.2.1 then
  (gI 7 9 x0 s.2.2).bind fun v5 =>
  (pI 7 9 x0 (v5 + (1 : Int32)) s.2.2).bind fun m7 =>
  some (.inr ((s.1, m7)))
  else
  (F_X7_sleepIn x0 s.2.1 s.2.2).bind fun q8 =>
  some (.inl ((s.1 + q8.1), (s.2.1 + (1 : Int32)), q8.2))
noncomputable def F_X7_passNight (x0 : Nat) (σ : Mem) : Option (Int32 × Mem) :=
  F_X7_passNight_4 (x0)  ((0 : Int32), (0 : Int32), σ)
noncomputable def F_X1_fewestFrom_30 (rec : Nat → Nat → Int32 → Int32 → Mem → Option (Int32 × Mem)) (x0 : Nat) (x1 : Nat) (x2 : Int32) (x3 : Int32) (x4 : Int32) (x5 : Int32)  (σ : Mem) : Option ((Int32 × Int32 × Mem) ⊕ (Int32 × Mem)) :=
  (gR 1 0 x0).bind fun p10 =>
  (chk 2 p10).bind fun _ =>
  (F_X2_copyAt p10 x2 x1 σ).bind fun q12 =>
  match q12 with
  | (none, m15) =>
  some (.inl (x4, (x5 + (1 : Int32)), m15))
  | (some p16, m15) =>
  (chk 7 p16).bind fun _ =>
  (F_X7_thinBed p16 x5 (1 : Int32) m15).bind fun q18 =>
  (chk 7 p16).bind fun _ =>
  (F_X7_passNight p16 q18).bind fun q21 =>
  (rec x0 p16 (x2 + (1 : Int32)) x3 q21.2).bind fun q23 =>
  some (.inl ((if q23.1 < x4 then q23.1 else x4), (x5 + (1 : Int32)), q23.2))
noncomputable def F_X1_fewestFrom_7 (rec : Nat → Nat → Int32 → Int32 → Mem → Option (Int32 × Mem)) (x0 : Nat) (x1 : Nat) (x2 : Int32) (x3 : Int32) : Int32 × Int32 × Mem → Option (Int32 × Mem) := lp fun s =>
  (gI 7 8 x1 s.2.2).bind fun v2 =>
  if v2 ≤ s.2.1 then
  some (.inr ((s.1, s.2.2)))
  else
  if s.2.1 < 0 then
  F_X1_fewestFrom_30 rec (x0) (x1) (x2) (x3) (s.1) (s.2.1) s.2.2
  else
  (chk 7 x1).bind fun _ =>
  (F_X7_thickOf x1 s.2.1 s.2.2).bind fun q6 =>
  if q6 ≤ 0 then
  some (.inl (s.1, (s.2.1 + (1 : Int32)), s.2.2))
  else
  F_X1_fewestFrom_30 rec (x0) (x1) (x2) (x3) (s.1) (s.2.1) s.2.2
noncomputable def F_X1_fewestFrom (rec : Nat → Nat → Int32 → Int32 → Mem → Option (Int32 × Mem)) (x0 : Nat) (x1 : Nat) (x2 : Int32) (x3 : Int32) (σ : Mem) : Option (Int32 × Mem) :=
  F_X1_fewestFrom_7 rec (x0) (x1) (x2) (x3)  ((1000000 : Int32), (-1 : Int32), σ)
noncomputable def F_X7_has (x0 : Nat) (x1 : Int32) (σ : Mem) : Option Int32 :=
  if x1 < 0 then
  some (0 : Int32)
  else
  (gI 7 8 x0 σ).bind fun v3 =>
  if v3 ≤ x1 then
  some (0 : Int32)
  else
  some (1 : Int32)
noncomputable def F_X7_wouldBeFound (x0 : Nat) (x1 : Int32) (σ : Mem) : Option Int32 :=
  (F_X7_has x0 x1 σ).bind fun q1 =>
  if q1 = 0 then
  some (0 : Int32)
  else
  (gR 7 5 x0).bind fun p5 =>
  (F_X8_read p5 x1 σ).bind fun q6 =>
  (gI 7 7 x0 σ).bind fun v9 =>
  if q6 < v9 then
  some (0 : Int32)
  else
  some (1 : Int32)
noncomputable def F_X7_inspectBed (x0 : Nat) (x1 : Int32) (σ : Mem) : Option (Int32 × Mem) :=
  (F_X7_wouldBeFound x0 x1 σ).bind fun q1 =>
  if q1 = 0 then
  some ((0 : Int32), σ)
  else
  (F_X7_liesIn x0 x1 σ).bind fun q4 =>
  (gR 7 5 x0).bind fun p7 =>
  (F_X8_write p7 x1 (0 : Int32) σ).bind fun q8 =>
  (gR 7 4 x0).bind fun p11 =>
  (F_X8_write p11 x1 (9 : Int32) q8).bind fun q12 =>
  (gR 7 6 x0).bind fun p15 =>
  (gR 7 6 x0).bind fun p17 =>
  (F_X8_read p17 x1 q12).bind fun q18 =>
  (F_X8_write p15 x1 (q18 + (1 : Int32)) q12).bind fun q20 =>
  some (q4, q20)
noncomputable def F_X1_mostFrom_29 (rec : Nat → Nat → Int32 → Int32 → Mem → Option (Int32 × Mem)) (x0 : Nat) (x1 : Nat) (x2 : Int32) (x3 : Int32) (x4 : Int32) (x5 : Int32)  (σ : Mem) : Option ((Int32 × Int32 × Mem) ⊕ (Int32 × Mem)) :=
  (gR 1 0 x0).bind fun p10 =>
  (chk 2 p10).bind fun _ =>
  (F_X2_copyAt p10 x2 x1 σ).bind fun q12 =>
  match q12 with
  | (none, m15) =>
  some (.inl (x4, (x5 + (1 : Int32)), m15))
  | (some p16, m15) =>
  (chk 7 p16).bind fun _ =>
  (F_X7_inspectBed p16 x5 m15).bind fun q18 =>
  (rec x0 p16 (x2 + (1 : Int32)) x3 q18.2).bind fun q20 =>
  let w22 := (if x4 < (q18.1 + q20.1) then (q18.1 + q20.1) else x4)
  some (.inl (w22, (x5 + (1 : Int32)), q20.2))
noncomputable def F_X1_mostFrom_6 (rec : Nat → Nat → Int32 → Int32 → Mem → Option (Int32 × Mem)) (x0 : Nat) (x1 : Nat) (x2 : Int32) (x3 : Int32) : Int32 × Int32 × Mem → Option (Int32 × Mem) := lp fun s =>
  (gI 7 8 x1 s.2.2).bind fun v2 =>
  if v2 ≤ s.2.1 then
  some (.inr ((s.1, s.2.2)))
  else
  if s.2.1 < 0 then
  F_X1_mostFrom_29 rec (x0) (x1) (x2) (x3) (s.1) (s.2.1) s.2.2
  else
  (chk 7 x1).bind fun _ =>
  (F_X7_wouldBeFound x1 s.2.1 s.2.2).bind fun q6 =>
  if q6 = 0 then
  some (.inl (s.1, (s.2.1 + (1 : Int32)), s.2.2))
  else
  F_X1_mostFrom_29 rec (x0) (x1) (x2) (x3) (s.1) (s.2.1) s.2.2
noncomputable def F_X1_mostFrom (rec : Nat → Nat → Int32 → Int32 → Mem → Option (Int32 × Mem)) (x0 : Nat) (x1 : Nat) (x2 : Int32) (x3 : Int32) (σ : Mem) : Option (Int32 × Mem) :=
  F_X1_mostFrom_6 rec (x0) (x1) (x2) (x3)  ((0 : Int32), (-1 : Int32), σ)
noncomputable def B_X1_foundFrom (rec : Nat → Nat → Int32 → Int32 → Mem → Option (Int32 × Mem)) (x0 : Nat) (x1 : Nat) (x2 : Int32) (x3 : Int32) (σ : Mem) : Option (Int32 × Mem) :=
  if x2 < x3 then
  if (x2 - x2 / (2 : Int32) * (2 : Int32)) = 0 then
  (F_X1_fewestFrom rec x0 x1 x2 x3 σ).bind fun q5 =>
  some (q5.1, q5.2)
  else
  (F_X1_mostFrom rec x0 x1 x2 x3 σ).bind fun q3 =>
  some (q3.1, q3.2)
  else
  some ((0 : Int32), σ)
noncomputable def F_X1_foundFrom : Nat → Nat → Nat → Int32 → Int32 → Mem → Option (Int32 × Mem)
  | 0, _, _, _, _, _ => none
  | n + 1, x0, x1, x2, x3, σ => B_X1_foundFrom (F_X1_foundFrom n) x0 x1 x2 x3 σ
noncomputable def F_X7_crossesWith (x0 : Nat) (x1 : Int32) (x2 : Int32) (σ : Mem) : Option Int32 :=
  (F_X7_kindOf x0 x1 σ).bind fun q1 =>
  (F_X7_gapWith x0 x1 x2 σ).bind fun q3 =>
  (F_X7_thickOf x0 x1 σ).bind fun q5 =>
  (gI 7 9 x0 σ).bind fun v8 =>
  (gI 7 9 x0 σ).bind fun v10 =>
  (F_X7_coldOf x0 v10 σ).bind fun q11 =>
  (F_X8_crossing q1 q3 q5 v8 q11 σ).bind fun q13 =>
  some q13
noncomputable def F_X3_giveEach_3 (rec : Nat → Nat → Int32 → Int32 → Int32 → Mem → Option Mem) (x0 : Nat) (x1 : Nat) (x2 : Int32) (x3 : Int32) (x4 : Int32) : Int32 × Mem → Option Mem := lp fun s =>
  (gI 7 8 x1 s.2).bind fun v2 =>
  if v2 ≤ s.1 then
  some (.inr (s.2))
  else
  if ((x3 >>> (s.1 &&& 31)) &&& (1 : Int32)) = 0 then
  (gR 3 1 x0).bind fun p6 =>
  (F_X8_write p6 x2 s.1 s.2).bind fun q7 =>
  (chk 7 x1).bind fun _ =>
  (F_X7_crossesWith x1 x2 s.1 q7).bind fun q10 =>
  (rec x0 x1 (x2 + (1 : Int32)) (x3 ||| ((1 : Int32) <<< (s.1 &&& 31))) (x4 + q10) q7).bind fun q12 =>
  some (.inl ((s.1 + (1 : Int32)), q12))
  else
  some (.inl ((s.1 + (1 : Int32)), s.2))
noncomputable def F_X3_giveEach (rec : Nat → Nat → Int32 → Int32 → Int32 → Mem → Option Mem) (x0 : Nat) (x1 : Nat) (x2 : Int32) (x3 : Int32) (x4 : Int32) (σ : Mem) : Option Mem :=
  F_X3_giveEach_3 rec (x0) (x1) (x2) (x3) (x4)  ((0 : Int32), σ)
noncomputable def B_X3_give (rec : Nat → Nat → Int32 → Int32 → Int32 → Mem → Option Mem) (x0 : Nat) (x1 : Nat) (x2 : Int32) (x3 : Int32) (x4 : Int32) (σ : Mem) : Option Mem :=
  (gI 3 2 x0 σ).bind fun v2 =>
  if x4 < v2 then
  (gI 7 8 x1 σ).bind fun v5 =>
  if x2 < v5 then
  (F_X3_giveEach rec x0 x1 x2 x3 x4 σ).bind fun q7 =>
  some q7
  else
  (pI 3 2 x0 x4 σ).bind fun m10 =>
  (gR 3 1 x0).bind fun p12 =>
  (gR 3 0 x0).bind fun p14 =>
  (F_X8_copyAll p12 p14 m10).bind fun q15 =>
  some q15
  else
  some σ
noncomputable def F_X3_give : Nat → Nat → Nat → Int32 → Int32 → Int32 → Mem → Option Mem
  | 0, _, _, _, _, _, _ => none
  | n + 1, x0, x1, x2, x3, x4, σ => B_X3_give (F_X3_give n) x0 x1 x2 x3 x4 σ
noncomputable def F_X3_fewestCrossing (x0 : Nat) (x1 : Nat) (σ : Mem) : Option (Int32 × Mem) :=
  (pI 3 2 x0 (1000000 : Int32) σ).bind fun m2 =>
  (F_X3_give 8 x0 x1 (0 : Int32) (0 : Int32) (0 : Int32) m2).bind fun q3 =>
  (gI 3 2 x0 q3).bind fun v6 =>
  some (v6, q3)
noncomputable def F_X7_clearBeds (x0 : Nat) (σ : Mem) : Option Mem :=
  (pI 7 8 x0 (0 : Int32) σ).bind fun m2 =>
  some m2
noncomputable def F_X4_here (x0 : Nat) (σ : Mem) : Option Int32 :=
  (gI 4 3 x0 σ).bind fun v2 =>
  (gI 4 2 x0 σ).bind fun v4 =>
  if v4 ≤ v2 then
  some (0 : Int32)
  else
  (gR 4 1 x0).bind fun p7 =>
  (gI 4 3 x0 σ).bind fun v9 =>
  (F_X8_read p7 v9 σ).bind fun q10 =>
  some q10
noncomputable def F_X4_skipBlanks_0 (x0 : Nat) : Mem → Option Mem := lp fun s =>
  (gI 4 3 x0 s).bind fun v2 =>
  (gI 4 2 x0 s).bind fun v4 =>
  if v4 ≤ v2 then
  some (.inr (s))
  else
  (F_X4_here x0 s).bind fun q6 =>
  if q6 = (32 : Int32) then
  (gI 4 3 x0 s).bind fun v10 =>
  (pI 4 3 x0 (v10 + (1 : Int32)) s).bind fun m12 =>
  some (.inl (m12))
  else
  some (.inr (s))
noncomputable def F_X4_skipBlanks (x0 : Nat) (σ : Mem) : Option Mem :=
  F_X4_skipBlanks_0 (x0)  (σ)
noncomputable def F_X4_takeFigure (x0 : Nat) (x1 : Int32) (σ : Mem) : Option (Int32 × Mem) :=
  (F_X4_here x0 σ).bind fun q1 =>
  if (q1 - (48 : Int32)) < x1 then
  some ((-1 : Int32), σ)
  else
  if (q1 - (48 : Int32)) ≤ (9 : Int32) then
  (gI 4 3 x0 σ).bind fun v6 =>
  (pI 4 3 x0 (v6 + (1 : Int32)) σ).bind fun m8 =>
  some ((q1 - (48 : Int32)), m8)
  else
  some ((-1 : Int32), σ)
noncomputable def F_X4_takesHead_23 (x0 : Nat) : Int32 × Mem → Option (Int32 × Mem) := lp fun s =>
  if (4 : Int32) ≤ s.1 then
  (F_X4_takeFigure x0 (1 : Int32) s.2).bind fun q2 =>
  (gR 4 0 x0).bind fun p5 =>
  (pI 7 7 p5 q2.1 q2.2).bind fun m7 =>
  if q2.1 = (-1 : Int32) then
  some (.inr (((0 : Int32), m7)))
  else
  some (.inr (((1 : Int32), m7)))
  else
  (F_X4_takeFigure x0 (0 : Int32) s.2).bind fun q9 =>
  if q9.1 = (-1 : Int32) then
  some (.inr (((0 : Int32), q9.2)))
  else
  (gR 4 0 x0).bind fun p13 =>
  (gR 7 0 p13).bind fun p15 =>
  (F_X8_write p15 s.1 q9.1 q9.2).bind fun q16 =>
  some (.inl ((s.1 + (1 : Int32)), q16))
noncomputable def F_X4_takesHead (x0 : Nat) (σ : Mem) : Option (Int32 × Mem) :=
  (F_X4_here x0 σ).bind fun q18 =>
  if q18 = (110 : Int32) then
  (gI 4 3 x0 σ).bind fun v22 =>
  (pI 4 3 x0 (v22 + (1 : Int32)) σ).bind fun m24 =>
  F_X4_takesHead_23 (x0)  ((0 : Int32), m24)
  else
  some ((0 : Int32), σ)
noncomputable def F_X4_kindHere_2 (x0 : Nat) (σ : Mem) : Int32 → Option Int32 := lp fun s =>
  if (6 : Int32) ≤ s then
  some (.inr ((-1 : Int32)))
  else
  (F_X4_here x0 σ).bind fun q2 =>
  (F_X8_readK s σ).bind fun q4 =>
  if q2 = q4 then
  some (.inr (s))
  else
  some (.inl ((s + (1 : Int32))))
noncomputable def F_X4_kindHere (x0 : Nat) (σ : Mem) : Option Int32 :=
  F_X4_kindHere_2 (x0) σ ((0 : Int32))
noncomputable def F_X7_addBed (x0 : Nat) (x1 : Int32) (x2 : Int32) (x3 : Int32) (x4 : Int32) (σ : Mem) : Option Mem :=
  (gR 7 1 x0).bind fun p2 =>
  (gI 7 8 x0 σ).bind fun v4 =>
  (F_X8_write p2 v4 x1 σ).bind fun q5 =>
  (gR 7 2 x0).bind fun p8 =>
  (gI 7 8 x0 q5).bind fun v10 =>
  (F_X8_write p8 v10 x2 q5).bind fun q11 =>
  (gR 7 3 x0).bind fun p14 =>
  (gI 7 8 x0 q11).bind fun v16 =>
  (F_X8_write p14 v16 x3 q11).bind fun q17 =>
  (gR 7 4 x0).bind fun p20 =>
  (gI 7 8 x0 q17).bind fun v22 =>
  (F_X8_write p20 v22 x4 q17).bind fun q23 =>
  (gI 7 8 x0 q23).bind fun v26 =>
  (pI 7 8 x0 (v26 + (1 : Int32)) q23).bind fun m28 =>
  some m28
noncomputable def F_X4_takesBed_69 (x0 : Nat) (x1 : Int32) (x2 : Int32) (x3 : Int32) (y0 : Int32) (σ : Mem) : Option (Int32 × Mem) :=
  if y0 = (-1 : Int32) then
  some ((0 : Int32), σ)
  else
  (gR 4 0 x0).bind fun p6 =>
  (chk 7 p6).bind fun _ =>
  (F_X7_addBed p6 x1 x2 x3 y0 σ).bind fun q8 =>
  some ((1 : Int32), q8)
noncomputable def F_X4_takesBed_54 (x0 : Nat) (x1 : Int32) (x2 : Int32) (y0 : Int32) (σ : Mem) : Option (Int32 × Mem) :=
  if y0 = (-1 : Int32) then
  F_X4_takesBed_69 (x0) (x1) (x2) (y0) ((-1 : Int32)) σ
  else
  (F_X4_takeFigure x0 (0 : Int32) σ).bind fun q2 =>
  F_X4_takesBed_69 (x0) (x1) (x2) (y0) (q2.1) q2.2
noncomputable def F_X4_takesBed (x0 : Nat) (σ : Mem) : Option (Int32 × Mem) :=
  (F_X4_kindHere x0 σ).bind fun q10 =>
  if q10 = (-1 : Int32) then
  some ((0 : Int32), σ)
  else
  (gR 4 0 x0).bind fun p14 =>
  (gI 7 8 p14 σ).bind fun v16 =>
  if v16 < (6 : Int32) then
  (gI 4 3 x0 σ).bind fun v19 =>
  (pI 4 3 x0 (v19 + (1 : Int32)) σ).bind fun m21 =>
  (F_X4_takeFigure x0 (0 : Int32) m21).bind fun q22 =>
  if q22.1 = (-1 : Int32) then
  F_X4_takesBed_54 (x0) (q10) (q22.1) ((-1 : Int32)) q22.2
  else
  (F_X4_takeFigure x0 (0 : Int32) q22.2).bind fun q25 =>
  F_X4_takesBed_54 (x0) (q10) (q22.1) (q25.1) q25.2
  else
  some ((0 : Int32), σ)
noncomputable def F_X4_readTown_69 (x0 : Nat) : Int32 × Mem → Option (Int32 × Mem) := lp fun s =>
  if (6 : Int32) < s.1 then
  (gI 4 3 x0 s.2).bind fun v27 =>
  some (.inr ((v27, s.2)))
  else
  (F_X4_skipBlanks x0 s.2).bind fun q28 =>
  (gI 4 3 x0 q28).bind fun v31 =>
  (gI 4 2 x0 q28).bind fun v33 =>
  if v31 < v33 then
  (F_X4_takesBed x0 q28).bind fun q35 =>
  if q35.1 = 0 then
  (gI 4 3 x0 q35.2).bind fun v39 =>
  some (.inr ((v39, q35.2)))
  else
  some (.inl ((s.1 + (1 : Int32)), q35.2))
  else
  (gR 4 0 x0).bind fun p41 =>
  (gI 7 8 p41 q28).bind fun v43 =>
  if v43 ≤ 0 then
  (gI 4 3 x0 q28).bind fun v46 =>
  some (.inr ((v46, q28)))
  else
  some (.inr (((-9 : Int32), q28)))
noncomputable def F_X4_readTown_11 (x0 : Nat) (x1 : Nat) (x2 : Int32) : Int32 × Mem → Option (Int32 × Mem) := lp fun s =>
  (gI 4 2 x0 s.2).bind fun v2 =>
  if v2 ≤ s.1 then
  (pI 4 3 x0 (0 : Int32) s.2).bind fun m5 =>
  (gR 4 0 x0).bind fun p7 =>
  (chk 7 p7).bind fun _ =>
  (F_X7_clearBeds p7 m5).bind fun q9 =>
  (F_X4_skipBlanks x0 q9).bind fun q11 =>
  (F_X4_takesHead x0 q11).bind fun q13 =>
  if q13.1 = 0 then
  (gI 4 3 x0 q13.2).bind fun v17 =>
  some (.inr ((v17, q13.2)))
  else
  (F_X4_readTown_69 (x0)  ((0 : Int32), q13.2)).map fun z => .inr (z)
  else
  (gR 4 1 x0).bind fun p19 =>
  (chk 6 x1).bind fun _ =>
  (F_X6_get x1 x2 s.1 s.2).bind fun q21 =>
  (F_X8_write p19 s.1 q21 s.2).bind fun q23 =>
  some (.inl ((s.1 + (1 : Int32)), q23))
noncomputable def F_X4_readTown (x0 : Nat) (x1 : Nat) (x2 : Int32) (σ : Mem) : Option (Int32 × Mem) :=
  (chk 6 x1).bind fun _ =>
  (F_X6_size x1 x2 σ).bind fun q48 =>
  (pI 4 2 x0 q48 σ).bind fun m51 =>
  F_X4_readTown_11 (x0) (x1) (x2)  ((0 : Int32), m51)
noncomputable def F_X5_takeIfMore (x0 : Nat) (x1 : Int32) (σ : Mem) : Option Mem :=
  (gI 5 3 x0 σ).bind fun v2 =>
  if x1 ≤ v2 then
  some σ
  else
  (pI 5 3 x0 x1 σ).bind fun m5 =>
  (gR 5 2 x0).bind fun p7 =>
  (gR 5 1 x0).bind fun p9 =>
  (F_X8_copyAll p7 p9 m5).bind fun q10 =>
  some q10
noncomputable def F_X5_inspectEach_26 (rec : Nat → Option Nat → Int32 → Int32 → Int32 → Mem → Option Mem) (x0 : Nat) (x1 : Nat) (x2 : Int32) (x3 : Int32) (x4 : Int32) (x5 : Int32)  (σ : Mem) : Option ((Int32 × Mem) ⊕ Mem) :=
  (gR 5 0 x0).bind fun p10 =>
  (chk 2 p10).bind fun _ =>
  (F_X2_copyAt p10 (x2 + (1 : Int32)) x1 σ).bind fun q12 =>
  match q12 with
  | (none, m15) =>
  (gR 5 2 x0).bind fun p17 =>
  if 0 ≤ x5 then
  (F_X8_write p17 x2 x5 m15).bind fun q19 =>
  (rec x0 none (x2 + (1 : Int32)) x3 (x4 + (0 : Int32)) q19).bind fun q21 =>
  some (.inl ((x5 + (1 : Int32)), q21))
  else
  (F_X8_write p17 x2 (-9 : Int32) m15).bind fun q23 =>
  (rec x0 none (x2 + (1 : Int32)) x3 (x4 + (0 : Int32)) q23).bind fun q25 =>
  some (.inl ((x5 + (1 : Int32)), q25))
  | (some p27, m15) =>
  (gR 5 2 x0).bind fun p29 =>
  if 0 ≤ x5 then
  (F_X8_write p29 x2 x5 m15).bind fun q31 =>
  (chk 7 p27).bind fun _ =>
  (F_X7_inspectBed p27 x5 q31).bind fun q34 =>
  (rec x0 (some p27) (x2 + (1 : Int32)) x3 (x4 + q34.1) q34.2).bind fun q36 =>
  some (.inl ((x5 + (1 : Int32)), q36))
  else
  (F_X8_write p29 x2 (-9 : Int32) m15).bind fun q38 =>
  (chk 7 p27).bind fun _ =>
  (F_X7_inspectBed p27 x5 q38).bind fun q41 =>
  (rec x0 (some p27) (x2 + (1 : Int32)) x3 (x4 + q41.1) q41.2).bind fun q43 =>
  some (.inl ((x5 + (1 : Int32)), q43))
noncomputable def F_X5_inspectEach_3 (rec : Nat → Option Nat → Int32 → Int32 → Int32 → Mem → Option Mem) (x0 : Nat) (x1 : Nat) (x2 : Int32) (x3 : Int32) (x4 : Int32) : Int32 × Mem → Option Mem := lp fun s =>
  (gI 7 8 x1 s.2).bind fun v2 =>
  if v2 ≤ s.1 then
  some (.inr (s.2))
  else
  if s.1 < 0 then
  F_X5_inspectEach_26 rec (x0) (x1) (x2) (x3) (x4) (s.1) s.2
  else
  (chk 7 x1).bind fun _ =>
  (F_X7_wouldBeFound x1 s.1 s.2).bind fun q6 =>
  if q6 = 0 then
  some (.inl ((s.1 + (1 : Int32)), s.2))
  else
  F_X5_inspectEach_26 rec (x0) (x1) (x2) (x3) (x4) (s.1) s.2
noncomputable def F_X5_inspectEach (rec : Nat → Option Nat → Int32 → Int32 → Int32 → Mem → Option Mem) (x0 : Nat) (x1 : Nat) (x2 : Int32) (x3 : Int32) (x4 : Int32) (σ : Mem) : Option Mem :=
  F_X5_inspectEach_3 rec (x0) (x1) (x2) (x3) (x4)  ((-1 : Int32), σ)
noncomputable def F_X5_goOn_9 (rec : Nat → Option Nat → Int32 → Int32 → Int32 → Mem → Option Mem) (x0 : Nat) (x4 : Int32)  (σ : Mem) : Option Mem :=
  (F_X5_takeIfMore x0 x4 σ).bind fun q1 =>
  some q1
noncomputable def B_X5_goOn (rec : Nat → Option Nat → Int32 → Int32 → Int32 → Mem → Option Mem) (x0 : Nat) (x1 : Option Nat) (x2 : Int32) (x3 : Int32) (x4 : Int32) (σ : Mem) : Option Mem :=
  match x1 with
  | none =>
  if x3 ≤ x2 then
  F_X5_goOn_9 rec (x0) (x4) σ
  else
  F_X5_goOn_9 rec (x0) (x4) σ
  | some p0 =>
  if x3 ≤ x2 then
  F_X5_goOn_9 rec (x0) (x4) σ
  else
  (chk 7 p0).bind fun _ =>
  (F_X7_passNight p0 σ).bind fun q6 =>
  (F_X5_inspectEach rec x0 p0 x2 x3 x4 q6.2).bind fun q8 =>
  some q8
noncomputable def F_X5_goOn : Nat → Nat → Option Nat → Int32 → Int32 → Int32 → Mem → Option Mem
  | 0, _, _, _, _, _, _ => none
  | n + 1, x0, x1, x2, x3, x4, σ => B_X5_goOn (F_X5_goOn n) x0 x1 x2 x3 x4 σ
noncomputable def F_X5_mostFound (x0 : Nat) (x1 : Nat) (x2 : Int32) (σ : Mem) : Option (Int32 × Mem) :=
  (pI 5 3 x0 (-1 : Int32) σ).bind fun m2 =>
  (gR 5 0 x0).bind fun p4 =>
  (chk 2 p4).bind fun _ =>
  (F_X2_copyAt p4 (0 : Int32) x1 m2).bind fun q6 =>
  match q6 with
  | (none, m9) =>
  (F_X5_goOn 8 x0 none (0 : Int32) x2 (0 : Int32) m9).bind fun q10 =>
  (gI 5 3 x0 q10).bind fun v13 =>
  some (v13, q10)
  | (some p14, m9) =>
  (F_X5_goOn 8 x0 (some p14) (0 : Int32) x2 (0 : Int32) m9).bind fun q15 =>
  (gI 5 3 x0 q15).bind fun v18 =>
  some (v18, q15)
noncomputable def F_X6_isNumber (x0 : Nat) (x1 : Int32) (σ : Mem) : Option Int32 :=
  if x1 < 0 then
  some (0 : Int32)
  else
  (gR 6 1 x0).bind fun p3 =>
  (aN p3).bind fun v4 =>
  if v4 ≤ x1 then
  some (0 : Int32)
  else
  some (1 : Int32)
noncomputable def F_X6_stands (x0 : Nat) (x1 : Int32) (σ : Mem) : Option Int32 :=
  (F_X6_size x0 x1 σ).bind fun q1 =>
  if q1 < 0 then
  some (0 : Int32)
  else
  some (1 : Int32)
noncomputable def F_X6_standing_36 (x2 : Nat) (x3 : Int32) (x4 : Int32) (y0 : Int32) (y1 : Int32) (σ : Mem) : Option ((Int32 × Int32) ⊕ Int32) :=
  some (.inl ((y1 + y0), (x4 + (1 : Int32))))
noncomputable def F_X6_standing_13 (x2 : Nat) (x3 : Int32) (σ : Mem) : Int32 × Int32 → Option Int32 := lp fun s =>
  if x3 ≤ s.2 then
  some (.inr (s.1))
  else
  (aJ x2 s.2 σ).bind fun v2 =>
  if v2 < 0 then
  F_X6_standing_36 (x2) (x3) (s.2) ((0 : Int32)) (s.1) σ
  else
  F_X6_standing_36 (x2) (x3) (s.2) ((1 : Int32)) (s.1) σ
noncomputable def F_X6_standing (x0 : Nat) (σ : Mem) : Option Int32 :=
  (gR 6 1 x0).bind fun p6 =>
  (aN p6).bind fun v7 =>
  F_X6_standing_13 (p6) (v7) σ ((0 : Int32), (0 : Int32))
noncomputable def F_X6_holds (x0 : Nat) (x1 : Int32) (x2 : Int32) (x3 : Int32) (σ : Mem) : Option Int32 :=
  if x2 < 0 then
  some (0 : Int32)
  else
  if x3 < 0 then
  some (0 : Int32)
  else
  (F_X6_size x0 x1 σ).bind fun q3 =>
  if (q3 - x3) < x2 then
  some (0 : Int32)
  else
  some (1 : Int32)
noncomputable def F_X6_set (x0 : Nat) (x1 : Int32) (x2 : Int32) (x3 : Int32) (σ : Mem) : Option Mem :=
  if x2 < 0 then
  some σ
  else
  (F_X6_size x0 x1 σ).bind fun q2 =>
  if q2 ≤ x2 then
  some σ
  else
  (gR 6 2 x0).bind fun p6 =>
  (gI 6 0 x0 σ).bind fun v8 =>
  (F_X8_write p6 ((x1 * v8) + x2) x3 σ).bind fun q9 =>
  some q9
noncomputable def F_X6_make_19 (x0 : Nat) (x1 : Int32) (x2 : Int32) (x3 : Int32) : Int32 × Mem → Option Mem := lp fun s =>
  if x2 ≤ s.1 then
  some (.inr (s.2))
  else
  (gI 6 0 x0 s.2).bind fun v3 =>
  if v3 ≤ s.1 then
  some (.inr (s.2))
  else
  (F_X6_set x0 x1 s.1 x3 s.2).bind fun q5 =>
  some (.inl ((s.1 + (1 : Int32)), q5))
noncomputable def F_X6_make (x0 : Nat) (x1 : Int32) (x2 : Int32) (x3 : Int32) (σ : Mem) : Option Mem :=
  (gR 6 1 x0).bind fun p8 =>
  (gI 6 0 x0 σ).bind fun v10 =>
  (F_X8_write p8 x1 (if v10 < x2 then v10 else x2) σ).bind fun q11 =>
  F_X6_make_19 (x0) (x1) (x2) (x3)  ((0 : Int32), q11)
noncomputable def F_X6_makeOf_19 (x0 : Nat) (x1 : Int32) (x2 : Int32) (x3 : Nat) : Int32 × Mem → Option Mem := lp fun s =>
  if x2 ≤ s.1 then
  some (.inr (s.2))
  else
  (gI 6 0 x0 s.2).bind fun v3 =>
  if v3 ≤ s.1 then
  some (.inr (s.2))
  else
  (F_X8_read x3 s.1 s.2).bind fun q5 =>
  (F_X6_set x0 x1 s.1 q5 s.2).bind fun q7 =>
  some (.inl ((s.1 + (1 : Int32)), q7))
noncomputable def F_X6_makeOf (x0 : Nat) (x1 : Int32) (x2 : Int32) (x3 : Nat) (σ : Mem) : Option Mem :=
  (gR 6 1 x0).bind fun p10 =>
  (gI 6 0 x0 σ).bind fun v12 =>
  (F_X8_write p10 x1 (if v12 < x2 then v12 else x2) σ).bind fun q13 =>
  F_X6_makeOf_19 (x0) (x1) (x2) (x3)  ((0 : Int32), q13)
noncomputable def F_X6_remove (x0 : Nat) (x1 : Int32) (σ : Mem) : Option Mem :=
  (gR 6 1 x0).bind fun p2 =>
  (F_X8_write p2 x1 (-1 : Int32) σ).bind fun q3 =>
  some q3
noncomputable def F_X6_removeAll (x0 : Nat) (σ : Mem) : Option Mem :=
  (gR 6 1 x0).bind fun p2 =>
  (F_J7_fill_53178 p2 (-1 : Int32) σ).bind fun q3 =>
  some q3
noncomputable def F_X8_shift (x0 : Nat) (x1 : Int32) (x2 : Int32) (x3 : Int32) (σ : Mem) : Option Mem :=
  (aN x0).bind fun v1 =>
  if x3 < 0 then
  some σ
  else
  if x1 < 0 then
  some σ
  else
  if (v1 - x3) < x1 then
  some σ
  else
  if x2 < 0 then
  some σ
  else
  if (v1 - x3) < x2 then
  some σ
  else
  (cpI x0 x1 x0 x2 x3 σ).bind fun m8 =>
  some m8
noncomputable def F_X6_move (x0 : Nat) (x1 : Int32) (x2 : Int32) (x3 : Int32) (x4 : Int32) (x5 : Int32) (σ : Mem) : Option Mem :=
  (gR 6 2 x0).bind fun p2 =>
  (gI 6 0 x0 σ).bind fun v4 =>
  (gI 6 0 x0 σ).bind fun v6 =>
  (F_X8_shift p2 ((x1 * v4) + x2) ((x3 * v6) + x4) x5 σ).bind fun q7 =>
  some q7
noncomputable def F_X6_digestOn_27 (x0 : Nat) (x3 : Int32) (σ : Mem) : Int64 × Int32 → Option ((Int64 × Int32) ⊕ Int64) := lp fun s =>
  (F_X6_size x0 x3 σ).bind fun q8 =>
  if q8 ≤ s.2 then
  some (.inr (.inl (s.1, (x3 + (1 : Int32)))))
  else
  (F_X6_get x0 x3 s.2 σ).bind fun q11 =>
  some (.inl ((((31 : Int64) * s.1) + q11.toInt64), (s.2 + (1 : Int32))))
noncomputable def F_X6_digestOn_2 (x0 : Nat) (σ : Mem) : Int64 × Int32 → Option Int64 := lp fun s =>
  (gR 6 1 x0).bind fun p2 =>
  (aN p2).bind fun v3 =>
  if v3 ≤ s.2 then
  some (.inr (s.1))
  else
  (F_X6_size x0 s.2 σ).bind fun q6 =>
  F_X6_digestOn_27 (x0) (s.2) σ ((((31 : Int64) * s.1) + q6.toInt64), (0 : Int32))
noncomputable def F_X6_digestOn (x0 : Nat) (x1 : Int64) (σ : Mem) : Option Int64 :=
  F_X6_digestOn_2 (x0) σ (x1, (0 : Int32))
noncomputable def F_X7_crossesIn (x0 : Nat) (x1 : Int32) (x2 : Int32) (σ : Mem) : Option Int32 :=
  (F_X7_kindOf x0 x1 σ).bind fun q1 =>
  (F_X7_gapWith x0 x1 x1 σ).bind fun q3 =>
  (F_X7_thickOf x0 x1 σ).bind fun q5 =>
  (F_X7_coldOf x0 x2 σ).bind fun q7 =>
  (F_X8_crossing q1 q3 q5 x2 q7 σ).bind fun q9 =>
  some q9
noncomputable def F_X7_about (x0 : Nat) (x1 : Int32) (x2 : Int32) (σ : Mem) : Option Int32 :=
  if x2 = (0 : Int32) then
  (F_X7_kindOf x0 x1 σ).bind fun q2 =>
  some q2
  else
  if x2 = (1 : Int32) then
  (gR 7 2 x0).bind fun p6 =>
  (F_X8_read p6 x1 σ).bind fun q7 =>
  some q7
  else
  if x2 = (2 : Int32) then
  (gR 7 3 x0).bind fun p11 =>
  (F_X8_read p11 x1 σ).bind fun q12 =>
  some q12
  else
  if x2 = (3 : Int32) then
  (F_X7_thickOf x0 x1 σ).bind fun q15 =>
  some q15
  else
  if x2 = (4 : Int32) then
  (F_X7_liesIn x0 x1 σ).bind fun q18 =>
  some q18
  else
  if x2 = (5 : Int32) then
  (gI 7 9 x0 σ).bind fun v22 =>
  (F_X7_crossesIn x0 x1 v22 σ).bind fun q23 =>
  some q23
  else
  if x2 = (6 : Int32) then
  (F_X7_kindOf x0 x1 σ).bind fun q26 =>
  (F_X7_thickOf x0 x1 σ).bind fun q28 =>
  (F_X8_barOf q26 q28 σ).bind fun q30 =>
  some q30
  else
  (gR 7 6 x0).bind fun p33 =>
  (F_X8_read p33 x1 σ).bind fun q34 =>
  some q34
noncomputable def F_X7_wouldBeFoundBits_28 (x0 : Nat) (x2 : Int32) (y0 : Int32) (y1 : Int32) (σ : Mem) : Option ((Int32 × Int32) ⊕ Int32) :=
  some (.inl ((y1 ||| y0), (x2 + (1 : Int32))))
noncomputable def F_X7_wouldBeFoundBits_4 (x0 : Nat) (σ : Mem) : Int32 × Int32 → Option Int32 := lp fun s =>
  (gI 7 8 x0 σ).bind fun v2 =>
  if v2 ≤ s.2 then
  some (.inr (s.1))
  else
  (F_X7_wouldBeFound x0 s.2 σ).bind fun q4 =>
  if q4 = 0 then
  F_X7_wouldBeFoundBits_28 (x0) (s.2) ((0 : Int32)) (s.1) σ
  else
  F_X7_wouldBeFoundBits_28 (x0) (s.2) (((1 : Int32) <<< (s.2 &&& 31))) (s.1) σ
noncomputable def F_X7_wouldBeFoundBits (x0 : Nat) (σ : Mem) : Option Int32 :=
  F_X7_wouldBeFoundBits_4 (x0) σ ((0 : Int32), (0 : Int32))
noncomputable def F_X7_fines_4 (x0 : Nat) (σ : Mem) : Int32 × Int32 → Option Int32 := lp fun s =>
  (gI 7 8 x0 σ).bind fun v2 =>
  if v2 ≤ s.2 then
  some (.inr (s.1))
  else
  (gR 7 6 x0).bind fun p5 =>
  (F_X8_read p5 s.2 σ).bind fun q6 =>
  some (.inl ((s.1 + q6), (s.2 + (1 : Int32))))
noncomputable def F_X7_fines (x0 : Nat) (σ : Mem) : Option Int32 :=
  F_X7_fines_4 (x0) σ ((0 : Int32), (0 : Int32))
noncomputable def F_X7_liesInAll_4 (x0 : Nat) (σ : Mem) : Int32 × Int32 → Option Int32 := lp fun s =>
  (gI 7 8 x0 σ).bind fun v2 =>
  if v2 ≤ s.2 then
  some (.inr (s.1))
  else
  (F_X7_liesIn x0 s.2 σ).bind fun q4 =>
  some (.inl ((s.1 + q4), (s.2 + (1 : Int32))))
noncomputable def F_X7_liesInAll (x0 : Nat) (σ : Mem) : Option Int32 :=
  F_X7_liesInAll_4 (x0) σ ((0 : Int32), (0 : Int32))
noncomputable def F_X8_isOfKind_29   (σ : Mem) : Option Int32 :=
  some (1 : Int32)
noncomputable def F_X8_isOfKind_19 (x0 : Int32) (x1 : Int32)  (σ : Mem) : Option Int32 :=
  if x0 = (5 : Int32) then
  if x1 = (1 : Int32) then
  F_X8_isOfKind_29  σ
  else
  some (0 : Int32)
  else
  some (0 : Int32)
noncomputable def F_X8_isOfKind (x0 : Int32) (x1 : Int32) (σ : Mem) : Option Int32 :=
  if x0 = x1 then
  F_X8_isOfKind_29  σ
  else
  if x1 = 0 then
  F_X8_isOfKind_29  σ
  else
  if x0 = (4 : Int32) then
  if x1 = (2 : Int32) then
  F_X8_isOfKind_29  σ
  else
  F_X8_isOfKind_19 (x0) (x1) σ
  else
  F_X8_isOfKind_19 (x0) (x1) σ
noncomputable def F_X7_quilts_30 (x0 : Nat) (x2 : Int32) (y0 : Int32) (y1 : Int32) (σ : Mem) : Option ((Int32 × Int32) ⊕ Int32) :=
  some (.inl ((y1 + y0), (x2 + (1 : Int32))))
noncomputable def F_X7_quilts_4 (x0 : Nat) (σ : Mem) : Int32 × Int32 → Option Int32 := lp fun s =>
  (gI 7 8 x0 σ).bind fun v2 =>
  if v2 ≤ s.2 then
  some (.inr (s.1))
  else
  (F_X7_kindOf x0 s.2 σ).bind fun q4 =>
  (F_X8_isOfKind q4 (2 : Int32) σ).bind fun q6 =>
  if q6 = 0 then
  F_X7_quilts_30 (x0) (s.2) ((0 : Int32)) (s.1) σ
  else
  F_X7_quilts_30 (x0) (s.2) ((1 : Int32)) (s.1) σ
noncomputable def F_X7_quilts (x0 : Nat) (σ : Mem) : Option Int32 :=
  F_X7_quilts_4 (x0) σ ((0 : Int32), (0 : Int32))
noncomputable def F_X7_mostLying_4 (x0 : Nat) (x1 : Int32) (σ : Mem) : Int32 × Int32 → Option Int32 := lp fun s =>
  (gI 7 8 x0 σ).bind fun v2 =>
  if v2 ≤ s.2 then
  some (.inr (s.1))
  else
  if ((x1 >>> (s.2 &&& 31)) &&& (1 : Int32)) = (1 : Int32) then
  (F_X7_liesIn x0 s.2 σ).bind fun q5 =>
  some (.inl ((if s.1 < q5 then q5 else s.1), (s.2 + (1 : Int32))))
  else
  some (.inl (s.1, (s.2 + (1 : Int32))))
noncomputable def F_X7_mostLying (x0 : Nat) (x1 : Int32) (σ : Mem) : Option Int32 :=
  F_X7_mostLying_4 (x0) (x1) σ ((0 : Int32), (0 : Int32))
noncomputable def F_X7_swapRights (x0 : Nat) (x1 : Int32) (x2 : Int32) (σ : Mem) : Option Mem :=
  (gR 7 3 x0).bind fun p2 =>
  (F_X8_read p2 x1 σ).bind fun q3 =>
  (gR 7 3 x0).bind fun p6 =>
  (gR 7 3 x0).bind fun p8 =>
  (F_X8_read p8 x2 σ).bind fun q9 =>
  (F_X8_write p6 x1 q9 σ).bind fun q11 =>
  (gR 7 3 x0).bind fun p14 =>
  (F_X8_write p14 x2 q3 q11).bind fun q15 =>
  some q15
noncomputable def F_X7_carryOut (x0 : Nat) (x1 : Int32) (σ : Mem) : Option (Int32 × Mem) :=
  let w1 := ((x1 / (10 : Int32)) - (x1 / (10 : Int32)) / (10 : Int32) * (10 : Int32))
  if (x1 / (100 : Int32)) = (1 : Int32) then
  (F_X7_inspectBed x0 w1 σ).bind fun q3 =>
  some (q3.1, q3.2)
  else
  if (x1 / (100 : Int32)) = (2 : Int32) then
  (F_X7_thinBed x0 w1 (1 : Int32) σ).bind fun q6 =>
  (F_X7_thickOf x0 w1 q6).bind fun q8 =>
  some (q8, q6)
  else
  if (x1 / (100 : Int32)) = (3 : Int32) then
  (F_X7_swapRights x0 w1 (x1 - x1 / (10 : Int32) * (10 : Int32)) σ).bind fun q11 =>
  (F_X7_gapWith x0 w1 w1 q11).bind fun q13 =>
  some (q13, q11)
  else
  (F_X7_passNight x0 σ).bind fun q15 =>
  some (q15.1, q15.2)
noncomputable def F_X7_passAlone_2 (x0 : Nat) (x1 : Int32) (x2 : Int32) : Int32 × Mem → Option Mem := lp fun s =>
  if x2 ≤ s.1 then
  some (.inr (s.2))
  else
  (F_X7_sleepIn x0 x1 s.2).bind fun q2 =>
  (gI 7 9 x0 q2.2).bind fun v5 =>
  (pI 7 9 x0 (v5 + (1 : Int32)) q2.2).bind fun m7 =>
  some (.inl ((s.1 + (1 : Int32)), m7))
noncomputable def F_X7_passAlone (x0 : Nat) (x1 : Int32) (x2 : Int32) (σ : Mem) : Option Mem :=
  F_X7_passAlone_2 (x0) (x1) (x2)  ((0 : Int32), σ)
noncomputable def F_X8_refuse (x0 : Nat) (x1 : Int32) (σ : Mem) : Option (Int32 × Mem) :=
  (pI 8 16 x0 x1 σ).bind fun m2 =>
  (gR 8 17 x0).bind fun p4 =>
  (gR 8 17 x0).bind fun p6 =>
  (F_X8_read p6 x1 m2).bind fun q7 =>
  (F_X8_write p4 x1 (q7 + (1 : Int32)) m2).bind fun q9 =>
  some ((-3 : Int32), q9)
noncomputable def F_X8_makeAnew (x0 : Nat) (x1 : Nat) (x2 : Int32) (x3 : Int32) (x4 : Int32) (σ : Mem) : Option (Int32 × Mem) :=
  (chk 6 x1).bind fun _ =>
  (F_X6_isNumber x1 x2 σ).bind fun q2 =>
  if q2 = 0 then
  some ((-1 : Int32), σ)
  else
  (gI 6 0 x1 σ).bind fun v6 =>
  if x3 ≤ v6 then
  if 0 ≤ x3 then
  (chk 6 x1).bind fun _ =>
  (F_X6_make x1 x2 x3 x4 σ).bind fun q10 =>
  some (x3, q10)
  else
  (F_X8_refuse x0 (5 : Int32) σ).bind fun q12 =>
  some (q12.1, q12.2)
  else
  some ((-1 : Int32), σ)
noncomputable def F_X8_row (x0 : Nat) (x1 : Int32) (x2 : Int32) (σ : Mem) : Option (Int32 × Mem) :=
  (gR 8 0 x0).bind fun p2 =>
  (F_X8_makeAnew x0 p2 x1 x2 (0 : Int32) σ).bind fun q3 =>
  some (q3.1, q3.2)
noncomputable def F_X8_refusalOfMissing (x0 : Nat) (x1 : Nat) (x2 : Int32) (σ : Mem) : Option (Int32 × Mem) :=
  (chk 6 x1).bind fun _ =>
  (F_X6_isNumber x1 x2 σ).bind fun q2 =>
  if q2 = 0 then
  some ((-1 : Int32), σ)
  else
  (chk 6 x1).bind fun _ =>
  (F_X6_stands x1 x2 σ).bind fun q6 =>
  if q6 = 0 then
  (F_X8_refuse x0 (1 : Int32) σ).bind fun q9 =>
  some (q9.1, q9.2)
  else
  some ((0 : Int32), σ)
noncomputable def F_X8_refusalOfPlace (x0 : Nat) (x1 : Nat) (x2 : Int32) (x3 : Int32) (σ : Mem) : Option (Int32 × Mem) :=
  (F_X8_refusalOfMissing x0 x1 x2 σ).bind fun q1 =>
  if q1.1 = 0 then
  (chk 6 x1).bind fun _ =>
  (F_X6_holds x1 x2 x3 (1 : Int32) q1.2).bind fun q5 =>
  if q5 = 0 then
  (F_X8_refuse x0 (2 : Int32) q1.2).bind fun q8 =>
  some (q8.1, q8.2)
  else
  some ((0 : Int32), q1.2)
  else
  some (q1.1, q1.2)
noncomputable def F_X8_tell (x0 : Nat) (x1 : Int32) (σ : Mem) : Option (Int32 × Mem) :=
  (pI 8 13 x0 x1 σ).bind fun m2 =>
  some ((1 : Int32), m2)
noncomputable def F_X8_lay (x0 : Nat) (x1 : Int32) (x2 : Int32) (x3 : Int32) (σ : Mem) : Option (Int32 × Mem) :=
  (gR 8 0 x0).bind fun p2 =>
  (F_X8_refusalOfPlace x0 p2 x1 x2 σ).bind fun q3 =>
  if q3.1 = 0 then
  (gR 8 0 x0).bind fun p7 =>
  (chk 6 p7).bind fun _ =>
  (F_X6_get p7 x1 x2 q3.2).bind fun q9 =>
  (gR 8 0 x0).bind fun p12 =>
  (chk 6 p12).bind fun _ =>
  (F_X6_set p12 x1 x2 x3 q3.2).bind fun q14 =>
  (F_X8_tell x0 q9 q14).bind fun q16 =>
  some (q16.1, q16.2)
  else
  some (q3.1, q3.2)
noncomputable def F_X8_at (x0 : Nat) (x1 : Int32) (x2 : Int32) (σ : Mem) : Option (Int32 × Mem) :=
  (gR 8 0 x0).bind fun p2 =>
  (F_X8_refusalOfPlace x0 p2 x1 x2 σ).bind fun q3 =>
  if q3.1 = 0 then
  (gR 8 0 x0).bind fun p7 =>
  (chk 6 p7).bind fun _ =>
  (F_X6_get p7 x1 x2 q3.2).bind fun q9 =>
  (F_X8_tell x0 q9 q3.2).bind fun q11 =>
  some (q11.1, q11.2)
  else
  some (q3.1, q3.2)
noncomputable def F_X8_tear (x0 : Nat) (x1 : Int32) (σ : Mem) : Option (Int32 × Mem) :=
  (gR 8 0 x0).bind fun p2 =>
  (F_X8_refusalOfMissing x0 p2 x1 σ).bind fun q3 =>
  if q3.1 = 0 then
  (gR 8 0 x0).bind fun p7 =>
  (chk 6 p7).bind fun _ =>
  (F_X6_remove p7 x1 q3.2).bind fun q9 =>
  some ((1 : Int32), q9)
  else
  some (q3.1, q3.2)
noncomputable def F_X8_copy_57 (x0 : Nat)  (σ : Mem) : Option (Int32 × Mem) :=
  (F_X8_refuse x0 (1 : Int32) σ).bind fun q1 =>
  some (q1.1, q1.2)
noncomputable def F_X8_copy_92 (x0 : Nat)  (σ : Mem) : Option (Int32 × Mem) :=
  (F_X8_refuse x0 (2 : Int32) σ).bind fun q3 =>
  some (q3.1, q3.2)
noncomputable def F_X8_copy (x0 : Nat) (x1 : Int32) (x2 : Int32) (x3 : Int32) (x4 : Int32) (x5 : Int32) (σ : Mem) : Option (Int32 × Mem) :=
  (gR 8 0 x0).bind fun p6 =>
  (chk 6 p6).bind fun _ =>
  (F_X6_isNumber p6 x1 σ).bind fun q8 =>
  if q8 = 0 then
  some ((-1 : Int32), σ)
  else
  (gR 8 0 x0).bind fun p12 =>
  (chk 6 p12).bind fun _ =>
  (F_X6_isNumber p12 x3 σ).bind fun q14 =>
  if q14 = 0 then
  some ((-1 : Int32), σ)
  else
  if 0 ≤ x5 then
  (gR 8 0 x0).bind fun p19 =>
  (chk 6 p19).bind fun _ =>
  (F_X6_stands p19 x1 σ).bind fun q21 =>
  if q21 = 0 then
  F_X8_copy_57 (x0) σ
  else
  (gR 8 0 x0).bind fun p25 =>
  (chk 6 p25).bind fun _ =>
  (F_X6_stands p25 x3 σ).bind fun q27 =>
  if q27 = 0 then
  F_X8_copy_57 (x0) σ
  else
  (gR 8 0 x0).bind fun p31 =>
  (chk 6 p31).bind fun _ =>
  (F_X6_holds p31 x1 x2 x5 σ).bind fun q33 =>
  if q33 = 0 then
  F_X8_copy_92 (x0) σ
  else
  (gR 8 0 x0).bind fun p37 =>
  (chk 6 p37).bind fun _ =>
  (F_X6_holds p37 x3 x4 x5 σ).bind fun q39 =>
  if q39 = 0 then
  F_X8_copy_92 (x0) σ
  else
  (gR 8 0 x0).bind fun p43 =>
  (chk 6 p43).bind fun _ =>
  (F_X6_move p43 x1 x2 x3 x4 x5 σ).bind fun q45 =>
  some ((1 : Int32), q45)
  else
  (F_X8_refuse x0 (5 : Int32) σ).bind fun q47 =>
  some (q47.1, q47.2)
noncomputable def F_X8_mean_41 (x0 : Nat) (x1 : Int32) (x3 : Int32) (σ : Mem) : Int64 × Int32 → Option (Int32 × Mem) := lp fun s =>
  if x3 ≤ s.2 then
  (nzL x3.toInt64).bind fun _ =>
  (F_X8_tell x0 (s.1 / x3.toInt64).toInt32 σ).bind fun q3 =>
  some (.inr ((q3.1, q3.2)))
  else
  (gR 8 0 x0).bind fun p6 =>
  (chk 6 p6).bind fun _ =>
  (F_X6_get p6 x1 s.2 σ).bind fun q8 =>
  some (.inl ((s.1 + q8.toInt64), (s.2 + (1 : Int32))))
noncomputable def F_X8_mean (x0 : Nat) (x1 : Int32) (σ : Mem) : Option (Int32 × Mem) :=
  (gR 8 0 x0).bind fun p11 =>
  (F_X8_refusalOfMissing x0 p11 x1 σ).bind fun q12 =>
  if q12.1 = 0 then
  (gR 8 0 x0).bind fun p16 =>
  (chk 6 p16).bind fun _ =>
  (F_X6_size p16 x1 q12.2).bind fun q18 =>
  if 0 < q18 then
  F_X8_mean_41 (x0) (x1) (q18) q12.2 ((0 : Int64), (0 : Int32))
  else
  (F_X8_refuse x0 (4 : Int32) q12.2).bind fun q21 =>
  some (q21.1, q21.2)
  else
  some (q12.1, q12.2)
noncomputable def F_X8_text (x0 : Nat) (x1 : Int32) (x2 : Int32) (σ : Mem) : Option (Int32 × Mem) :=
  (gR 8 1 x0).bind fun p2 =>
  (F_X8_makeAnew x0 p2 x1 x2 (32 : Int32) σ).bind fun q3 =>
  some (q3.1, q3.2)
noncomputable def F_X8_put (x0 : Nat) (x1 : Int32) (x2 : Int32) (x3 : Int32) (σ : Mem) : Option (Int32 × Mem) :=
  (gR 8 1 x0).bind fun p2 =>
  (F_X8_refusalOfPlace x0 p2 x1 x2 σ).bind fun q3 =>
  if q3.1 = 0 then
  (gR 8 1 x0).bind fun p7 =>
  (chk 6 p7).bind fun _ =>
  (F_X6_get p7 x1 x2 q3.2).bind fun q9 =>
  (gR 8 1 x0).bind fun p12 =>
  (chk 6 p12).bind fun _ =>
  (F_X6_set p12 x1 x2 x3.toInt8.toInt32 q3.2).bind fun q14 =>
  some ((q9 + (1000 : Int32)), q14)
  else
  some (q3.1, q3.2)
noncomputable def F_X8_fault (x0 : Nat) (x1 : Int32) (σ : Mem) : Option (Int32 × Mem) :=
  (gR 8 1 x0).bind fun p2 =>
  (F_X8_refusalOfMissing x0 p2 x1 σ).bind fun q3 =>
  if q3.1 = 0 then
  (gR 8 8 x0).bind fun p7 =>
  (gR 8 1 x0).bind fun p9 =>
  (chk 4 p7).bind fun _ =>
  (F_X4_readTown p7 p9 x1 q3.2).bind fun q11 =>
  some (q11.1, q11.2)
  else
  some (q3.1, q3.2)
noncomputable def F_X8_town (x0 : Nat) (x1 : Int32) (σ : Mem) : Option (Int32 × Mem) :=
  (gR 8 1 x0).bind fun p2 =>
  (F_X8_refusalOfMissing x0 p2 x1 σ).bind fun q3 =>
  if q3.1 = 0 then
  (gR 8 8 x0).bind fun p7 =>
  (gR 8 1 x0).bind fun p9 =>
  (chk 4 p7).bind fun _ =>
  (F_X4_readTown p7 p9 x1 q3.2).bind fun q11 =>
  if q11.1 = (-9 : Int32) then
  (gR 8 3 x0).bind fun p15 =>
  (gR 8 8 x0).bind fun p17 =>
  (gR 4 0 p17).bind fun p19 =>
  (chk 7 p15).bind fun _ =>
  (F_X7_copyFrom p15 p19 q11.2).bind fun q21 =>
  (gR 8 4 x0).bind fun p24 =>
  (gR 8 3 x0).bind fun p26 =>
  (chk 7 p24).bind fun _ =>
  (F_X7_copyFrom p24 p26 q21).bind fun q28 =>
  (pI 8 7 x0 (0 : Int32) q28).bind fun m31 =>
  (gR 8 2 x0).bind fun p33 =>
  (chk 6 p33).bind fun _ =>
  (F_X6_removeAll p33 m31).bind fun q35 =>
  (gR 8 4 x0).bind fun p38 =>
  (gI 7 8 p38 q35).bind fun v40 =>
  some (v40, q35)
  else
  some ((-4 : Int32), q11.2)
  else
  some (q3.1, q3.2)
noncomputable def F_X8_bed (x0 : Nat) (x1 : Int32) (x2 : Int32) (σ : Mem) : Option (Int32 × Mem) :=
  (gR 8 4 x0).bind fun p2 =>
  (chk 7 p2).bind fun _ =>
  (F_X7_has p2 x1 σ).bind fun q4 =>
  if q4 = 0 then
  some ((-1 : Int32), σ)
  else
  if x2 < 0 then
  some ((-1 : Int32), σ)
  else
  if x2 < (8 : Int32) then
  (gR 8 4 x0).bind fun p10 =>
  (chk 7 p10).bind fun _ =>
  (F_X7_about p10 x1 x2 σ).bind fun q12 =>
  (F_X8_tell x0 q12 σ).bind fun q14 =>
  some (q14.1, q14.2)
  else
  some ((-1 : Int32), σ)
noncomputable def F_X8_mark (x0 : Nat) (x1 : Int32) (x2 : Int32) (σ : Mem) : Option (Int32 × Mem) :=
  (gR 8 4 x0).bind fun p2 =>
  (chk 7 p2).bind fun _ =>
  (F_X7_has p2 x1 σ).bind fun q4 =>
  if q4 = 0 then
  some ((-1 : Int32), σ)
  else
  if x2 ≤ 0 then
  some ((-1 : Int32), σ)
  else
  if x2 < (6 : Int32) then
  (gR 8 4 x0).bind fun p10 =>
  (chk 7 p10).bind fun _ =>
  (F_X7_kindOf p10 x1 σ).bind fun q12 =>
  (F_X8_isOfKind q12 x2 σ).bind fun q14 =>
  if q14 = 0 then
  (F_X8_refuse x0 (3 : Int32) σ).bind fun q68 =>
  some (q68.1, q68.2)
  else
  (gR 8 4 x0).bind fun p18 =>
  (chk 7 p18).bind fun _ =>
  (F_X7_thickOf p18 x1 σ).bind fun q20 =>
  (gR 8 4 x0).bind fun p23 =>
  (gR 8 4 x0).bind fun p25 =>
  (gI 7 9 p25 σ).bind fun v27 =>
  (chk 7 p23).bind fun _ =>
  (F_X7_crossesIn p23 x1 v27 σ).bind fun q29 =>
  if x2 = (1 : Int32) then
  (gR 8 4 x0).bind fun p33 =>
  (gR 8 4 x0).bind fun p35 =>
  (gI 7 9 p35 σ).bind fun v37 =>
  (chk 7 p33).bind fun _ =>
  (F_X7_crossesAs p33 x1 (0 : Int32) q20 v37 σ).bind fun q39 =>
  some ((q39 - q29), σ)
  else
  if x2 = (2 : Int32) then
  (F_X8_barOf (2 : Int32) q20 σ).bind fun q42 =>
  some ((q20 - q42), σ)
  else
  if x2 = (3 : Int32) then
  (gR 8 4 x0).bind fun p46 =>
  (gI 7 9 p46 σ).bind fun v48 =>
  some ((v48 - v48 / (2 : Int32) * (2 : Int32)), σ)
  else
  if x2 = (4 : Int32) then
  (gR 8 4 x0).bind fun p51 =>
  (gR 8 4 x0).bind fun p53 =>
  (gI 7 9 p53 σ).bind fun v55 =>
  (chk 7 p51).bind fun _ =>
  (F_X7_crossesAs p51 x1 (2 : Int32) q20 v55 σ).bind fun q57 =>
  some ((q29 - q57), σ)
  else
  (gR 8 4 x0).bind fun p60 =>
  (gR 8 4 x0).bind fun p62 =>
  (gI 7 9 p62 σ).bind fun v64 =>
  (chk 7 p60).bind fun _ =>
  (F_X7_crossesAs p60 x1 (1 : Int32) q20 v64 σ).bind fun q66 =>
  some ((q66 - q29), σ)
  else
  some ((-1 : Int32), σ)
noncomputable def F_X8_cross (x0 : Nat) (x1 : Int32) (x2 : Int32) (σ : Mem) : Option Int32 :=
  (gR 8 4 x0).bind fun p2 =>
  (chk 7 p2).bind fun _ =>
  (F_X7_has p2 x1 σ).bind fun q4 =>
  if q4 = 0 then
  some (-1 : Int32)
  else
  if x2 < 0 then
  some (-1 : Int32)
  else
  if x2 ≤ (99 : Int32) then
  (gR 8 4 x0).bind fun p10 =>
  (chk 7 p10).bind fun _ =>
  (F_X7_crossesIn p10 x1 x2 σ).bind fun q12 =>
  some q12
  else
  some (-1 : Int32)
noncomputable def F_X8_enact (x0 : Nat) (x1 : Int32) (x2 : Int32) (x3 : Int32) (σ : Mem) : Option (Int32 × Mem) :=
  let w1 := ((((100 : Int32) * x1) + ((10 : Int32) * x2)) + x3)
  (gR 8 6 x0).bind fun p3 =>
  (gI 8 7 x0 σ).bind fun v5 =>
  (F_X8_write p3 v5 w1 σ).bind fun q6 =>
  (gI 8 7 x0 q6).bind fun v9 =>
  (pI 8 7 x0 (v9 + (1 : Int32)) q6).bind fun m11 =>
  (gR 8 4 x0).bind fun p13 =>
  (chk 7 p13).bind fun _ =>
  (F_X7_carryOut p13 w1 m11).bind fun q15 =>
  some (q15.1, q15.2)
noncomputable def F_X8_night (x0 : Nat) (σ : Mem) : Option (Int32 × Mem) :=
  (gR 8 4 x0).bind fun p2 =>
  (gI 7 8 p2 σ).bind fun v4 =>
  if v4 = 0 then
  some ((-4 : Int32), σ)
  else
  (gI 8 7 x0 σ).bind fun v7 =>
  if v7 < (40 : Int32) then
  (F_X8_enact x0 (0 : Int32) (0 : Int32) (0 : Int32) σ).bind fun q9 =>
  some (q9.1, q9.2)
  else
  some ((-2 : Int32), σ)
noncomputable def F_X8_inspect (x0 : Nat) (x1 : Int32) (σ : Mem) : Option (Int32 × Mem) :=
  (gR 8 4 x0).bind fun p2 =>
  (chk 7 p2).bind fun _ =>
  (F_X7_has p2 x1 σ).bind fun q4 =>
  if q4 = 0 then
  some ((-1 : Int32), σ)
  else
  (gI 8 7 x0 σ).bind fun v8 =>
  if v8 < (40 : Int32) then
  (F_X8_enact x0 (1 : Int32) x1 (0 : Int32) σ).bind fun q10 =>
  some (q10.1, q10.2)
  else
  some ((-2 : Int32), σ)
noncomputable def F_X8_thin (x0 : Nat) (x1 : Int32) (σ : Mem) : Option (Int32 × Mem) :=
  (gR 8 4 x0).bind fun p2 =>
  (chk 7 p2).bind fun _ =>
  (F_X7_has p2 x1 σ).bind fun q4 =>
  if q4 = 0 then
  some ((-1 : Int32), σ)
  else
  (gR 8 4 x0).bind fun p8 =>
  (chk 7 p8).bind fun _ =>
  (F_X7_thickOf p8 x1 σ).bind fun q10 =>
  if q10 = 0 then
  some ((-4 : Int32), σ)
  else
  (gI 8 7 x0 σ).bind fun v14 =>
  if v14 < (40 : Int32) then
  (F_X8_enact x0 (2 : Int32) x1 (0 : Int32) σ).bind fun q16 =>
  some (q16.1, q16.2)
  else
  some ((-2 : Int32), σ)
noncomputable def F_X8_swap (x0 : Nat) (x1 : Int32) (x2 : Int32) (σ : Mem) : Option (Int32 × Mem) :=
  (gR 8 4 x0).bind fun p2 =>
  (chk 7 p2).bind fun _ =>
  (F_X7_has p2 x1 σ).bind fun q4 =>
  if q4 = 0 then
  some ((-1 : Int32), σ)
  else
  (gR 8 4 x0).bind fun p8 =>
  (chk 7 p8).bind fun _ =>
  (F_X7_has p8 x2 σ).bind fun q10 =>
  if q10 = 0 then
  some ((-1 : Int32), σ)
  else
  if x1 = x2 then
  some ((-1 : Int32), σ)
  else
  (gI 8 7 x0 σ).bind fun v15 =>
  if v15 < (40 : Int32) then
  (F_X8_enact x0 (3 : Int32) x1 x2 σ).bind fun q17 =>
  some (q17.1, q17.2)
  else
  some ((-2 : Int32), σ)
noncomputable def F_X8_redoFromStart_13 (x0 : Nat) : Int32 × Mem → Option Mem := lp fun s =>
  (gI 8 7 x0 s.2).bind fun v2 =>
  if v2 ≤ s.1 then
  some (.inr (s.2))
  else
  (gR 8 4 x0).bind fun p5 =>
  (gR 8 6 x0).bind fun p7 =>
  (F_X8_read p7 s.1 s.2).bind fun q8 =>
  (chk 7 p5).bind fun _ =>
  (F_X7_carryOut p5 q8 s.2).bind fun q11 =>
  some (.inl ((s.1 + (1 : Int32)), q11.2))
noncomputable def F_X8_redoFromStart (x0 : Nat) (σ : Mem) : Option Mem :=
  (gR 8 4 x0).bind fun p14 =>
  (gR 8 3 x0).bind fun p16 =>
  (chk 7 p14).bind fun _ =>
  (F_X7_copyFrom p14 p16 σ).bind fun q18 =>
  F_X8_redoFromStart_13 (x0)  ((0 : Int32), q18)
noncomputable def F_X8_undo (x0 : Nat) (x1 : Int32) (σ : Mem) : Option (Int32 × Mem) :=
  if x1 < 0 then
  some ((-1 : Int32), σ)
  else
  (gI 8 7 x0 σ).bind fun v3 =>
  if x1 ≤ v3 then
  (gI 8 7 x0 σ).bind fun v6 =>
  (pI 8 7 x0 x1 σ).bind fun m8 =>
  (F_X8_redoFromStart x0 m8).bind fun q9 =>
  some ((v6 - x1), q9)
  else
  some ((-1 : Int32), σ)
noncomputable def F_X8_keep (x0 : Nat) (x1 : Int32) (σ : Mem) : Option (Int32 × Mem) :=
  (gR 8 2 x0).bind fun p2 =>
  (chk 6 p2).bind fun _ =>
  (F_X6_isNumber p2 x1 σ).bind fun q4 =>
  if q4 = 0 then
  some ((-1 : Int32), σ)
  else
  (gR 8 4 x0).bind fun p8 =>
  (gI 7 8 p8 σ).bind fun v10 =>
  if v10 = 0 then
  some ((-4 : Int32), σ)
  else
  (gR 8 2 x0).bind fun p13 =>
  (gI 8 7 x0 σ).bind fun v15 =>
  (gR 8 6 x0).bind fun p17 =>
  (chk 6 p13).bind fun _ =>
  (F_X6_makeOf p13 x1 v15 p17 σ).bind fun q19 =>
  (gI 8 7 x0 q19).bind fun v22 =>
  some (v22, q19)
noncomputable def F_X8_on_30 (x0 : Nat) (x1 : Int32) : Int32 × Mem → Option (Int32 × Mem) := lp fun s =>
  (gI 8 7 x0 s.2).bind fun v2 =>
  if v2 ≤ s.1 then
  (F_X8_redoFromStart x0 s.2).bind fun q4 =>
  (gI 8 7 x0 q4).bind fun v7 =>
  some (.inr ((v7, q4)))
  else
  (gR 8 6 x0).bind fun p9 =>
  (gR 8 2 x0).bind fun p11 =>
  (chk 6 p11).bind fun _ =>
  (F_X6_get p11 x1 s.1 s.2).bind fun q13 =>
  (F_X8_write p9 s.1 q13 s.2).bind fun q15 =>
  some (.inl ((s.1 + (1 : Int32)), q15))
noncomputable def F_X8_on (x0 : Nat) (x1 : Int32) (σ : Mem) : Option (Int32 × Mem) :=
  (gR 8 2 x0).bind fun p18 =>
  (F_X8_refusalOfMissing x0 p18 x1 σ).bind fun q19 =>
  if q19.1 = 0 then
  (gR 8 2 x0).bind fun p23 =>
  (chk 6 p23).bind fun _ =>
  (F_X6_size p23 x1 q19.2).bind fun q25 =>
  (pI 8 7 x0 q25 q19.2).bind fun m28 =>
  F_X8_on_30 (x0) (x1)  ((0 : Int32), m28)
  else
  some (q19.1, q19.2)
noncomputable def F_X8_then (x0 : Nat) (x1 : Int32) (x2 : Int32) (σ : Mem) : Option (Int32 × Mem) :=
  (gR 8 4 x0).bind fun p2 =>
  (chk 7 p2).bind fun _ =>
  (F_X7_has p2 x1 σ).bind fun q4 =>
  if q4 = 0 then
  some ((-1 : Int32), σ)
  else
  if x2 < 0 then
  some ((-1 : Int32), σ)
  else
  if x2 ≤ (40 : Int32) then
  (gR 8 5 x0).bind fun p10 =>
  (gR 8 4 x0).bind fun p12 =>
  (chk 7 p10).bind fun _ =>
  (F_X7_copyFrom p10 p12 σ).bind fun q14 =>
  (gR 8 5 x0).bind fun p17 =>
  (chk 7 p17).bind fun _ =>
  (F_X7_passAlone p17 x1 x2 q14).bind fun q19 =>
  (gR 8 5 x0).bind fun p22 =>
  (chk 7 p22).bind fun _ =>
  (F_X7_thickOf p22 x1 q19).bind fun q24 =>
  (pI 8 13 x0 q24 q19).bind fun m27 =>
  (gR 8 5 x0).bind fun p29 =>
  (chk 7 p29).bind fun _ =>
  (F_X7_liesIn p29 x1 m27).bind fun q31 =>
  some (q31, m27)
  else
  some ((-1 : Int32), σ)
noncomputable def F_X8_when_26 (x0 : Nat) (x1 : Int32) : Int32 × Mem → Option (Int32 × Mem) := lp fun s =>
  if (40 : Int32) < s.1 then
  some (.inr (((-9 : Int32), s.2)))
  else
  (gR 8 5 x0).bind fun p3 =>
  (chk 7 p3).bind fun _ =>
  (F_X7_wouldBeFound p3 x1 s.2).bind fun q5 =>
  if q5 = 0 then
  (gR 8 5 x0).bind fun p9 =>
  (chk 7 p9).bind fun _ =>
  (F_X7_passAlone p9 x1 (1 : Int32) s.2).bind fun q11 =>
  some (.inl ((s.1 + (1 : Int32)), q11))
  else
  some (.inr ((s.1, s.2)))
noncomputable def F_X8_when (x0 : Nat) (x1 : Int32) (σ : Mem) : Option (Int32 × Mem) :=
  (gR 8 4 x0).bind fun p14 =>
  (chk 7 p14).bind fun _ =>
  (F_X7_has p14 x1 σ).bind fun q16 =>
  if q16 = 0 then
  some ((-1 : Int32), σ)
  else
  (gR 8 5 x0).bind fun p20 =>
  (gR 8 4 x0).bind fun p22 =>
  (chk 7 p20).bind fun _ =>
  (F_X7_copyFrom p20 p22 σ).bind fun q24 =>
  F_X8_when_26 (x0) (x1)  ((0 : Int32), q24)
noncomputable def F_X8_least_35 (x0 : Nat) (x1 : Int32) (x2 : Int32) (x3 : Int32) : Int32 × Mem → Option (Int32 × Mem) := lp fun s =>
  if x3 < s.1 then
  some (.inr (((-9 : Int32), s.2)))
  else
  (gR 8 5 x0).bind fun p3 =>
  (gR 8 4 x0).bind fun p5 =>
  (chk 7 p3).bind fun _ =>
  (F_X7_copyFrom p3 p5 s.2).bind fun q7 =>
  (gR 8 5 x0).bind fun p10 =>
  (chk 7 p10).bind fun _ =>
  (F_X7_thinBed p10 x1 s.1 q7).bind fun q12 =>
  (gR 8 5 x0).bind fun p15 =>
  (chk 7 p15).bind fun _ =>
  (F_X7_passAlone p15 x1 x2 q12).bind fun q17 =>
  (gR 8 5 x0).bind fun p20 =>
  (chk 7 p20).bind fun _ =>
  (F_X7_wouldBeFound p20 x1 q17).bind fun q22 =>
  if q22 = 0 then
  some (.inl ((s.1 + (1 : Int32)), q17))
  else
  some (.inr ((s.1, q17)))
noncomputable def F_X8_least (x0 : Nat) (x1 : Int32) (x2 : Int32) (σ : Mem) : Option (Int32 × Mem) :=
  (gR 8 4 x0).bind fun p26 =>
  (chk 7 p26).bind fun _ =>
  (F_X7_has p26 x1 σ).bind fun q28 =>
  if q28 = 0 then
  some ((-1 : Int32), σ)
  else
  if x2 < 0 then
  some ((-1 : Int32), σ)
  else
  if x2 ≤ (40 : Int32) then
  (gR 8 4 x0).bind fun p34 =>
  (chk 7 p34).bind fun _ =>
  (F_X7_thickOf p34 x1 σ).bind fun q36 =>
  F_X8_least_35 (x0) (x1) (x2) (q36)  ((0 : Int32), σ)
  else
  some ((-1 : Int32), σ)
noncomputable def F_X8_round (x0 : Nat) (x1 : Int32) (x2 : Int32) (σ : Mem) : Option (Int32 × Mem) :=
  if x1 < 0 then
  some ((-1 : Int32), σ)
  else
  if (4 : Int32) < x1 then
  some ((-1 : Int32), σ)
  else
  (gR 8 0 x0).bind fun p4 =>
  (chk 6 p4).bind fun _ =>
  (F_X6_isNumber p4 x2 σ).bind fun q6 =>
  if q6 = 0 then
  some ((-1 : Int32), σ)
  else
  (gR 8 4 x0).bind fun p10 =>
  (gI 7 8 p10 σ).bind fun v12 =>
  if v12 = 0 then
  some ((-4 : Int32), σ)
  else
  (gR 8 9 x0).bind fun p15 =>
  (gR 8 4 x0).bind fun p17 =>
  (chk 5 p15).bind fun _ =>
  (F_X5_mostFound p15 p17 x1 σ).bind fun q19 =>
  (gR 8 0 x0).bind fun p22 =>
  (gR 8 9 x0).bind fun p24 =>
  (gR 5 1 p24).bind fun p26 =>
  (chk 6 p22).bind fun _ =>
  (F_X6_makeOf p22 x2 x1 p26 q19.2).bind fun q28 =>
  some (q19.1, q28)
noncomputable def F_X8_isRound_2 (x0 : Nat) (x1 : Int32) (σ : Mem) : Int32 → Option Int32 := lp fun s =>
  (gR 8 0 x0).bind fun p2 =>
  (chk 6 p2).bind fun _ =>
  (F_X6_size p2 x1 σ).bind fun q4 =>
  if q4 ≤ s then
  some (.inr ((1 : Int32)))
  else
  (gR 8 0 x0).bind fun p8 =>
  (chk 6 p8).bind fun _ =>
  (F_X6_get p8 x1 s σ).bind fun q10 =>
  if q10 = (-9 : Int32) then
  some (.inl ((s + (1 : Int32))))
  else
  (gR 8 4 x0).bind fun p14 =>
  (chk 7 p14).bind fun _ =>
  (F_X7_has p14 q10 σ).bind fun q16 =>
  if q16 = 0 then
  some (.inr ((0 : Int32)))
  else
  some (.inl ((s + (1 : Int32))))
noncomputable def F_X8_isRound (x0 : Nat) (x1 : Int32) (σ : Mem) : Option Int32 :=
  F_X8_isRound_2 (x0) (x1) σ ((0 : Int32))
noncomputable def F_X8_brings_91 (x0 : Nat) (x1 : Int32) : Int32 × Int32 × Mem → Option (Int32 × Mem) := lp fun s =>
  (gR 8 0 x0).bind fun p2 =>
  (chk 6 p2).bind fun _ =>
  (F_X6_size p2 x1 s.2.2).bind fun q4 =>
  if q4 ≤ s.2.1 then
  (gR 8 5 x0).bind fun p8 =>
  (chk 7 p8).bind fun _ =>
  (F_X7_fines p8 s.2.2).bind fun q10 =>
  (gR 8 4 x0).bind fun p13 =>
  (chk 7 p13).bind fun _ =>
  (F_X7_fines p13 s.2.2).bind fun q15 =>
  (pI 8 13 x0 (q10 - q15) s.2.2).bind fun m18 =>
  some (.inr ((s.1, m18)))
  else
  (gR 8 5 x0).bind fun p20 =>
  (chk 7 p20).bind fun _ =>
  (F_X7_passNight p20 s.2.2).bind fun q22 =>
  (gR 8 5 x0).bind fun p25 =>
  (gR 8 0 x0).bind fun p27 =>
  (chk 6 p27).bind fun _ =>
  (F_X6_get p27 x1 s.2.1 q22.2).bind fun q29 =>
  (chk 7 p25).bind fun _ =>
  (F_X7_inspectBed p25 q29 q22.2).bind fun q32 =>
  some (.inl ((s.1 + q32.1), (s.2.1 + (1 : Int32)), q32.2))
noncomputable def F_X8_brings (x0 : Nat) (x1 : Int32) (σ : Mem) : Option (Int32 × Mem) :=
  (gR 8 0 x0).bind fun p35 =>
  (chk 6 p35).bind fun _ =>
  (F_X6_isNumber p35 x1 σ).bind fun q37 =>
  if q37 = 0 then
  some ((-1 : Int32), σ)
  else
  (gR 8 4 x0).bind fun p41 =>
  (gI 7 8 p41 σ).bind fun v43 =>
  if v43 = 0 then
  some ((-4 : Int32), σ)
  else
  (gR 8 0 x0).bind fun p46 =>
  (chk 6 p46).bind fun _ =>
  (F_X6_stands p46 x1 σ).bind fun q48 =>
  if q48 = 0 then
  (F_X8_refuse x0 (1 : Int32) σ).bind fun q71 =>
  some (q71.1, q71.2)
  else
  (gR 8 0 x0).bind fun p52 =>
  (chk 6 p52).bind fun _ =>
  (F_X6_size p52 x1 σ).bind fun q54 =>
  if q54 ≤ (10 : Int32) then
  (F_X8_isRound x0 x1 σ).bind fun q57 =>
  if q57 = 0 then
  (F_X8_refuse x0 (3 : Int32) σ).bind fun q67 =>
  some (q67.1, q67.2)
  else
  (gR 8 5 x0).bind fun p61 =>
  (gR 8 4 x0).bind fun p63 =>
  (chk 7 p61).bind fun _ =>
  (F_X7_copyFrom p61 p63 σ).bind fun q65 =>
  F_X8_brings_91 (x0) (x1)  ((0 : Int32), (0 : Int32), q65)
  else
  (F_X8_refuse x0 (5 : Int32) σ).bind fun q69 =>
  some (q69.1, q69.2)
noncomputable def F_X8_marry (x0 : Nat) (x1 : Int32) (σ : Mem) : Option (Int32 × Mem) :=
  (gR 8 0 x0).bind fun p2 =>
  (chk 6 p2).bind fun _ =>
  (F_X6_isNumber p2 x1 σ).bind fun q4 =>
  if q4 = 0 then
  some ((-1 : Int32), σ)
  else
  (gR 8 4 x0).bind fun p8 =>
  (gI 7 8 p8 σ).bind fun v10 =>
  if v10 = 0 then
  some ((-4 : Int32), σ)
  else
  (gR 8 10 x0).bind fun p13 =>
  (gR 8 4 x0).bind fun p15 =>
  (chk 3 p13).bind fun _ =>
  (F_X3_fewestCrossing p13 p15 σ).bind fun q17 =>
  (gR 8 0 x0).bind fun p20 =>
  (gR 8 4 x0).bind fun p22 =>
  (gI 7 8 p22 q17.2).bind fun v24 =>
  (gR 8 10 x0).bind fun p26 =>
  (gR 3 0 p26).bind fun p28 =>
  (chk 6 p20).bind fun _ =>
  (F_X6_makeOf p20 x1 v24 p28 q17.2).bind fun q30 =>
  some (q17.1, q30)
noncomputable def F_X8_rather_109 (x0 : Nat) (x1 : Int32) (x3 : Int32) (x4 : Int32) (y0 : Int32) (σ : Mem) : Option ((Int32 × Int32 × Int32) ⊕ ((Int32 × Int32 × Int32) ⊕ (Int32 × Mem))) :=
  some (.inl ((x1 + (1 : Int32)), y0, (x4 + (1 : Int32))))
noncomputable def F_X8_rather_36 (x0 : Nat) (x3 : Int32) (σ : Mem) : Int32 × Int32 × Int32 → Option ((Int32 × Int32 × Int32) ⊕ (Int32 × Mem)) := lp fun s =>
  (gR 8 4 x0).bind fun p9 =>
  (gI 7 8 p9 σ).bind fun v11 =>
  if v11 ≤ s.2.2 then
  some (.inr (.inl (s.1, s.2.1, (x3 + (1 : Int32)))))
  else
  (gR 8 4 x0).bind fun p14 =>
  (chk 7 p14).bind fun _ =>
  (F_X7_gapWith p14 x3 s.2.2 σ).bind fun q16 =>
  (gR 8 4 x0).bind fun p19 =>
  (chk 7 p19).bind fun _ =>
  (F_X7_gapWith p19 x3 x3 σ).bind fun q21 =>
  if q21 ≤ q16 then
  some (.inl (s.1, s.2.1, (s.2.2 + (1 : Int32))))
  else
  (gR 8 4 x0).bind fun p25 =>
  (chk 7 p25).bind fun _ =>
  (F_X7_gapWith p25 s.2.2 x3 σ).bind fun q27 =>
  (gR 8 4 x0).bind fun p30 =>
  (chk 7 p30).bind fun _ =>
  (F_X7_gapWith p30 s.2.2 s.2.2 σ).bind fun q32 =>
  if q32 ≤ q27 then
  some (.inl (s.1, s.2.1, (s.2.2 + (1 : Int32))))
  else
  if s.1 = 0 then
  F_X8_rather_109 (x0) (s.1) (x3) (s.2.2) ((((10 : Int32) * x3) + s.2.2)) σ
  else
  F_X8_rather_109 (x0) (s.1) (x3) (s.2.2) (s.2.1) σ
noncomputable def F_X8_rather_20 (x0 : Nat) (σ : Mem) : Int32 × Int32 × Int32 → Option (Int32 × Mem) := lp fun s =>
  (gR 8 4 x0).bind fun p2 =>
  (gI 7 8 p2 σ).bind fun v4 =>
  if v4 ≤ s.2.2 then
  (pI 8 13 x0 s.2.1 σ).bind fun m7 =>
  some (.inr ((s.1, m7)))
  else
  F_X8_rather_36 (x0) (s.2.2) σ (s.1, s.2.1, (s.2.2 + (1 : Int32)))
noncomputable def F_X8_rather (x0 : Nat) (σ : Mem) : Option (Int32 × Mem) :=
  (gR 8 4 x0).bind fun p37 =>
  (gI 7 8 p37 σ).bind fun v39 =>
  if v39 = 0 then
  some ((-4 : Int32), σ)
  else
  F_X8_rather_20 (x0) σ ((0 : Int32), (-9 : Int32), (0 : Int32))
noncomputable def F_X8_takePairs (x0 : Nat) (x1 : Int32) (x2 : Int32) (σ : Mem) : Option (Int32 × Mem) :=
  (gR 8 4 x0).bind fun p2 =>
  (chk 7 p2).bind fun _ =>
  (F_X7_has p2 x1 σ).bind fun q4 =>
  if q4 = 0 then
  some ((-1 : Int32), σ)
  else
  (gR 8 0 x0).bind fun p8 =>
  (F_X8_refusalOfMissing x0 p8 x2 σ).bind fun q9 =>
  if q9.1 = 0 then
  (gR 8 0 x0).bind fun p13 =>
  (chk 6 p13).bind fun _ =>
  (F_X6_size p13 x2 q9.2).bind fun q15 =>
  if (q15 - q15 / (2 : Int32) * (2 : Int32)) = 0 then
  (gR 8 11 x0).bind fun p19 =>
  (gR 8 0 x0).bind fun p21 =>
  (chk 0 p19).bind fun _ =>
  (F_X0_take p19 p21 x2 q9.2).bind fun q23 =>
  if q23.1 = 0 then
  (F_X8_refuse x0 (3 : Int32) q23.2).bind fun q26 =>
  some (q26.1, q26.2)
  else
  some ((0 : Int32), q23.2)
  else
  (F_X8_refuse x0 (5 : Int32) q9.2).bind fun q28 =>
  some (q28.1, q28.2)
  else
  some (q9.1, q9.2)
noncomputable def F_X8_thicks (x0 : Nat) (x1 : Int32) (x2 : Int32) (σ : Mem) : Option (Int32 × Mem) :=
  (F_X8_takePairs x0 x1 x2 σ).bind fun q1 =>
  if q1.1 = 0 then
  (gR 8 11 x0).bind fun p5 =>
  (gR 8 4 x0).bind fun p7 =>
  (gR 8 4 x0).bind fun p9 =>
  (chk 7 p9).bind fun _ =>
  (F_X7_kindOf p9 x1 q1.2).bind fun q11 =>
  (chk 0 p5).bind fun _ =>
  (F_X0_thicksFitting p5 p7 x1 q11 q1.2).bind fun q14 =>
  some (q14, q1.2)
  else
  some (q1.1, q1.2)
noncomputable def F_X8_kinds (x0 : Nat) (x1 : Int32) (x2 : Int32) (σ : Mem) : Option (Int32 × Mem) :=
  (F_X8_takePairs x0 x1 x2 σ).bind fun q1 =>
  if q1.1 = 0 then
  (gR 8 11 x0).bind fun p5 =>
  (gR 8 4 x0).bind fun p7 =>
  (gR 8 4 x0).bind fun p9 =>
  (chk 7 p9).bind fun _ =>
  (F_X7_thickOf p9 x1 q1.2).bind fun q11 =>
  (chk 0 p5).bind fun _ =>
  (F_X0_kindsFitting p5 p7 x1 q11 q1.2).bind fun q14 =>
  some (q14, q1.2)
  else
  some (q1.1, q1.2)
noncomputable def F_X8_test (x0 : Nat) (x1 : Int32) (x2 : Int32) (σ : Mem) : Option (Int32 × Mem) :=
  (F_X8_takePairs x0 x1 x2 σ).bind fun q1 =>
  if q1.1 = 0 then
  (gR 8 11 x0).bind fun p5 =>
  (gR 8 4 x0).bind fun p7 =>
  (chk 0 p5).bind fun _ =>
  (F_X0_tellingNight p5 p7 x1 q1.2).bind fun q9 =>
  if q9.1 = (-9 : Int32) then
  some (q9.1, q9.2)
  else
  (gR 8 11 x0).bind fun p13 =>
  (gI 0 5 p13 q9.2).bind fun v15 =>
  (pI 8 13 x0 v15 q9.2).bind fun m17 =>
  some (q9.1, m17)
  else
  some (q1.1, q1.2)
noncomputable def F_X8_duel (x0 : Nat) (x1 : Int32) (σ : Mem) : Option (Int32 × Mem) :=
  if x1 < 0 then
  some ((-1 : Int32), σ)
  else
  if x1 ≤ (4 : Int32) then
  (gR 8 4 x0).bind fun p4 =>
  (gI 7 8 p4 σ).bind fun v6 =>
  if v6 = 0 then
  some ((-4 : Int32), σ)
  else
  (gR 8 12 x0).bind fun p9 =>
  (gR 8 4 x0).bind fun p11 =>
  (chk 1 p9).bind fun _ =>
  (F_X1_foundFrom 8 p9 p11 (0 : Int32) x1 σ).bind fun q13 =>
  some (q13.1, q13.2)
  else
  some ((-1 : Int32), σ)
noncomputable def F_J6_bitCount_0f7a4 (x0 : Int32) (σ : Mem) : Option Int32 :=
  let w1 := (x0 - ((x0.toUInt32 >>> ((1 : Int32).toUInt32 &&& Int32.toUInt32 31)).toInt32 &&& (1431655765 : Int32)))
  let w2 := ((w1 &&& (858993459 : Int32)) + ((w1.toUInt32 >>> ((2 : Int32).toUInt32 &&& Int32.toUInt32 31)).toInt32 &&& (858993459 : Int32)))
  let w3 := ((w2 + (w2.toUInt32 >>> ((4 : Int32).toUInt32 &&& Int32.toUInt32 31)).toInt32) &&& (252645135 : Int32))
  let w4 := (w3 + (w3.toUInt32 >>> ((8 : Int32).toUInt32 &&& Int32.toUInt32 31)).toInt32)
  let w5 := (w4 + (w4.toUInt32 >>> ((16 : Int32).toUInt32 &&& Int32.toUInt32 31)).toInt32)
  some (w5 &&& (63 : Int32))
noncomputable def F_X8_power_5 (x0 : Int32) (x1 : Int32) (σ : Mem) : Int64 × Int32 → Option Int64 := lp fun s =>
  if x1 ≤ s.2 then
  some (.inr (s.1))
  else
  some (.inl ((s.1 * x0.toInt64), (s.2 + (1 : Int32))))
noncomputable def F_X8_power (x0 : Int32) (x1 : Int32) (σ : Mem) : Option Int64 :=
  F_X8_power_5 (x0) (x1) σ ((1 : Int64), (0 : Int32))
noncomputable def F_X8_waysOfReport (x0 : Int32) (x1 : Int32) (x2 : Int32) (σ : Mem) : Option Int64 :=
  (F_J6_bitCount_0f7a4 x0 σ).bind fun q1 =>
  (F_X8_power x2 q1 σ).bind fun q3 =>
  (F_J6_bitCount_0f7a4 (x1 &&& (x0 ^^^ (-1 : Int32))) σ).bind fun q5 =>
  (F_X8_power ((12 : Int32) - x2) q5 σ).bind fun q7 =>
  some (q3 * q7)
noncomputable def F_X8_commonDivisor_3  (σ : Mem) : Int64 × Int64 × Int32 → Option Int64 := lp fun s =>
  if (1000 : Int32) ≤ s.2.2 then
  some (.inr (s.1))
  else
  if (lg_cmp s.2.1 (0 : Int64)) = 0 then
  some (.inr (s.1))
  else
  (nzL s.2.1).bind fun _ =>
  some (.inl (s.2.1, (s.1 - s.1 / s.2.1 * s.2.1), (s.2.2 + (1 : Int32))))
noncomputable def F_X8_commonDivisor (x0 : Int64) (x2 : Int64) (σ : Mem) : Option Int64 :=
  F_X8_commonDivisor_3  σ (x0, x2, (0 : Int32))
noncomputable def F_X8_tellChance (x0 : Nat) (x1 : Int64) (x3 : Int64) (σ : Mem) : Option (Int32 × Mem) :=
  (F_X8_commonDivisor x1 x3 σ).bind fun q1 =>
  if (lg_cmp q1 (0 : Int64)) ≤ 0 then
  some ((1 : Int32), σ)
  else
  (nzL q1).bind fun _ =>
  (pL 8 14 x0 (x1 / q1) σ).bind fun m6 =>
  (nzL q1).bind fun _ =>
  (pL 8 15 x0 (x3 / q1) m6).bind fun m9 =>
  some ((1 : Int32), m9)
noncomputable def F_X8_odds_49 (x0 : Nat) (x1 : Int32) (x2 : Int32) (x3 : Int32) (σ : Mem) : Int64 × Int32 → Option (Int32 × Mem) := lp fun s =>
  if (64 : Int32) ≤ s.2 then
  (F_J6_bitCount_0f7a4 x3 σ).bind fun q2 =>
  (F_X8_power (12 : Int32) q2 σ).bind fun q4 =>
  (F_X8_tellChance x0 s.1 q4 σ).bind fun q6 =>
  some (.inr ((q6.1, q6.2)))
  else
  if (s.2 &&& (x3 ^^^ (-1 : Int32))) = 0 then
  (F_J6_bitCount_0f7a4 s.2 σ).bind fun q9 =>
  if q9 < x1 then
  some (.inl (s.1, (s.2 + (1 : Int32))))
  else
  (F_X8_waysOfReport s.2 x3 x2 σ).bind fun q12 =>
  some (.inl ((s.1 + q12), (s.2 + (1 : Int32))))
  else
  some (.inl (s.1, (s.2 + (1 : Int32))))
noncomputable def F_X8_odds (x0 : Nat) (x1 : Int32) (x2 : Int32) (σ : Mem) : Option (Int32 × Mem) :=
  if x1 < 0 then
  some ((-1 : Int32), σ)
  else
  if (6 : Int32) < x1 then
  some ((-1 : Int32), σ)
  else
  if x2 < 0 then
  some ((-1 : Int32), σ)
  else
  if x2 ≤ (12 : Int32) then
  (gR 8 4 x0).bind fun p19 =>
  (gI 7 8 p19 σ).bind fun v21 =>
  if v21 = 0 then
  some ((-4 : Int32), σ)
  else
  (gR 8 4 x0).bind fun p24 =>
  (chk 7 p24).bind fun _ =>
  (F_X7_wouldBeFoundBits p24 σ).bind fun q26 =>
  F_X8_odds_49 (x0) (x1) (x2) (q26) σ ((0 : Int64), (0 : Int32))
  else
  some ((-1 : Int32), σ)
noncomputable def F_X8_mid_38 (x0 : Nat) (x1 : Int32) (x2 : Int32) (σ : Mem) : Int64 × Int32 → Option (Int32 × Mem) := lp fun s =>
  if (64 : Int32) ≤ s.2 then
  (F_J6_bitCount_0f7a4 x2 σ).bind fun q2 =>
  (F_X8_power (12 : Int32) q2 σ).bind fun q4 =>
  (F_X8_tellChance x0 s.1 q4 σ).bind fun q6 =>
  some (.inr ((q6.1, q6.2)))
  else
  if (s.2 &&& (x2 ^^^ (-1 : Int32))) = 0 then
  (gR 8 4 x0).bind fun p10 =>
  (chk 7 p10).bind fun _ =>
  (F_X7_mostLying p10 s.2 σ).bind fun q12 =>
  (F_X8_waysOfReport s.2 x2 x1 σ).bind fun q14 =>
  some (.inl ((s.1 + (q12.toInt64 * q14)), (s.2 + (1 : Int32))))
  else
  some (.inl (s.1, (s.2 + (1 : Int32))))
noncomputable def F_X8_mid (x0 : Nat) (x1 : Int32) (σ : Mem) : Option (Int32 × Mem) :=
  if x1 < 0 then
  some ((-1 : Int32), σ)
  else
  if x1 ≤ (12 : Int32) then
  (gR 8 4 x0).bind fun p19 =>
  (gI 7 8 p19 σ).bind fun v21 =>
  if v21 = 0 then
  some ((-4 : Int32), σ)
  else
  (gR 8 4 x0).bind fun p24 =>
  (chk 7 p24).bind fun _ =>
  (F_X7_wouldBeFoundBits p24 σ).bind fun q26 =>
  F_X8_mid_38 (x0) (x1) (q26) σ ((0 : Int64), (0 : Int32))
  else
  some ((-1 : Int32), σ)
noncomputable def F_X8_lots_64 (x0 : Nat) (x1 : Int32) (x3 : Int32) : Int32 × Int64 × Int32 × Mem → Option (Int32 × Mem) := lp fun s =>
  if x1 ≤ s.2.2.1 then
  some (.inr ((s.1, s.2.2.2)))
  else
  let w2 := ((s.2.1 * (48271 : Int64)) - (s.2.1 * (48271 : Int64)) / (2147483647 : Int64) * (2147483647 : Int64))
  (nzL x3.toInt64).bind fun _ =>
  let w4 := ((w2 / (8 : Int64)) - (w2 / (8 : Int64)) / x3.toInt64 * x3.toInt64).toInt32
  if (w2 - w2 / (4 : Int64) * (4 : Int64)).toInt32 = (2 : Int32) then
  (F_X8_enact x0 (1 : Int32) w4 (0 : Int32) s.2.2.2).bind fun q6 =>
  some (.inl ((s.1 + q6.1), w2, (s.2.2.1 + (1 : Int32)), q6.2))
  else
  if (w2 - w2 / (4 : Int64) * (4 : Int64)).toInt32 = (3 : Int32) then
  (F_X8_enact x0 (2 : Int32) w4 (0 : Int32) s.2.2.2).bind fun q9 =>
  some (.inl (s.1, w2, (s.2.2.1 + (1 : Int32)), q9.2))
  else
  (F_X8_enact x0 (0 : Int32) (0 : Int32) (0 : Int32) s.2.2.2).bind fun q11 =>
  some (.inl (s.1, w2, (s.2.2.1 + (1 : Int32)), q11.2))
noncomputable def F_X8_lots (x0 : Nat) (x1 : Int32) (x2 : Int32) (σ : Mem) : Option (Int32 × Mem) :=
  if x1 < (1 : Int32) then
  some ((-1 : Int32), σ)
  else
  if (20 : Int32) < x1 then
  some ((-1 : Int32), σ)
  else
  if x2 < (1 : Int32) then
  some ((-1 : Int32), σ)
  else
  if x2 ≤ (2147483646 : Int32) then
  (gR 8 4 x0).bind fun p18 =>
  (gI 7 8 p18 σ).bind fun v20 =>
  if 0 < v20 then
  (gI 8 7 x0 σ).bind fun v23 =>
  if (v23 + x1) ≤ (40 : Int32) then
  F_X8_lots_64 (x0) (x1) (v20)  ((0 : Int32), x2.toInt64, (0 : Int32), σ)
  else
  some ((-2 : Int32), σ)
  else
  some ((-4 : Int32), σ)
  else
  some ((-1 : Int32), σ)
noncomputable def F_X8_asked (x0 : Nat) (σ : Mem) : Option Int32 :=
  (gI 8 13 x0 σ).bind fun v2 =>
  some v2
noncomputable def F_X8_upper (x0 : Nat) (σ : Mem) : Option Int64 :=
  (gL 8 14 x0 σ).bind fun v2 =>
  some v2
noncomputable def F_X8_lower (x0 : Nat) (σ : Mem) : Option Int64 :=
  (gL 8 15 x0 σ).bind fun v2 =>
  some v2
noncomputable def F_X8_count (x0 : Nat) (x1 : Int32) (σ : Mem) : Option Int32 :=
  if x1 = (0 : Int32) then
  (gR 8 4 x0).bind fun p3 =>
  (gI 7 8 p3 σ).bind fun v5 =>
  some v5
  else
  if x1 = (1 : Int32) then
  (gR 8 4 x0).bind fun p8 =>
  (gI 7 9 p8 σ).bind fun v10 =>
  some v10
  else
  if x1 = (2 : Int32) then
  (gI 8 7 x0 σ).bind fun v13 =>
  some v13
  else
  if x1 = (3 : Int32) then
  (gR 8 4 x0).bind fun p16 =>
  (chk 7 p16).bind fun _ =>
  (F_X7_fines p16 σ).bind fun q18 =>
  some q18
  else
  if x1 = (4 : Int32) then
  (gR 8 4 x0).bind fun p22 =>
  (chk 7 p22).bind fun _ =>
  (F_X7_liesInAll p22 σ).bind fun q24 =>
  some q24
  else
  if x1 = (5 : Int32) then
  (gR 8 4 x0).bind fun p28 =>
  (chk 7 p28).bind fun _ =>
  (F_X7_wouldBeFoundBits p28 σ).bind fun q30 =>
  some q30
  else
  if x1 = (6 : Int32) then
  (gR 8 4 x0).bind fun p34 =>
  (gR 8 4 x0).bind fun p36 =>
  (gI 7 9 p36 σ).bind fun v38 =>
  (chk 7 p34).bind fun _ =>
  (F_X7_coldOf p34 v38 σ).bind fun q40 =>
  some q40
  else
  if x1 = (7 : Int32) then
  (gR 8 4 x0).bind fun p44 =>
  (chk 7 p44).bind fun _ =>
  (F_X7_quilts p44 σ).bind fun q46 =>
  some q46
  else
  if x1 = (8 : Int32) then
  (gR 8 0 x0).bind fun p50 =>
  (chk 6 p50).bind fun _ =>
  (F_X6_standing p50 σ).bind fun q52 =>
  some q52
  else
  if x1 = (9 : Int32) then
  (gR 8 1 x0).bind fun p56 =>
  (chk 6 p56).bind fun _ =>
  (F_X6_standing p56 σ).bind fun q58 =>
  some q58
  else
  if x1 = (10 : Int32) then
  (gR 8 2 x0).bind fun p62 =>
  (chk 6 p62).bind fun _ =>
  (F_X6_standing p62 σ).bind fun q64 =>
  some q64
  else
  some (-1 : Int32)
noncomputable def F_X8_finding (x0 : Nat) (σ : Mem) : Option Int32 :=
  (gI 8 16 x0 σ).bind fun v2 =>
  some v2
noncomputable def F_X8_findings_10   (σ : Mem) : Option Int32 :=
  some (-1 : Int32)
noncomputable def F_X8_findings (x0 : Nat) (x1 : Int32) (σ : Mem) : Option Int32 :=
  if x1 < (1 : Int32) then
  F_X8_findings_10  σ
  else
  if x1 ≤ (5 : Int32) then
  (gR 8 17 x0).bind fun p4 =>
  (F_X8_read p4 x1 σ).bind fun q5 =>
  some q5
  else
  F_X8_findings_10  σ
noncomputable def F_X8_digest_47 (x0 : Nat) (x3 : Int32) (σ : Mem) : Int64 × Int32 → Option ((Int64 × Int32) ⊕ Int64) := lp fun s =>
  if (8 : Int32) ≤ s.2 then
  some (.inr (.inl (s.1, (x3 + (1 : Int32)))))
  else
  (gR 8 4 x0).bind fun p11 =>
  (chk 7 p11).bind fun _ =>
  (F_X7_about p11 x3 s.2 σ).bind fun q13 =>
  some (.inl ((((31 : Int64) * s.1) + q13.toInt64), (s.2 + (1 : Int32))))
noncomputable def F_X8_digest_86 (x0 : Nat) (σ : Mem) : Int64 × Int32 → Option Int64 := lp fun s =>
  if (3 : Int32) ≤ s.2 then
  (gR 8 1 x0).bind fun p17 =>
  (gR 8 0 x0).bind fun p19 =>
  (chk 6 p19).bind fun _ =>
  (F_X6_digestOn p19 s.1 σ).bind fun q21 =>
  (chk 6 p17).bind fun _ =>
  (F_X6_digestOn p17 q21 σ).bind fun q24 =>
  some (.inr (q24))
  else
  (gR 8 2 x0).bind fun p27 =>
  (chk 6 p27).bind fun _ =>
  (F_X6_size p27 s.2 σ).bind fun q29 =>
  some (.inl ((((31 : Int64) * s.1) + q29.toInt64), (s.2 + (1 : Int32))))
noncomputable def F_X8_digest_33 (x0 : Nat) (σ : Mem) : Int64 × Int32 → Option Int64 := lp fun s =>
  (gR 8 4 x0).bind fun p5 =>
  (gI 7 8 p5 σ).bind fun v7 =>
  if v7 ≤ s.2 then
  (F_X8_digest_86 (x0) σ (s.1, (0 : Int32))).map fun z => .inr (z)
  else
  F_X8_digest_47 (x0) (s.2) σ (s.1, (0 : Int32))
noncomputable def F_X8_digest_6 (x0 : Nat) (σ : Mem) : Int64 × Int32 → Option Int64 := lp fun s =>
  if (11 : Int32) ≤ s.2 then
  (F_X8_digest_33 (x0) σ (s.1, (0 : Int32))).map fun z => .inr (z)
  else
  (F_X8_count x0 s.2 σ).bind fun q2 =>
  some (.inl ((((31 : Int64) * s.1) + q2.toInt64), (s.2 + (1 : Int32))))
noncomputable def F_X8_digest (x0 : Nat) (σ : Mem) : Option Int64 :=
  F_X8_digest_6 (x0) σ ((17 : Int64), (0 : Int32))
noncomputable def F_X9_in (x0 : Int64) (x2 : Int64) (x4 : Int64) (σ : Mem) : Option Int32 :=
  if (lg_cmp x0 x2) < 0 then
  some (0 : Int32)
  else
  if 0 < (lg_cmp x0 x4) then
  some (0 : Int32)
  else
  some (1 : Int32)
noncomputable def F_X9_has (x0 : Int32) (x1 : Int32) (σ : Mem) : Option Int32 :=
  if ((x0 >>> (x1 &&& 31)) &&& (1 : Int32)) = (1 : Int32) then
  some (1 : Int32)
  else
  some (0 : Int32)
noncomputable def F_X9_ones_4 (x0 : Int32) (σ : Mem) : Int32 × Int32 → Option Int32 := lp fun s =>
  if (6 : Int32) ≤ s.2 then
  some (.inr (s.1))
  else
  some (.inl ((s.1 + ((x0 >>> (s.2 &&& 31)) &&& (1 : Int32))), (s.2 + (1 : Int32))))
noncomputable def F_X9_ones (x0 : Int32) (σ : Mem) : Option Int32 :=
  F_X9_ones_4 (x0) σ ((0 : Int32), (0 : Int32))
noncomputable def F_X9_off (x0 : Int32) (x1 : Int32) (σ : Mem) : Option Int32 :=
  if x1 ≤ x0 then
  some (x0 - x1)
  else
  some (x1 - x0)
noncomputable def F_X9_found (x0 : Nat) (x1 : Int32) (σ : Mem) : Option (Int32 × Mem) :=
  (pI 9 8 x0 x1 σ).bind fun m2 =>
  (gR 9 9 x0).bind fun p4 =>
  (aI p4 x1 m2).bind fun v5 =>
  (sI p4 x1 (v5 + (1 : Int32)) m2).bind fun m7 =>
  some ((-3 : Int32), m7)
noncomputable def F_X9_tells (x0 : Nat) (x1 : Int32) (x2 : Int32) (σ : Mem) : Option (Int32 × Mem) :=
  (pI 9 10 x0 x1 σ).bind fun m2 =>
  some (x2, m2)
noncomputable def F_X9_copyAll_3 (x0 : Nat) (x1 : Int32) (x2 : Int32) (x3 : Int32) : Int32 × Mem → Option Mem := lp fun s =>
  if x3 ≤ s.1 then
  some (.inr (s.2))
  else
  (gR 9 0 x0).bind fun p3 =>
  (gR 9 0 x0).bind fun p5 =>
  (aI p5 (x1 + s.1) s.2).bind fun v6 =>
  (sI p3 (x2 + s.1) v6 s.2).bind fun m8 =>
  some (.inl ((s.1 + (1 : Int32)), m8))
noncomputable def F_X9_copyAll (x0 : Nat) (x1 : Int32) (x2 : Int32) (x3 : Int32) (σ : Mem) : Option Mem :=
  F_X9_copyAll_3 (x0) (x1) (x2) (x3)  ((0 : Int32), σ)
noncomputable def F_X9_isRow (x0 : Int32) (σ : Mem) : Option Int32 :=
  (F_X9_in x0.toInt64 (0 : Int64) (5 : Int64) σ).bind fun q1 =>
  (bz q1).bind fun _ =>
  some q1
noncomputable def F_X9_isText (x0 : Int32) (σ : Mem) : Option Int32 :=
  (F_X9_in x0.toInt64 (0 : Int64) (3 : Int64) σ).bind fun q1 =>
  (bz q1).bind fun _ =>
  some q1
noncomputable def F_X9_anew_9 (x0 : Nat) (x1 : Int32) : Int32 × Mem → Option Mem := lp fun s =>
  if (40 : Int32) ≤ s.1 then
  some (.inr (s.2))
  else
  (gR 9 3 x0).bind fun p3 =>
  (sI p3 (((40 : Int32) * x1) + s.1) (0 : Int32) s.2).bind fun m4 =>
  some (.inl ((s.1 + (1 : Int32)), m4))
noncomputable def F_X9_anew (x0 : Nat) (x1 : Int32) (x2 : Int32) (σ : Mem) : Option Mem :=
  (gR 9 4 x0).bind fun p7 =>
  (sI p7 x1 x2 σ).bind fun m8 =>
  F_X9_anew_9 (x0) (x1)  ((0 : Int32), m8)
noncomputable def F_X9_row (x0 : Nat) (x1 : Int32) (x2 : Int32) (σ : Mem) : Option (Int32 × Mem) :=
  (F_X9_isRow x1 σ).bind fun q1 =>
  if q1 = 0 then
  some ((-1 : Int32), σ)
  else
  if x2 ≤ (40 : Int32) then
  if 0 ≤ x2 then
  (F_X9_anew x0 x1 x2 σ).bind fun q6 =>
  some (x2, q6)
  else
  (F_X9_found x0 (5 : Int32) σ).bind fun q8 =>
  some (q8.1, q8.2)
  else
  some ((-1 : Int32), σ)
noncomputable def F_X9_at (x0 : Nat) (x1 : Int32) (x2 : Int32) (σ : Mem) : Option (Int32 × Mem) :=
  (F_X9_isRow x1 σ).bind fun q1 =>
  if q1 = 0 then
  some ((-1 : Int32), σ)
  else
  (gR 9 4 x0).bind fun p5 =>
  (aI p5 x1 σ).bind fun v6 =>
  if 0 ≤ v6 then
  (gR 9 4 x0).bind fun p10 =>
  (aI p10 x1 σ).bind fun v11 =>
  (F_X9_in x2.toInt64 (0 : Int64) (v11 - (1 : Int32)).toInt64 σ).bind fun q13 =>
  if q13 = 0 then
  (F_X9_found x0 (2 : Int32) σ).bind fun q16 =>
  some (q16.1, q16.2)
  else
  (gR 9 3 x0).bind fun p19 =>
  (aI p19 (((40 : Int32) * x1) + x2) σ).bind fun v20 =>
  (F_X9_tells x0 v20 (1 : Int32) σ).bind fun q22 =>
  some (q22.1, q22.2)
  else
  (F_X9_found x0 (1 : Int32) σ).bind fun q24 =>
  some (q24.1, q24.2)
noncomputable def F_X9_lay (x0 : Nat) (x1 : Int32) (x2 : Int32) (x3 : Int32) (σ : Mem) : Option (Int32 × Mem) :=
  (F_X9_at x0 x1 x2 σ).bind fun q1 =>
  if q1.1 = (1 : Int32) then
  (gR 9 3 x0).bind fun p5 =>
  (sI p5 (((40 : Int32) * x1) + x2) x3 q1.2).bind fun m6 =>
  some (q1.1, m6)
  else
  some (q1.1, q1.2)
noncomputable def F_X9_tear (x0 : Nat) (x1 : Int32) (σ : Mem) : Option (Int32 × Mem) :=
  (F_X9_isRow x1 σ).bind fun q1 =>
  if q1 = 0 then
  some ((-1 : Int32), σ)
  else
  (gR 9 4 x0).bind fun p5 =>
  (aI p5 x1 σ).bind fun v6 =>
  if 0 ≤ v6 then
  (gR 9 4 x0).bind fun p10 =>
  (sI p10 x1 (-1 : Int32) σ).bind fun m11 =>
  some ((1 : Int32), m11)
  else
  (F_X9_found x0 (1 : Int32) σ).bind fun q13 =>
  some (q13.1, q13.2)
noncomputable def F_X9_fits (x0 : Int32) (x1 : Int32) (x2 : Int32) (σ : Mem) : Option Int32 :=
  if x0 < 0 then
  some (0 : Int32)
  else
  if 0 < (lg_cmp (x0.toInt64 + x1.toInt64) x2.toInt64) then
  some (0 : Int32)
  else
  some (1 : Int32)
noncomputable def F_X9_copy_45 (x0 : Nat)  (σ : Mem) : Option (Int32 × Mem) :=
  (F_X9_found x0 (1 : Int32) σ).bind fun q1 =>
  some (q1.1, q1.2)
noncomputable def F_X9_copy_82 (x0 : Nat)  (σ : Mem) : Option (Int32 × Mem) :=
  (F_X9_found x0 (2 : Int32) σ).bind fun q3 =>
  some (q3.1, q3.2)
noncomputable def F_X9_copy_128 (x0 : Nat) (x3 : Int32) (x4 : Int32) (x5 : Int32) : Int32 × Mem → Option (Int32 × Mem) := lp fun s =>
  if x5 ≤ s.1 then
  some (.inr (((1 : Int32), s.2)))
  else
  (gR 9 3 x0).bind fun p16 =>
  (gR 9 7 x0).bind fun p18 =>
  (aI p18 s.1 s.2).bind fun v19 =>
  (sI p16 ((((40 : Int32) * x3) + x4) + s.1) v19 s.2).bind fun m21 =>
  some (.inl ((s.1 + (1 : Int32)), m21))
noncomputable def F_X9_copy_91 (x0 : Nat) (x1 : Int32) (x2 : Int32) (x3 : Int32) (x4 : Int32) (x5 : Int32) : Int32 × Mem → Option (Int32 × Mem) := lp fun s =>
  if x5 ≤ s.1 then
  (F_X9_copy_128 (x0) (x3) (x4) (x5)  ((0 : Int32), s.2)).map fun z => .inr (z)
  else
  (gR 9 7 x0).bind fun p7 =>
  (gR 9 3 x0).bind fun p9 =>
  (aI p9 ((((40 : Int32) * x1) + x2) + s.1) s.2).bind fun v10 =>
  (sI p7 s.1 v10 s.2).bind fun m12 =>
  some (.inl ((s.1 + (1 : Int32)), m12))
noncomputable def F_X9_copy (x0 : Nat) (x1 : Int32) (x2 : Int32) (x3 : Int32) (x4 : Int32) (x5 : Int32) (σ : Mem) : Option (Int32 × Mem) :=
  (F_X9_isRow x1 σ).bind fun q23 =>
  if q23 = 0 then
  some ((-1 : Int32), σ)
  else
  (F_X9_isRow x3 σ).bind fun q26 =>
  if q26 = 0 then
  some ((-1 : Int32), σ)
  else
  if 0 ≤ x5 then
  (gR 9 4 x0).bind fun p31 =>
  (aI p31 x1 σ).bind fun v32 =>
  if v32 < 0 then
  F_X9_copy_45 (x0) σ
  else
  (gR 9 4 x0).bind fun p36 =>
  (aI p36 x3 σ).bind fun v37 =>
  if 0 ≤ v37 then
  (gR 9 4 x0).bind fun p41 =>
  (aI p41 x1 σ).bind fun v42 =>
  (F_X9_fits x2 x5 v42 σ).bind fun q44 =>
  if q44 = 0 then
  F_X9_copy_82 (x0) σ
  else
  (gR 9 4 x0).bind fun p48 =>
  (aI p48 x3 σ).bind fun v49 =>
  (F_X9_fits x4 x5 v49 σ).bind fun q51 =>
  if q51 = 0 then
  F_X9_copy_82 (x0) σ
  else
  F_X9_copy_91 (x0) (x1) (x2) (x3) (x4) (x5)  ((0 : Int32), σ)
  else
  F_X9_copy_45 (x0) σ
  else
  (F_X9_found x0 (5 : Int32) σ).bind fun q54 =>
  some (q54.1, q54.2)
noncomputable def F_X9_mean_44 (x0 : Nat) (x1 : Int32) (σ : Mem) : Int64 × Int32 → Option (Int32 × Mem) := lp fun s =>
  (gR 9 4 x0).bind fun p2 =>
  (aI p2 x1 σ).bind fun v3 =>
  if v3 ≤ s.2 then
  (gR 9 4 x0).bind fun p7 =>
  (aI p7 x1 σ).bind fun v8 =>
  (nzL v8.toInt64).bind fun _ =>
  (F_X9_tells x0 (s.1 / v8.toInt64).toInt32 (1 : Int32) σ).bind fun q11 =>
  some (.inr ((q11.1, q11.2)))
  else
  (gR 9 3 x0).bind fun p14 =>
  (aI p14 (((40 : Int32) * x1) + s.2) σ).bind fun v15 =>
  some (.inl ((s.1 + v15.toInt64), (s.2 + (1 : Int32))))
noncomputable def F_X9_mean (x0 : Nat) (x1 : Int32) (σ : Mem) : Option (Int32 × Mem) :=
  (F_X9_isRow x1 σ).bind fun q17 =>
  if q17 = 0 then
  some ((-1 : Int32), σ)
  else
  (gR 9 4 x0).bind fun p21 =>
  (aI p21 x1 σ).bind fun v22 =>
  if 0 ≤ v22 then
  (gR 9 4 x0).bind fun p26 =>
  (aI p26 x1 σ).bind fun v27 =>
  if v27 = 0 then
  (F_X9_found x0 (4 : Int32) σ).bind fun q30 =>
  some (q30.1, q30.2)
  else
  F_X9_mean_44 (x0) (x1) σ ((0 : Int64), (0 : Int32))
  else
  (F_X9_found x0 (1 : Int32) σ).bind fun q32 =>
  some (q32.1, q32.2)
noncomputable def F_X9_text_34 (x0 : Nat) (x1 : Int32) (x2 : Int32) : Int32 × Mem → Option (Int32 × Mem) := lp fun s =>
  if (60 : Int32) ≤ s.1 then
  some (.inr ((x2, s.2)))
  else
  (gR 9 5 x0).bind fun p3 =>
  (sI p3 (((60 : Int32) * x1) + s.1) (32 : Int32) s.2).bind fun m4 =>
  some (.inl ((s.1 + (1 : Int32)), m4))
noncomputable def F_X9_text (x0 : Nat) (x1 : Int32) (x2 : Int32) (σ : Mem) : Option (Int32 × Mem) :=
  (F_X9_isText x1 σ).bind fun q6 =>
  if q6 = 0 then
  some ((-1 : Int32), σ)
  else
  if x2 ≤ (60 : Int32) then
  if 0 ≤ x2 then
  (gR 9 6 x0).bind fun p12 =>
  (sI p12 x1 x2 σ).bind fun m13 =>
  F_X9_text_34 (x0) (x1) (x2)  ((0 : Int32), m13)
  else
  (F_X9_found x0 (5 : Int32) σ).bind fun q15 =>
  some (q15.1, q15.2)
  else
  some ((-1 : Int32), σ)
noncomputable def F_X9_put (x0 : Nat) (x1 : Int32) (x2 : Int32) (x3 : Int32) (σ : Mem) : Option (Int32 × Mem) :=
  (F_X9_isText x1 σ).bind fun q1 =>
  if q1 = 0 then
  some ((-1 : Int32), σ)
  else
  (gR 9 6 x0).bind fun p5 =>
  (aI p5 x1 σ).bind fun v6 =>
  if 0 ≤ v6 then
  (gR 9 6 x0).bind fun p10 =>
  (aI p10 x1 σ).bind fun v11 =>
  (F_X9_in x2.toInt64 (0 : Int64) (v11 - (1 : Int32)).toInt64 σ).bind fun q13 =>
  if q13 = 0 then
  (F_X9_found x0 (2 : Int32) σ).bind fun q24 =>
  some (q24.1, q24.2)
  else
  (gR 9 5 x0).bind fun p17 =>
  (aI p17 (((60 : Int32) * x1) + x2) σ).bind fun v18 =>
  (gR 9 5 x0).bind fun p21 =>
  (sI p21 (((60 : Int32) * x1) + x2) x3.toInt8.toInt32 σ).bind fun m22 =>
  some ((v18 + (1000 : Int32)), m22)
  else
  (F_X9_found x0 (1 : Int32) σ).bind fun q26 =>
  some (q26.1, q26.2)
noncomputable def F_X9_kindOf (x0 : Int32) (σ : Mem) : Option Int32 :=
  if x0 = (98 : Int32) then
  some (0 : Int32)
  else
  if x0 = (115 : Int32) then
  some (1 : Int32)
  else
  if x0 = (113 : Int32) then
  some (2 : Int32)
  else
  if x0 = (99 : Int32) then
  some (3 : Int32)
  else
  if x0 = (116 : Int32) then
  some (4 : Int32)
  else
  if x0 = (119 : Int32) then
  some (5 : Int32)
  else
  some (-1 : Int32)
noncomputable def F_X9_byteAt (x0 : Nat) (x1 : Int32) (x2 : Int32) (σ : Mem) : Option Int32 :=
  (gR 9 6 x0).bind fun p2 =>
  (aI p2 x1 σ).bind fun v3 =>
  if v3 ≤ x2 then
  some (-1000 : Int32)
  else
  (gR 9 5 x0).bind fun p7 =>
  (aI p7 (((60 : Int32) * x1) + x2) σ).bind fun v8 =>
  some v8
noncomputable def F_X9_blanks_0 (x0 : Nat) (x1 : Int32) : Mem → Option Mem := lp fun s =>
  (gI 9 13 x0 s).bind fun v2 =>
  (F_X9_byteAt x0 x1 v2 s).bind fun q3 =>
  if q3 = (32 : Int32) then
  (gI 9 13 x0 s).bind fun v7 =>
  (pI 9 13 x0 (v7 + (1 : Int32)) s).bind fun m9 =>
  some (.inl (m9))
  else
  some (.inr (s))
noncomputable def F_X9_blanks (x0 : Nat) (x1 : Int32) (σ : Mem) : Option Mem :=
  F_X9_blanks_0 (x0) (x1)  (σ)
noncomputable def F_X9_figures_3 (x0 : Nat) (x1 : Int32) (x2 : Int32) (x3 : Int32) (x4 : Int32) (x5 : Int32) : Int32 × Mem → Option (Int32 × Mem) := lp fun s =>
  if x2 ≤ s.1 then
  some (.inr (((1 : Int32), s.2)))
  else
  (gI 9 13 x0 s.2).bind fun v3 =>
  (F_X9_byteAt x0 x1 v3 s.2).bind fun q4 =>
  (F_X9_in (q4 - (48 : Int32)).toInt64 x3.toInt64 (9 : Int64) s.2).bind fun q6 =>
  if q6 = 0 then
  some (.inr (((0 : Int32), s.2)))
  else
  (gR 9 0 x0).bind fun p10 =>
  (sI p10 (x4 + (x5 * s.1)) (q4 - (48 : Int32)) s.2).bind fun m11 =>
  (gI 9 13 x0 m11).bind fun v14 =>
  (pI 9 13 x0 (v14 + (1 : Int32)) m11).bind fun m16 =>
  some (.inl ((s.1 + (1 : Int32)), m16))
noncomputable def F_X9_figures (x0 : Nat) (x1 : Int32) (x2 : Int32) (x3 : Int32) (x4 : Int32) (x5 : Int32) (σ : Mem) : Option (Int32 × Mem) :=
  F_X9_figures_3 (x0) (x1) (x2) (x3) (x4) (x5)  ((0 : Int32), σ)
noncomputable def F_X9_takesFirst (x0 : Nat) (x1 : Int32) (σ : Mem) : Option (Int32 × Mem) :=
  (gI 9 13 x0 σ).bind fun v2 =>
  (F_X9_byteAt x0 x1 v2 σ).bind fun q3 =>
  if q3 = (110 : Int32) then
  (gI 9 13 x0 σ).bind fun v7 =>
  (pI 9 13 x0 (v7 + (1 : Int32)) σ).bind fun m9 =>
  (F_X9_figures x0 x1 (4 : Int32) (0 : Int32) (7255 : Int32) (1 : Int32) m9).bind fun q10 =>
  if q10.1 = 0 then
  some ((0 : Int32), q10.2)
  else
  (F_X9_figures x0 x1 (1 : Int32) (1 : Int32) (7259 : Int32) (1 : Int32) q10.2).bind fun q13 =>
  if q13.1 = 0 then
  some ((0 : Int32), q13.2)
  else
  some ((1 : Int32), q13.2)
  else
  some ((0 : Int32), σ)
noncomputable def F_X9_takesBed (x0 : Nat) (x1 : Int32) (σ : Mem) : Option (Int32 × Mem) :=
  (gI 9 13 x0 σ).bind fun v2 =>
  (F_X9_byteAt x0 x1 v2 σ).bind fun q3 =>
  (F_X9_kindOf q3 σ).bind fun q5 =>
  (gR 9 0 x0).bind fun p8 =>
  (aI p8 (7216 : Int32) σ).bind fun v9 =>
  if q5 < 0 then
  some ((0 : Int32), σ)
  else
  if v9 = (6 : Int32) then
  some ((0 : Int32), σ)
  else
  (gI 9 13 x0 σ).bind fun v14 =>
  (pI 9 13 x0 (v14 + (1 : Int32)) σ).bind fun m16 =>
  (gR 9 0 x0).bind fun p18 =>
  (sI p18 ((7219 : Int32) + v9) q5 m16).bind fun m19 =>
  (F_X9_figures x0 x1 (3 : Int32) (0 : Int32) ((7225 : Int32) + v9) (6 : Int32) m19).bind fun q21 =>
  if q21.1 = 0 then
  some ((0 : Int32), q21.2)
  else
  (gR 9 0 x0).bind fun p25 =>
  (aI p25 (7216 : Int32) q21.2).bind fun v26 =>
  (sI p25 (7216 : Int32) (v26 + (1 : Int32)) q21.2).bind fun m28 =>
  some ((1 : Int32), m28)
noncomputable def F_X9_faultOf_77 (x0 : Nat) (x1 : Int32)  (σ : Mem) : Option ((Mem) ⊕ (Int32 × Mem)) :=
  (F_X9_takesBed x0 x1 σ).bind fun q29 =>
  if q29.1 = 0 then
  (gI 9 13 x0 q29.2).bind fun v35 =>
  some (.inr ((v35, q29.2)))
  else
  (F_X9_blanks x0 x1 q29.2).bind fun q32 =>
  some (.inl (q32))
noncomputable def F_X9_faultOf_53 (x0 : Nat) (x1 : Int32) : Mem → Option (Int32 × Mem) := lp fun s =>
  (gI 9 13 x0 s).bind fun v18 =>
  (gR 9 6 x0).bind fun p20 =>
  (aI p20 x1 s).bind fun v21 =>
  if v18 < v21 then
  F_X9_faultOf_77 (x0) (x1) s
  else
  (gR 9 0 x0).bind fun p25 =>
  (aI p25 (7216 : Int32) s).bind fun v26 =>
  if v26 = 0 then
  F_X9_faultOf_77 (x0) (x1) s
  else
  some (.inr (((-9 : Int32), s)))
noncomputable def F_X9_faultOf_2 (x0 : Nat) (x1 : Int32) : Int32 × Mem → Option (Int32 × Mem) := lp fun s =>
  if (44 : Int32) ≤ s.1 then
  (pI 9 13 x0 (0 : Int32) s.2).bind fun m3 =>
  (F_X9_blanks x0 x1 m3).bind fun q4 =>
  (F_X9_takesFirst x0 x1 q4).bind fun q6 =>
  if q6.1 = 0 then
  (gI 9 13 x0 q6.2).bind fun v12 =>
  some (.inr ((v12, q6.2)))
  else
  (F_X9_blanks x0 x1 q6.2).bind fun q9 =>
  (F_X9_faultOf_53 (x0) (x1)  (q9)).map fun z => .inr (z)
  else
  (gR 9 0 x0).bind fun p14 =>
  (sI p14 ((7216 : Int32) + s.1) (0 : Int32) s.2).bind fun m15 =>
  some (.inl ((s.1 + (1 : Int32)), m15))
noncomputable def F_X9_faultOf (x0 : Nat) (x1 : Int32) (σ : Mem) : Option (Int32 × Mem) :=
  F_X9_faultOf_2 (x0) (x1)  ((0 : Int32), σ)
noncomputable def F_X9_fault (x0 : Nat) (x1 : Int32) (σ : Mem) : Option (Int32 × Mem) :=
  (F_X9_isText x1 σ).bind fun q1 =>
  if q1 = 0 then
  some ((-1 : Int32), σ)
  else
  (gR 9 6 x0).bind fun p5 =>
  (aI p5 x1 σ).bind fun v6 =>
  if 0 ≤ v6 then
  (F_X9_faultOf x0 x1 σ).bind fun q9 =>
  some (q9.1, q9.2)
  else
  (F_X9_found x0 (1 : Int32) σ).bind fun q11 =>
  some (q11.1, q11.2)
noncomputable def F_X9_town_54 (x0 : Nat) : Int32 × Mem → Option (Int32 × Mem) := lp fun s =>
  if (3 : Int32) ≤ s.1 then
  (gR 9 0 x0).bind fun p3 =>
  (aI p3 (0 : Int32) s.2).bind fun v4 =>
  some (.inr ((v4, s.2)))
  else
  (gR 9 2 x0).bind fun p7 =>
  (sI p7 s.1 (-1 : Int32) s.2).bind fun m8 =>
  some (.inl ((s.1 + (1 : Int32)), m8))
noncomputable def F_X9_town (x0 : Nat) (x1 : Int32) (σ : Mem) : Option (Int32 × Mem) :=
  (F_X9_isText x1 σ).bind fun q10 =>
  if q10 = 0 then
  some ((-1 : Int32), σ)
  else
  (gR 9 6 x0).bind fun p14 =>
  (aI p14 x1 σ).bind fun v15 =>
  if 0 ≤ v15 then
  (F_X9_faultOf x0 x1 σ).bind fun q18 =>
  if q18.1 = (-9 : Int32) then
  (F_X9_copyAll x0 (7216 : Int32) (0 : Int32) (44 : Int32) q18.2).bind fun q21 =>
  (pI 9 1 x0 (0 : Int32) q21).bind fun m24 =>
  F_X9_town_54 (x0)  ((0 : Int32), m24)
  else
  some ((-4 : Int32), q18.2)
  else
  (F_X9_found x0 (1 : Int32) σ).bind fun q25 =>
  some (q25.1, q25.2)
noncomputable def F_X9_isBed (x0 : Nat) (x1 : Int32) (σ : Mem) : Option Int32 :=
  (gR 9 0 x0).bind fun p2 =>
  (aI p2 (0 : Int32) σ).bind fun v3 =>
  (F_X9_in x1.toInt64 (0 : Int64) (v3 - (1 : Int32)).toInt64 σ).bind fun q5 =>
  (bz q5).bind fun _ =>
  some q5
noncomputable def F_X9_isTown (x0 : Nat) (σ : Mem) : Option Int32 :=
  (gR 9 0 x0).bind fun p2 =>
  (aI p2 (0 : Int32) σ).bind fun v3 =>
  if v3 ≤ 0 then
  some (0 : Int32)
  else
  some (1 : Int32)
noncomputable def F_X9_barOf_10 (x1 : Int32)  (σ : Mem) : Option Int32 :=
  some (x1 + (2 : Int32))
noncomputable def F_X9_barOf_26 (x1 : Int32)  (σ : Mem) : Option Int32 :=
  some (x1 / (2 : Int32))
noncomputable def F_X9_barOf (x0 : Int32) (x1 : Int32) (σ : Mem) : Option Int32 :=
  if x0 = (1 : Int32) then
  F_X9_barOf_10 (x1) σ
  else
  if x0 = (5 : Int32) then
  F_X9_barOf_10 (x1) σ
  else
  if x0 = (2 : Int32) then
  F_X9_barOf_26 (x1) σ
  else
  if x0 = (4 : Int32) then
  F_X9_barOf_26 (x1) σ
  else
  some x1
noncomputable def F_X9_crossBy_33 (x1 : Int32) (x4 : Int32) (y0 : Int32) (σ : Mem) : Option Int32 :=
  if x1 = (3 : Int32) then
  if (x4 - x4 / (2 : Int32) * (2 : Int32)) = (1 : Int32) then
  some (0 : Int32)
  else
  some y0
  else
  if x1 = (4 : Int32) then
  if y0 ≤ 0 then
  some (0 : Int32)
  else
  some (y0 + (1 : Int32))
  else
  if x1 = (5 : Int32) then
  some (y0 / (2 : Int32))
  else
  some y0
noncomputable def F_X9_crossBy (x0 : Nat) (x1 : Int32) (x2 : Int32) (x3 : Int32) (x4 : Int32) (σ : Mem) : Option Int32 :=
  (gR 9 0 x0).bind fun p7 =>
  (aI p7 ((39 : Int32) + (x4 - x4 / (4 : Int32) * (4 : Int32))) σ).bind fun v8 =>
  (F_X9_barOf x1 x2 σ).bind fun q10 =>
  if 0 ≤ ((x3 + v8) - q10) then
  F_X9_crossBy_33 (x1) (x4) (((x3 + v8) - q10)) σ
  else
  F_X9_crossBy_33 (x1) (x4) ((0 : Int32)) σ
noncomputable def F_X9_gapIn (x0 : Nat) (x1 : Int32) (x2 : Int32) (σ : Mem) : Option Int32 :=
  (gR 9 0 x0).bind fun p2 =>
  (aI p2 ((x1 + (9 : Int32)) + x2) σ).bind fun v3 =>
  (gR 9 0 x0).bind fun p6 =>
  (aI p6 ((x1 + (15 : Int32)) + x2) σ).bind fun v7 =>
  (F_X9_off v3 v7 σ).bind fun q9 =>
  some q9
noncomputable def F_X9_crossIn (x0 : Nat) (x1 : Int32) (x2 : Int32) (σ : Mem) : Option Int32 :=
  (gR 9 0 x0).bind fun p2 =>
  (aI p2 ((x1 + (3 : Int32)) + x2) σ).bind fun v3 =>
  (gR 9 0 x0).bind fun p6 =>
  (aI p6 ((x1 + (21 : Int32)) + x2) σ).bind fun v7 =>
  (F_X9_gapIn x0 x1 x2 σ).bind fun q9 =>
  (gR 9 0 x0).bind fun p12 =>
  (aI p12 (x1 + (1 : Int32)) σ).bind fun v13 =>
  (F_X9_crossBy x0 v3 v7 q9 v13 σ).bind fun q15 =>
  some q15
noncomputable def F_X9_passes_102 (x0 : Nat) (x1 : Int32) (x2 : Int32) (x3 : Int32) (x4 : Int32) (y0 : Int32) (y1 : Int32) (y2 : Int32) (y3 : Nat) (σ : Mem) : Option ((Int32 × Int32 × Mem) ⊕ (Int32 × Mem)) :=
  (sI y3 y2 (y1 - y0) σ).bind fun m33 =>
  some (.inl ((x2 + x4), (x3 + (1 : Int32)), m33))
noncomputable def F_X9_passes_101 (x0 : Nat) (x1 : Int32) (x2 : Int32) (x3 : Int32) (x4 : Int32) (y0 : Int32) (y1 : Int32) (y2 : Nat) (σ : Mem) : Option ((Int32 × Int32 × Mem) ⊕ (Int32 × Mem)) :=
  F_X9_passes_102 (x0) (x1) (x2) (x3) (x4) ((0 : Int32)) (y0) (y1) (y2) σ
noncomputable def F_X9_passes_64 (x0 : Nat) (x1 : Int32) (x2 : Int32) (x3 : Int32) (x4 : Int32) (y0 : Int32) (y1 : Int32) (y2 : Nat) (σ : Mem) : Option ((Int32 × Int32 × Mem) ⊕ (Int32 × Mem)) :=
  (sI y2 y1 y0 σ).bind fun m21 =>
  (gR 9 0 x0).bind fun p24 =>
  (aI p24 ((x1 + (21 : Int32)) + x3) m21).bind fun v25 =>
  if x4 < (3 : Int32) then
  F_X9_passes_101 (x0) (x1) (x2) (x3) (x4) (v25) (((x1 + (21 : Int32)) + x3)) (p24) m21
  else
  (gR 9 0 x0).bind fun p29 =>
  (aI p29 ((x1 + (21 : Int32)) + x3) m21).bind fun v30 =>
  if v30 ≤ 0 then
  F_X9_passes_101 (x0) (x1) (x2) (x3) (x4) (v25) (((x1 + (21 : Int32)) + x3)) (p24) m21
  else
  F_X9_passes_102 (x0) (x1) (x2) (x3) (x4) ((1 : Int32)) (v25) (((x1 + (21 : Int32)) + x3)) (p24) m21
noncomputable def F_X9_passes_4 (x0 : Nat) (x1 : Int32) : Int32 × Int32 × Mem → Option (Int32 × Mem) := lp fun s =>
  (gR 9 0 x0).bind fun p2 =>
  (aI p2 (x1 + (0 : Int32)) s.2.2).bind fun v3 =>
  if v3 ≤ s.2.1 then
  (gR 9 0 x0).bind fun p7 =>
  (aI p7 (x1 + (1 : Int32)) s.2.2).bind fun v8 =>
  (sI p7 (x1 + (1 : Int32)) (v8 + (1 : Int32)) s.2.2).bind fun m10 =>
  some (.inr ((s.1, m10)))
  else
  (F_X9_crossIn x0 x1 s.2.1 s.2.2).bind fun q12 =>
  (gR 9 0 x0).bind fun p15 =>
  (aI p15 ((x1 + (27 : Int32)) + s.2.1) s.2.2).bind fun v16 =>
  (gR 9 0 x0).bind fun p19 =>
  if (v16 + q12) ≤ (99 : Int32) then
  F_X9_passes_64 (x0) (x1) (s.1) (s.2.1) (q12) ((v16 + q12)) (((x1 + (27 : Int32)) + s.2.1)) (p19) s.2.2
  else
  F_X9_passes_64 (x0) (x1) (s.1) (s.2.1) (q12) ((99 : Int32)) (((x1 + (27 : Int32)) + s.2.1)) (p19) s.2.2
noncomputable def F_X9_passes (x0 : Nat) (x1 : Int32) (σ : Mem) : Option (Int32 × Mem) :=
  F_X9_passes_4 (x0) (x1)  ((0 : Int32), (0 : Int32), σ)
noncomputable def F_X9_isDue (x0 : Nat) (x1 : Int32) (x2 : Int32) (σ : Mem) : Option Int32 :=
  (gR 9 0 x0).bind fun p2 =>
  (aI p2 ((x1 + (27 : Int32)) + x2) σ).bind fun v3 =>
  (gR 9 0 x0).bind fun p6 =>
  (aI p6 (x1 + (43 : Int32)) σ).bind fun v7 =>
  if v3 < v7 then
  some (0 : Int32)
  else
  some (1 : Int32)
noncomputable def F_X9_inspects (x0 : Nat) (x1 : Int32) (x2 : Int32) (σ : Mem) : Option (Int32 × Mem) :=
  (F_X9_isDue x0 x1 x2 σ).bind fun q1 =>
  if q1 = 0 then
  some ((0 : Int32), σ)
  else
  (gR 9 0 x0).bind fun p5 =>
  (aI p5 ((x1 + (27 : Int32)) + x2) σ).bind fun v6 =>
  (gR 9 0 x0).bind fun p9 =>
  (sI p9 ((x1 + (27 : Int32)) + x2) (0 : Int32) σ).bind fun m10 =>
  (gR 9 0 x0).bind fun p13 =>
  (sI p13 ((x1 + (21 : Int32)) + x2) (9 : Int32) m10).bind fun m14 =>
  (gR 9 0 x0).bind fun p17 =>
  (aI p17 ((x1 + (33 : Int32)) + x2) m14).bind fun v18 =>
  (sI p17 ((x1 + (33 : Int32)) + x2) (v18 + (1 : Int32)) m14).bind fun m20 =>
  (gR 9 0 x0).bind fun p23 =>
  (aI p23 (x1 + (2 : Int32)) m20).bind fun v24 =>
  (sI p23 (x1 + (2 : Int32)) (v24 + (1 : Int32)) m20).bind fun m26 =>
  some (v6, m26)
noncomputable def F_X9_bedTells (x0 : Nat) (x1 : Int32) (x2 : Int32) (σ : Mem) : Option Int32 :=
  if x2 = (0 : Int32) then
  (gR 9 0 x0).bind fun p3 =>
  (aI p3 ((3 : Int32) + x1) σ).bind fun v4 =>
  some v4
  else
  if x2 = (1 : Int32) then
  (gR 9 0 x0).bind fun p8 =>
  (aI p8 ((9 : Int32) + x1) σ).bind fun v9 =>
  some v9
  else
  if x2 = (2 : Int32) then
  (gR 9 0 x0).bind fun p13 =>
  (aI p13 ((15 : Int32) + x1) σ).bind fun v14 =>
  some v14
  else
  if x2 = (3 : Int32) then
  (gR 9 0 x0).bind fun p18 =>
  (aI p18 ((21 : Int32) + x1) σ).bind fun v19 =>
  some v19
  else
  if x2 = (4 : Int32) then
  (gR 9 0 x0).bind fun p23 =>
  (aI p23 ((27 : Int32) + x1) σ).bind fun v24 =>
  some v24
  else
  if x2 = (5 : Int32) then
  (F_X9_crossIn x0 (0 : Int32) x1 σ).bind fun q27 =>
  some q27
  else
  if x2 = (6 : Int32) then
  (gR 9 0 x0).bind fun p31 =>
  (aI p31 ((3 : Int32) + x1) σ).bind fun v32 =>
  (gR 9 0 x0).bind fun p35 =>
  (aI p35 ((21 : Int32) + x1) σ).bind fun v36 =>
  (F_X9_barOf v32 v36 σ).bind fun q38 =>
  some q38
  else
  (gR 9 0 x0).bind fun p41 =>
  (aI p41 ((33 : Int32) + x1) σ).bind fun v42 =>
  some v42
noncomputable def F_X9_bed (x0 : Nat) (x1 : Int32) (x2 : Int32) (σ : Mem) : Option (Int32 × Mem) :=
  (F_X9_isBed x0 x1 σ).bind fun q1 =>
  if q1 = 0 then
  some ((-1 : Int32), σ)
  else
  (F_X9_in x2.toInt64 (0 : Int64) (7 : Int64) σ).bind fun q4 =>
  if q4 = 0 then
  some ((-1 : Int32), σ)
  else
  (F_X9_bedTells x0 x1 x2 σ).bind fun q7 =>
  (F_X9_tells x0 q7 (1 : Int32) σ).bind fun q9 =>
  some (q9.1, q9.2)
noncomputable def F_X9_crossAs (x0 : Nat) (x1 : Int32) (x2 : Int32) (σ : Mem) : Option Int32 :=
  (gR 9 0 x0).bind fun p2 =>
  (aI p2 ((21 : Int32) + x1) σ).bind fun v3 =>
  (F_X9_gapIn x0 (0 : Int32) x1 σ).bind fun q5 =>
  (gR 9 0 x0).bind fun p8 =>
  (aI p8 (1 : Int32) σ).bind fun v9 =>
  (F_X9_crossBy x0 x2 v3 q5 v9 σ).bind fun q11 =>
  some q11
noncomputable def F_X9_mark_61 (x0 : Nat) (x1 : Int32) (x2 : Int32) (x3 : Int32) (y0 : Int32) (σ : Mem) : Option (Int32 × Mem) :=
  if y0 = 0 then
  (F_X9_found x0 (3 : Int32) σ).bind fun q34 =>
  some (q34.1, q34.2)
  else
  if x2 = (1 : Int32) then
  (F_X9_crossAs x0 x1 (0 : Int32) σ).bind fun q5 =>
  (F_X9_crossIn x0 (0 : Int32) x1 σ).bind fun q7 =>
  some ((q5 - q7), σ)
  else
  if x2 = (2 : Int32) then
  (gR 9 0 x0).bind fun p11 =>
  (aI p11 ((21 : Int32) + x1) σ).bind fun v12 =>
  (gR 9 0 x0).bind fun p15 =>
  (aI p15 ((21 : Int32) + x1) σ).bind fun v16 =>
  (F_X9_barOf x3 v16 σ).bind fun q18 =>
  some ((v12 - q18), σ)
  else
  if x2 = (3 : Int32) then
  (gR 9 0 x0).bind fun p22 =>
  (aI p22 (1 : Int32) σ).bind fun v23 =>
  some ((v23 - v23 / (2 : Int32) * (2 : Int32)), σ)
  else
  if x2 = (4 : Int32) then
  (F_X9_crossIn x0 (0 : Int32) x1 σ).bind fun q26 =>
  (F_X9_crossAs x0 x1 (2 : Int32) σ).bind fun q28 =>
  some ((q26 - q28), σ)
  else
  (F_X9_crossAs x0 x1 (1 : Int32) σ).bind fun q30 =>
  (F_X9_crossIn x0 (0 : Int32) x1 σ).bind fun q32 =>
  some ((q30 - q32), σ)
noncomputable def F_X9_mark_56 (x0 : Nat) (x1 : Int32) (x2 : Int32) (x3 : Int32)  (σ : Mem) : Option (Int32 × Mem) :=
  F_X9_mark_61 (x0) (x1) (x2) (x3) ((1 : Int32)) σ
noncomputable def F_X9_mark_60 (x0 : Nat) (x1 : Int32) (x2 : Int32) (x3 : Int32)  (σ : Mem) : Option (Int32 × Mem) :=
  F_X9_mark_61 (x0) (x1) (x2) (x3) ((0 : Int32)) σ
noncomputable def F_X9_mark_46 (x0 : Nat) (x1 : Int32) (x2 : Int32) (x3 : Int32)  (σ : Mem) : Option (Int32 × Mem) :=
  if x2 = (2 : Int32) then
  if x3 = (4 : Int32) then
  F_X9_mark_56 (x0) (x1) (x2) (x3) σ
  else
  F_X9_mark_60 (x0) (x1) (x2) (x3) σ
  else
  F_X9_mark_60 (x0) (x1) (x2) (x3) σ
noncomputable def F_X9_mark (x0 : Nat) (x1 : Int32) (x2 : Int32) (σ : Mem) : Option (Int32 × Mem) :=
  (F_X9_isBed x0 x1 σ).bind fun q36 =>
  if q36 = 0 then
  some ((-1 : Int32), σ)
  else
  (F_X9_in x2.toInt64 (1 : Int64) (5 : Int64) σ).bind fun q39 =>
  if q39 = 0 then
  some ((-1 : Int32), σ)
  else
  (gR 9 0 x0).bind fun p43 =>
  (aI p43 ((3 : Int32) + x1) σ).bind fun v44 =>
  if x2 = v44 then
  F_X9_mark_56 (x0) (x1) (x2) (v44) σ
  else
  if x2 = (1 : Int32) then
  if v44 = (5 : Int32) then
  F_X9_mark_56 (x0) (x1) (x2) (v44) σ
  else
  F_X9_mark_46 (x0) (x1) (x2) (v44) σ
  else
  F_X9_mark_46 (x0) (x1) (x2) (v44) σ
noncomputable def F_X9_cross (x0 : Nat) (x1 : Int32) (x2 : Int32) (σ : Mem) : Option Int32 :=
  (F_X9_isBed x0 x1 σ).bind fun q1 =>
  if q1 = 0 then
  some (-1 : Int32)
  else
  (F_X9_in x2.toInt64 (0 : Int64) (99 : Int64) σ).bind fun q4 =>
  if q4 = 0 then
  some (-1 : Int32)
  else
  (gR 9 0 x0).bind fun p8 =>
  (aI p8 ((3 : Int32) + x1) σ).bind fun v9 =>
  (gR 9 0 x0).bind fun p12 =>
  (aI p12 ((21 : Int32) + x1) σ).bind fun v13 =>
  (F_X9_gapIn x0 (0 : Int32) x1 σ).bind fun q15 =>
  (F_X9_crossBy x0 v9 v13 q15 x2 σ).bind fun q17 =>
  some q17
noncomputable def F_X9_minds (x0 : Nat) (σ : Mem) : Option Mem :=
  (gI 9 1 x0 σ).bind fun v2 =>
  (F_X9_copyAll x0 (0 : Int32) ((44 : Int32) * ((1 : Int32) + v2)) (44 : Int32) σ).bind fun q3 =>
  (gI 9 1 x0 q3).bind fun v6 =>
  (pI 9 1 x0 (v6 + (1 : Int32)) q3).bind fun m8 =>
  some m8
noncomputable def F_X9_night (x0 : Nat) (σ : Mem) : Option (Int32 × Mem) :=
  (F_X9_isTown x0 σ).bind fun q1 =>
  if q1 = 0 then
  some ((-4 : Int32), σ)
  else
  (gI 9 1 x0 σ).bind fun v5 =>
  if v5 = (40 : Int32) then
  some ((-2 : Int32), σ)
  else
  (F_X9_minds x0 σ).bind fun q7 =>
  (F_X9_passes x0 (0 : Int32) q7).bind fun q9 =>
  some (q9.1, q9.2)
noncomputable def F_X9_inspect (x0 : Nat) (x1 : Int32) (σ : Mem) : Option (Int32 × Mem) :=
  (F_X9_isBed x0 x1 σ).bind fun q1 =>
  if q1 = 0 then
  some ((-1 : Int32), σ)
  else
  (gI 9 1 x0 σ).bind fun v5 =>
  if v5 = (40 : Int32) then
  some ((-2 : Int32), σ)
  else
  (F_X9_minds x0 σ).bind fun q7 =>
  (F_X9_inspects x0 (0 : Int32) x1 q7).bind fun q9 =>
  some (q9.1, q9.2)
noncomputable def F_X9_thin (x0 : Nat) (x1 : Int32) (σ : Mem) : Option (Int32 × Mem) :=
  (F_X9_isBed x0 x1 σ).bind fun q1 =>
  if q1 = 0 then
  some ((-1 : Int32), σ)
  else
  (gR 9 0 x0).bind fun p5 =>
  (aI p5 ((21 : Int32) + x1) σ).bind fun v6 =>
  if v6 = 0 then
  some ((-4 : Int32), σ)
  else
  (gI 9 1 x0 σ).bind fun v10 =>
  if v10 = (40 : Int32) then
  some ((-2 : Int32), σ)
  else
  (F_X9_minds x0 σ).bind fun q12 =>
  (gR 9 0 x0).bind fun p15 =>
  (aI p15 ((21 : Int32) + x1) q12).bind fun v16 =>
  (sI p15 ((21 : Int32) + x1) (v16 - (1 : Int32)) q12).bind fun m18 =>
  (gR 9 0 x0).bind fun p21 =>
  (aI p21 ((21 : Int32) + x1) m18).bind fun v22 =>
  some (v22, m18)
noncomputable def F_X9_swap (x0 : Nat) (x1 : Int32) (x2 : Int32) (σ : Mem) : Option (Int32 × Mem) :=
  (F_X9_isBed x0 x1 σ).bind fun q1 =>
  if q1 = 0 then
  some ((-1 : Int32), σ)
  else
  (F_X9_isBed x0 x2 σ).bind fun q4 =>
  if q4 = 0 then
  some ((-1 : Int32), σ)
  else
  if x1 = x2 then
  some ((-1 : Int32), σ)
  else
  (gI 9 1 x0 σ).bind fun v9 =>
  if v9 = (40 : Int32) then
  some ((-2 : Int32), σ)
  else
  (F_X9_minds x0 σ).bind fun q11 =>
  (gR 9 0 x0).bind fun p14 =>
  (aI p14 ((15 : Int32) + x1) q11).bind fun v15 =>
  (gR 9 0 x0).bind fun p18 =>
  (gR 9 0 x0).bind fun p20 =>
  (aI p20 ((15 : Int32) + x2) q11).bind fun v21 =>
  (sI p18 ((15 : Int32) + x1) v21 q11).bind fun m23 =>
  (gR 9 0 x0).bind fun p26 =>
  (sI p26 ((15 : Int32) + x2) v15 m23).bind fun m27 =>
  (F_X9_gapIn x0 (0 : Int32) x1 m27).bind fun q29 =>
  some (q29, m27)
noncomputable def F_X9_undo (x0 : Nat) (x1 : Int32) (σ : Mem) : Option (Int32 × Mem) :=
  (gI 9 1 x0 σ).bind fun v2 =>
  (F_X9_in x1.toInt64 (0 : Int64) v2.toInt64 σ).bind fun q3 =>
  if q3 = 0 then
  some ((-1 : Int32), σ)
  else
  (gI 9 1 x0 σ).bind fun v7 =>
  if (v7 - x1) ≤ 0 then
  some ((v7 - x1), σ)
  else
  (F_X9_copyAll x0 ((44 : Int32) * ((1 : Int32) + x1)) (0 : Int32) (44 : Int32) σ).bind fun q9 =>
  (pI 9 1 x0 x1 q9).bind fun m12 =>
  some ((v7 - x1), m12)
noncomputable def F_X9_isKept (x0 : Int32) (σ : Mem) : Option Int32 :=
  (F_X9_in x0.toInt64 (0 : Int64) (2 : Int64) σ).bind fun q1 =>
  (bz q1).bind fun _ =>
  some q1
noncomputable def F_X9_keep (x0 : Nat) (x1 : Int32) (σ : Mem) : Option (Int32 × Mem) :=
  (F_X9_isKept x1 σ).bind fun q1 =>
  if q1 = 0 then
  some ((-1 : Int32), σ)
  else
  (F_X9_isTown x0 σ).bind fun q4 =>
  if q4 = 0 then
  some ((-4 : Int32), σ)
  else
  (F_X9_copyAll x0 (0 : Int32) ((1804 : Int32) * ((1 : Int32) + x1)) (1804 : Int32) σ).bind fun q7 =>
  (gR 9 2 x0).bind fun p10 =>
  (gI 9 1 x0 q7).bind fun v12 =>
  (sI p10 x1 v12 q7).bind fun m13 =>
  (gI 9 1 x0 m13).bind fun v16 =>
  some (v16, m13)
noncomputable def F_X9_on (x0 : Nat) (x1 : Int32) (σ : Mem) : Option (Int32 × Mem) :=
  (F_X9_isKept x1 σ).bind fun q1 =>
  if q1 = 0 then
  some ((-1 : Int32), σ)
  else
  (gR 9 2 x0).bind fun p5 =>
  (aI p5 x1 σ).bind fun v6 =>
  if 0 ≤ v6 then
  (F_X9_copyAll x0 ((1804 : Int32) * ((1 : Int32) + x1)) (0 : Int32) (1804 : Int32) σ).bind fun q9 =>
  (gR 9 2 x0).bind fun p12 =>
  (aI p12 x1 q9).bind fun v13 =>
  (pI 9 1 x0 v13 q9).bind fun m16 =>
  (gI 9 1 x0 m16).bind fun v18 =>
  some (v18, m16)
  else
  (F_X9_found x0 (1 : Int32) σ).bind fun q19 =>
  some (q19.1, q19.2)
noncomputable def F_X9_tries (x0 : Nat) (σ : Mem) : Option Mem :=
  (F_X9_copyAll x0 (0 : Int32) (7260 : Int32) (44 : Int32) σ).bind fun q1 =>
  some q1
noncomputable def F_X9_triesNights_2 (x0 : Nat) (x1 : Int32) : Int32 × Mem → Option Mem := lp fun s =>
  if x1 ≤ s.1 then
  some (.inr (s.2))
  else
  (F_X9_passes x0 (7260 : Int32) s.2).bind fun q2 =>
  some (.inl ((s.1 + (1 : Int32)), q2.2))
noncomputable def F_X9_triesNights (x0 : Nat) (x1 : Int32) (σ : Mem) : Option Mem :=
  F_X9_triesNights_2 (x0) (x1)  ((0 : Int32), σ)
noncomputable def F_X9_then (x0 : Nat) (x1 : Int32) (x2 : Int32) (σ : Mem) : Option (Int32 × Mem) :=
  (F_X9_isBed x0 x1 σ).bind fun q1 =>
  if q1 = 0 then
  some ((-1 : Int32), σ)
  else
  (F_X9_in x2.toInt64 (0 : Int64) (40 : Int64) σ).bind fun q4 =>
  if q4 = 0 then
  some ((-1 : Int32), σ)
  else
  (F_X9_tries x0 σ).bind fun q7 =>
  (F_X9_triesNights x0 x2 q7).bind fun q9 =>
  (gR 9 0 x0).bind fun p12 =>
  (aI p12 ((7281 : Int32) + x1) q9).bind fun v13 =>
  (gR 9 0 x0).bind fun p16 =>
  (aI p16 ((7287 : Int32) + x1) q9).bind fun v17 =>
  (F_X9_tells x0 v13 v17 q9).bind fun q19 =>
  some (q19.1, q19.2)
noncomputable def F_X9_when_16 (x0 : Nat) (x1 : Int32) : Int32 × Mem → Option (Int32 × Mem) := lp fun s =>
  if (40 : Int32) < s.1 then
  some (.inr (((-9 : Int32), s.2)))
  else
  (F_X9_isDue x0 (7260 : Int32) x1 s.2).bind fun q2 =>
  if q2 = 0 then
  (F_X9_passes x0 (7260 : Int32) s.2).bind fun q5 =>
  some (.inl ((s.1 + (1 : Int32)), q5.2))
  else
  some (.inr ((s.1, s.2)))
noncomputable def F_X9_when (x0 : Nat) (x1 : Int32) (σ : Mem) : Option (Int32 × Mem) :=
  (F_X9_isBed x0 x1 σ).bind fun q7 =>
  if q7 = 0 then
  some ((-1 : Int32), σ)
  else
  (F_X9_tries x0 σ).bind fun q10 =>
  F_X9_when_16 (x0) (x1)  ((0 : Int32), q10)
noncomputable def F_X9_least_24 (x0 : Nat) (x1 : Int32) (x2 : Int32) : Int32 × Mem → Option (Int32 × Mem) := lp fun s =>
  (gR 9 0 x0).bind fun p2 =>
  (aI p2 ((21 : Int32) + x1) s.2).bind fun v3 =>
  if v3 < s.1 then
  some (.inr (((-9 : Int32), s.2)))
  else
  (F_X9_tries x0 s.2).bind fun q6 =>
  (gR 9 0 x0).bind fun p9 =>
  (aI p9 ((7281 : Int32) + x1) q6).bind fun v10 =>
  (sI p9 ((7281 : Int32) + x1) (v10 - s.1) q6).bind fun m12 =>
  (F_X9_triesNights x0 x2 m12).bind fun q14 =>
  (F_X9_isDue x0 (7260 : Int32) x1 q14).bind fun q16 =>
  if q16 = 0 then
  some (.inl ((s.1 + (1 : Int32)), q14))
  else
  some (.inr ((s.1, q14)))
noncomputable def F_X9_least (x0 : Nat) (x1 : Int32) (x2 : Int32) (σ : Mem) : Option (Int32 × Mem) :=
  (F_X9_isBed x0 x1 σ).bind fun q19 =>
  if q19 = 0 then
  some ((-1 : Int32), σ)
  else
  (F_X9_in x2.toInt64 (0 : Int64) (40 : Int64) σ).bind fun q22 =>
  if q22 = 0 then
  some ((-1 : Int32), σ)
  else
  F_X9_least_24 (x0) (x1) (x2)  ((0 : Int32), σ)
noncomputable def F_X9_round_152 (x0 : Nat) (x1 : Int32) (x2 : Int32) (x3 : Int32) (x4 : Int32) (x5 : Int32) (x6 : Int32) (x8 : Int32) (x9 : Int32) (y0 : Int32) (y1 : Int32) (σ : Mem) : Option ((Int32 × Int32 × Int32 × Mem) ⊕ ((Int32 × Int32 × Int32 × Mem) ⊕ (Int32 × Mem))) :=
  some (.inl ((y1 + y0), x8, (x9 + (1 : Int32)), σ))
noncomputable def F_X9_round_175 (x0 : Nat) (x1 : Int32) (x2 : Int32) (x3 : Int32) (x5 : Int32) (x6 : Int32) (x7 : Int32) (y0 : Int32) (σ : Mem) : Option ((Int32 × Int32 × Int32 × Mem) ⊕ (Int32 × Mem)) :=
  if x7 ≤ x5 then
  some (.inl (y0, x5, (x6 + (1 : Int32)), σ))
  else
  some (.inl (y0, x7, (x6 + (1 : Int32)), σ))
noncomputable def F_X9_round_87 (x0 : Nat) (x1 : Int32) (x2 : Int32) (x3 : Int32) (x4 : Int32) (x5 : Int32) (x6 : Int32) : Int32 × Int32 × Int32 × Mem → Option ((Int32 × Int32 × Int32 × Mem) ⊕ (Int32 × Mem)) := lp fun s =>
  if x1 ≤ s.2.2.1 then
  if s.1 ≤ x5 then
  (F_X9_round_175 (x0) (x1) (x2) (x3) (x5) (x6) (s.1) (x4) s.2.2.2).map fun z => .inr (z)
  else
  (F_X9_round_175 (x0) (x1) (x2) (x3) (x5) (x6) (s.1) (x6) s.2.2.2).map fun z => .inr (z)
  else
  (gR 9 0 x0).bind fun p14 =>
  (aI p14 (0 : Int32) s.2.2.2).bind fun v15 =>
  (nz (v15 + (1 : Int32))).bind fun _ =>
  (nz (s.2.1 / (v15 + (1 : Int32)))).bind fun _ =>
  (gR 9 0 x0).bind fun p20 =>
  (aI p20 (0 : Int32) s.2.2.2).bind fun v21 =>
  (nz (v21 + (1 : Int32))).bind fun _ =>
  let w24 := (((x6 / (s.2.1 / (v15 + (1 : Int32)))) - (x6 / (s.2.1 / (v15 + (1 : Int32)))) / (v21 + (1 : Int32)) * (v21 + (1 : Int32))) - (1 : Int32))
  (F_X9_passes x0 (7260 : Int32) s.2.2.2).bind fun q25 =>
  if 0 ≤ w24 then
  (F_X9_inspects x0 (7260 : Int32) w24 q25.2).bind fun q28 =>
  F_X9_round_152 (x0) (x1) (x2) (x3) (x4) (x5) (x6) ((s.2.1 / (v15 + (1 : Int32)))) (s.2.2.1) (q28.1) (s.1) q28.2
  else
  F_X9_round_152 (x0) (x1) (x2) (x3) (x4) (x5) (x6) ((s.2.1 / (v15 + (1 : Int32)))) (s.2.2.1) ((0 : Int32)) (s.1) q25.2
noncomputable def F_X9_round_257 (x0 : Nat) (x2 : Int32) (x5 : Int32) (x6 : Int32) (x7 : Int32) (y0 : Int32) (y1 : Int32) (y2 : Nat) (σ : Mem) : Option ((Int32 × Int32 × Mem) ⊕ (Int32 × Mem)) :=
  (sI y2 y1 y0 σ).bind fun m41 =>
  (gR 9 0 x0).bind fun p44 =>
  (aI p44 (0 : Int32) m41).bind fun v45 =>
  (nz (v45 + (1 : Int32))).bind fun _ =>
  some (.inl ((x6 / (v45 + (1 : Int32))), (x7 + (-1 : Int32)), m41))
noncomputable def F_X9_round_214 (x0 : Nat) (x2 : Int32) (x5 : Int32) : Int32 × Int32 × Mem → Option (Int32 × Mem) := lp fun s =>
  if s.2.1 < 0 then
  some (.inr ((x5, s.2.2)))
  else
  (gR 9 0 x0).bind fun p33 =>
  (aI p33 (0 : Int32) s.2.2).bind fun v34 =>
  (nz (v34 + (1 : Int32))).bind fun _ =>
  let w37 := ((s.1 - s.1 / (v34 + (1 : Int32)) * (v34 + (1 : Int32))) - (1 : Int32))
  (gR 9 3 x0).bind fun p39 =>
  if 0 ≤ w37 then
  F_X9_round_257 (x0) (x2) (x5) (s.1) (s.2.1) (w37) ((((40 : Int32) * x2) + s.2.1)) (p39) s.2.2
  else
  F_X9_round_257 (x0) (x2) (x5) (s.1) (s.2.1) ((-9 : Int32)) ((((40 : Int32) * x2) + s.2.1)) (p39) s.2.2
noncomputable def F_X9_round_68 (x0 : Nat) (x1 : Int32) (x2 : Int32) (x3 : Int32) : Int32 × Int32 × Int32 × Mem → Option (Int32 × Mem) := lp fun s =>
  if x3 ≤ s.2.2.1 then
  (F_X9_anew x0 x2 x1 s.2.2.2).bind fun q7 =>
  (F_X9_round_214 (x0) (x2) (s.2.1)  (s.1, (x1 - (1 : Int32)), q7)).map fun z => .inr (z)
  else
  (F_X9_tries x0 s.2.2.2).bind fun q9 =>
  F_X9_round_87 (x0) (x1) (x2) (x3) (s.1) (s.2.1) (s.2.2.1)  ((0 : Int32), x3, (0 : Int32), q9)
noncomputable def F_X9_round_36 (x0 : Nat) (x1 : Int32) (x2 : Int32) (σ : Mem) : Int32 × Int32 → Option (Int32 × Mem) := lp fun s =>
  if x1 ≤ s.2 then
  (F_X9_round_68 (x0) (x1) (x2) (s.1)  ((0 : Int32), (-1 : Int32), (0 : Int32), σ)).map fun z => .inr (z)
  else
  (gR 9 0 x0).bind fun p3 =>
  (aI p3 (0 : Int32) σ).bind fun v4 =>
  some (.inl ((s.1 * (v4 + (1 : Int32))), (s.2 + (1 : Int32))))
noncomputable def F_X9_round (x0 : Nat) (x1 : Int32) (x2 : Int32) (σ : Mem) : Option (Int32 × Mem) :=
  (F_X9_in x1.toInt64 (0 : Int64) (4 : Int64) σ).bind fun q48 =>
  if q48 = 0 then
  some ((-1 : Int32), σ)
  else
  (F_X9_isRow x2 σ).bind fun q51 =>
  if q51 = 0 then
  some ((-1 : Int32), σ)
  else
  (F_X9_isTown x0 σ).bind fun q54 =>
  if q54 = 0 then
  some ((-4 : Int32), σ)
  else
  F_X9_round_36 (x0) (x1) (x2) σ ((1 : Int32), (0 : Int32))
noncomputable def F_X9_brings_174 (x0 : Nat) (x1 : Int32) (x3 : Int32) (y0 : Int32) (y1 : Int32) (σ : Mem) : Option ((Int32 × Int32 × Mem) ⊕ (Int32 × Mem)) :=
  some (.inl ((y1 + y0), (x3 + (1 : Int32)), σ))
noncomputable def F_X9_brings_117 (x0 : Nat) (x1 : Int32) : Int32 × Int32 × Mem → Option (Int32 × Mem) := lp fun s =>
  (gR 9 4 x0).bind fun p23 =>
  (aI p23 x1 s.2.2).bind fun v24 =>
  if v24 ≤ s.2.1 then
  (gR 9 0 x0).bind fun p28 =>
  (aI p28 (7262 : Int32) s.2.2).bind fun v29 =>
  (gR 9 0 x0).bind fun p32 =>
  (aI p32 (2 : Int32) s.2.2).bind fun v33 =>
  (F_X9_tells x0 (v29 - v33) s.1 s.2.2).bind fun q35 =>
  some (.inr ((q35.1, q35.2)))
  else
  (F_X9_passes x0 (7260 : Int32) s.2.2).bind fun q37 =>
  (gR 9 3 x0).bind fun p40 =>
  (aI p40 (((40 : Int32) * x1) + s.2.1) q37.2).bind fun v41 =>
  if v41 = (-9 : Int32) then
  F_X9_brings_174 (x0) (x1) (s.2.1) ((0 : Int32)) (s.1) q37.2
  else
  (gR 9 3 x0).bind fun p45 =>
  (aI p45 (((40 : Int32) * x1) + s.2.1) q37.2).bind fun v46 =>
  (F_X9_inspects x0 (7260 : Int32) v46 q37.2).bind fun q48 =>
  F_X9_brings_174 (x0) (x1) (s.2.1) (q48.1) (s.1) q48.2
noncomputable def F_X9_brings_53 (x0 : Nat) (x1 : Int32) (σ : Mem) : Int32 → Option (Int32 × Mem) := lp fun s =>
  (gR 9 4 x0).bind fun p2 =>
  (aI p2 x1 σ).bind fun v3 =>
  if v3 ≤ s then
  (F_X9_tries x0 σ).bind fun q6 =>
  (F_X9_brings_117 (x0) (x1)  ((0 : Int32), (0 : Int32), q6)).map fun z => .inr (z)
  else
  (gR 9 3 x0).bind fun p9 =>
  (aI p9 (((40 : Int32) * x1) + s) σ).bind fun v10 =>
  if v10 = (-9 : Int32) then
  some (.inl ((s + (1 : Int32))))
  else
  (gR 9 3 x0).bind fun p14 =>
  (aI p14 (((40 : Int32) * x1) + s) σ).bind fun v15 =>
  (F_X9_isBed x0 v15 σ).bind fun q17 =>
  if q17 = 0 then
  (F_X9_found x0 (3 : Int32) σ).bind fun q20 =>
  some (.inr ((q20.1, q20.2)))
  else
  some (.inl ((s + (1 : Int32))))
noncomputable def F_X9_brings (x0 : Nat) (x1 : Int32) (σ : Mem) : Option (Int32 × Mem) :=
  (F_X9_isRow x1 σ).bind fun q50 =>
  if q50 = 0 then
  some ((-1 : Int32), σ)
  else
  (F_X9_isTown x0 σ).bind fun q53 =>
  if q53 = 0 then
  some ((-4 : Int32), σ)
  else
  (gR 9 4 x0).bind fun p57 =>
  (aI p57 x1 σ).bind fun v58 =>
  if 0 ≤ v58 then
  (gR 9 4 x0).bind fun p62 =>
  (aI p62 x1 σ).bind fun v63 =>
  if v63 ≤ (10 : Int32) then
  F_X9_brings_53 (x0) (x1) σ ((0 : Int32))
  else
  (F_X9_found x0 (5 : Int32) σ).bind fun q66 =>
  some (q66.1, q66.2)
  else
  (F_X9_found x0 (1 : Int32) σ).bind fun q68 =>
  some (q68.1, q68.2)
noncomputable def F_X9_crossWith (x0 : Nat) (x1 : Int32) (x2 : Int32) (σ : Mem) : Option Int32 :=
  (gR 9 0 x0).bind fun p2 =>
  (aI p2 ((3 : Int32) + x1) σ).bind fun v3 =>
  (gR 9 0 x0).bind fun p6 =>
  (aI p6 ((21 : Int32) + x1) σ).bind fun v7 =>
  (gR 9 0 x0).bind fun p10 =>
  (aI p10 ((9 : Int32) + x1) σ).bind fun v11 =>
  (gR 9 0 x0).bind fun p14 =>
  (aI p14 ((15 : Int32) + x2) σ).bind fun v15 =>
  (F_X9_off v11 v15 σ).bind fun q17 =>
  (gR 9 0 x0).bind fun p20 =>
  (aI p20 (1 : Int32) σ).bind fun v21 =>
  (F_X9_crossBy x0 v3 v7 q17 v21 σ).bind fun q23 =>
  some q23
noncomputable def F_X9_marry_181 (x0 : Nat) (x1 : Int32) (x2 : Int32) (x4 : Int32) (x5 : Int32) (x8 : Int32) (x9 : Int32) (y0 : Int32) (σ : Mem) : Option ((Int32 × Int32 × Int32) ⊕ (Int32 × Mem)) :=
  if x9 = 0 then
  some (.inl (y0, x4, (x5 + (1 : Int32))))
  else
  some (.inl (y0, x8, (x5 + (1 : Int32))))
noncomputable def F_X9_marry_168 (x0 : Nat) (x1 : Int32) (x2 : Int32) (x3 : Int32) (x4 : Int32) (x5 : Int32) (x8 : Int32) (y0 : Int32) (σ : Mem) : Option ((Int32 × Int32 × Int32) ⊕ (Int32 × Mem)) :=
  if y0 = 0 then
  F_X9_marry_181 (x0) (x1) (x2) (x4) (x5) (x8) (y0) (x3) σ
  else
  F_X9_marry_181 (x0) (x1) (x2) (x4) (x5) (x8) (y0) (x5) σ
noncomputable def F_X9_marry_167 (x0 : Nat) (x1 : Int32) (x2 : Int32) (x3 : Int32) (x4 : Int32) (x5 : Int32) (x8 : Int32)  (σ : Mem) : Option ((Int32 × Int32 × Int32) ⊕ (Int32 × Mem)) :=
  F_X9_marry_168 (x0) (x1) (x2) (x3) (x4) (x5) (x8) ((0 : Int32)) σ
noncomputable def F_X9_marry_83 (x0 : Nat) (x1 : Int32) (x2 : Int32) (x3 : Int32) (x4 : Int32) (x5 : Int32) (σ : Mem) : Int32 × Int32 × Int32 × Int32 → Option ((Int32 × Int32 × Int32) ⊕ (Int32 × Mem)) := lp fun s =>
  if s.2.2.2 < 0 then
  (gR 9 0 x0).bind fun p27 =>
  (aI p27 (0 : Int32) σ).bind fun v28 =>
  if s.2.1 = (((1 : Int32) <<< (v28 &&& 31)) - (1 : Int32)) then
  if x4 ≤ s.2.2.1 then
  (F_X9_marry_167 (x0) (x1) (x2) (x3) (x4) (x5) (s.2.2.1) σ).map fun z => .inr (z)
  else
  (F_X9_marry_168 (x0) (x1) (x2) (x3) (x4) (x5) (s.2.2.1) ((1 : Int32)) σ).map fun z => .inr (z)
  else
  (F_X9_marry_167 (x0) (x1) (x2) (x3) (x4) (x5) (s.2.2.1) σ).map fun z => .inr (z)
  else
  (gR 9 0 x0).bind fun p33 =>
  (aI p33 (0 : Int32) σ).bind fun v34 =>
  (nz v34).bind fun _ =>
  let w37 := (s.2.1 ||| ((1 : Int32) <<< ((s.1 - s.1 / v34 * v34) &&& 31)))
  (gR 9 0 x0).bind fun p39 =>
  (aI p39 (0 : Int32) σ).bind fun v40 =>
  (nz v40).bind fun _ =>
  (F_X9_crossWith x0 s.2.2.2 (s.1 - s.1 / v40 * v40) σ).bind fun q43 =>
  (gR 9 0 x0).bind fun p46 =>
  (aI p46 (0 : Int32) σ).bind fun v47 =>
  (nz v47).bind fun _ =>
  some (.inl ((s.1 / v47), w37, (s.2.2.1 + q43), (s.2.2.2 + (-1 : Int32))))
noncomputable def F_X9_marry_226 (x0 : Nat) (x1 : Int32) (x4 : Int32) : Int32 × Int32 × Mem → Option (Int32 × Mem) := lp fun s =>
  if s.2.1 < 0 then
  some (.inr ((x4, s.2.2)))
  else
  (gR 9 3 x0).bind fun p54 =>
  (gR 9 0 x0).bind fun p56 =>
  (aI p56 (0 : Int32) s.2.2).bind fun v57 =>
  (nz v57).bind fun _ =>
  (sI p54 (((40 : Int32) * x1) + s.2.1) (s.1 - s.1 / v57 * v57) s.2.2).bind fun m60 =>
  (gR 9 0 x0).bind fun p63 =>
  (aI p63 (0 : Int32) m60).bind fun v64 =>
  (nz v64).bind fun _ =>
  some (.inl ((s.1 / v64), (s.2.1 + (-1 : Int32)), m60))
noncomputable def F_X9_marry_57 (x0 : Nat) (x1 : Int32) (x2 : Int32) (σ : Mem) : Int32 × Int32 × Int32 → Option (Int32 × Mem) := lp fun s =>
  if x2 ≤ s.2.2 then
  (gR 9 0 x0).bind fun p12 =>
  (aI p12 (0 : Int32) σ).bind fun v13 =>
  (F_X9_anew x0 x1 v13 σ).bind fun q15 =>
  (gR 9 0 x0).bind fun p18 =>
  (aI p18 (0 : Int32) q15).bind fun v19 =>
  (F_X9_marry_226 (x0) (x1) (s.2.1)  (s.1, (v19 - (1 : Int32)), q15)).map fun z => .inr (z)
  else
  (gR 9 0 x0).bind fun p22 =>
  (aI p22 (0 : Int32) σ).bind fun v23 =>
  F_X9_marry_83 (x0) (x1) (x2) (s.1) (s.2.1) (s.2.2) σ (s.2.2, (0 : Int32), (0 : Int32), (v23 - (1 : Int32)))
noncomputable def F_X9_marry_23 (x0 : Nat) (x1 : Int32) (σ : Mem) : Int32 × Int32 → Option (Int32 × Mem) := lp fun s =>
  (gR 9 0 x0).bind fun p2 =>
  (aI p2 (0 : Int32) σ).bind fun v3 =>
  if v3 ≤ s.2 then
  (F_X9_marry_57 (x0) (x1) (s.1) σ ((0 : Int32), (1000000 : Int32), (0 : Int32))).map fun z => .inr (z)
  else
  (gR 9 0 x0).bind fun p7 =>
  (aI p7 (0 : Int32) σ).bind fun v8 =>
  some (.inl ((s.1 * v8), (s.2 + (1 : Int32))))
noncomputable def F_X9_marry (x0 : Nat) (x1 : Int32) (σ : Mem) : Option (Int32 × Mem) :=
  (F_X9_isRow x1 σ).bind fun q67 =>
  if q67 = 0 then
  some ((-1 : Int32), σ)
  else
  (F_X9_isTown x0 σ).bind fun q70 =>
  if q70 = 0 then
  some ((-4 : Int32), σ)
  else
  F_X9_marry_23 (x0) (x1) σ ((1 : Int32), (0 : Int32))
noncomputable def F_X9_wantsRight (x0 : Nat) (x1 : Int32) (x2 : Int32) (σ : Mem) : Option Int32 :=
  (gR 9 0 x0).bind fun p2 =>
  (aI p2 ((9 : Int32) + x1) σ).bind fun v3 =>
  (gR 9 0 x0).bind fun p6 =>
  (aI p6 ((15 : Int32) + x2) σ).bind fun v7 =>
  (F_X9_off v3 v7 σ).bind fun q9 =>
  (F_X9_gapIn x0 (0 : Int32) x1 σ).bind fun q11 =>
  if q11 ≤ q9 then
  some (0 : Int32)
  else
  some (1 : Int32)
noncomputable def F_X9_rather_104 (x0 : Nat) (x2 : Int32) (x3 : Int32) (x4 : Int32) (y0 : Int32) (y1 : Int32) (σ : Mem) : Option ((Int32 × Int32 × Int32) ⊕ ((Int32 × Int32 × Int32) ⊕ (Int32 × Mem))) :=
  some (.inl ((y1 + y0), x2, (x4 + (1 : Int32))))
noncomputable def F_X9_rather_92 (x0 : Nat) (x1 : Int32) (x3 : Int32) (x4 : Int32) (x5 : Int32) (y0 : Int32) (σ : Mem) : Option ((Int32 × Int32 × Int32) ⊕ ((Int32 × Int32 × Int32) ⊕ (Int32 × Mem))) :=
  if x5 = 0 then
  F_X9_rather_104 (x0) (y0) (x3) (x4) ((0 : Int32)) (x1) σ
  else
  F_X9_rather_104 (x0) (y0) (x3) (x4) ((1 : Int32)) (x1) σ
noncomputable def F_X9_rather_91 (x0 : Nat) (x1 : Int32) (x2 : Int32) (x3 : Int32) (x4 : Int32) (x5 : Int32)  (σ : Mem) : Option ((Int32 × Int32 × Int32) ⊕ ((Int32 × Int32 × Int32) ⊕ (Int32 × Mem))) :=
  F_X9_rather_92 (x0) (x1) (x3) (x4) (x5) (x2) σ
noncomputable def F_X9_rather_68 (x0 : Nat) (x1 : Int32) (x2 : Int32) (x3 : Int32) (x4 : Int32) (y0 : Int32) (σ : Mem) : Option ((Int32 × Int32 × Int32) ⊕ ((Int32 × Int32 × Int32) ⊕ (Int32 × Mem))) :=
  if y0 = 0 then
  F_X9_rather_91 (x0) (x1) (x2) (x3) (x4) (y0) σ
  else
  if x2 = (-9 : Int32) then
  F_X9_rather_92 (x0) (x1) (x3) (x4) (y0) ((((10 : Int32) * x3) + x4)) σ
  else
  F_X9_rather_91 (x0) (x1) (x2) (x3) (x4) (y0) σ
noncomputable def F_X9_rather_67 (x0 : Nat) (x1 : Int32) (x2 : Int32) (x3 : Int32) (x4 : Int32)  (σ : Mem) : Option ((Int32 × Int32 × Int32) ⊕ ((Int32 × Int32 × Int32) ⊕ (Int32 × Mem))) :=
  F_X9_rather_68 (x0) (x1) (x2) (x3) (x4) ((0 : Int32)) σ
noncomputable def F_X9_rather_32 (x0 : Nat) (x3 : Int32) (σ : Mem) : Int32 × Int32 × Int32 → Option ((Int32 × Int32 × Int32) ⊕ (Int32 × Mem)) := lp fun s =>
  (gR 9 0 x0).bind fun p9 =>
  (aI p9 (0 : Int32) σ).bind fun v10 =>
  if v10 ≤ s.2.2 then
  some (.inr (.inl (s.1, s.2.1, (x3 + (1 : Int32)))))
  else
  (F_X9_wantsRight x0 x3 s.2.2 σ).bind fun q13 =>
  if q13 = 0 then
  F_X9_rather_67 (x0) (s.1) (s.2.1) (x3) (s.2.2) σ
  else
  (F_X9_wantsRight x0 s.2.2 x3 σ).bind fun q16 =>
  if q16 = 0 then
  F_X9_rather_67 (x0) (s.1) (s.2.1) (x3) (s.2.2) σ
  else
  F_X9_rather_68 (x0) (s.1) (s.2.1) (x3) (s.2.2) ((1 : Int32)) σ
noncomputable def F_X9_rather_17 (x0 : Nat) (σ : Mem) : Int32 × Int32 × Int32 → Option (Int32 × Mem) := lp fun s =>
  (gR 9 0 x0).bind fun p2 =>
  (aI p2 (0 : Int32) σ).bind fun v3 =>
  if v3 ≤ s.2.2 then
  (F_X9_tells x0 s.2.1 s.1 σ).bind fun q6 =>
  some (.inr ((q6.1, q6.2)))
  else
  F_X9_rather_32 (x0) (s.2.2) σ (s.1, s.2.1, (s.2.2 + (1 : Int32)))
noncomputable def F_X9_rather (x0 : Nat) (σ : Mem) : Option (Int32 × Mem) :=
  (F_X9_isTown x0 σ).bind fun q22 =>
  if q22 = 0 then
  some ((-4 : Int32), σ)
  else
  F_X9_rather_17 (x0) σ ((0 : Int32), (-9 : Int32), (0 : Int32))
noncomputable def F_X9_against_90 (x0 : Nat)  (σ : Mem) : Option (Int32 × Mem) :=
  (F_X9_found x0 (3 : Int32) σ).bind fun q20 =>
  some (q20.1, q20.2)
noncomputable def F_X9_against_34 (x0 : Nat) (x1 : Int32) (σ : Mem) : Int32 → Option (Int32 × Mem) := lp fun s =>
  (gR 9 4 x0).bind fun p2 =>
  (aI p2 x1 σ).bind fun v3 =>
  if v3 ≤ s then
  some (.inr (((0 : Int32), σ)))
  else
  (gR 9 3 x0).bind fun p7 =>
  (aI p7 (((40 : Int32) * x1) + s) σ).bind fun v8 =>
  (F_X9_in v8.toInt64 (0 : Int64) (99 : Int64) σ).bind fun q10 =>
  if q10 = 0 then
  (F_X9_against_90 (x0) σ).map fun z => .inr (z)
  else
  (gR 9 3 x0).bind fun p14 =>
  (aI p14 ((((40 : Int32) * x1) + s) + (1 : Int32)) σ).bind fun v15 =>
  (F_X9_in v15.toInt64 (0 : Int64) (30 : Int64) σ).bind fun q17 =>
  if q17 = 0 then
  (F_X9_against_90 (x0) σ).map fun z => .inr (z)
  else
  some (.inl ((s + (2 : Int32))))
noncomputable def F_X9_against (x0 : Nat) (x1 : Int32) (σ : Mem) : Option (Int32 × Mem) :=
  (gR 9 4 x0).bind fun p23 =>
  (aI p23 x1 σ).bind fun v24 =>
  if 0 ≤ v24 then
  (gR 9 4 x0).bind fun p28 =>
  (aI p28 x1 σ).bind fun v29 =>
  if (v29 - v29 / (2 : Int32) * (2 : Int32)) = 0 then
  F_X9_against_34 (x0) (x1) σ ((0 : Int32))
  else
  (F_X9_found x0 (5 : Int32) σ).bind fun q32 =>
  some (q32.1, q32.2)
  else
  (F_X9_found x0 (1 : Int32) σ).bind fun q34 =>
  some (q34.1, q34.2)
noncomputable def F_X9_crossedSo_68 (x0 : Nat) (x1 : Int32) (x2 : Int32) (x3 : Int32) (x4 : Int32) (x6 : Int32)  (σ : Mem) : Option ((Int32 × Int32) ⊕ Int32) :=
  some (.inl ((0 : Int32), (x6 + (2 : Int32))))
noncomputable def F_X9_crossedSo_6 (x0 : Nat) (x1 : Int32) (x2 : Int32) (x3 : Int32) (x4 : Int32) (σ : Mem) : Int32 × Int32 → Option Int32 := lp fun s =>
  (gR 9 4 x0).bind fun p2 =>
  (aI p2 x1 σ).bind fun v3 =>
  if v3 ≤ s.2 then
  (bz s.1).bind fun _ =>
  some (.inr (s.1))
  else
  if s.1 = 0 then
  F_X9_crossedSo_68 (x0) (x1) (x2) (x3) (x4) (s.2) σ
  else
  (F_X9_gapIn x0 (0 : Int32) x2 σ).bind fun q8 =>
  (gR 9 3 x0).bind fun p11 =>
  (aI p11 (((40 : Int32) * x1) + s.2) σ).bind fun v12 =>
  (F_X9_crossBy x0 x3 x4 q8 v12 σ).bind fun q14 =>
  (gR 9 3 x0).bind fun p17 =>
  (aI p17 ((((40 : Int32) * x1) + s.2) + (1 : Int32)) σ).bind fun v18 =>
  if q14 = v18 then
  some (.inl ((1 : Int32), (s.2 + (2 : Int32))))
  else
  F_X9_crossedSo_68 (x0) (x1) (x2) (x3) (x4) (s.2) σ
noncomputable def F_X9_crossedSo (x0 : Nat) (x1 : Int32) (x2 : Int32) (x3 : Int32) (x4 : Int32) (σ : Mem) : Option Int32 :=
  F_X9_crossedSo_6 (x0) (x1) (x2) (x3) (x4) σ ((1 : Int32), (0 : Int32))
noncomputable def F_X9_thicks_71 (x0 : Nat) (x1 : Int32) (x2 : Int32) (x5 : Int32) (y0 : Int32) (y1 : Int32) (σ : Mem) : Option ((Int32 × Int32) ⊕ (Int32 × Mem)) :=
  some (.inl ((y1 ||| y0), (x5 + (1 : Int32))))
noncomputable def F_X9_thicks_35 (x0 : Nat) (x1 : Int32) (x2 : Int32) (σ : Mem) : Int32 × Int32 → Option (Int32 × Mem) := lp fun s =>
  if (10 : Int32) ≤ s.2 then
  some (.inr ((s.1, σ)))
  else
  (gR 9 0 x0).bind fun p3 =>
  (aI p3 ((3 : Int32) + x1) σ).bind fun v4 =>
  (F_X9_crossedSo x0 x2 x1 v4 s.2 σ).bind fun q6 =>
  if q6 = 0 then
  F_X9_thicks_71 (x0) (x1) (x2) (s.2) ((0 : Int32)) (s.1) σ
  else
  F_X9_thicks_71 (x0) (x1) (x2) (s.2) (((1 : Int32) <<< (s.2 &&& 31))) (s.1) σ
noncomputable def F_X9_thicks (x0 : Nat) (x1 : Int32) (x2 : Int32) (σ : Mem) : Option (Int32 × Mem) :=
  (F_X9_isBed x0 x1 σ).bind fun q9 =>
  if q9 = 0 then
  some ((-1 : Int32), σ)
  else
  (F_X9_isRow x2 σ).bind fun q12 =>
  if q12 = 0 then
  some ((-1 : Int32), σ)
  else
  (F_X9_against x0 x2 σ).bind fun q15 =>
  if 0 ≤ q15.1 then
  F_X9_thicks_35 (x0) (x1) (x2) q15.2 ((0 : Int32), (0 : Int32))
  else
  some (q15.1, q15.2)
noncomputable def F_X9_kinds_71 (x0 : Nat) (x1 : Int32) (x2 : Int32) (x5 : Int32) (y0 : Int32) (y1 : Int32) (σ : Mem) : Option ((Int32 × Int32) ⊕ (Int32 × Mem)) :=
  some (.inl ((y1 ||| y0), (x5 + (1 : Int32))))
noncomputable def F_X9_kinds_35 (x0 : Nat) (x1 : Int32) (x2 : Int32) (σ : Mem) : Int32 × Int32 → Option (Int32 × Mem) := lp fun s =>
  if (5 : Int32) < s.2 then
  some (.inr ((s.1, σ)))
  else
  (gR 9 0 x0).bind fun p3 =>
  (aI p3 ((21 : Int32) + x1) σ).bind fun v4 =>
  (F_X9_crossedSo x0 x2 x1 s.2 v4 σ).bind fun q6 =>
  if q6 = 0 then
  F_X9_kinds_71 (x0) (x1) (x2) (s.2) ((0 : Int32)) (s.1) σ
  else
  F_X9_kinds_71 (x0) (x1) (x2) (s.2) (((1 : Int32) <<< (s.2 &&& 31))) (s.1) σ
noncomputable def F_X9_kinds (x0 : Nat) (x1 : Int32) (x2 : Int32) (σ : Mem) : Option (Int32 × Mem) :=
  (F_X9_isBed x0 x1 σ).bind fun q9 =>
  if q9 = 0 then
  some ((-1 : Int32), σ)
  else
  (F_X9_isRow x2 σ).bind fun q12 =>
  if q12 = 0 then
  some ((-1 : Int32), σ)
  else
  (F_X9_against x0 x2 σ).bind fun q15 =>
  if 0 ≤ q15.1 then
  F_X9_kinds_35 (x0) (x1) (x2) q15.2 ((0 : Int32), (0 : Int32))
  else
  some (q15.1, q15.2)
noncomputable def F_X9_test_168 (x0 : Nat) (x1 : Int32) (x2 : Int32) (x4 : Int32) (x5 : Int32) (x6 : Int32) (x7 : Int32) (x9 : Int32) (y0 : Int32) (σ : Mem) : Option ((Int32 × Int32 × Int32 × Mem) ⊕ ((Int32 × Int32 × Int32 × Int32 × Mem) ⊕ (Int32 × Mem))) :=
  some (.inl ((x6 + (1 : Int32)), y0, (x9 + (1 : Int32)), σ))
noncomputable def F_X9_test_193 (x0 : Nat) (x1 : Int32) (x2 : Int32) (x5 : Int32) (x6 : Int32) (x7 : Int32) (x8 : Int32) (y0 : Int32) (σ : Mem) : Option ((Int32 × Int32 × Int32 × Int32 × Mem) ⊕ (Int32 × Mem)) :=
  if x5 ≤ x8 then
  some (.inl (y0, x5, x6, (x7 + (1 : Int32)), σ))
  else
  some (.inl (y0, x8, x6, (x7 + (1 : Int32)), σ))
noncomputable def F_X9_test_83 (x0 : Nat) (x1 : Int32) (x2 : Int32) (x4 : Int32) (x5 : Int32) (x7 : Int32) : Int32 × Int32 × Int32 × Mem → Option ((Int32 × Int32 × Int32 × Int32 × Mem) ⊕ (Int32 × Mem)) := lp fun s =>
  if (60 : Int32) ≤ s.2.2.1 then
  if x5 ≤ s.2.1 then
  (F_X9_test_193 (x0) (x1) (x2) (x5) (s.1) (x7) (s.2.1) (x4) s.2.2.2).map fun z => .inr (z)
  else
  (F_X9_test_193 (x0) (x1) (x2) (x5) (s.1) (x7) (s.2.1) (x7) s.2.2.2).map fun z => .inr (z)
  else
  (F_X9_crossedSo x0 x2 x1 (s.2.2.1 / (10 : Int32)) (s.2.2.1 - s.2.2.1 / (10 : Int32) * (10 : Int32)) s.2.2.2).bind fun q12 =>
  if q12 = 0 then
  some (.inl (s.1, s.2.1, (s.2.2.1 + (1 : Int32)), s.2.2.2))
  else
  (F_X9_gapIn x0 (0 : Int32) x1 s.2.2.2).bind fun q15 =>
  (F_X9_crossBy x0 (s.2.2.1 / (10 : Int32)) (s.2.2.1 - s.2.2.1 / (10 : Int32) * (10 : Int32)) q15 x7 s.2.2.2).bind fun q17 =>
  (gR 9 14 x0).bind fun p20 =>
  (aI p20 q17 s.2.2.2).bind fun v21 =>
  (sI p20 q17 (v21 + (1 : Int32)) s.2.2.2).bind fun m23 =>
  (gR 9 14 x0).bind fun p26 =>
  (aI p26 q17 m23).bind fun v27 =>
  if v27 ≤ s.2.1 then
  F_X9_test_168 (x0) (x1) (x2) (x4) (x5) (s.1) (x7) (s.2.2.1) (s.2.1) m23
  else
  (gR 9 14 x0).bind fun p31 =>
  (aI p31 q17 m23).bind fun v32 =>
  F_X9_test_168 (x0) (x1) (x2) (x4) (x5) (s.1) (x7) (s.2.2.1) (v32) m23
noncomputable def F_X9_test_59 (x0 : Nat) (x1 : Int32) (x2 : Int32) (x4 : Int32) (x5 : Int32) (x6 : Int32) (x7 : Int32) (x8 : Int32) : Int32 × Mem → Option ((Int32 × Int32 × Int32 × Int32 × Mem) ⊕ (Int32 × Mem)) := lp fun s =>
  if (32 : Int32) ≤ s.1 then
  (F_X9_test_83 (x0) (x1) (x2) (x4) (x5) (x7)  (x6, x8, (0 : Int32), s.2)).map fun z => .inr (z)
  else
  (gR 9 14 x0).bind fun p7 =>
  (sI p7 s.1 (0 : Int32) s.2).bind fun m8 =>
  some (.inl ((s.1 + (1 : Int32)), m8))
noncomputable def F_X9_test_43 (x0 : Nat) (x1 : Int32) (x2 : Int32) : Int32 × Int32 × Int32 × Int32 × Mem → Option (Int32 × Mem) := lp fun s =>
  if (8 : Int32) ≤ s.2.2.2.1 then
  if s.2.2.1 = 0 then
  some (.inr (((-9 : Int32), s.2.2.2.2)))
  else
  (F_X9_tells x0 s.2.1 s.1 s.2.2.2.2).bind fun q3 =>
  some (.inr ((q3.1, q3.2)))
  else
  F_X9_test_59 (x0) (x1) (x2) (s.1) (s.2.1) ((0 : Int32)) (s.2.2.2.1) ((0 : Int32))  ((0 : Int32), s.2.2.2.2)
noncomputable def F_X9_test (x0 : Nat) (x1 : Int32) (x2 : Int32) (σ : Mem) : Option (Int32 × Mem) :=
  (F_X9_isBed x0 x1 σ).bind fun q35 =>
  if q35 = 0 then
  some ((-1 : Int32), σ)
  else
  (F_X9_isRow x2 σ).bind fun q38 =>
  if q38 = 0 then
  some ((-1 : Int32), σ)
  else
  (F_X9_against x0 x2 σ).bind fun q41 =>
  if 0 ≤ q41.1 then
  F_X9_test_43 (x0) (x1) (x2)  ((-9 : Int32), (1000000 : Int32), (0 : Int32), (0 : Int32), q41.2)
  else
  some (q41.1, q41.2)
noncomputable def F_X9_duel_130 (x0 : Nat) (x1 : Int32) (x2 : Int32) (x3 : Int32) (x4 : Int32) (x6 : Int32) (x7 : Int32) (x8 : Int32) (y0 : Int32) (y1 : Int32) (σ : Mem) : Option ((Int32 × Int32 × Int32 × Int32 × Mem) ⊕ ((Int32 × Mem) ⊕ (Int32 × Mem))) :=
  some (.inl ((y1 + y0), x6, x7, (x8 + (1 : Int32)), σ))
noncomputable def F_X9_duel_192 (x0 : Nat) (x1 : Int32) (x2 : Int32) (x3 : Int32) (x4 : Int32) (x5 : Int32) (x6 : Int32) (x7 : Int32) (x8 : Int32)  (σ : Mem) : Option ((Int32 × Int32 × Int32 × Int32 × Mem) ⊕ ((Int32 × Mem) ⊕ (Int32 × Mem))) :=
  (F_X9_passes x0 (7260 : Int32) σ).bind fun q32 =>
  some (.inl (x5, x6, x7, (x8 + (1 : Int32)), q32.2))
noncomputable def F_X9_duel_165 (x0 : Nat) (x1 : Int32) (x2 : Int32) (x3 : Int32) (x4 : Int32) (x5 : Int32) (x6 : Int32) (x8 : Int32) (x9 : Int32) (y0 : Int32) (σ : Mem) : Option ((Int32 × Int32 × Int32 × Int32 × Mem) ⊕ ((Int32 × Mem) ⊕ (Int32 × Mem))) :=
  if y0 = 0 then
  F_X9_duel_192 (x0) (x1) (x2) (x3) (x4) (x5) (x6) (y0) (x8) σ
  else
  if x9 < 0 then
  F_X9_duel_192 (x0) (x1) (x2) (x3) (x4) (x5) (x6) (y0) (x8) σ
  else
  (gR 9 0 x0).bind fun p27 =>
  (aI p27 ((7281 : Int32) + x9) σ).bind fun v28 =>
  (sI p27 ((7281 : Int32) + x9) (v28 - (1 : Int32)) σ).bind fun m30 =>
  F_X9_duel_192 (x0) (x1) (x2) (x3) (x4) (x5) (x6) (y0) (x8) m30
noncomputable def F_X9_duel_160 (x0 : Nat) (x1 : Int32) (x2 : Int32) (x3 : Int32) (x4 : Int32) (x5 : Int32) (x6 : Int32) (x8 : Int32) (x9 : Int32)  (σ : Mem) : Option ((Int32 × Int32 × Int32 × Int32 × Mem) ⊕ ((Int32 × Mem) ⊕ (Int32 × Mem))) :=
  F_X9_duel_165 (x0) (x1) (x2) (x3) (x4) (x5) (x6) (x8) (x9) ((1 : Int32)) σ
noncomputable def F_X9_duel_164 (x0 : Nat) (x1 : Int32) (x2 : Int32) (x3 : Int32) (x4 : Int32) (x5 : Int32) (x6 : Int32) (x8 : Int32) (x9 : Int32)  (σ : Mem) : Option ((Int32 × Int32 × Int32 × Int32 × Mem) ⊕ ((Int32 × Mem) ⊕ (Int32 × Mem))) :=
  F_X9_duel_165 (x0) (x1) (x2) (x3) (x4) (x5) (x6) (x8) (x9) ((0 : Int32)) σ
noncomputable def F_X9_duel_223 (x0 : Nat) (x1 : Int32) (x2 : Int32) (x3 : Int32) (x4 : Int32) (y0 : Int32) (y1 : Int32) (y2 : Nat) (σ : Mem) : Option ((Int32 × Mem) ⊕ (Int32 × Mem)) :=
  (sI y2 y1 y0 σ).bind fun m34 =>
  some (.inl ((x4 + (1 : Int32)), m34))
noncomputable def F_X9_duel_79 (x0 : Nat) (x1 : Int32) (x2 : Int32) (x3 : Int32) (x4 : Int32) : Int32 × Int32 × Int32 × Int32 × Mem → Option ((Int32 × Mem) ⊕ (Int32 × Mem)) := lp fun s =>
  if x1 ≤ s.2.2.2.1 then
  (gR 9 15 x0).bind fun p7 =>
  if s.2.2.1 = 0 then
  (F_X9_duel_223 (x0) (x1) (x2) (x3) (x4) ((-1 : Int32)) (x4) (p7) s.2.2.2.2).map fun z => .inr (z)
  else
  (F_X9_duel_223 (x0) (x1) (x2) (x3) (x4) (s.1) (x4) (p7) s.2.2.2.2).map fun z => .inr (z)
  else
  (nz x2).bind fun _ =>
  (nz (s.2.1 / x2)).bind fun _ =>
  (nz x2).bind fun _ =>
  let w12 := (((x4 / (s.2.1 / x2)) - (x4 / (s.2.1 / x2)) / x2 * x2) - (1 : Int32))
  if (s.2.2.2.1 - s.2.2.2.1 / (2 : Int32) * (2 : Int32)) = (1 : Int32) then
  if 0 ≤ w12 then
  (F_X9_inspects x0 (7260 : Int32) w12 s.2.2.2.2).bind fun q22 =>
  F_X9_duel_130 (x0) (x1) (x2) (x3) (x4) ((s.2.1 / x2)) (s.2.2.1) (s.2.2.2.1) (q22.1) (s.1) q22.2
  else
  F_X9_duel_130 (x0) (x1) (x2) (x3) (x4) ((s.2.1 / x2)) (s.2.2.1) (s.2.2.2.1) ((0 : Int32)) (s.1) s.2.2.2.2
  else
  if s.2.2.1 = 0 then
  F_X9_duel_164 (x0) (x1) (x2) (x3) (x4) (s.1) ((s.2.1 / x2)) (s.2.2.2.1) (w12) s.2.2.2.2
  else
  if w12 < 0 then
  F_X9_duel_160 (x0) (x1) (x2) (x3) (x4) (s.1) ((s.2.1 / x2)) (s.2.2.2.1) (w12) s.2.2.2.2
  else
  (gR 9 0 x0).bind fun p17 =>
  (aI p17 ((7281 : Int32) + w12) s.2.2.2.2).bind fun v18 =>
  if v18 ≤ 0 then
  F_X9_duel_164 (x0) (x1) (x2) (x3) (x4) (s.1) ((s.2.1 / x2)) (s.2.2.2.1) (w12) s.2.2.2.2
  else
  F_X9_duel_160 (x0) (x1) (x2) (x3) (x4) (s.1) ((s.2.1 / x2)) (s.2.2.2.1) (w12) s.2.2.2.2
noncomputable def F_X9_duel_325 (x0 : Nat) (x2 : Int32) (x4 : Int32) (x5 : Int32) (x6 : Int32) (x7 : Int32) (x8 : Int32) (x9 : Int32) (y0 : Int32) (σ : Mem) : Option ((Int32 × Int32) ⊕ ((Int32 × Mem) ⊕ ((Int32 × Int32 × Mem) ⊕ (Int32 × Mem)))) :=
  if y0 = 0 then
  some (.inl (x7, (x8 + (1 : Int32))))
  else
  some (.inl (x9, (x8 + (1 : Int32))))
noncomputable def F_X9_duel_320 (x0 : Nat) (x2 : Int32) (x4 : Int32) (x5 : Int32) (x6 : Int32) (x7 : Int32) (x8 : Int32) (x9 : Int32)  (σ : Mem) : Option ((Int32 × Int32) ⊕ ((Int32 × Mem) ⊕ ((Int32 × Int32 × Mem) ⊕ (Int32 × Mem)))) :=
  F_X9_duel_325 (x0) (x2) (x4) (x5) (x6) (x7) (x8) (x9) ((1 : Int32)) σ
noncomputable def F_X9_duel_324 (x0 : Nat) (x2 : Int32) (x4 : Int32) (x5 : Int32) (x6 : Int32) (x7 : Int32) (x8 : Int32) (x9 : Int32)  (σ : Mem) : Option ((Int32 × Int32) ⊕ ((Int32 × Mem) ⊕ ((Int32 × Int32 × Mem) ⊕ (Int32 × Mem)))) :=
  F_X9_duel_325 (x0) (x2) (x4) (x5) (x6) (x7) (x8) (x9) ((0 : Int32)) σ
noncomputable def F_X9_duel_265 (x0 : Nat) (x2 : Int32) (x4 : Int32) (x5 : Int32) (x6 : Int32) (σ : Mem) : Int32 × Int32 → Option ((Int32 × Mem) ⊕ ((Int32 × Int32 × Mem) ⊕ (Int32 × Mem))) := lp fun s =>
  if x2 ≤ s.2 then
  (gR 9 15 x0).bind fun p45 =>
  (sI p45 x6 s.1 σ).bind fun m46 =>
  some (.inr (.inl ((x6 + (1 : Int32)), m46)))
  else
  (gR 9 15 x0).bind fun p49 =>
  (aI p49 ((x2 * x6) + s.2) σ).bind fun v50 =>
  if v50 < 0 then
  F_X9_duel_324 (x0) (x2) (x4) (x5) (x6) (s.1) (s.2) (v50) σ
  else
  if s.1 < 0 then
  F_X9_duel_320 (x0) (x2) (x4) (x5) (x6) (s.1) (s.2) (v50) σ
  else
  if (x5 - x5 / (2 : Int32) * (2 : Int32)) = (1 : Int32) then
  if v50 ≤ s.1 then
  F_X9_duel_324 (x0) (x2) (x4) (x5) (x6) (s.1) (s.2) (v50) σ
  else
  F_X9_duel_320 (x0) (x2) (x4) (x5) (x6) (s.1) (s.2) (v50) σ
  else
  if s.1 ≤ v50 then
  F_X9_duel_324 (x0) (x2) (x4) (x5) (x6) (s.1) (s.2) (v50) σ
  else
  F_X9_duel_320 (x0) (x2) (x4) (x5) (x6) (s.1) (s.2) (v50) σ
noncomputable def F_X9_duel_252 (x0 : Nat) (x2 : Int32) (x4 : Int32) (x5 : Int32) : Int32 × Mem → Option ((Int32 × Int32 × Mem) ⊕ (Int32 × Mem)) := lp fun s =>
  if x4 ≤ s.1 then
  some (.inr (.inl (x4, (x5 + (-1 : Int32)), s.2)))
  else
  F_X9_duel_265 (x0) (x2) (x4) (x5) (s.1) s.2 ((-1 : Int32), (0 : Int32))
noncomputable def F_X9_duel_238 (x0 : Nat) (x2 : Int32) : Int32 × Int32 × Mem → Option (Int32 × Mem) := lp fun s =>
  if s.2.1 < 0 then
  (gR 9 15 x0).bind fun p38 =>
  (aI p38 (0 : Int32) s.2.2).bind fun v39 =>
  some (.inr ((v39, s.2.2)))
  else
  (nz x2).bind fun _ =>
  F_X9_duel_252 (x0) (x2) ((s.1 / x2)) (s.2.1)  ((0 : Int32), s.2.2)
noncomputable def F_X9_duel_57 (x0 : Nat) (x1 : Int32) (x2 : Int32) (x3 : Int32) : Int32 × Mem → Option (Int32 × Mem) := lp fun s =>
  if x3 ≤ s.1 then
  (F_X9_duel_238 (x0) (x2)  (x3, (x1 - (1 : Int32)), s.2)).map fun z => .inr (z)
  else
  (F_X9_tries x0 s.2).bind fun q3 =>
  F_X9_duel_79 (x0) (x1) (x2) (x3) (s.1)  ((0 : Int32), x3, (1 : Int32), (0 : Int32), q3)
noncomputable def F_X9_duel_38 (x0 : Nat) (x1 : Int32) (x2 : Int32) (σ : Mem) : Int32 × Int32 → Option (Int32 × Mem) := lp fun s =>
  if x1 ≤ s.2 then
  (F_X9_duel_57 (x0) (x1) (x2) (s.1)  ((0 : Int32), σ)).map fun z => .inr (z)
  else
  some (.inl ((s.1 * x2), (s.2 + (1 : Int32))))
noncomputable def F_X9_duel (x0 : Nat) (x1 : Int32) (σ : Mem) : Option (Int32 × Mem) :=
  (F_X9_in x1.toInt64 (0 : Int64) (4 : Int64) σ).bind fun q58 =>
  if q58 = 0 then
  some ((-1 : Int32), σ)
  else
  (F_X9_isTown x0 σ).bind fun q61 =>
  if q61 = 0 then
  some ((-4 : Int32), σ)
  else
  (gR 9 0 x0).bind fun p65 =>
  (aI p65 (0 : Int32) σ).bind fun v66 =>
  F_X9_duel_38 (x0) (x1) ((v66 + (1 : Int32))) σ ((1 : Int32), (0 : Int32))
noncomputable def F_X9_tellsParts_6 (x0 : Nat) (x1 : Int64) (x3 : Int64) (σ : Mem) : Int64 × Int64 → Option (Int32 × Mem) := lp fun s =>
  if (lg_cmp s.2 (0 : Int64)) = 0 then
  (nzL s.1).bind fun _ =>
  (pL 9 11 x0 (x1 / s.1) σ).bind fun m4 =>
  (nzL s.1).bind fun _ =>
  (pL 9 12 x0 (x3 / s.1) m4).bind fun m7 =>
  some (.inr (((1 : Int32), m7)))
  else
  (nzL s.2).bind fun _ =>
  some (.inl (s.2, (s.1 - s.1 / s.2 * s.2)))
noncomputable def F_X9_tellsParts (x0 : Nat) (x1 : Int64) (x3 : Int64) (σ : Mem) : Option (Int32 × Mem) :=
  F_X9_tellsParts_6 (x0) (x1) (x3) σ (x1, x3)
noncomputable def F_X9_dueNow_31 (x0 : Nat) (x2 : Int32) (y0 : Int32) (y1 : Int32) (σ : Mem) : Option ((Int32 × Int32) ⊕ Int32) :=
  some (.inl ((y1 ||| y0), (x2 + (1 : Int32))))
noncomputable def F_X9_dueNow_4 (x0 : Nat) (σ : Mem) : Int32 × Int32 → Option Int32 := lp fun s =>
  (gR 9 0 x0).bind fun p2 =>
  (aI p2 (0 : Int32) σ).bind fun v3 =>
  if v3 ≤ s.2 then
  some (.inr (s.1))
  else
  (F_X9_isDue x0 (0 : Int32) s.2 σ).bind fun q6 =>
  if q6 = 0 then
  F_X9_dueNow_31 (x0) (s.2) ((0 : Int32)) (s.1) σ
  else
  F_X9_dueNow_31 (x0) (s.2) (((1 : Int32) <<< (s.2 &&& 31))) (s.1) σ
noncomputable def F_X9_dueNow (x0 : Nat) (σ : Mem) : Option Int32 :=
  F_X9_dueNow_4 (x0) σ ((0 : Int32), (0 : Int32))
noncomputable def F_X9_waysOf_51 (x0 : Nat) (x1 : Int32) (x2 : Int32) (x3 : Int32) (x6 : Int32) (y0 : Int64) (y1 : Int64) (σ : Mem) : Option ((Int64 × Int32) ⊕ Int64) :=
  some (.inl ((y1 * y0), (x6 + (1 : Int32))))
noncomputable def F_X9_waysOf_6 (x0 : Nat) (x1 : Int32) (x2 : Int32) (x3 : Int32) (σ : Mem) : Int64 × Int32 → Option Int64 := lp fun s =>
  (gR 9 0 x0).bind fun p2 =>
  (aI p2 (0 : Int32) σ).bind fun v3 =>
  if v3 ≤ s.2 then
  some (.inr (s.1))
  else
  (F_X9_has x1 s.2 σ).bind fun q6 =>
  if q6 = 0 then
  F_X9_waysOf_51 (x0) (x1) (x2) (x3) (s.2) ((1 : Int64)) (s.1) σ
  else
  (F_X9_has x2 s.2 σ).bind fun q9 =>
  if q9 = 0 then
  F_X9_waysOf_51 (x0) (x1) (x2) (x3) (s.2) (((12 : Int32) - x3).toInt64) (s.1) σ
  else
  F_X9_waysOf_51 (x0) (x1) (x2) (x3) (s.2) (x3.toInt64) (s.1) σ
noncomputable def F_X9_waysOf (x0 : Nat) (x1 : Int32) (x2 : Int32) (x3 : Int32) (σ : Mem) : Option Int64 :=
  F_X9_waysOf_6 (x0) (x1) (x2) (x3) σ ((1 : Int64), (0 : Int32))
noncomputable def F_X9_allWays_8  (σ : Mem) : Int64 × Int32 → Option Int64 := lp fun s =>
  if s.2 ≤ 0 then
  some (.inr (s.1))
  else
  some (.inl ((s.1 * (12 : Int64)), (s.2 + (-1 : Int32))))
noncomputable def F_X9_allWays (x0 : Nat) (x1 : Int32) (σ : Mem) : Option Int64 :=
  (F_X9_ones x1 σ).bind fun q2 =>
  F_X9_allWays_8  σ ((1 : Int64), q2)
noncomputable def F_X9_odds_86 (x0 : Nat) (x1 : Int32) (x2 : Int32) (x3 : Int32) (x6 : Int32) (y0 : Int64) (y1 : Int64) (σ : Mem) : Option ((Int64 × Int32) ⊕ (Int32 × Mem)) :=
  some (.inl ((y1 + y0), (x6 + (1 : Int32))))
noncomputable def F_X9_odds_85 (x0 : Nat) (x1 : Int32) (x2 : Int32) (x3 : Int32) (x6 : Int32) (y0 : Int64) (σ : Mem) : Option ((Int64 × Int32) ⊕ (Int32 × Mem)) :=
  F_X9_odds_86 (x0) (x1) (x2) (x3) (x6) ((0 : Int64)) (y0) σ
noncomputable def F_X9_odds_47 (x0 : Nat) (x1 : Int32) (x2 : Int32) (x3 : Int32) (σ : Mem) : Int64 × Int32 → Option (Int32 × Mem) := lp fun s =>
  if (64 : Int32) ≤ s.2 then
  (F_X9_allWays x0 x3 σ).bind fun q2 =>
  (F_X9_tellsParts x0 s.1 q2 σ).bind fun q4 =>
  some (.inr ((q4.1, q4.2)))
  else
  if (s.2 &&& (x3 ^^^ (-1 : Int32))) = 0 then
  (F_X9_ones s.2 σ).bind fun q7 =>
  if q7 < x1 then
  F_X9_odds_85 (x0) (x1) (x2) (x3) (s.2) (s.1) σ
  else
  (F_X9_waysOf x0 x3 s.2 x2 σ).bind fun q10 =>
  F_X9_odds_86 (x0) (x1) (x2) (x3) (s.2) (q10) (s.1) σ
  else
  F_X9_odds_85 (x0) (x1) (x2) (x3) (s.2) (s.1) σ
noncomputable def F_X9_odds (x0 : Nat) (x1 : Int32) (x2 : Int32) (σ : Mem) : Option (Int32 × Mem) :=
  (F_X9_in x1.toInt64 (0 : Int64) (6 : Int64) σ).bind fun q12 =>
  if q12 = 0 then
  some ((-1 : Int32), σ)
  else
  (F_X9_in x2.toInt64 (0 : Int64) (12 : Int64) σ).bind fun q15 =>
  if q15 = 0 then
  some ((-1 : Int32), σ)
  else
  (F_X9_isTown x0 σ).bind fun q18 =>
  if q18 = 0 then
  some ((-4 : Int32), σ)
  else
  (F_X9_dueNow x0 σ).bind fun q21 =>
  F_X9_odds_47 (x0) (x1) (x2) (q21) σ ((0 : Int64), (0 : Int32))
noncomputable def F_X9_mid_98 (x0 : Nat) (x1 : Int32) (x2 : Int32) (x3 : Int64) (x5 : Int32) (x6 : Int32) (x7 : Int32)  (σ : Mem) : Option ((Int32 × Int32) ⊕ ((Int64 × Int32) ⊕ (Int32 × Mem))) :=
  some (.inl (x6, (x7 + (1 : Int32))))
noncomputable def F_X9_mid_134 (x0 : Nat) (x1 : Int32) (x2 : Int32) (x5 : Int32) (y0 : Int64) (y1 : Int64) (σ : Mem) : Option ((Int64 × Int32) ⊕ (Int32 × Mem)) :=
  some (.inl ((y1 + y0), (x5 + (1 : Int32))))
noncomputable def F_X9_mid_47 (x0 : Nat) (x1 : Int32) (x2 : Int32) (x3 : Int64) (x5 : Int32) (σ : Mem) : Int32 × Int32 → Option ((Int64 × Int32) ⊕ (Int32 × Mem)) := lp fun s =>
  (gR 9 0 x0).bind fun p7 =>
  (aI p7 (0 : Int32) σ).bind fun v8 =>
  if v8 ≤ s.2 then
  if (x5 &&& (x2 ^^^ (-1 : Int32))) = 0 then
  (F_X9_waysOf x0 x2 x5 x1 σ).bind fun q12 =>
  (F_X9_mid_134 (x0) (x1) (x2) (x5) ((s.1.toInt64 * q12)) (x3) σ).map fun z => .inr (z)
  else
  (F_X9_mid_134 (x0) (x1) (x2) (x5) ((0 : Int64)) (x3) σ).map fun z => .inr (z)
  else
  (F_X9_has (x5 &&& x2) s.2 σ).bind fun q14 =>
  if q14 = 0 then
  F_X9_mid_98 (x0) (x1) (x2) (x3) (x5) (s.1) (s.2) σ
  else
  (gR 9 0 x0).bind fun p18 =>
  (aI p18 ((27 : Int32) + s.2) σ).bind fun v19 =>
  if v19 ≤ s.1 then
  F_X9_mid_98 (x0) (x1) (x2) (x3) (x5) (s.1) (s.2) σ
  else
  (gR 9 0 x0).bind fun p23 =>
  (aI p23 ((27 : Int32) + s.2) σ).bind fun v24 =>
  some (.inl (v24, (s.2 + (1 : Int32))))
noncomputable def F_X9_mid_34 (x0 : Nat) (x1 : Int32) (x2 : Int32) (σ : Mem) : Int64 × Int32 → Option (Int32 × Mem) := lp fun s =>
  if (64 : Int32) ≤ s.2 then
  (F_X9_allWays x0 x2 σ).bind fun q2 =>
  (F_X9_tellsParts x0 s.1 q2 σ).bind fun q4 =>
  some (.inr ((q4.1, q4.2)))
  else
  F_X9_mid_47 (x0) (x1) (x2) (s.1) (s.2) σ ((0 : Int32), (0 : Int32))
noncomputable def F_X9_mid (x0 : Nat) (x1 : Int32) (σ : Mem) : Option (Int32 × Mem) :=
  (F_X9_in x1.toInt64 (0 : Int64) (12 : Int64) σ).bind fun q26 =>
  if q26 = 0 then
  some ((-1 : Int32), σ)
  else
  (F_X9_isTown x0 σ).bind fun q29 =>
  if q29 = 0 then
  some ((-4 : Int32), σ)
  else
  (F_X9_dueNow x0 σ).bind fun q32 =>
  F_X9_mid_34 (x0) (x1) (q32) σ ((0 : Int64), (0 : Int32))
noncomputable def F_X9_lots_168 (x0 : Nat) (x1 : Int32) (x3 : Int64) (x5 : Int32) (x6 : Int32) (y0 : Int32) (y1 : Int32) (y2 : Int32) (y3 : Nat) (σ : Mem) : Option ((Int64 × Int32 × Int32 × Mem) ⊕ (Int32 × Mem)) :=
  (sI y3 y2 (y1 - y0) σ).bind fun m26 =>
  some (.inl (x3, x5, (x6 + (1 : Int32)), m26))
noncomputable def F_X9_lots_59 (x0 : Nat) (x1 : Int32) : Int64 × Int32 × Int32 × Mem → Option (Int32 × Mem) := lp fun s =>
  if x1 ≤ s.2.2.1 then
  some (.inr ((s.2.1, s.2.2.2)))
  else
  let w2 := ((s.1 * (48271 : Int64)) - (s.1 * (48271 : Int64)) / (2147483647 : Int64) * (2147483647 : Int64))
  (gR 9 0 x0).bind fun p4 =>
  (aI p4 (0 : Int32) s.2.2.2).bind fun v5 =>
  (nzL v5.toInt64).bind fun _ =>
  let w8 := ((w2 / (8 : Int64)) - (w2 / (8 : Int64)) / v5.toInt64 * v5.toInt64).toInt32
  (F_X9_minds x0 s.2.2.2).bind fun q9 =>
  if (2 : Int32) ≤ (w2 - w2 / (4 : Int64) * (4 : Int64)).toInt32 then
  if (w2 - w2 / (4 : Int64) * (4 : Int64)).toInt32 = (2 : Int32) then
  (F_X9_inspects x0 (0 : Int32) w8 q9).bind fun q22 =>
  some (.inl (w2, (s.2.1 + q22.1), (s.2.2.1 + (1 : Int32)), q22.2))
  else
  (gR 9 0 x0).bind fun p14 =>
  (aI p14 ((21 : Int32) + w8) q9).bind fun v15 =>
  (gR 9 0 x0).bind fun p18 =>
  (aI p18 ((21 : Int32) + w8) q9).bind fun v19 =>
  if v19 ≤ 0 then
  F_X9_lots_168 (x0) (x1) (w2) (s.2.1) (s.2.2.1) ((0 : Int32)) (v15) (((21 : Int32) + w8)) (p14) q9
  else
  F_X9_lots_168 (x0) (x1) (w2) (s.2.1) (s.2.2.1) ((1 : Int32)) (v15) (((21 : Int32) + w8)) (p14) q9
  else
  (F_X9_passes x0 (0 : Int32) q9).bind fun q24 =>
  some (.inl (w2, s.2.1, (s.2.2.1 + (1 : Int32)), q24.2))
noncomputable def F_X9_lots (x0 : Nat) (x1 : Int32) (x2 : Int32) (σ : Mem) : Option (Int32 × Mem) :=
  (F_X9_in x1.toInt64 (1 : Int64) (20 : Int64) σ).bind fun q28 =>
  if q28 = 0 then
  some ((-1 : Int32), σ)
  else
  (F_X9_in x2.toInt64 (1 : Int64) (2147483646 : Int64) σ).bind fun q31 =>
  if q31 = 0 then
  some ((-1 : Int32), σ)
  else
  (F_X9_isTown x0 σ).bind fun q34 =>
  if q34 = 0 then
  some ((-4 : Int32), σ)
  else
  (gI 9 1 x0 σ).bind fun v38 =>
  if (v38 + x1) ≤ (40 : Int32) then
  F_X9_lots_59 (x0) (x1)  (x2.toInt64, (0 : Int32), (0 : Int32), σ)
  else
  some ((-2 : Int32), σ)
noncomputable def F_X9_asked (x0 : Nat) (σ : Mem) : Option Int32 :=
  (gI 9 10 x0 σ).bind fun v2 =>
  some v2
noncomputable def F_X9_upper (x0 : Nat) (σ : Mem) : Option Int64 :=
  (gL 9 11 x0 σ).bind fun v2 =>
  some v2
noncomputable def F_X9_lower (x0 : Nat) (σ : Mem) : Option Int64 :=
  (gL 9 12 x0 σ).bind fun v2 =>
  some v2
noncomputable def F_X9_countOf_84 (x0 : Nat) (σ : Mem) : Int32 × Int32 → Option Int32 := lp fun s =>
  (gR 9 0 x0).bind fun p2 =>
  (aI p2 (0 : Int32) σ).bind fun v3 =>
  if v3 ≤ s.2 then
  some (.inr (s.1))
  else
  (gR 9 0 x0).bind fun p7 =>
  (aI p7 ((27 : Int32) + s.2) σ).bind fun v8 =>
  some (.inl ((s.1 + v8), (s.2 + (1 : Int32))))
noncomputable def F_X9_countOf_189 (x0 : Nat) (x3 : Int32) (y0 : Int32) (y1 : Int32) (σ : Mem) : Option ((Int32 × Int32) ⊕ Int32) :=
  some (.inl ((y1 + y0), (x3 + (1 : Int32))))
noncomputable def F_X9_countOf_184 (x0 : Nat) (x3 : Int32) (y0 : Int32) (σ : Mem) : Option ((Int32 × Int32) ⊕ Int32) :=
  F_X9_countOf_189 (x0) (x3) ((1 : Int32)) (y0) σ
noncomputable def F_X9_countOf_149 (x0 : Nat) (σ : Mem) : Int32 × Int32 → Option Int32 := lp fun s =>
  (gR 9 0 x0).bind fun p11 =>
  (aI p11 (0 : Int32) σ).bind fun v12 =>
  if v12 ≤ s.2 then
  some (.inr (s.1))
  else
  (gR 9 0 x0).bind fun p16 =>
  (aI p16 ((3 : Int32) + s.2) σ).bind fun v17 =>
  if v17 = (2 : Int32) then
  F_X9_countOf_184 (x0) (s.2) (s.1) σ
  else
  (gR 9 0 x0).bind fun p21 =>
  (aI p21 ((3 : Int32) + s.2) σ).bind fun v22 =>
  if v22 = (4 : Int32) then
  F_X9_countOf_184 (x0) (s.2) (s.1) σ
  else
  F_X9_countOf_189 (x0) (s.2) ((0 : Int32)) (s.1) σ
noncomputable def F_X9_countOf_222 (x0 : Nat) (x3 : Int32) (y0 : Int32) (y1 : Int32) (σ : Mem) : Option ((Int32 × Int32) ⊕ Int32) :=
  some (.inl ((y1 + y0), (x3 + (1 : Int32))))
noncomputable def F_X9_countOf_201 (x0 : Nat) (σ : Mem) : Int32 × Int32 → Option Int32 := lp fun s =>
  if (6 : Int32) ≤ s.2 then
  some (.inr (s.1))
  else
  (gR 9 4 x0).bind fun p27 =>
  (aI p27 s.2 σ).bind fun v28 =>
  if 0 ≤ v28 then
  F_X9_countOf_222 (x0) (s.2) ((1 : Int32)) (s.1) σ
  else
  F_X9_countOf_222 (x0) (s.2) ((0 : Int32)) (s.1) σ
noncomputable def F_X9_countOf_254 (x0 : Nat) (x3 : Int32) (y0 : Int32) (y1 : Int32) (σ : Mem) : Option ((Int32 × Int32) ⊕ Int32) :=
  some (.inl ((y1 + y0), (x3 + (1 : Int32))))
noncomputable def F_X9_countOf_234 (x0 : Nat) (σ : Mem) : Int32 × Int32 → Option Int32 := lp fun s =>
  if (4 : Int32) ≤ s.2 then
  some (.inr (s.1))
  else
  (gR 9 6 x0).bind fun p33 =>
  (aI p33 s.2 σ).bind fun v34 =>
  if 0 ≤ v34 then
  F_X9_countOf_254 (x0) (s.2) ((1 : Int32)) (s.1) σ
  else
  F_X9_countOf_254 (x0) (s.2) ((0 : Int32)) (s.1) σ
noncomputable def F_X9_countOf_286 (x0 : Nat) (x3 : Int32) (y0 : Int32) (y1 : Int32) (σ : Mem) : Option ((Int32 × Int32) ⊕ Int32) :=
  some (.inl ((y1 + y0), (x3 + (1 : Int32))))
noncomputable def F_X9_countOf_266 (x0 : Nat) (σ : Mem) : Int32 × Int32 → Option Int32 := lp fun s =>
  if (3 : Int32) ≤ s.2 then
  some (.inr (s.1))
  else
  (gR 9 2 x0).bind fun p39 =>
  (aI p39 s.2 σ).bind fun v40 =>
  if 0 ≤ v40 then
  F_X9_countOf_286 (x0) (s.2) ((1 : Int32)) (s.1) σ
  else
  F_X9_countOf_286 (x0) (s.2) ((0 : Int32)) (s.1) σ
noncomputable def F_X9_countOf (x0 : Nat) (x1 : Int32) (σ : Mem) : Option Int32 :=
  if x1 = (0 : Int32) then
  (gR 9 0 x0).bind fun p45 =>
  (aI p45 (0 : Int32) σ).bind fun v46 =>
  some v46
  else
  if x1 = (1 : Int32) then
  (gR 9 0 x0).bind fun p50 =>
  (aI p50 (1 : Int32) σ).bind fun v51 =>
  some v51
  else
  if x1 = (2 : Int32) then
  (gI 9 1 x0 σ).bind fun v55 =>
  some v55
  else
  if x1 = (3 : Int32) then
  (gR 9 0 x0).bind fun p58 =>
  (aI p58 (2 : Int32) σ).bind fun v59 =>
  some v59
  else
  if x1 = (4 : Int32) then
  F_X9_countOf_84 (x0) σ ((0 : Int32), (0 : Int32))
  else
  if x1 = (5 : Int32) then
  (F_X9_dueNow x0 σ).bind fun q63 =>
  some q63
  else
  if x1 = (6 : Int32) then
  (F_X9_isTown x0 σ).bind fun q66 =>
  if q66 = 0 then
  some (0 : Int32)
  else
  (gR 9 0 x0).bind fun p70 =>
  (gR 9 0 x0).bind fun p72 =>
  (aI p72 (1 : Int32) σ).bind fun v73 =>
  (aI p70 ((39 : Int32) + (v73 - v73 / (4 : Int32) * (4 : Int32))) σ).bind fun v75 =>
  some v75
  else
  if x1 = (7 : Int32) then
  F_X9_countOf_149 (x0) σ ((0 : Int32), (0 : Int32))
  else
  if x1 = (8 : Int32) then
  F_X9_countOf_201 (x0) σ ((0 : Int32), (0 : Int32))
  else
  if x1 = (9 : Int32) then
  F_X9_countOf_234 (x0) σ ((0 : Int32), (0 : Int32))
  else
  F_X9_countOf_266 (x0) σ ((0 : Int32), (0 : Int32))
noncomputable def F_X9_count (x0 : Nat) (x1 : Int32) (σ : Mem) : Option Int32 :=
  (F_X9_in x1.toInt64 (0 : Int64) (10 : Int64) σ).bind fun q1 =>
  if q1 = 0 then
  some (-1 : Int32)
  else
  (F_X9_countOf x0 x1 σ).bind fun q4 =>
  some q4
noncomputable def F_X9_finding (x0 : Nat) (σ : Mem) : Option Int32 :=
  (gI 9 8 x0 σ).bind fun v2 =>
  some v2
noncomputable def F_X9_findings (x0 : Nat) (x1 : Int32) (σ : Mem) : Option Int32 :=
  (F_X9_in x1.toInt64 (1 : Int64) (5 : Int64) σ).bind fun q1 =>
  if q1 = 0 then
  some (-1 : Int32)
  else
  (gR 9 9 x0).bind fun p5 =>
  (aI p5 x1 σ).bind fun v6 =>
  some v6
noncomputable def F_X9_mix (x0 : Nat) (x1 : Int64) (σ : Mem) : Option Mem :=
  (gL 9 16 x0 σ).bind fun v2 =>
  (pL 9 16 x0 (((31 : Int64) * v2) + x1) σ).bind fun m4 =>
  some m4
noncomputable def F_X9_digest_45 (x0 : Nat) (x1 : Int32) : Int32 × Mem → Option ((Int32 × Mem) ⊕ (Int64 × Mem)) := lp fun s =>
  if (8 : Int32) ≤ s.1 then
  some (.inr (.inl ((x1 + (1 : Int32)), s.2)))
  else
  (F_X9_bedTells x0 x1 s.1 s.2).bind fun q12 =>
  (F_X9_mix x0 q12.toInt64 s.2).bind fun q14 =>
  some (.inl ((s.1 + (1 : Int32)), q14))
noncomputable def F_X9_digest_119 (x0 : Nat) (x1 : Int32) : Int32 × Mem → Option ((Int32 × Mem) ⊕ (Int64 × Mem)) := lp fun s =>
  (gR 9 4 x0).bind fun p31 =>
  (aI p31 x1 s.2).bind fun v32 =>
  if v32 ≤ s.1 then
  some (.inr (.inl ((x1 + (1 : Int32)), s.2)))
  else
  (gR 9 3 x0).bind fun p36 =>
  (aI p36 (((40 : Int32) * x1) + s.1) s.2).bind fun v37 =>
  (F_X9_mix x0 v37.toInt64 s.2).bind fun q39 =>
  some (.inl ((s.1 + (1 : Int32)), q39))
noncomputable def F_X9_digest_177 (x0 : Nat) (x1 : Int32) : Int32 × Mem → Option ((Int32 × Mem) ⊕ (Int64 × Mem)) := lp fun s =>
  (gR 9 6 x0).bind fun p51 =>
  (aI p51 x1 s.2).bind fun v52 =>
  if v52 ≤ s.1 then
  some (.inr (.inl ((x1 + (1 : Int32)), s.2)))
  else
  (gR 9 5 x0).bind fun p56 =>
  (aI p56 (((60 : Int32) * x1) + s.1) s.2).bind fun v57 =>
  (F_X9_mix x0 v57.toInt64 s.2).bind fun q59 =>
  some (.inl ((s.1 + (1 : Int32)), q59))
noncomputable def F_X9_digest_159 (x0 : Nat) : Int32 × Mem → Option (Int64 × Mem) := lp fun s =>
  if (4 : Int32) ≤ s.1 then
  (gL 9 16 x0 s.2).bind fun v43 =>
  some (.inr ((v43, s.2)))
  else
  (gR 9 6 x0).bind fun p45 =>
  (aI p45 s.1 s.2).bind fun v46 =>
  (F_X9_mix x0 v46.toInt64 s.2).bind fun q48 =>
  F_X9_digest_177 (x0) (s.1)  ((0 : Int32), q48)
noncomputable def F_X9_digest_100 (x0 : Nat) : Int32 × Mem → Option (Int64 × Mem) := lp fun s =>
  if (6 : Int32) ≤ s.1 then
  (F_X9_digest_159 (x0)  ((0 : Int32), s.2)).map fun z => .inr (z)
  else
  (gR 9 4 x0).bind fun p25 =>
  (aI p25 s.1 s.2).bind fun v26 =>
  (F_X9_mix x0 v26.toInt64 s.2).bind fun q28 =>
  F_X9_digest_119 (x0) (s.1)  ((0 : Int32), q28)
noncomputable def F_X9_digest_76 (x0 : Nat) : Int32 × Mem → Option (Int64 × Mem) := lp fun s =>
  if (3 : Int32) ≤ s.1 then
  (F_X9_digest_100 (x0)  ((0 : Int32), s.2)).map fun z => .inr (z)
  else
  (gR 9 2 x0).bind fun p18 =>
  (aI p18 s.1 s.2).bind fun v19 =>
  (F_X9_mix x0 v19.toInt64 s.2).bind fun q21 =>
  some (.inl ((s.1 + (1 : Int32)), q21))
noncomputable def F_X9_digest_33 (x0 : Nat) : Int32 × Mem → Option (Int64 × Mem) := lp fun s =>
  (gR 9 0 x0).bind fun p7 =>
  (aI p7 (0 : Int32) s.2).bind fun v8 =>
  if v8 ≤ s.1 then
  (F_X9_digest_76 (x0)  ((0 : Int32), s.2)).map fun z => .inr (z)
  else
  F_X9_digest_45 (x0) (s.1)  ((0 : Int32), s.2)
noncomputable def F_X9_digest_9 (x0 : Nat) : Int32 × Mem → Option (Int64 × Mem) := lp fun s =>
  if (11 : Int32) ≤ s.1 then
  (F_X9_digest_33 (x0)  ((0 : Int32), s.2)).map fun z => .inr (z)
  else
  (F_X9_countOf x0 s.1 s.2).bind fun q2 =>
  (F_X9_mix x0 q2.toInt64 s.2).bind fun q4 =>
  some (.inl ((s.1 + (1 : Int32)), q4))
noncomputable def F_X9_digest (x0 : Nat) (σ : Mem) : Option (Int64 × Mem) :=
  (pL 9 16 x0 (17 : Int64) σ).bind fun m62 =>
  F_X9_digest_9 (x0)  ((0 : Int32), m62)

noncomputable def G_X8_asked (k : Nat) (σ : Mem2) : Option Int32 := onP (F_X8_asked 0) k σ
noncomputable def G_X8_at (k : Nat) (x1 x2 : Int32) (σ : Mem2) : Option (Int32 × Mem2) := onI (F_X8_at 0 x1 x2) k σ
noncomputable def G_X8_bed (k : Nat) (x1 x2 : Int32) (σ : Mem2) : Option (Int32 × Mem2) := onI (F_X8_bed 0 x1 x2) k σ
noncomputable def G_X8_brings (k : Nat) (x1 : Int32) (σ : Mem2) : Option (Int32 × Mem2) := onI (F_X8_brings 0 x1) k σ
noncomputable def G_X8_copy (k : Nat) (x1 x2 x3 x4 x5 : Int32) (σ : Mem2) : Option (Int32 × Mem2) := onI (F_X8_copy 0 x1 x2 x3 x4 x5) k σ
noncomputable def G_X8_count (k : Nat) (x1 : Int32) (σ : Mem2) : Option Int32 := onP (F_X8_count 0 x1) k σ
noncomputable def G_X8_cross (k : Nat) (x1 x2 : Int32) (σ : Mem2) : Option Int32 := onP (F_X8_cross 0 x1 x2) k σ
noncomputable def G_X8_digest (k : Nat) (σ : Mem2) : Option Int64 := onP (F_X8_digest 0) k σ
noncomputable def G_X8_duel (k : Nat) (x1 : Int32) (σ : Mem2) : Option (Int32 × Mem2) := onI (F_X8_duel 0 x1) k σ
noncomputable def G_X8_fault (k : Nat) (x1 : Int32) (σ : Mem2) : Option (Int32 × Mem2) := onI (F_X8_fault 0 x1) k σ
noncomputable def G_X8_finding (k : Nat) (σ : Mem2) : Option Int32 := onP (F_X8_finding 0) k σ
noncomputable def G_X8_findings (k : Nat) (x1 : Int32) (σ : Mem2) : Option Int32 := onP (F_X8_findings 0 x1) k σ
noncomputable def G_X8_inspect (k : Nat) (x1 : Int32) (σ : Mem2) : Option (Int32 × Mem2) := onI (F_X8_inspect 0 x1) k σ
noncomputable def G_X8_keep (k : Nat) (x1 : Int32) (σ : Mem2) : Option (Int32 × Mem2) := onI (F_X8_keep 0 x1) k σ
noncomputable def G_X8_kinds (k : Nat) (x1 x2 : Int32) (σ : Mem2) : Option (Int32 × Mem2) := onI (F_X8_kinds 0 x1 x2) k σ
noncomputable def G_X8_lay (k : Nat) (x1 x2 x3 : Int32) (σ : Mem2) : Option (Int32 × Mem2) := onI (F_X8_lay 0 x1 x2 x3) k σ
noncomputable def G_X8_least (k : Nat) (x1 x2 : Int32) (σ : Mem2) : Option (Int32 × Mem2) := onI (F_X8_least 0 x1 x2) k σ
noncomputable def G_X8_lots (k : Nat) (x1 x2 : Int32) (σ : Mem2) : Option (Int32 × Mem2) := onI (F_X8_lots 0 x1 x2) k σ
noncomputable def G_X8_lower (k : Nat) (σ : Mem2) : Option Int64 := onP (F_X8_lower 0) k σ
noncomputable def G_X8_mark (k : Nat) (x1 x2 : Int32) (σ : Mem2) : Option (Int32 × Mem2) := onI (F_X8_mark 0 x1 x2) k σ
noncomputable def G_X8_marry (k : Nat) (x1 : Int32) (σ : Mem2) : Option (Int32 × Mem2) := onI (F_X8_marry 0 x1) k σ
noncomputable def G_X8_mean (k : Nat) (x1 : Int32) (σ : Mem2) : Option (Int32 × Mem2) := onI (F_X8_mean 0 x1) k σ
noncomputable def G_X8_mid (k : Nat) (x1 : Int32) (σ : Mem2) : Option (Int32 × Mem2) := onI (F_X8_mid 0 x1) k σ
noncomputable def G_X8_night (k : Nat) (σ : Mem2) : Option (Int32 × Mem2) := onI (F_X8_night 0) k σ
noncomputable def G_X8_odds (k : Nat) (x1 x2 : Int32) (σ : Mem2) : Option (Int32 × Mem2) := onI (F_X8_odds 0 x1 x2) k σ
noncomputable def G_X8_on (k : Nat) (x1 : Int32) (σ : Mem2) : Option (Int32 × Mem2) := onI (F_X8_on 0 x1) k σ
noncomputable def G_X8_put (k : Nat) (x1 x2 x3 : Int32) (σ : Mem2) : Option (Int32 × Mem2) := onI (F_X8_put 0 x1 x2 x3) k σ
noncomputable def G_X8_round (k : Nat) (x1 x2 : Int32) (σ : Mem2) : Option (Int32 × Mem2) := onI (F_X8_round 0 x1 x2) k σ
noncomputable def G_X8_row (k : Nat) (x1 x2 : Int32) (σ : Mem2) : Option (Int32 × Mem2) := onI (F_X8_row 0 x1 x2) k σ
noncomputable def G_X8_swap (k : Nat) (x1 x2 : Int32) (σ : Mem2) : Option (Int32 × Mem2) := onI (F_X8_swap 0 x1 x2) k σ
noncomputable def G_X8_tear (k : Nat) (x1 : Int32) (σ : Mem2) : Option (Int32 × Mem2) := onI (F_X8_tear 0 x1) k σ
noncomputable def G_X8_test (k : Nat) (x1 x2 : Int32) (σ : Mem2) : Option (Int32 × Mem2) := onI (F_X8_test 0 x1 x2) k σ
noncomputable def G_X8_text (k : Nat) (x1 x2 : Int32) (σ : Mem2) : Option (Int32 × Mem2) := onI (F_X8_text 0 x1 x2) k σ
noncomputable def G_X8_then (k : Nat) (x1 x2 : Int32) (σ : Mem2) : Option (Int32 × Mem2) := onI (F_X8_then 0 x1 x2) k σ
noncomputable def G_X8_thicks (k : Nat) (x1 x2 : Int32) (σ : Mem2) : Option (Int32 × Mem2) := onI (F_X8_thicks 0 x1 x2) k σ
noncomputable def G_X8_thin (k : Nat) (x1 : Int32) (σ : Mem2) : Option (Int32 × Mem2) := onI (F_X8_thin 0 x1) k σ
noncomputable def G_X8_town (k : Nat) (x1 : Int32) (σ : Mem2) : Option (Int32 × Mem2) := onI (F_X8_town 0 x1) k σ
noncomputable def G_X8_undo (k : Nat) (x1 : Int32) (σ : Mem2) : Option (Int32 × Mem2) := onI (F_X8_undo 0 x1) k σ
noncomputable def G_X8_upper (k : Nat) (σ : Mem2) : Option Int64 := onP (F_X8_upper 0) k σ
noncomputable def G_X8_when (k : Nat) (x1 : Int32) (σ : Mem2) : Option (Int32 × Mem2) := onI (F_X8_when 0 x1) k σ
noncomputable def F_L_cell (x0 : Nat) (x1 : Int32) (σ : Mem2) : Option Int32 :=
  (aN2 x0 σ).bind fun v1 =>
  if v1 ≤ x1 then
  some ((747796405 : Int32) * (x1 + (1 : Int32)))
  else
  (aJ2 x0 x1 σ).bind fun v4 =>
  some v4
noncomputable def F_L_low (x0 : Int32) (x1 : Int32) (σ : Mem2) : Option Int32 :=
  (nz x1).bind fun _ =>
  some ((x0 &&& (2147483647 : Int32)) - (x0 &&& (2147483647 : Int32)) / x1 * x1)
noncomputable def F_L_letter (x0 : Int32) (σ : Mem2) : Option Int32 :=
  if x0 = 0 then
  some (98 : Int32)
  else
  if x0 = (1 : Int32) then
  some (115 : Int32)
  else
  if x0 = (2 : Int32) then
  some (113 : Int32)
  else
  if x0 = (3 : Int32) then
  some (99 : Int32)
  else
  if x0 = (4 : Int32) then
  some (116 : Int32)
  else
  some (119 : Int32)
noncomputable def F_L_puts_21 (x1 : Nat) (y0 : Int32) (σ : Mem2) : Option (Int32 × Mem2) :=
  (aJ2 x1 (60 : Int32) σ).bind fun v1 =>
  (sJ2 x1 (60 : Int32) (v1 + (1 : Int32)) σ).bind fun m3 =>
  (bz y0).bind fun _ =>
  some (y0, m3)
noncomputable def F_L_puts (x0 : Nat) (x1 : Nat) (x2 : Int32) (σ : Mem2) : Option (Int32 × Mem2) :=
  (aJ2 x1 (60 : Int32) σ).bind fun v6 =>
  (chk2 8 x0).bind fun _ =>
  (G_X8_put x0 (0 : Int32) v6 x2 σ).bind fun q9 =>
  if q9.1 = (1032 : Int32) then
  F_L_puts_21 (x1) ((1 : Int32)) q9.2
  else
  F_L_puts_21 (x1) ((0 : Int32)) q9.2
noncomputable def F_L_town_163 (x0 : Nat) (x1 : Nat) (x3 : Nat) (x4 : Nat) (x5 : Int32) (x7 : Int32) (y0 : Int32) (y1 : Int32) (y2 : Nat) (σ : Mem2) : Option ((Int32 × Int32 × Mem2) ⊕ (Int32 × Mem2)) :=
  (sJ2 y2 y1 y0 σ).bind fun m32 =>
  (aJ2 x3 ((13 : Int32) + x7) m32).bind fun v34 =>
  (F_L_puts x0 x3 ((48 : Int32) + v34) m32).bind fun q36 =>
  some (.inl (q36.1, (x7 + (1 : Int32)), q36.2))
noncomputable def F_L_town_412 (x0 : Nat) (x1 : Nat) (x3 : Nat) (x4 : Nat) (x7 : Int32)  (σ : Mem2) : Option ((Int32 × Int32 × Mem2) ⊕ (Int32 × Mem2)) :=
  some (.inl ((0 : Int32), (x7 + (1 : Int32)), σ))
noncomputable def F_L_town_335 (x0 : Nat) (x1 : Nat) (x3 : Nat) (x4 : Nat) (x7 : Int32) (y0 : Int32) (y1 : Int32) (y2 : Nat) (σ : Mem2) : Option ((Int32 × Int32 × Mem2) ⊕ (Int32 × Mem2)) :=
  (sJ2 y2 y1 y0 σ).bind fun m68 =>
  (aJ2 x3 ((1 : Int32) + x7) m68).bind fun v70 =>
  (F_L_letter v70 m68).bind fun q72 =>
  (F_L_puts x0 x3 q72 m68).bind fun q74 =>
  if q74.1 = 0 then
  F_L_town_412 (x0) (x1) (x3) (x4) (x7) q74.2
  else
  (aJ2 x3 ((7 : Int32) + x7) q74.2).bind fun v77 =>
  (F_L_puts x0 x3 ((48 : Int32) + v77) q74.2).bind fun q79 =>
  if q79.1 = 0 then
  F_L_town_412 (x0) (x1) (x3) (x4) (x7) q79.2
  else
  (aJ2 x4 ((2 : Int32) + x7) q79.2).bind fun v82 =>
  (F_L_puts x0 x3 ((48 : Int32) + v82) q79.2).bind fun q84 =>
  if q84.1 = 0 then
  F_L_town_412 (x0) (x1) (x3) (x4) (x7) q84.2
  else
  (aJ2 x4 ((8 : Int32) + x7) q84.2).bind fun v87 =>
  (F_L_puts x0 x3 ((48 : Int32) + v87) q84.2).bind fun q89 =>
  if q89.1 = 0 then
  F_L_town_412 (x0) (x1) (x3) (x4) (x7) q89.2
  else
  some (.inl ((1 : Int32), (x7 + (1 : Int32)), q89.2))
noncomputable def F_L_town_421 (x0 : Nat) (x3 : Nat) (x6 : Int32)  (σ : Mem2) : Option (Int32 × Mem2) :=
  if x6 = 0 then
  some ((0 : Int32), σ)
  else
  (chk2 8 x0).bind fun _ =>
  (G_X8_fault x0 (0 : Int32) σ).bind fun q94 =>
  if q94.1 = (-9 : Int32) then
  (chk2 8 x0).bind fun _ =>
  (G_X8_town x0 (0 : Int32) q94.2).bind fun q98 =>
  (aJ2 x3 (0 : Int32) q98.2).bind fun v100 =>
  if q98.1 = v100 then
  some ((1 : Int32), q98.2)
  else
  some ((0 : Int32), q98.2)
  else
  some ((0 : Int32), q94.2)
noncomputable def F_L_town_217 (x0 : Nat) (x1 : Nat) (x3 : Nat) (x4 : Nat) : Int32 × Int32 × Mem2 → Option (Int32 × Mem2) := lp fun s =>
  (aJ2 x3 (0 : Int32) s.2.2).bind fun v44 =>
  if v44 ≤ s.2.1 then
  (F_L_town_421 (x0) (x3) (s.1) s.2.2).map fun z => .inr (z)
  else
  if s.1 = 0 then
  (F_L_town_421 (x0) (x3) (s.1) s.2.2).map fun z => .inr (z)
  else
  (F_L_cell x1 ((1 : Int32) + (s.2.1 / (2 : Int32))) s.2.2).bind fun q48 =>
  let w50 := (q48 >>> (((14 : Int32) * (s.2.1 - s.2.1 / (2 : Int32) * (2 : Int32))) &&& 31))
  (F_L_low w50 (6 : Int32) s.2.2).bind fun q51 =>
  (sJ2 x3 ((1 : Int32) + s.2.1) q51 s.2.2).bind fun m53 =>
  (F_L_low (w50 >>> ((3 : Int32) &&& 31)) (10 : Int32) m53).bind fun q55 =>
  (sJ2 x3 ((7 : Int32) + s.2.1) q55 m53).bind fun m57 =>
  (F_L_low (w50 >>> ((6 : Int32) &&& 31)) (10 : Int32) m57).bind fun q59 =>
  (sJ2 x4 ((2 : Int32) + s.2.1) q59 m57).bind fun m61 =>
  if ((w50 >>> ((13 : Int32) &&& 31)) &&& (1 : Int32)) = 0 then
  (F_L_low (w50 >>> ((9 : Int32) &&& 31)) (10 : Int32) m61).bind fun q66 =>
  F_L_town_335 (x0) (x1) (x3) (x4) (s.2.1) (q66) (((8 : Int32) + s.2.1)) (x4) m61
  else
  (F_L_low (w50 >>> ((9 : Int32) &&& 31)) (4 : Int32) m61).bind fun q64 =>
  F_L_town_335 (x0) (x1) (x3) (x4) (s.2.1) (q64) (((8 : Int32) + s.2.1)) (x4) m61
noncomputable def F_L_town_212 (x0 : Nat) (x1 : Nat) (x3 : Nat) (x4 : Nat) (y0 : Int32) (σ : Mem2) : Option (Int32 × Mem2) :=
  F_L_town_217 (x0) (x1) (x3) (x4)  (y0, (0 : Int32), σ)
noncomputable def F_L_town_211 (x0 : Nat) (x1 : Nat) (x3 : Nat) (x4 : Nat)  (σ : Mem2) : Option (Int32 × Mem2) :=
  F_L_town_212 (x0) (x1) (x3) (x4) ((0 : Int32)) σ
noncomputable def F_L_town_187 (x0 : Nat) (x1 : Nat) (x3 : Nat) (x4 : Nat) (x6 : Int32)  (σ : Mem2) : Option (Int32 × Mem2) :=
  if x6 = 0 then
  F_L_town_211 (x0) (x1) (x3) (x4) σ
  else
  (aJ2 x3 (17 : Int32) σ).bind fun v39 =>
  (F_L_puts x0 x3 ((48 : Int32) + v39) σ).bind fun q41 =>
  if q41.1 = 0 then
  F_L_town_211 (x0) (x1) (x3) (x4) q41.2
  else
  F_L_town_212 (x0) (x1) (x3) (x4) ((1 : Int32)) q41.2
noncomputable def F_L_town_104 (x0 : Nat) (x1 : Nat) (x3 : Nat) (x4 : Nat) (x5 : Int32) : Int32 × Int32 × Mem2 → Option (Int32 × Mem2) := lp fun s =>
  if (4 : Int32) ≤ s.2.1 then
  (F_L_town_187 (x0) (x1) (x3) (x4) (s.1) s.2.2).map fun z => .inr (z)
  else
  if s.1 = 0 then
  (F_L_town_187 (x0) (x1) (x3) (x4) (s.1) s.2.2).map fun z => .inr (z)
  else
  if ((x5 >>> ((7 : Int32) &&& 31)) &&& (1 : Int32)) = 0 then
  (F_L_low (x5 >>> (((8 : Int32) + ((4 : Int32) * s.2.1)) &&& 31)) (10 : Int32) s.2.2).bind fun q30 =>
  F_L_town_163 (x0) (x1) (x3) (x4) (x5) (s.2.1) (q30) (((13 : Int32) + s.2.1)) (x3) s.2.2
  else
  (F_L_low (x5 >>> (((8 : Int32) + ((4 : Int32) * s.2.1)) &&& 31)) (4 : Int32) s.2.2).bind fun q28 =>
  F_L_town_163 (x0) (x1) (x3) (x4) (x5) (s.2.1) (q28) (((13 : Int32) + s.2.1)) (x3) s.2.2
noncomputable def F_L_town_99 (x0 : Nat) (x1 : Nat) (x3 : Nat) (x4 : Nat) (x5 : Int32) (y0 : Int32) (σ : Mem2) : Option (Int32 × Mem2) :=
  F_L_town_104 (x0) (x1) (x3) (x4) (x5)  (y0, (0 : Int32), σ)
noncomputable def F_L_town_98 (x0 : Nat) (x1 : Nat) (x3 : Nat) (x4 : Nat) (x5 : Int32)  (σ : Mem2) : Option (Int32 × Mem2) :=
  F_L_town_99 (x0) (x1) (x3) (x4) (x5) ((0 : Int32)) σ
noncomputable def F_L_town_10 (x0 : Nat) (x1 : Nat) (x2 : Int32) (x3 : Nat) (x4 : Nat) (x5 : Int32) : Int32 × Mem2 → Option (Int32 × Mem2) := lp fun s =>
  if (64 : Int32) ≤ s.1 then
  (F_L_low x5 x2 s.2).bind fun q2 =>
  (sJ2 x3 (0 : Int32) ((1 : Int32) + q2) s.2).bind fun m4 =>
  (F_L_low (x5 >>> ((3 : Int32) &&& 31)) (9 : Int32) m4).bind fun q6 =>
  (sJ2 x3 (17 : Int32) ((1 : Int32) + q6) m4).bind fun m8 =>
  (aJ2 x3 (0 : Int32) m8).bind fun v10 =>
  (chk2 8 x0).bind fun _ =>
  (G_X8_text x0 (0 : Int32) ((6 : Int32) + ((4 : Int32) * v10)) m8).bind fun q13 =>
  (aJ2 x3 (0 : Int32) q13.2).bind fun v15 =>
  if q13.1 = ((6 : Int32) + ((4 : Int32) * v15)) then
  (F_L_puts x0 x3 (110 : Int32) q13.2).bind fun q18 =>
  if q18.1 = 0 then
  (F_L_town_98 (x0) (x1) (x3) (x4) (x5) q18.2).map fun z => .inr (z)
  else
  (F_L_town_99 (x0) (x1) (x3) (x4) (x5) ((1 : Int32)) q18.2).map fun z => .inr (z)
  else
  (F_L_town_98 (x0) (x1) (x3) (x4) (x5) q13.2).map fun z => .inr (z)
  else
  (sJ2 x3 s.1 (0 : Int32) s.2).bind fun m21 =>
  (sJ2 x4 s.1 (0 : Int32) m21).bind fun m23 =>
  some (.inl ((s.1 + (1 : Int32)), m23))
noncomputable def F_L_town (x0 : Nat) (x1 : Nat) (x2 : Int32) (x3 : Nat) (x4 : Nat) (σ : Mem2) : Option (Int32 × Mem2) :=
  (F_L_cell x1 (0 : Int32) σ).bind fun q103 =>
  F_L_town_10 (x0) (x1) (x2) (x3) (x4) (q103)  ((0 : Int32), σ)
noncomputable def F_L_act_100 (x0 : Nat)  (σ : Mem2) : Option (Int32 × Mem2) :=
  (chk2 8 x0).bind fun _ =>
  (G_X8_night x0 σ).bind fun q2 =>
  some (q2.1, q2.2)
noncomputable def F_L_act (x0 : Nat) (x1 : Int32) (σ : Mem2) : Option (Int32 × Mem2) :=
  (F_L_low (x1 >>> ((4 : Int32) &&& 31)) (9 : Int32) σ).bind fun q4 =>
  (F_L_low (x1 >>> ((8 : Int32) &&& 31)) (43 : Int32) σ).bind fun q6 =>
  if (x1 &&& (15 : Int32)) = (0 : Int32) then
  F_L_act_100 (x0) σ
  else
  if (x1 &&& (15 : Int32)) = (1 : Int32) then
  F_L_act_100 (x0) σ
  else
  if (x1 &&& (15 : Int32)) = (2 : Int32) then
  (chk2 8 x0).bind fun _ =>
  (G_X8_inspect x0 (q4 - (1 : Int32)) σ).bind fun q12 =>
  some (q12.1, q12.2)
  else
  if (x1 &&& (15 : Int32)) = (3 : Int32) then
  (chk2 8 x0).bind fun _ =>
  (G_X8_thin x0 (q4 - (1 : Int32)) σ).bind fun q16 =>
  some (q16.1, q16.2)
  else
  if (x1 &&& (15 : Int32)) = (4 : Int32) then
  (chk2 8 x0).bind fun _ =>
  (G_X8_swap x0 (q4 - (1 : Int32)) ((q6 - (1 : Int32)) - (q6 - (1 : Int32)) / (7 : Int32) * (7 : Int32)) σ).bind fun q20 =>
  some (q20.1, q20.2)
  else
  if (x1 &&& (15 : Int32)) = (5 : Int32) then
  if ((x1 >>> ((16 : Int32) &&& 31)) &&& (1 : Int32)) = 0 then
  (chk2 8 x0).bind fun _ =>
  (G_X8_undo x0 (q6 - (1 : Int32)) σ).bind fun q28 =>
  some (q28.1, q28.2)
  else
  (chk2 8 x0).bind fun _ =>
  (G_X8_lots x0 ((q6 - (1 : Int32)) - (q6 - (1 : Int32)) / (4 : Int32) * (4 : Int32)) (q6 - (1 : Int32)) σ).bind fun q25 =>
  some (q25.1, q25.2)
  else
  if (x1 &&& (15 : Int32)) = (6 : Int32) then
  if ((x1 >>> ((16 : Int32) &&& 31)) &&& (1 : Int32)) = 0 then
  (chk2 8 x0).bind fun _ =>
  (G_X8_keep x0 (q4 - (1 : Int32)) σ).bind fun q36 =>
  some (q36.1, q36.2)
  else
  (chk2 8 x0).bind fun _ =>
  (G_X8_on x0 (q4 - (1 : Int32)) σ).bind fun q33 =>
  some (q33.1, q33.2)
  else
  if (x1 &&& (15 : Int32)) = (7 : Int32) then
  (chk2 8 x0).bind fun _ =>
  (G_X8_row x0 (q4 - (1 : Int32)) (q6 - (1 : Int32)) σ).bind fun q40 =>
  some (q40.1, q40.2)
  else
  if (x1 &&& (15 : Int32)) = (8 : Int32) then
  (chk2 8 x0).bind fun _ =>
  (G_X8_lay x0 (q4 - (1 : Int32)) ((q6 - (1 : Int32)) - (q6 - (1 : Int32)) / (9 : Int32) * (9 : Int32)) ((q6 - (1 : Int32)) - (q6 - (1 : Int32)) / (12 : Int32) * (12 : Int32)) σ).bind fun q44 =>
  some (q44.1, q44.2)
  else
  if (x1 &&& (15 : Int32)) = (9 : Int32) then
  (F_L_low (x1 >>> ((12 : Int32) &&& 31)) (7 : Int32) σ).bind fun q47 =>
  (chk2 8 x0).bind fun _ =>
  (G_X8_copy x0 (q4 - (1 : Int32)) ((q6 - (1 : Int32)) - (q6 - (1 : Int32)) / (5 : Int32) * (5 : Int32)) q47 ((q6 - (1 : Int32)) - (q6 - (1 : Int32)) / (3 : Int32) * (3 : Int32)) ((q6 - (1 : Int32)) - (q6 - (1 : Int32)) / (4 : Int32) * (4 : Int32)) σ).bind fun q50 =>
  some (q50.1, q50.2)
  else
  if (x1 &&& (15 : Int32)) = (10 : Int32) then
  if ((x1 >>> ((16 : Int32) &&& 31)) &&& (1 : Int32)) = 0 then
  (chk2 8 x0).bind fun _ =>
  (G_X8_tear x0 (q4 - (1 : Int32)) σ).bind fun q58 =>
  some (q58.1, q58.2)
  else
  (chk2 8 x0).bind fun _ =>
  (G_X8_mean x0 (q4 - (1 : Int32)) σ).bind fun q55 =>
  some (q55.1, q55.2)
  else
  if (x1 &&& (15 : Int32)) = (11 : Int32) then
  if ((x1 >>> ((16 : Int32) &&& 31)) &&& (3 : Int32)) = 0 then
  (chk2 8 x0).bind fun _ =>
  (G_X8_text x0 (q4 - (1 : Int32)) (q6 - (1 : Int32)) σ).bind fun q66 =>
  some (q66.1, q66.2)
  else
  (chk2 8 x0).bind fun _ =>
  (G_X8_put x0 (q4 - (1 : Int32)) (q6 - (1 : Int32)) ((3 : Int32) * (q6 - (1 : Int32))) σ).bind fun q63 =>
  some (q63.1, q63.2)
  else
  if (x1 &&& (15 : Int32)) = (12 : Int32) then
  if ((x1 >>> ((16 : Int32) &&& 31)) &&& (1 : Int32)) = 0 then
  (chk2 8 x0).bind fun _ =>
  (G_X8_round x0 ((q6 - (1 : Int32)) - (q6 - (1 : Int32)) / (3 : Int32) * (3 : Int32)) (q4 - (1 : Int32)) σ).bind fun q74 =>
  some (q74.1, q74.2)
  else
  (chk2 8 x0).bind fun _ =>
  (G_X8_marry x0 (q4 - (1 : Int32)) σ).bind fun q71 =>
  some (q71.1, q71.2)
  else
  if (x1 &&& (15 : Int32)) = (13 : Int32) then
  if ((x1 >>> ((16 : Int32) &&& 31)) &&& (1 : Int32)) = 0 then
  (chk2 8 x0).bind fun _ =>
  (G_X8_mark x0 (q4 - (1 : Int32)) ((q6 - (1 : Int32)) - (q6 - (1 : Int32)) / (7 : Int32) * (7 : Int32)) σ).bind fun q82 =>
  some (q82.1, q82.2)
  else
  (chk2 8 x0).bind fun _ =>
  (G_X8_brings x0 (q4 - (1 : Int32)) σ).bind fun q79 =>
  some (q79.1, q79.2)
  else
  if (x1 &&& (15 : Int32)) = (14 : Int32) then
  if ((x1 >>> ((16 : Int32) &&& 31)) &&& (1 : Int32)) = 0 then
  (chk2 8 x0).bind fun _ =>
  (G_X8_odds x0 (q4 - (1 : Int32)) ((q6 - (1 : Int32)) - (q6 - (1 : Int32)) / (14 : Int32) * (14 : Int32)) σ).bind fun q90 =>
  some (q90.1, q90.2)
  else
  (chk2 8 x0).bind fun _ =>
  (G_X8_test x0 (q4 - (1 : Int32)) ((q6 - (1 : Int32)) - (q6 - (1 : Int32)) / (7 : Int32) * (7 : Int32)) σ).bind fun q87 =>
  some (q87.1, q87.2)
  else
  if ((x1 >>> ((16 : Int32) &&& 31)) &&& (3 : Int32)) = 0 then
  (chk2 8 x0).bind fun _ =>
  (G_X8_town x0 (q4 - (1 : Int32)) σ).bind fun q97 =>
  some (q97.1, q97.2)
  else
  (chk2 8 x0).bind fun _ =>
  (G_X8_then x0 (q4 - (1 : Int32)) (q6 - (1 : Int32)) σ).bind fun q94 =>
  some (q94.1, q94.2)
noncomputable def F_L_isLeft_376 (x0 : Nat) (y0 : Int32) (σ : Mem2) : Option (Int32 × Mem2) :=
  (chk2 8 x0).bind fun _ =>
  (G_X8_cross x0 (0 : Int32) (3 : Int32) σ).bind fun q142 =>
  (chk2 8 x0).bind fun _ =>
  (G_X8_when x0 (0 : Int32) σ).bind fun q145 =>
  (chk2 8 x0).bind fun _ =>
  (G_X8_least x0 (0 : Int32) (3 : Int32) q145.2).bind fun q148 =>
  (chk2 8 x0).bind fun _ =>
  (G_X8_duel x0 (2 : Int32) q148.2).bind fun q151 =>
  if y0 = 0 then
  some ((0 : Int32), q151.2)
  else
  if (((q142 + q145.1) + q148.1) + q151.1) ≤ (-9999 : Int32) then
  some ((0 : Int32), q151.2)
  else
  some ((1 : Int32), q151.2)
noncomputable def F_L_isLeft_375 (x0 : Nat)  (σ : Mem2) : Option (Int32 × Mem2) :=
  F_L_isLeft_376 (x0) ((0 : Int32)) σ
noncomputable def F_L_isLeft_31 (x0 : Nat) (y0 : Int32) (σ : Mem2) : Option (Int32 × Mem2) :=
  (chk2 8 x0).bind fun _ =>
  (G_X8_row x0 y0 (0 : Int32) σ).bind fun q2 =>
  if q2.1 = (-1 : Int32) then
  (chk2 8 x0).bind fun _ =>
  (G_X8_lay x0 y0 (0 : Int32) (0 : Int32) q2.2).bind fun q6 =>
  if q6.1 = (-1 : Int32) then
  (chk2 8 x0).bind fun _ =>
  (G_X8_at x0 y0 (0 : Int32) q6.2).bind fun q10 =>
  if q10.1 = (-1 : Int32) then
  (chk2 8 x0).bind fun _ =>
  (G_X8_tear x0 y0 q10.2).bind fun q14 =>
  if q14.1 = (-1 : Int32) then
  (chk2 8 x0).bind fun _ =>
  (G_X8_copy x0 y0 (0 : Int32) (0 : Int32) (0 : Int32) (0 : Int32) q14.2).bind fun q18 =>
  if q18.1 = (-1 : Int32) then
  (chk2 8 x0).bind fun _ =>
  (G_X8_mean x0 y0 q18.2).bind fun q22 =>
  if q22.1 = (-1 : Int32) then
  (chk2 8 x0).bind fun _ =>
  (G_X8_text x0 y0 (0 : Int32) q22.2).bind fun q26 =>
  if q26.1 = (-1 : Int32) then
  (chk2 8 x0).bind fun _ =>
  (G_X8_put x0 y0 (0 : Int32) (0 : Int32) q26.2).bind fun q30 =>
  if q30.1 = (-1 : Int32) then
  (chk2 8 x0).bind fun _ =>
  (G_X8_fault x0 y0 q30.2).bind fun q34 =>
  if q34.1 = (-1 : Int32) then
  (chk2 8 x0).bind fun _ =>
  (G_X8_town x0 y0 q34.2).bind fun q38 =>
  if q38.1 = (-1 : Int32) then
  (chk2 8 x0).bind fun _ =>
  (G_X8_bed x0 y0 (0 : Int32) q38.2).bind fun q42 =>
  if q42.1 = (-1 : Int32) then
  (chk2 8 x0).bind fun _ =>
  (G_X8_mark x0 y0 (1 : Int32) q42.2).bind fun q46 =>
  if q46.1 = (-1 : Int32) then
  (chk2 8 x0).bind fun _ =>
  (G_X8_cross x0 y0 (0 : Int32) q46.2).bind fun q50 =>
  if q50 = (-1 : Int32) then
  (chk2 8 x0).bind fun _ =>
  (G_X8_inspect x0 y0 q46.2).bind fun q54 =>
  if q54.1 = (-1 : Int32) then
  (chk2 8 x0).bind fun _ =>
  (G_X8_thin x0 y0 q54.2).bind fun q58 =>
  if q58.1 = (-1 : Int32) then
  (chk2 8 x0).bind fun _ =>
  (G_X8_swap x0 y0 (0 : Int32) q58.2).bind fun q62 =>
  if q62.1 = (-1 : Int32) then
  (chk2 8 x0).bind fun _ =>
  (G_X8_undo x0 y0 q62.2).bind fun q66 =>
  if q66.1 = (-1 : Int32) then
  (chk2 8 x0).bind fun _ =>
  (G_X8_keep x0 y0 q66.2).bind fun q70 =>
  if q70.1 = (-1 : Int32) then
  (chk2 8 x0).bind fun _ =>
  (G_X8_on x0 y0 q70.2).bind fun q74 =>
  if q74.1 = (-1 : Int32) then
  (chk2 8 x0).bind fun _ =>
  (G_X8_then x0 y0 (0 : Int32) q74.2).bind fun q78 =>
  if q78.1 = (-1 : Int32) then
  (chk2 8 x0).bind fun _ =>
  (G_X8_when x0 y0 q78.2).bind fun q82 =>
  if q82.1 = (-1 : Int32) then
  (chk2 8 x0).bind fun _ =>
  (G_X8_least x0 y0 (0 : Int32) q82.2).bind fun q86 =>
  if q86.1 = (-1 : Int32) then
  (chk2 8 x0).bind fun _ =>
  (G_X8_round x0 y0 (0 : Int32) q86.2).bind fun q90 =>
  if q90.1 = (-1 : Int32) then
  (chk2 8 x0).bind fun _ =>
  (G_X8_round x0 (0 : Int32) y0 q90.2).bind fun q94 =>
  if q94.1 = (-1 : Int32) then
  (chk2 8 x0).bind fun _ =>
  (G_X8_brings x0 y0 q94.2).bind fun q98 =>
  if q98.1 = (-1 : Int32) then
  (chk2 8 x0).bind fun _ =>
  (G_X8_marry x0 y0 q98.2).bind fun q102 =>
  if q102.1 = (-1 : Int32) then
  (chk2 8 x0).bind fun _ =>
  (G_X8_thicks x0 y0 (0 : Int32) q102.2).bind fun q106 =>
  if q106.1 = (-1 : Int32) then
  (chk2 8 x0).bind fun _ =>
  (G_X8_kinds x0 (0 : Int32) y0 q106.2).bind fun q110 =>
  if q110.1 = (-1 : Int32) then
  (chk2 8 x0).bind fun _ =>
  (G_X8_test x0 y0 (0 : Int32) q110.2).bind fun q114 =>
  if q114.1 = (-1 : Int32) then
  (chk2 8 x0).bind fun _ =>
  (G_X8_duel x0 y0 q114.2).bind fun q118 =>
  if q118.1 = (-1 : Int32) then
  (chk2 8 x0).bind fun _ =>
  (G_X8_odds x0 y0 (0 : Int32) q118.2).bind fun q122 =>
  if q122.1 = (-1 : Int32) then
  (chk2 8 x0).bind fun _ =>
  (G_X8_mid x0 y0 q122.2).bind fun q126 =>
  if q126.1 = (-1 : Int32) then
  (chk2 8 x0).bind fun _ =>
  (G_X8_lots x0 y0 (1 : Int32) q126.2).bind fun q130 =>
  if q130.1 = (-1 : Int32) then
  (chk2 8 x0).bind fun _ =>
  (G_X8_count x0 y0 q130.2).bind fun q134 =>
  if q134 = (-1 : Int32) then
  (chk2 8 x0).bind fun _ =>
  (G_X8_findings x0 y0 q130.2).bind fun q138 =>
  if q138 = (-1 : Int32) then
  F_L_isLeft_376 (x0) ((1 : Int32)) q130.2
  else
  F_L_isLeft_375 (x0) q130.2
  else
  F_L_isLeft_375 (x0) q130.2
  else
  F_L_isLeft_375 (x0) q130.2
  else
  F_L_isLeft_375 (x0) q126.2
  else
  F_L_isLeft_375 (x0) q122.2
  else
  F_L_isLeft_375 (x0) q118.2
  else
  F_L_isLeft_375 (x0) q114.2
  else
  F_L_isLeft_375 (x0) q110.2
  else
  F_L_isLeft_375 (x0) q106.2
  else
  F_L_isLeft_375 (x0) q102.2
  else
  F_L_isLeft_375 (x0) q98.2
  else
  F_L_isLeft_375 (x0) q94.2
  else
  F_L_isLeft_375 (x0) q90.2
  else
  F_L_isLeft_375 (x0) q86.2
  else
  F_L_isLeft_375 (x0) q82.2
  else
  F_L_isLeft_375 (x0) q78.2
  else
  F_L_isLeft_375 (x0) q74.2
  else
  F_L_isLeft_375 (x0) q70.2
  else
  F_L_isLeft_375 (x0) q66.2
  else
  F_L_isLeft_375 (x0) q62.2
  else
  F_L_isLeft_375 (x0) q58.2
  else
  F_L_isLeft_375 (x0) q54.2
  else
  F_L_isLeft_375 (x0) q46.2
  else
  F_L_isLeft_375 (x0) q46.2
  else
  F_L_isLeft_375 (x0) q42.2
  else
  F_L_isLeft_375 (x0) q38.2
  else
  F_L_isLeft_375 (x0) q34.2
  else
  F_L_isLeft_375 (x0) q30.2
  else
  F_L_isLeft_375 (x0) q26.2
  else
  F_L_isLeft_375 (x0) q22.2
  else
  F_L_isLeft_375 (x0) q18.2
  else
  F_L_isLeft_375 (x0) q14.2
  else
  F_L_isLeft_375 (x0) q10.2
  else
  F_L_isLeft_375 (x0) q6.2
  else
  F_L_isLeft_375 (x0) q2.2
noncomputable def F_L_isLeft (x0 : Nat) (x1 : Int32) (σ : Mem2) : Option (Int32 × Mem2) :=
  if (x1 &&& (1 : Int32)) = 0 then
  F_L_isLeft_31 (x0) (((1000 : Int32) + ((x1 >>> ((1 : Int32) &&& 31)) &&& (1023 : Int32)))) σ
  else
  F_L_isLeft_31 (x0) (((-1000 : Int32) - ((x1 >>> ((1 : Int32) &&& 31)) &&& (1023 : Int32)))) σ
noncomputable def F_L_areAlike_153 (x0 : Nat) (x1 : Nat) (x3 : Int32)  (σ : Mem2) : Option ((Int32 × Int32 × Mem2) ⊕ (Int32 × Mem2)) :=
  some (.inl ((0 : Int32), (x3 + (1 : Int32)), σ))
noncomputable def F_L_areAlike_79 (x0 : Nat) (x1 : Nat) : Int32 × Int32 × Mem2 → Option (Int32 × Mem2) := lp fun s =>
  if (6 : Int32) ≤ s.2.1 then
  (bz s.1).bind fun _ =>
  some (.inr ((s.1, s.2.2)))
  else
  if s.1 = 0 then
  F_L_areAlike_153 (x0) (x1) (s.2.1) s.2.2
  else
  (chk2 8 x0).bind fun _ =>
  (G_X8_findings x0 s.2.1 s.2.2).bind fun q5 =>
  (chk2 8 x1).bind fun _ =>
  (G_X8_findings x1 s.2.1 s.2.2).bind fun q8 =>
  if q5 = q8 then
  (chk2 8 x0).bind fun _ =>
  (G_X8_when x0 s.2.1 s.2.2).bind fun q12 =>
  (chk2 8 x1).bind fun _ =>
  (G_X8_when x1 s.2.1 q12.2).bind fun q15 =>
  if q12.1 = q15.1 then
  (chk2 8 x0).bind fun _ =>
  (G_X8_least x0 s.2.1 (9 : Int32) q15.2).bind fun q19 =>
  (chk2 8 x1).bind fun _ =>
  (G_X8_least x1 s.2.1 (9 : Int32) q19.2).bind fun q22 =>
  if q19.1 = q22.1 then
  (chk2 8 x0).bind fun _ =>
  (G_X8_cross x0 s.2.1 (7 : Int32) q22.2).bind fun q26 =>
  (chk2 8 x1).bind fun _ =>
  (G_X8_cross x1 s.2.1 (7 : Int32) q22.2).bind fun q29 =>
  if q26 = q29 then
  some (.inl ((1 : Int32), (s.2.1 + (1 : Int32)), q22.2))
  else
  F_L_areAlike_153 (x0) (x1) (s.2.1) q22.2
  else
  F_L_areAlike_153 (x0) (x1) (s.2.1) q22.2
  else
  F_L_areAlike_153 (x0) (x1) (s.2.1) q15.2
  else
  F_L_areAlike_153 (x0) (x1) (s.2.1) s.2.2
noncomputable def F_L_areAlike_76 (x0 : Nat) (x1 : Nat) (y0 : Int32) (σ : Mem2) : Option (Int32 × Mem2) :=
  F_L_areAlike_79 (x0) (x1)  (y0, (0 : Int32), σ)
noncomputable def F_L_areAlike_75 (x0 : Nat) (x1 : Nat)  (σ : Mem2) : Option (Int32 × Mem2) :=
  F_L_areAlike_76 (x0) (x1) ((0 : Int32)) σ
noncomputable def F_L_areAlike (x0 : Nat) (x1 : Nat) (σ : Mem2) : Option (Int32 × Mem2) :=
  (chk2 8 x0).bind fun _ =>
  (G_X8_digest x0 σ).bind fun q33 =>
  (chk2 8 x1).bind fun _ =>
  (G_X8_digest x1 σ).bind fun q36 =>
  if (lg_cmp q33 q36) = 0 then
  (chk2 8 x0).bind fun _ =>
  (G_X8_upper x0 σ).bind fun q40 =>
  (chk2 8 x1).bind fun _ =>
  (G_X8_upper x1 σ).bind fun q43 =>
  if (lg_cmp q40 q43) = 0 then
  (chk2 8 x0).bind fun _ =>
  (G_X8_lower x0 σ).bind fun q47 =>
  (chk2 8 x1).bind fun _ =>
  (G_X8_lower x1 σ).bind fun q50 =>
  if (lg_cmp q47 q50) = 0 then
  (chk2 8 x0).bind fun _ =>
  (G_X8_asked x0 σ).bind fun q54 =>
  (chk2 8 x1).bind fun _ =>
  (G_X8_asked x1 σ).bind fun q57 =>
  if q54 = q57 then
  (chk2 8 x0).bind fun _ =>
  (G_X8_finding x0 σ).bind fun q61 =>
  (chk2 8 x1).bind fun _ =>
  (G_X8_finding x1 σ).bind fun q64 =>
  if q61 = q64 then
  (chk2 8 x0).bind fun _ =>
  (G_X8_duel x0 (2 : Int32) σ).bind fun q68 =>
  (chk2 8 x1).bind fun _ =>
  (G_X8_duel x1 (2 : Int32) q68.2).bind fun q71 =>
  if q68.1 = q71.1 then
  F_L_areAlike_76 (x0) (x1) ((1 : Int32)) q71.2
  else
  F_L_areAlike_75 (x0) (x1) q71.2
  else
  F_L_areAlike_75 (x0) (x1) σ
  else
  F_L_areAlike_75 (x0) (x1) σ
  else
  F_L_areAlike_75 (x0) (x1) σ
  else
  F_L_areAlike_75 (x0) (x1) σ
  else
  F_L_areAlike_75 (x0) (x1) σ
noncomputable def F_L_law_235 (x0 : Nat) (x1 : Nat) (x2 : Nat) (x6 : Int32)  (σ : Mem2) : Option ((Int32 × Int32 × Mem2) ⊕ (Int32 × Mem2)) :=
  some (.inl ((0 : Int32), (x6 + (1 : Int32)), σ))
noncomputable def F_L_law_209 (x0 : Nat) (x1 : Nat) (x2 : Nat) (x6 : Int32) (x8 : Int32) (y0 : Int32) (y1 : Int32) (σ : Mem2) : Option ((Int32 × Int32 × Mem2) ⊕ (Int32 × Mem2)) :=
  (chk2 8 x2).bind fun _ =>
  (G_X8_undo x2 x8 σ).bind fun q30 =>
  if q30.1 = (y1 + y0) then
  (F_L_areAlike x1 x2 q30.2).bind fun q33 =>
  if q33.1 = 0 then
  F_L_law_235 (x0) (x1) (x2) (x6) q33.2
  else
  some (.inl ((1 : Int32), (x6 + (1 : Int32)), q33.2))
  else
  F_L_law_235 (x0) (x1) (x2) (x6) q30.2
noncomputable def F_L_law_197 (x0 : Nat) (x1 : Nat) (x2 : Nat) (x6 : Int32) (x8 : Int32) (y0 : Int32) (σ : Mem2) : Option ((Int32 × Int32 × Mem2) ⊕ (Int32 × Mem2)) :=
  (chk2 8 x2).bind fun _ =>
  (G_X8_night x2 σ).bind fun q26 =>
  if q26.1 < 0 then
  F_L_law_209 (x0) (x1) (x2) (x6) (x8) ((0 : Int32)) (y0) q26.2
  else
  F_L_law_209 (x0) (x1) (x2) (x6) (x8) ((1 : Int32)) (y0) q26.2
noncomputable def F_L_law_164 (x0 : Nat) (x1 : Nat) (x2 : Nat) (x6 : Int32) (y0 : Int32) (σ : Mem2) : Option ((Int32 × Int32 × Mem2) ⊕ (Int32 × Mem2)) :=
  (chk2 8 x2).bind fun _ =>
  (G_X8_count x2 (2 : Int32) σ).bind fun q17 =>
  if y0 = 0 then
  some (.inl (y0, (x6 + (1 : Int32)), σ))
  else
  if (39 : Int32) ≤ q17 then
  some (.inl (y0, (x6 + (1 : Int32)), σ))
  else
  (chk2 8 x2).bind fun _ =>
  (G_X8_night x2 σ).bind fun q22 =>
  if q22.1 < 0 then
  F_L_law_197 (x0) (x1) (x2) (x6) (q17) ((0 : Int32)) q22.2
  else
  F_L_law_197 (x0) (x1) (x2) (x6) (q17) ((1 : Int32)) q22.2
noncomputable def F_L_law_163 (x0 : Nat) (x1 : Nat) (x2 : Nat) (x6 : Int32)  (σ : Mem2) : Option ((Int32 × Int32 × Mem2) ⊕ (Int32 × Mem2)) :=
  F_L_law_164 (x0) (x1) (x2) (x6) ((0 : Int32)) σ
noncomputable def F_L_law_334 (x1 : Nat) (x2 : Nat) (y0 : Int32) (σ : Mem2) : Option (Int32 × Mem2) :=
  if y0 = 0 then
  some ((0 : Int32), σ)
  else
  (chk2 8 x1).bind fun _ =>
  (G_X8_digest x1 σ).bind fun q76 =>
  (chk2 8 x2).bind fun _ =>
  (G_X8_digest x2 σ).bind fun q79 =>
  if (lg_cmp q76 q79) = 0 then
  (chk2 8 x1).bind fun _ =>
  (G_X8_duel x1 (2 : Int32) σ).bind fun q83 =>
  (chk2 8 x2).bind fun _ =>
  (G_X8_duel x2 (2 : Int32) q83.2).bind fun q86 =>
  if q83.1 = q86.1 then
  some ((1 : Int32), q86.2)
  else
  some ((0 : Int32), q86.2)
  else
  some ((0 : Int32), σ)
noncomputable def F_L_law_333 (x1 : Nat) (x2 : Nat)  (σ : Mem2) : Option (Int32 × Mem2) :=
  F_L_law_334 (x1) (x2) ((0 : Int32)) σ
noncomputable def F_L_law_244 (x1 : Nat) (x2 : Nat) (x5 : Int32)  (σ : Mem2) : Option (Int32 × Mem2) :=
  (chk2 8 x2).bind fun _ =>
  (G_X8_count x2 (2 : Int32) σ).bind fun q37 =>
  if x5 = 0 then
  F_L_law_333 (x1) (x2) σ
  else
  (chk2 8 x2).bind fun _ =>
  (G_X8_keep x2 (2 : Int32) σ).bind fun q41 =>
  (chk2 8 x1).bind fun _ =>
  (G_X8_keep x1 (2 : Int32) q41.2).bind fun q44 =>
  if q41.1 = q44.1 then
  (chk2 8 x2).bind fun _ =>
  (G_X8_night x2 q44.2).bind fun q48 =>
  if q48.1 < (-4 : Int32) then
  F_L_law_333 (x1) (x2) q48.2
  else
  (chk2 8 x2).bind fun _ =>
  (G_X8_inspect x2 (0 : Int32) q48.2).bind fun q52 =>
  if q52.1 < (-4 : Int32) then
  F_L_law_333 (x1) (x2) q52.2
  else
  (chk2 8 x2).bind fun _ =>
  (G_X8_thin x2 (0 : Int32) q52.2).bind fun q56 =>
  if q56.1 < (-4 : Int32) then
  F_L_law_333 (x1) (x2) q56.2
  else
  (chk2 8 x2).bind fun _ =>
  (G_X8_undo x2 (0 : Int32) q56.2).bind fun q60 =>
  if q60.1 < 0 then
  F_L_law_333 (x1) (x2) q60.2
  else
  (chk2 8 x2).bind fun _ =>
  (G_X8_on x2 (2 : Int32) q60.2).bind fun q64 =>
  (chk2 8 x1).bind fun _ =>
  (G_X8_on x1 (2 : Int32) q64.2).bind fun q67 =>
  if q64.1 = q67.1 then
  (chk2 8 x2).bind fun _ =>
  (G_X8_count x2 (2 : Int32) q67.2).bind fun q71 =>
  if q71 = q37 then
  F_L_law_334 (x1) (x2) ((1 : Int32)) q67.2
  else
  F_L_law_333 (x1) (x2) q67.2
  else
  F_L_law_333 (x1) (x2) q67.2
  else
  F_L_law_333 (x1) (x2) q44.2
noncomputable def F_L_law_103 (x0 : Nat) (x1 : Nat) (x2 : Nat) : Int32 × Int32 × Mem2 → Option (Int32 × Mem2) := lp fun s =>
  if (20 : Int32) ≤ s.2.1 then
  (F_L_law_244 (x1) (x2) (s.1) s.2.2).map fun z => .inr (z)
  else
  if s.1 = 0 then
  (F_L_law_244 (x1) (x2) (s.1) s.2.2).map fun z => .inr (z)
  else
  (F_L_cell x0 ((4 : Int32) + s.2.1) s.2.2).bind fun q3 =>
  (F_L_act x1 q3 s.2.2).bind fun q5 =>
  (F_L_act x2 q3 q5.2).bind fun q7 =>
  if q5.1 = q7.1 then
  (F_L_isLeft x2 (q3 >>> ((3 : Int32) &&& 31)) q7.2).bind fun q10 =>
  if q10.1 = 0 then
  F_L_law_163 (x0) (x1) (x2) (s.2.1) q10.2
  else
  (F_L_areAlike x1 x2 q10.2).bind fun q13 =>
  if q13.1 = 0 then
  F_L_law_163 (x0) (x1) (x2) (s.2.1) q13.2
  else
  F_L_law_164 (x0) (x1) (x2) (s.2.1) ((1 : Int32)) q13.2
  else
  F_L_law_163 (x0) (x1) (x2) (s.2.1) q7.2
noncomputable def F_L_law_98 (x0 : Nat) (x1 : Nat) (x2 : Nat) (y0 : Int32) (σ : Mem2) : Option (Int32 × Mem2) :=
  F_L_law_103 (x0) (x1) (x2)  (y0, (0 : Int32), σ)
noncomputable def F_L_law_97 (x0 : Nat) (x1 : Nat) (x2 : Nat)  (σ : Mem2) : Option (Int32 × Mem2) :=
  F_L_law_98 (x0) (x1) (x2) ((0 : Int32)) σ
noncomputable def F_L_law (x0 : Nat) (x1 : Nat) (x2 : Nat) (x3 : Nat) (x4 : Nat) (σ : Mem2) : Option (Int32 × Mem2) :=
  (F_L_cell x0 (1 : Int32) σ).bind fun q89 =>
  (F_L_isLeft x2 q89 σ).bind fun q91 =>
  if q91.1 = 0 then
  F_L_law_97 (x0) (x1) (x2) q91.2
  else
  (F_L_areAlike x1 x2 q91.2).bind fun q94 =>
  if q94.1 = 0 then
  F_L_law_97 (x0) (x1) (x2) q94.2
  else
  (F_L_town x1 x0 (6 : Int32) x3 x4 q94.2).bind fun q97 =>
  if q97.1 = 0 then
  F_L_law_97 (x0) (x1) (x2) q97.2
  else
  (F_L_town x2 x0 (6 : Int32) x3 x4 q97.2).bind fun q100 =>
  if q100.1 = 0 then
  F_L_law_97 (x0) (x1) (x2) q100.2
  else
  (F_L_cell x0 (0 : Int32) q100.2).bind fun q103 =>
  (F_L_isLeft x2 q103 q100.2).bind fun q105 =>
  if q105.1 = 0 then
  F_L_law_97 (x0) (x1) (x2) q105.2
  else
  (F_L_areAlike x1 x2 q105.2).bind fun q108 =>
  if q108.1 = 0 then
  F_L_law_97 (x0) (x1) (x2) q108.2
  else
  F_L_law_98 (x0) (x1) (x2) ((1 : Int32)) q108.2

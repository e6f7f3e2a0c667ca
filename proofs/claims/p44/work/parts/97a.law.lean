/-! ===== the law answers 1 ===== -/
theorem csh0 {b many room : Nat} {v : Nat → Nat → Int32} (h0 : σ0.1 b 0 = nI room) (h : ∀ r, r < many → σ0.1 (b + 1) r = -1) : CSh σ0 b many room (fun _ => none) v := ⟨h0, fun r hr => h r hr⟩
theorem A0_ok : okDe False A0.2.2.2 := by
  refine ⟨?_, Nat.zero_le _, fun d hd => absurd hd (Nat.not_lt_zero _), fun k n h => (by cases h), fun _ => ⟨rfl, fun m _ => rfl, fun h => h⟩⟩
  show wfT 0 (fun _ => 0)
  unfold wfT
  simp [sumT]
theorem A0_RC : RC A0 σ0 := by
  refine ⟨?_, ?_, ?_, ?_⟩
  · exact csh0 rfl (by decide)
  · exact csh0 rfl (by decide)
  · exact ⟨rfl, rfl, rfl, rfl, by decide⟩
  · refine ⟨⟨rfl, rfl, fun h => absurd h (Nat.lt_irrefl _), by decide, fun i hi => absurd hi (Nat.not_lt_zero _)⟩, ⟨rfl, rfl, fun h => absurd h (Nat.lt_irrefl _), by decide, fun i hi => absurd hi (Nat.not_lt_zero _)⟩, rfl, fun d hd => absurd hd (Nat.not_lt_zero _), csh0 rfl (by decide)⟩
theorem A0_Dr : Dr σ0 := ⟨rfl, by decide⟩
theorem ok_town {D : De} (h : okDe True D) : 0 < D.1 0 := Nat.pos_of_ne_zero (fun e => (h.2.2.2.2 e).2.2 trivial)
/-- what stands behind the deeds that count is nothing's -/
theorem RC_cut {A : Ab} {σ : Mem} {D : De} (h : RC (deA A D) σ) (h1 : D.1 = A.2.2.2.1) (h2 : D.2.1 = A.2.2.2.2.1) (h3 : ∀ d, d < A.2.2.2.2.1 → D.2.2.1 d = A.2.2.2.2.2.1 d) (h4 : D.2.2.2 = A.2.2.2.2.2.2) : RC A σ := by
  obtain ⟨a, b, c, d⟩ := h
  obtain ⟨d1, d2, d3, d4, d5⟩ := d
  have d1 : CT σ 10 D.1 := d1
  have d2 : CT σ 18 (runD D.1 D.2.2.1 D.2.1) := d2
  have d3 : σ.1 0 7 = nI D.2.1 := d3
  have d4 : ∀ d, d < D.2.1 → σ.1 34 d = nI (D.2.2.1 d) := d4
  have d5 : CSh σ 7 3 40 D.2.2.2.1 (fun k d => nI (D.2.2.2.2 k d)) := d5
  rw [h1] at d1 d2
  rw [h2] at d2 d3
  rw [run_ext _ h3] at d2
  rw [h4] at d5
  exact ⟨a, b, c, d1, d2, d3, fun d hd => by rw [d4 d (by rw [h2]; exact hd), h3 d hd], d5⟩
theorem digF_eq {A B : Ab} (h1 : A.1 = B.1) (h2 : A.2.1 = B.2.1) (h3 : A.2.2.2 = B.2.2.2) : digF A = digF B := by
  obtain ⟨a1, a2, a3, a4⟩ := A
  obtain ⟨b1, b2, b3, b4⟩ := B
  have h1 : a1 = b1 := h1
  have h2 : a2 = b2 := h2
  have h3 : a4 = b4 := h3
  subst h1
  subst h2
  subst h3
  rfl
section LAWM
variable {sc : Nat × (Nat → Int32)}
theorem L_law164 {A : Ab} {Z : Mem2} {j : Nat} (hA : okDe True A.2.2.2) (h : Al A Z) (hs : Z.2.2.2.2 = sc) : ∃ T, F_L_law_164 4 0 1 (nI j) 1 Z = some (.inl ((1 : Int32), nI (j + 1), T)) ∧ Al A T ∧ T.2.2.2.2 = sc := by
  have h0 := ok_town hA
  obtain ⟨⟨hR, hD⟩, hR2, hD2⟩ := h
  have g1 : G_X8_count 1 2 Z = some (nI A.2.2.2.2.1) := onP_k k1 (A_count2 hA hR2)
  have h40 := hA.2.1
  by_cases c : A.2.2.2.2.1 < 39
  · have c39 : ¬ (39 : Int32) ≤ nI A.2.2.2.2.1 := nI_ge (b := 39) c (by decide)
    obtain ⟨r1, p1, n1⟩ := A_nightY hA h0 (by omega)
    have ok1 : okDe True (deA A (pushD A.2.2.2 0)).2.2.2 := push_ok hA (by omega) (Or.inl ⟨rfl, h0⟩)
    obtain ⟨r2, p2, n2⟩ := A_nightY ok1 h0 (show A.2.2.2.2.1 + 1 < 40 by omega)
    have ok2 : okDe True (deA (deA A (pushD A.2.2.2 0)) (pushD (deA A (pushD A.2.2.2 0)).2.2.2 0)).2.2.2 := push_ok ok1 (show A.2.2.2.2.1 + 1 < 40 by omega) (Or.inl ⟨rfl, h0⟩)
    obtain ⟨σ1, e1, c1, d1⟩ := n1 _ hR2 hD2
    obtain ⟨σ2, e2, c2, d2⟩ := n2 _ c1 d1
    obtain ⟨σ3, e3, c3, d3⟩ := A_undo ok2 (i := A.2.2.2.2.1) (show A.2.2.2.2.1 < A.2.2.2.2.1 + 1 + 1 + 1 by omega) _ c2 d2
    have e3 : F_X8_undo 0 (nI A.2.2.2.2.1) σ2 = some (nI (A.2.2.2.2.1 + 1 + 1 - A.2.2.2.2.1), σ3) := e3
    rw [show A.2.2.2.2.1 + 1 + 1 - A.2.2.2.2.1 = 2 by omega] at e3
    have c4 : RC A σ3 := RC_cut (D := cutD (pushD (pushD A.2.2.2 0) 0) A.2.2.2.2.1) c3 rfl rfl (fun d hd => by
      show (if d = A.2.2.2.2.1 + 1 then 0 else if d = A.2.2.2.2.1 then 0 else A.2.2.2.2.2.1 d) = _
      rw [if_neg (by omega), if_neg (by omega)]) rfl
    have b1 : G_X8_night 1 Z = some (r1, (Z.1, σ1, Z.2.2)) := onI_k k1 e1
    have b2 : G_X8_night 1 (Z.1, σ1, Z.2.2) = some (r2, (Z.1, σ2, Z.2.2)) := onI_k (Z := (Z.1, σ1, Z.2.2)) k1 e2
    have b3 : G_X8_undo 1 (nI A.2.2.2.2.1) (Z.1, σ2, Z.2.2) = some (2, (Z.1, σ3, Z.2.2)) := onI_k (Z := (Z.1, σ2, Z.2.2)) k1 e3
    obtain ⟨T, e5, a5, r5⟩ := L_alike (Z := (Z.1, σ3, Z.2.2)) hA ⟨⟨hR, hD⟩, c4, d3⟩
    refine ⟨T, ?_, a5, by rw [r5]; exact hs⟩
    unfold F_L_law_164 F_L_law_197 F_L_law_209
    rw [c81, ob_some, g1, ob_some, if_neg ne10, if_neg c39, ob_some, b1, ob_some, if_neg p1, ob_some, b2, ob_some, if_neg p2, ob_some, b3, ob_some, if_pos (show (2 : Int32) = 1 + 1 by decide), e5, ob_some, if_neg ne10, nI_1]
  · have c39 : (39 : Int32) ≤ nI A.2.2.2.2.1 := nI_le (a := 39) (by omega) (by omega)
    refine ⟨Z, ?_, ⟨⟨hR, hD⟩, hR2, hD2⟩, hs⟩
    unfold F_L_law_164
    rw [c81, ob_some, g1, ob_some, if_neg ne10, if_pos c39, nI_1]
theorem L_law244 {A : Ab} {Z : Mem2} (hA : okDe True A.2.2.2) (h : Al A Z) : ∃ T, F_L_law_244 0 1 1 Z = some (1, T) := by
  have h0 := ok_town hA
  obtain ⟨⟨hR, hD⟩, hR2, hD2⟩ := h
  have g1 : G_X8_count 1 2 Z = some (nI A.2.2.2.2.1) := onP_k k1 (A_count2 hA hR2)
  have h40 := hA.2.1
  have kp := A_keep hA (Nat.ne_of_gt h0) (r := 2) (by decide)
  have ok1 : okDe True (deA A (keepD A.2.2.2 2)).2.2.2 := keep_ok hA h0
  obtain ⟨τ1, e1, c1, d1⟩ := kp _ hR2 hD2
  obtain ⟨ρ1, f1, c1', d1'⟩ := kp _ hR hD
  generalize hA1 : deA A (keepD A.2.2.2 2) = A1 at ok1 c1 c1'
  have hk1 : A1.2.2.2.2.2.2.1 2 = some A.2.2.2.2.1 := by rw [← hA1]; rfl
  obtain ⟨r2, A2, ok2, nr2, p2, n2⟩ := A_night ok1
  obtain ⟨τ2, e2, c2, d2⟩ := n2 _ c1 d1
  obtain ⟨r3, A3, ok3, nr3, p3, n3⟩ := A_inspect ok2 0
  obtain ⟨τ3, e3, c3, d3⟩ := n3 _ c2 d2
  obtain ⟨r4, A4, ok4, nr4, p4, n4⟩ := A_thin ok3 0
  obtain ⟨τ4, e4, c4, d4⟩ := n4 _ c3 d3
  have h44 := ok4.2.1
  obtain ⟨τ5, e5, c5, d5⟩ := A_undo ok4 (i := 0) (by omega) _ c4 d4
  have ok5 : okDe True (deA A4 (cutD A4.2.2.2 0)).2.2.2 := cut_ok ok4 (Nat.zero_le _)
  have nr5 : Near (deA A4 (cutD A4.2.2.2 0)) A1 := Near.tr ⟨rfl, rfl, rfl, rfl⟩ (nr4.tr (nr3.tr nr2))
  generalize hA5 : deA A4 (cutD A4.2.2.2 0) = A5 at ok5 c5 nr5
  have hk5 : A5.2.2.2.2.2.2.1 2 = some A.2.2.2.2.1 := by rw [nr5.2.2.2]; exact hk1
  obtain ⟨τ6, e6, c6, d6⟩ := A_on ok5 (r := 2) (by decide) hk5 _ c5 d5
  obtain ⟨ρ6, f6, c6', d6'⟩ := A_on ok1 (r := 2) (by decide) hk1 _ c1' d1'
  have ok6 : okDe True (deA A5 (onD A5.2.2.2 2 A.2.2.2.2.1)).2.2.2 := on_ok ok5 hk5
  have ok7 : okDe True (deA A1 (onD A1.2.2.2 2 A.2.2.2.2.1)).2.2.2 := on_ok ok1 hk1
  have eD : onD A5.2.2.2 2 A.2.2.2.2.1 = onD A1.2.2.2 2 A.2.2.2.2.1 := by
    unfold onD
    rw [nr5.2.2.1, nr5.2.2.2]
  have edig : digF (deA A1 (onD A1.2.2.2 2 A.2.2.2.2.1)) = digF (deA A5 (onD A5.2.2.2 2 A.2.2.2.2.1)) := digF_eq nr5.1.symm nr5.2.1.symm eD.symm
  obtain ⟨ρ7, f7, c7', d7'⟩ := A_duel ok7 _ c6' d6'
  obtain ⟨τ7, e7, c7, d7⟩ := A_duel ok6 _ c6 d6
  have eV : duelV (deA A5 (onD A5.2.2.2 2 A.2.2.2.2.1)).2.2.2 = duelV (deA A1 (onD A1.2.2.2 2 A.2.2.2.2.1)).2.2.2 := congrArg duelV eD
  rw [eV] at e7
  have b1 : G_X8_keep 1 2 Z = some (nI A.2.2.2.2.1, (Z.1, τ1, Z.2.2)) := onI_k k1 e1
  have b2 : G_X8_keep 0 2 (Z.1, τ1, Z.2.2) = some (nI A.2.2.2.2.1, (ρ1, τ1, Z.2.2)) := onI_k (Z := (Z.1, τ1, Z.2.2)) k0 f1
  have b3 : G_X8_night 1 (ρ1, τ1, Z.2.2) = some (r2, (ρ1, τ2, Z.2.2)) := onI_k (Z := (ρ1, τ1, Z.2.2)) k1 e2
  have b4 : G_X8_inspect 1 0 (ρ1, τ2, Z.2.2) = some (r3, (ρ1, τ3, Z.2.2)) := onI_k (Z := (ρ1, τ2, Z.2.2)) k1 e3
  have b5 : G_X8_thin 1 0 (ρ1, τ3, Z.2.2) = some (r4, (ρ1, τ4, Z.2.2)) := onI_k (Z := (ρ1, τ3, Z.2.2)) k1 e4
  have b6 : G_X8_undo 1 0 (ρ1, τ4, Z.2.2) = some (nI (A4.2.2.2.2.1 - 0), (ρ1, τ5, Z.2.2)) := onI_k (Z := (ρ1, τ4, Z.2.2)) k1 e5
  have b7 : G_X8_on 1 2 (ρ1, τ5, Z.2.2) = some (nI A.2.2.2.2.1, (ρ1, τ6, Z.2.2)) := onI_k (Z := (ρ1, τ5, Z.2.2)) k1 e6
  have b8 : G_X8_on 0 2 (ρ1, τ6, Z.2.2) = some (nI A.2.2.2.2.1, (ρ6, τ6, Z.2.2)) := onI_k (Z := (ρ1, τ6, Z.2.2)) k0 f6
  have b9 : G_X8_count 1 2 (ρ6, τ6, Z.2.2) = some (nI A.2.2.2.2.1) := onP_k (Z := (ρ6, τ6, Z.2.2)) k1 (A_count2 (A := deA A5 (onD A5.2.2.2 2 A.2.2.2.2.1)) ok6 c6)
  have b10 : G_X8_digest 0 (ρ6, τ6, Z.2.2) = some (digF (deA A1 (onD A1.2.2.2 2 A.2.2.2.2.1))) := onP_k (Z := (ρ6, τ6, Z.2.2)) k0 (C_digest ok7 c6')
  have b11 : G_X8_digest 1 (ρ6, τ6, Z.2.2) = some (digF (deA A1 (onD A1.2.2.2 2 A.2.2.2.2.1))) := onP_k (Z := (ρ6, τ6, Z.2.2)) k1 (by rw [edig]; exact C_digest ok6 c6)
  have b12 : G_X8_duel 0 2 (ρ6, τ6, Z.2.2) = some (duelV (deA A1 (onD A1.2.2.2 2 A.2.2.2.2.1)).2.2.2, (ρ7, τ6, Z.2.2)) := onI_k (Z := (ρ6, τ6, Z.2.2)) k0 f7
  have b13 : G_X8_duel 1 2 (ρ7, τ6, Z.2.2) = some (duelV (deA A1 (onD A1.2.2.2 2 A.2.2.2.2.1)).2.2.2, (ρ7, τ7, Z.2.2)) := onI_k (Z := (ρ7, τ6, Z.2.2)) k1 e7
  refine ⟨(ρ7, τ7, Z.2.2), ?_⟩
  unfold F_L_law_244 F_L_law_334
  rw [c81, c80, ob_some, g1, ob_some, if_neg ne10, ob_some, b1, ob_some, ob_some, b2, ob_some, if_pos rfl, ob_some, b3, ob_some, if_neg p2, ob_some, b4, ob_some, if_neg p3, ob_some, b5, ob_some, if_neg p4, ob_some, b6, ob_some, if_neg (nI_pos (by omega)), ob_some, b7, ob_some, ob_some, b8, ob_some, if_pos rfl, ob_some, b9, ob_some, if_pos rfl, if_neg ne10, ob_some, b10, ob_some, ob_some, b11, ob_some, if_pos (lg_self _), ob_some, b12, ob_some, ob_some, b13, ob_some, if_pos rfl]
theorem L_law103 {A : Ab} {Z : Mem2} (hL : sc.1 ≤ 260) (hA : okDe True A.2.2.2) (h : Al A Z) (hs : Z.2.2.2.2 = sc) : ∃ t, F_L_law_103 4 0 1 ((1 : Int32), (0 : Int32), Z) = some t ∧ t.1 = 1 := by
  unfold F_L_law_103
  refine lp_inv (Q := fun t : Int32 × Mem2 => t.1 = 1) (fun j (s : Int32 × Int32 × Mem2) => s.1 = 1 ∧ s.2.1 = nI j ∧ (∃ A : Ab, okDe True A.2.2.2 ∧ Al A s.2.2) ∧ s.2.2.2.2.2.2 = sc) 20 ?_ ?_ _ ⟨rfl, rfl, ⟨A, hA, h⟩, hs⟩
  · intro j s hj ⟨a1, a2, ⟨A, hA, a3⟩, a4⟩
    obtain ⟨s1, s2, T⟩ := s
    have a1 : s1 = 1 := a1
    have a2 : s2 = nI j := a2
    subst a1
    subst a2
    have a3 : Al A T := a3
    have a4 : T.2.2.2.2 = sc := a4
    have ec : F_L_cell 4 ((4 : Int32) + nI j) T = some (cellV sc ((4 : Int32) + nI j)) := by
      rw [← a4]
      exact L_cell (by rw [a4]; exact hL) (by rw [show (4 : Int32) + nI j = nI (4 + j) from lx rfl, nI_toInt (by omega)]; omega)
    generalize cellV sc ((4 : Int32) + nI j) = x at ec
    obtain ⟨r, A', ok, f⟩ := L_act hA x
    obtain ⟨⟨hR, hD⟩, hR2, hD2⟩ := a3
    obtain ⟨σ1, e1, c1, d1⟩ := f 0 T k0 hR hD
    obtain ⟨σ2, e2, c2, d2⟩ := f 1 (pt 0 T σ1) k1 hR2 hD2
    have e1 : F_L_act 0 x T = some (r, (σ1, T.2)) := e1
    have e2 : F_L_act 1 x (σ1, T.2) = some (r, (σ1, σ2, T.2.2)) := e2
    obtain ⟨σ3, e3, c3, d3⟩ := L_isLeft (Z := (σ1, σ2, T.2.2)) ok c2 d2 (x >>> ((3 : Int32) &&& 31))
    have e3 : F_L_isLeft 1 (x >>> ((3 : Int32) &&& 31)) (σ1, σ2, T.2.2) = some (1, (σ1, σ3, T.2.2)) := e3
    obtain ⟨T4, e4, a5, r4⟩ := L_alike (Z := (σ1, σ3, T.2.2)) ok ⟨⟨c1, d1⟩, c3, d3⟩
    obtain ⟨T5, e5, a6, r5⟩ := L_law164 (sc := sc) (Z := T4) (j := j) ok a5 (by rw [r4]; exact a4)
    refine ⟨((1 : Int32), nI (j + 1), T5), ?_, rfl, rfl, ⟨A', ok, a6⟩, r5⟩
    dsimp only
    rw [if_neg (show ¬ (20 : Int32) ≤ nI j from nI_ge (b := 20) hj (by decide)), if_neg (by decide), ec, ob_some, e1, ob_some, e2, ob_some, if_pos rfl, e3, ob_some, if_neg ne10, e4, ob_some, if_neg ne10, e5]
  · intro s ⟨a1, a2, ⟨A, hA, a3⟩, a4⟩
    obtain ⟨s1, s2, T⟩ := s
    have a1 : s1 = 1 := a1
    have a2 : s2 = nI 20 := a2
    subst a1
    subst a2
    obtain ⟨T', e⟩ := L_law244 hA a3
    refine ⟨(1, T'), ?_, rfl⟩
    dsimp only
    rw [if_pos (show (20 : Int32) ≤ nI 20 from nI_le (a := 20) (Nat.le_refl _) (by decide)), e]
    rfl
end LAWM
def z64 : Nat → Int32 := fun _ => 0
theorem law_true (L : Nat) (xs : Nat → Int32) (hL : L ≤ 260) : ∃ T, F_L_law 4 0 1 2 3 (σ0, σ0, z64, z64, (L, xs)) = some (1, T) := by
  have s0 : ∀ i : Int32, 0 ≤ i.toInt → F_L_cell 4 i (σ0, σ0, z64, z64, (L, xs)) = some (cellV (L, xs) i) := fun i hi => L_cell (Z := (σ0, σ0, z64, z64, (L, xs))) hL hi
  obtain ⟨σ1, e1, c1, d1⟩ := L_isLeft (Z := (σ0, σ0, z64, z64, (L, xs))) A0_ok A0_RC A0_Dr (cellV (L, xs) 1)
  have e1 : F_L_isLeft 1 (cellV (L, xs) 1) (σ0, σ0, z64, z64, (L, xs)) = some (1, (σ0, σ1, z64, z64, (L, xs))) := e1
  obtain ⟨T2, e2, ⟨⟨a1, a2⟩, a3, a4⟩, r2⟩ := L_alike (Z := (σ0, σ1, z64, z64, (L, xs))) A0_ok ⟨⟨A0_RC, A0_Dr⟩, c1, d1⟩
  have s2 : T2.2.2.2.2 = (L, xs) := by rw [r2]
  obtain ⟨T3, e3, b1, b2, b3, b4⟩ := L_town (k := 0) (Z := T2) k0 (by rw [s2]; exact hL) a1 a2
  rw [s2] at b1 b3
  have b4 : T3.2.1 = T2.2.1 := b4
  obtain ⟨T4, e4, g1, g2, g3, g4⟩ := L_town (k := 1) (Z := T3) k1 (by rw [b3]; exact hL) (show RC A0 T3.2.1 by rw [b4]; exact a3) (show Dr T3.2.1 by rw [b4]; exact a4)
  rw [b3] at g1 g3
  have g4 : T4.1 = T3.1 := g4
  have b1 : RC (AT (L, xs)) T4.1 := by rw [g4]; exact b1
  have b2 : Dr T4.1 := by rw [g4]; exact b2
  have s4 : F_L_cell 4 0 T4 = some (cellV (L, xs) 0) := by rw [← g3]; exact L_cell (by rw [g3]; exact hL) (by decide)
  obtain ⟨σ5, e5, c5, d5⟩ := L_isLeft (Z := T4) (AT_ok (L, xs)) g1 g2 (cellV (L, xs) 0)
  obtain ⟨T6, e6, a6, r6⟩ := L_alike (Z := (T4.1, σ5, T4.2.2)) (AT_ok (L, xs)) ⟨⟨b1, b2⟩, c5, d5⟩
  obtain ⟨⟨t, T7⟩, e7, a7⟩ := L_law103 (sc := (L, xs)) (Z := T6) hL (AT_ok (L, xs)) a6 (by rw [r6]; exact g3)
  have a7 : t = 1 := a7
  subst a7
  refine ⟨T7, ?_⟩
  unfold F_L_law F_L_law_98
  rw [s0 1 (by decide), ob_some, e1, ob_some, if_neg ne10, e2, ob_some, if_neg ne10, e3, ob_some, if_neg ne10, e4, ob_some, if_neg ne10, s4, ob_some, e5, ob_some, if_neg ne10, e6, ob_some, if_neg ne10, e7]

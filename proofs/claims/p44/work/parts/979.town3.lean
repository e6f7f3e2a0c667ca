/-! the town, whole -/
theorem ne10 : ¬ (1 : Int32) = 0 := by decide
def townD (sc : Nat × (Nat → Int32)) : Tn := match resT (wS sc (mN sc)) (mN sc) with
  | .inr D => D
  | .inl _ => fun _ => 0
theorem town_res (sc : Nat × (Nat → Int32)) : resT (wS sc (mN sc)) (mN sc) = .inr (townD sc) ∧ townD sc 0 = nbN sc := by
  obtain ⟨D, e, e0⟩ := resT_all (v := wS sc (mN sc)) (sc := sc) (nb := nbN sc) nbN_b.1 nbN_b.2 (fun j hj => if_pos hj)
  have e : resT (wS sc (mN sc)) (mN sc) = .inr D := e
  have h : townD sc = D := by unfold townD; rw [e]
  rw [h]
  exact ⟨e, e0⟩
/-- what both mean behind the town -/
def AT (sc : Nat × (Nat → Int32)) : Ab := deA (txA (mN sc) (wS sc (mN sc))) (newD (townD sc))
theorem AT_ok (sc : Nat × (Nat → Int32)) : okDe True (AT sc).2.2.2 := by
  obtain ⟨e, _⟩ := town_res sc
  obtain ⟨hp, h0⟩ := resT_ok e
  exact new_ok hp h0
section TOWN
variable {k : Nat} {sc : Nat × (Nat → Int32)} {O : Mem} {Z : Mem2}
theorem L_town421 (hk : K01 k) (h : TQ k sc O (mN sc) Z) : ∃ Z', F_L_town_421 k 2 1 Z = some (1, Z') ∧ RC (AT sc) (pk k Z') ∧ Dr (pk k Z') ∧ Z'.2.2.2.2 = sc ∧ ot k Z' = O := by
  have hm := mN_b (sc := sc)
  obtain ⟨er, e0⟩ := town_res sc
  obtain ⟨h1, h2, h3, h4, h5, h6, h7⟩ := h
  obtain ⟨σ1, g1, c1, d1⟩ := An.fault (by omega) er _ h1 h2
  obtain ⟨σ2, g2, c2, d2⟩ := An.town (by omega) er _ c1 d1
  rw [e0] at g2
  have b1 : G_X8_fault k 0 Z = some (-9, pt k Z σ1) := onI_k hk g1
  have b2 : G_X8_town k 0 (pt k Z σ1) = some (nI (nbN sc), pt k (pt k Z σ1) σ2) := onI_k hk (by rw [pk_pt hk]; exact g2)
  have r2 : (pt k (pt k Z σ1) σ2).2.2 = Z.2.2 := (pt_rest hk).trans (pt_rest hk)
  have a0 : aJ2 2 (0 : Int32) (pt k (pt k Z σ1) σ2) = some (nI (nbN sc)) := (aJ_v (i := 0) (by decide)).trans (by rw [r2, h4])
  refine ⟨pt k (pt k Z σ1) σ2, ?_, ?_, ?_, ?_, ?_⟩
  · unfold F_L_town_421
    rw [if_neg (by decide), ck2 hk, ob_some, b1, ob_some, if_pos rfl, ob_some, b2, ob_some, a0, ob_some, if_pos rfl]
  · rw [pk_pt hk]; exact c2
  · rw [pk_pt hk]; exact d2
  · rw [r2]; exact h6
  · rw [ot_pt hk, ot_pt hk]; exact h7
theorem letter_eq : ∀ d, d < 6 → ∀ Z, F_L_letter (nI d) Z = some (letV d) := by
  intro d hd Z
  unfold F_L_letter letV
  have c : d = 0 ∨ d = 1 ∨ d = 2 ∨ d = 3 ∨ d = 4 ∨ d = 5 := by omega
  rcases c with rfl | rfl | rfl | rfl | rfl | rfl <;> rfl
/-- one bed -/
theorem L_town335 (hk : K01 k) {i : Nat} (hi : i < nbN sc) {q0 : Int32} (h : TQ k sc O (6 + 4 * i) Z) (v1 : Z.2.2.1 (1 + i) = nI (lowN (yV sc i) 6)) (v7 : Z.2.2.1 (7 + i) = nI (lowN (yV sc i >>> ((3 : Int32) &&& 31)) 10)) (u2 : Z.2.2.2.1 (2 + i) = nI (lowN (yV sc i >>> ((6 : Int32) &&& 31)) 10)) (hq : q0 = nI (thkN (yV sc i))) : ∃ Z', F_L_town_335 k 4 2 3 (nI i) q0 ((8 : Int32) + nI i) 3 Z = some (.inl ((1 : Int32), nI (i + 1), Z')) ∧ TQ k sc O (6 + 4 * (i + 1)) Z' := by
  have hb := nbN_b (sc := sc)
  have hm : mN sc = 6 + 4 * nbN sc := rfl
  have s1 : sJ2 3 ((8 : Int32) + nI i) q0 Z = some (setU Z (8 + i) q0) := by rw [show (8 : Int32) + nI i = nI (8 + i) from lx rfl]; exact sJ_u (by omega)
  have h1 : TQ k sc O (6 + 4 * i) (setU Z (8 + i) q0) := h.su
  have a1 : aJ2 2 ((1 : Int32) + nI i) (setU Z (8 + i) q0) = some (nI (lowN (yV sc i) 6)) := by rw [show (1 : Int32) + nI i = nI (1 + i) from lx rfl, aJ_v (by omega)]; exact congrArg some v1
  obtain ⟨Z1, p1, t1, f1, g1⟩ := h1.put hk (by omega) (c := letV (lowN (yV sc i) 6)) (cB_bed (r := 0) (by decide)).symm
  have a2 : aJ2 2 ((7 : Int32) + nI i) Z1 = some (nI (lowN (yV sc i >>> ((3 : Int32) &&& 31)) 10)) := by rw [show (7 : Int32) + nI i = nI (7 + i) from lx rfl, aJ_v (by omega), f1 _ (by omega)]; exact congrArg some v7
  obtain ⟨Z2, p2, t2, f2, g2⟩ := t1.put hk (by omega) (c := (48 : Int32) + nI (lowN (yV sc i >>> ((3 : Int32) &&& 31)) 10)) (cB_bed (r := 1) (by decide)).symm
  have a3 : aJ2 3 ((2 : Int32) + nI i) Z2 = some (nI (lowN (yV sc i >>> ((6 : Int32) &&& 31)) 10)) := by
    rw [show (2 : Int32) + nI i = nI (2 + i) from lx rfl, aJ_u (by omega), g2, g1, su_at, if_neg (by omega), u2]
  obtain ⟨Z3, p3, t3, f3, g3⟩ := t2.put hk (by omega) (c := (48 : Int32) + nI (lowN (yV sc i >>> ((6 : Int32) &&& 31)) 10)) (cB_bed (r := 2) (by decide)).symm
  have a4 : aJ2 3 ((8 : Int32) + nI i) Z3 = some (nI (thkN (yV sc i))) := by
    rw [show (8 : Int32) + nI i = nI (8 + i) from lx rfl, aJ_u (by omega), g3, g2, g1, su_at, if_pos rfl, hq]
  obtain ⟨Z4, p4, t4, f4, g4⟩ := t3.put hk (by omega) (c := (48 : Int32) + nI (thkN (yV sc i))) (cB_bed (r := 3) (by decide)).symm
  have l6 := lowN_lt (yV sc i) (n := 6) (by decide)
  refine ⟨Z4, ?_, by rw [show 6 + 4 * (i + 1) = 6 + 4 * i + 1 + 1 + 1 + 1 by omega]; exact t4⟩
  unfold F_L_town_335
  rw [s1, ob_some, a1, ob_some, letter_eq _ l6, ob_some, p1, ob_some, if_neg ne10, a2, ob_some, p2, ob_some, if_neg ne10, a3, ob_some, p3, ob_some, if_neg ne10, a4, ob_some, p4, ob_some, if_neg ne10, nI_1]
theorem L_town217 (hk : K01 k) (hL : sc.1 ≤ 260) (h : TQ k sc O 6 Z) : ∃ t, F_L_town_217 k 4 2 3 ((1 : Int32), (0 : Int32), Z) = some t ∧ (t.1 = 1 ∧ RC (AT sc) (pk k t.2) ∧ Dr (pk k t.2) ∧ t.2.2.2.2.2 = sc ∧ ot k t.2 = O) := by
  have hb := nbN_b (sc := sc)
  have hm : mN sc = 6 + 4 * nbN sc := rfl
  unfold F_L_town_217
  refine lp_inv (fun i (s : Int32 × Int32 × Mem2) => s.1 = 1 ∧ s.2.1 = nI i ∧ TQ k sc O (6 + 4 * i) s.2.2) (nbN sc) ?_ ?_ _ ⟨rfl, rfl, h⟩
  · intro i s hi ⟨a1, a2, a3⟩
    obtain ⟨s1, s2, T⟩ := s
    have a1 : s1 = 1 := a1
    have a2 : s2 = nI i := a2
    subst a1
    subst a2
    have a3 : TQ k sc O (6 + 4 * i) T := a3
    obtain ⟨h1, h2, h3, h4, h5, h6, h7⟩ := a3
    have a3 : TQ k sc O (6 + 4 * i) T := ⟨h1, h2, h3, h4, h5, h6, h7⟩
    have v0 : aJ2 2 (0 : Int32) T = some (nI (nbN sc)) := (aJ_v (i := 0) (by decide)).trans (by rw [h4])
    have ec : F_L_cell 4 ((1 : Int32) + (nI i / (2 : Int32))) T = some (cellV sc ((1 : Int32) + (nI i / (2 : Int32)))) := by
      rw [← h6]
      refine L_cell (by rw [h6]; exact hL) ?_
      rw [show nI i / (2 : Int32) = nI (i / 2) from pk_div (by omega) (by decide) (by decide), show (1 : Int32) + nI (i / 2) = nI (1 + i / 2) from lx rfl, nI_toInt (by omega)]
      omega
    have z6 : ¬ (6 : Int32) = 0 := by decide
    have z10 : ¬ (10 : Int32) = 0 := by decide
    have z4 : ¬ (4 : Int32) = 0 := by decide
    have l1 : lowV (yV sc i) (6 : Int32) = nI (lowN (yV sc i) 6) := low_N _ (n := 6) (by decide) (by decide)
    have l2 : lowV (yV sc i >>> ((3 : Int32) &&& 31)) (10 : Int32) = nI (lowN (yV sc i >>> ((3 : Int32) &&& 31)) 10) := low_N _ (n := 10) (by decide) (by decide)
    have l3 : lowV (yV sc i >>> ((6 : Int32) &&& 31)) (10 : Int32) = nI (lowN (yV sc i >>> ((6 : Int32) &&& 31)) 10) := low_N _ (n := 10) (by decide) (by decide)
    have l4 : lowV (yV sc i >>> ((9 : Int32) &&& 31)) (10 : Int32) = nI (lowN (yV sc i >>> ((9 : Int32) &&& 31)) 10) := low_N _ (n := 10) (by decide) (by decide)
    have l5 : lowV (yV sc i >>> ((9 : Int32) &&& 31)) (4 : Int32) = nI (lowN (yV sc i >>> ((9 : Int32) &&& 31)) 4) := low_N _ (n := 4) (by decide) (by decide)
    have w1 : sJ2 2 ((1 : Int32) + nI i) (nI (lowN (yV sc i) 6)) T = some (setV T (1 + i) (nI (lowN (yV sc i) 6))) := by rw [show (1 : Int32) + nI i = nI (1 + i) from lx rfl]; exact sJ_v (by omega)
    generalize eT1 : setV T (1 + i) (nI (lowN (yV sc i) 6)) = T1 at w1
    have q1 : TQ k sc O (6 + 4 * i) T1 := by rw [← eT1]; exact a3.sv (by omega)
    have w2 : sJ2 2 ((7 : Int32) + nI i) (nI (lowN (yV sc i >>> ((3 : Int32) &&& 31)) 10)) T1 = some (setV T1 (7 + i) (nI (lowN (yV sc i >>> ((3 : Int32) &&& 31)) 10))) := by rw [show (7 : Int32) + nI i = nI (7 + i) from lx rfl]; exact sJ_v (by omega)
    generalize eT2 : setV T1 (7 + i) (nI (lowN (yV sc i >>> ((3 : Int32) &&& 31)) 10)) = T2 at w2
    have q2 : TQ k sc O (6 + 4 * i) T2 := by rw [← eT2]; exact q1.sv (by omega)
    have w3 : sJ2 3 ((2 : Int32) + nI i) (nI (lowN (yV sc i >>> ((6 : Int32) &&& 31)) 10)) T2 = some (setU T2 (2 + i) (nI (lowN (yV sc i >>> ((6 : Int32) &&& 31)) 10))) := by rw [show (2 : Int32) + nI i = nI (2 + i) from lx rfl]; exact sJ_u (by omega)
    generalize eT3 : setU T2 (2 + i) (nI (lowN (yV sc i >>> ((6 : Int32) &&& 31)) 10)) = T3 at w3
    have q3 : TQ k sc O (6 + 4 * i) T3 := by rw [← eT3]; exact q2.su
    have v1 : T3.2.2.1 (1 + i) = nI (lowN (yV sc i) 6) := by
      rw [← eT3]
      show T2.2.2.1 (1 + i) = _
      rw [← eT2, sv_at, if_neg (by omega), ← eT1, sv_at, if_pos rfl]
    have v7 : T3.2.2.1 (7 + i) = nI (lowN (yV sc i >>> ((3 : Int32) &&& 31)) 10) := by
      rw [← eT3]
      show T2.2.2.1 (7 + i) = _
      rw [← eT2, sv_at, if_pos rfl]
    have u2 : T3.2.2.2.1 (2 + i) = nI (lowN (yV sc i >>> ((6 : Int32) &&& 31)) 10) := by
      rw [← eT3, su_at, if_pos rfl]
    by_cases c : ((yV sc i >>> ((13 : Int32) &&& 31)) &&& (1 : Int32)) = 0
    · obtain ⟨Z', e, q⟩ := L_town335 (q0 := nI (lowN (yV sc i >>> ((9 : Int32) &&& 31)) 10)) hk hi q3 v1 v7 u2 (by unfold thkN; rw [if_pos c])
      refine ⟨((1 : Int32), nI (i + 1), Z'), ?_, rfl, rfl, q⟩
      dsimp only
      rw [v0, ob_some, if_neg (nI_ge hi (by omega)), if_neg (by decide), ec, ob_some]
      show (F_L_low (yV sc i) (6 : Int32) T).bind _ = _
      rw [L_low z6, ob_some, l1, w1, ob_some]
      show (F_L_low (yV sc i >>> ((3 : Int32) &&& 31)) (10 : Int32) T1).bind _ = _
      rw [L_low z10, ob_some, l2, w2, ob_some]
      show (F_L_low (yV sc i >>> ((6 : Int32) &&& 31)) (10 : Int32) T2).bind _ = _
      rw [L_low z10, ob_some, l3, w3, ob_some]
      show (if ((yV sc i >>> ((13 : Int32) &&& 31)) &&& (1 : Int32)) = 0 then (F_L_low (yV sc i >>> ((9 : Int32) &&& 31)) (10 : Int32) T3).bind _ else _) = _
      rw [if_pos c, L_low z10, ob_some, l4]
      exact e
    · obtain ⟨Z', e, q⟩ := L_town335 (q0 := nI (lowN (yV sc i >>> ((9 : Int32) &&& 31)) 4)) hk hi q3 v1 v7 u2 (by unfold thkN; rw [if_neg c])
      refine ⟨((1 : Int32), nI (i + 1), Z'), ?_, rfl, rfl, q⟩
      dsimp only
      rw [v0, ob_some, if_neg (nI_ge hi (by omega)), if_neg (by decide), ec, ob_some]
      show (F_L_low (yV sc i) (6 : Int32) T).bind _ = _
      rw [L_low z6, ob_some, l1, w1, ob_some]
      show (F_L_low (yV sc i >>> ((3 : Int32) &&& 31)) (10 : Int32) T1).bind _ = _
      rw [L_low z10, ob_some, l2, w2, ob_some]
      show (F_L_low (yV sc i >>> ((6 : Int32) &&& 31)) (10 : Int32) T2).bind _ = _
      rw [L_low z10, ob_some, l3, w3, ob_some]
      show (if ((yV sc i >>> ((13 : Int32) &&& 31)) &&& (1 : Int32)) = 0 then _ else (F_L_low (yV sc i >>> ((9 : Int32) &&& 31)) (4 : Int32) T3).bind _) = _
      rw [if_neg c, L_low z4, ob_some, l5]
      exact e
  · intro s ⟨a1, a2, a3⟩
    obtain ⟨s1, s2, T⟩ := s
    have a1 : s1 = 1 := a1
    have a2 : s2 = nI (nbN sc) := a2
    subst a1
    subst a2
    have a3 : TQ k sc O (mN sc) T := a3
    have v0 : aJ2 2 (0 : Int32) T = some (nI (nbN sc)) := (aJ_v (i := 0) (by decide)).trans (by rw [a3.2.2.2.1])
    obtain ⟨Z', e, b1, b2, b3, b4⟩ := L_town421 hk a3
    refine ⟨(1, Z'), ?_, rfl, b1, b2, b3, b4⟩
    dsimp only
    rw [v0, ob_some, if_pos (nI_le (Nat.le_refl _) (by omega)), e]
    rfl
theorem L_town104 (hk : K01 k) (hL : sc.1 ≤ 260) (h : TQ k sc O 1 Z) : ∃ t, F_L_town_104 k 4 2 3 (cellV sc 0) ((1 : Int32), (0 : Int32), Z) = some t ∧ (t.1 = 1 ∧ RC (AT sc) (pk k t.2) ∧ Dr (pk k t.2) ∧ t.2.2.2.2.2 = sc ∧ ot k t.2 = O) := by
  have hb := nbN_b (sc := sc)
  have hm : mN sc = 6 + 4 * nbN sc := rfl
  have z10 : ¬ (10 : Int32) = 0 := by decide
  have z4 : ¬ (4 : Int32) = 0 := by decide
  unfold F_L_town_104
  refine lp_inv (fun i (s : Int32 × Int32 × Mem2) => s.1 = 1 ∧ s.2.1 = nI i ∧ TQ k sc O (1 + i) s.2.2) 4 ?_ ?_ _ ⟨rfl, rfl, h⟩
  · intro i s hi ⟨a1, a2, a3⟩
    obtain ⟨s1, s2, T⟩ := s
    have a1 : s1 = 1 := a1
    have a2 : s2 = nI i := a2
    subst a1
    subst a2
    have a3 : TQ k sc O (1 + i) T := a3
    have key : ∀ q0, q0 = nI (coldN (cellV sc 0) i) → ∃ Z', F_L_town_163 k 4 2 3 (cellV sc 0) (nI i) q0 ((13 : Int32) + nI i) 2 T = some (.inl ((1 : Int32), nI (i + 1), Z')) ∧ TQ k sc O (1 + (i + 1)) Z' := by
      intro q0 hq
      have s1 : sJ2 2 ((13 : Int32) + nI i) q0 T = some (setV T (13 + i) q0) := by rw [show (13 : Int32) + nI i = nI (13 + i) from lx rfl]; exact sJ_v (by omega)
      have q1 : TQ k sc O (1 + i) (setV T (13 + i) q0) := a3.sv (by omega)
      have r1 : aJ2 2 ((13 : Int32) + nI i) (setV T (13 + i) q0) = some (nI (coldN (cellV sc 0) i)) := by rw [show (13 : Int32) + nI i = nI (13 + i) from lx rfl, aJ_v (by omega), sv_at, if_pos rfl, hq]
      obtain ⟨Z', p, t, _, _⟩ := q1.put hk (by omega) (c := (48 : Int32) + nI (coldN (cellV sc 0) i)) (cB_cold hi).symm
      refine ⟨Z', ?_, by rw [show 1 + (i + 1) = 1 + i + 1 by omega]; exact t⟩
      unfold F_L_town_163
      rw [s1, ob_some, r1, ob_some, p, ob_some, nI_1]
    have l4 : lowV (cellV sc 0 >>> (((8 : Int32) + ((4 : Int32) * nI i)) &&& 31)) (10 : Int32) = nI (lowN (cellV sc 0 >>> (((8 : Int32) + ((4 : Int32) * nI i)) &&& 31)) 10) := low_N _ (n := 10) (by decide) (by decide)
    have l5 : lowV (cellV sc 0 >>> (((8 : Int32) + ((4 : Int32) * nI i)) &&& 31)) (4 : Int32) = nI (lowN (cellV sc 0 >>> (((8 : Int32) + ((4 : Int32) * nI i)) &&& 31)) 4) := low_N _ (n := 4) (by decide) (by decide)
    by_cases c : ((cellV sc 0 >>> ((7 : Int32) &&& 31)) &&& (1 : Int32)) = 0
    · obtain ⟨Z', e, q⟩ := key (nI (lowN (cellV sc 0 >>> (((8 : Int32) + ((4 : Int32) * nI i)) &&& 31)) 10)) (by unfold coldN; rw [if_pos c])
      refine ⟨((1 : Int32), nI (i + 1), Z'), ?_, rfl, rfl, q⟩
      dsimp only
      rw [if_neg (show ¬ (4 : Int32) ≤ nI i from nI_ge (b := 4) hi (by decide)), if_neg (by decide), if_pos c, L_low z10, ob_some, l4]
      exact e
    · obtain ⟨Z', e, q⟩ := key (nI (lowN (cellV sc 0 >>> (((8 : Int32) + ((4 : Int32) * nI i)) &&& 31)) 4)) (by unfold coldN; rw [if_neg c])
      refine ⟨((1 : Int32), nI (i + 1), Z'), ?_, rfl, rfl, q⟩
      dsimp only
      rw [if_neg (show ¬ (4 : Int32) ≤ nI i from nI_ge (b := 4) hi (by decide)), if_neg (by decide), if_neg c, L_low z4, ob_some, l5]
      exact e
  · intro s ⟨a1, a2, a3⟩
    obtain ⟨s1, s2, T⟩ := s
    have a1 : s1 = 1 := a1
    have a2 : s2 = nI 4 := a2
    subst a1
    subst a2
    have a3 : TQ k sc O 5 T := a3
    have v17 : aJ2 2 (17 : Int32) T = some (nI (thN sc)) := (aJ_v (i := 17) (by decide)).trans (by rw [a3.2.2.2.2.1])
    obtain ⟨Z', p, t, _, _⟩ := a3.put hk (by omega) (c := (48 : Int32) + nI (thN sc)) cB_th.symm
    obtain ⟨⟨r, T2⟩, e, b0, b⟩ := L_town217 hk hL t
    have b0 : r = 1 := b0
    subst b0
    refine ⟨(1, T2), ?_, rfl, b⟩
    dsimp only
    unfold F_L_town_187 F_L_town_212
    rw [if_pos (show (4 : Int32) ≤ nI 4 from nI_le (a := 4) (Nat.le_refl _) (by decide)), if_neg (by decide), v17, ob_some, p, ob_some, if_neg ne10, e]
    rfl
theorem L_town (hk : K01 k) (hL : Z.2.2.2.2.1 ≤ 260) (hR : RC A0 (pk k Z)) (hD : Dr (pk k Z)) : ∃ Z', F_L_town k 4 6 2 3 Z = some (1, Z') ∧ RC (AT Z.2.2.2.2) (pk k Z') ∧ Dr (pk k Z') ∧ Z'.2.2.2.2 = Z.2.2.2.2 ∧ ot k Z' = ot k Z := by
  generalize hsc : Z.2.2.2.2 = sc at *
  generalize hO : ot k Z = O
  have hb := nbN_b (sc := sc)
  have hm : mN sc = 6 + 4 * nbN sc := rfl
  have hm30 := mN_b (sc := sc)
  have ec : F_L_cell 4 (0 : Int32) Z = some (cellV sc 0) := by rw [← hsc]; exact L_cell (by rw [hsc]; exact hL) (by decide)
  have key : ∃ t, F_L_town_10 k 4 6 2 3 (cellV sc 0) ((0 : Int32), Z) = some t ∧ (t.1 = 1 ∧ RC (AT sc) (pk k t.2) ∧ Dr (pk k t.2) ∧ t.2.2.2.2.2 = sc ∧ ot k t.2 = O) := by
    unfold F_L_town_10
    refine lp_inv (fun i (s : Int32 × Mem2) => s.1 = nI i ∧ (∀ a, a < i → s.2.2.2.1 a = 0) ∧ RC A0 (pk k s.2) ∧ Dr (pk k s.2) ∧ s.2.2.2.2.2 = sc ∧ ot k s.2 = O) 64 ?_ ?_ _ ⟨rfl, fun a ha => absurd ha (Nat.not_lt_zero a), hR, hD, hsc, hO⟩
    · intro i s hi ⟨a1, a2, a3, a4, a5, a6⟩
      obtain ⟨s1, T⟩ := s
      have a1 : s1 = nI i := a1
      subst a1
      refine ⟨(nI (i + 1), setU (setV T i 0) i 0), ?_, rfl, fun a ha => ?_, a3, a4, a5, a6⟩
      · dsimp only
        rw [if_neg (show ¬ (64 : Int32) ≤ nI i from nI_ge (b := 64) hi (by decide)), sJ_v hi, ob_some, sJ_u hi, ob_some, nI_1]
      · show (setV T i 0).2.2.1 a = 0
        rw [sv_at]
        by_cases q : a = i
        · rw [if_pos q]
        · rw [if_neg q]; exact a2 a (by omega)
    · intro s ⟨a1, a2, a3, a4, a5, a6⟩
      obtain ⟨s1, T⟩ := s
      have a1 : s1 = nI 64 := a1
      subst a1
      have a2 : ∀ a, a < 64 → T.2.2.1 a = 0 := a2
      have z6 : ¬ (6 : Int32) = 0 := by decide
      have z9 : ¬ (9 : Int32) = 0 := by decide
      have l1 : (1 : Int32) + lowV (cellV sc 0) (6 : Int32) = nI (nbN sc) := by
        rw [show lowV (cellV sc 0) (6 : Int32) = nI (lowN (cellV sc 0) 6) from low_N _ (n := 6) (by decide) (by decide)]
        exact lx rfl
      have l2 : (1 : Int32) + lowV (cellV sc 0 >>> ((3 : Int32) &&& 31)) (9 : Int32) = nI (thN sc) := by
        rw [show lowV (cellV sc 0 >>> ((3 : Int32) &&& 31)) (9 : Int32) = nI (lowN (cellV sc 0 >>> ((3 : Int32) &&& 31)) 9) from low_N _ (n := 9) (by decide) (by decide)]
        exact lx rfl
      have w0 : sJ2 2 (0 : Int32) (nI (nbN sc)) T = some (setV T 0 (nI (nbN sc))) := sJ_v (i := 0) (by decide)
      have w17 : sJ2 2 (17 : Int32) (nI (thN sc)) (setV T 0 (nI (nbN sc))) = some (setV (setV T 0 (nI (nbN sc))) 17 (nI (thN sc))) := sJ_v (i := 17) (by decide)
      generalize eT : setV (setV T 0 (nI (nbN sc))) 17 (nI (thN sc)) = T2 at w17
      have e0 : T2.2.2.1 0 = nI (nbN sc) := by rw [← eT, sv_at, if_neg (by decide), sv_at, if_pos rfl]
      have e17 : T2.2.2.1 17 = nI (thN sc) := by rw [← eT, sv_at, if_pos rfl]
      have e60 : T2.2.2.1 60 = nI 0 := by
        rw [← eT, sv_at, if_neg (by decide), sv_at, if_neg (by decide)]
        exact a2 60 (by decide)
      have p2 : pk k T2 = pk k T := by rw [← eT]; rfl
      have o2 : ot k T2 = ot k T := by rw [← eT]; rfl
      have s2 : T2.2.2.2.2 = sc := by rw [← eT]; exact a5
      have r0 : aJ2 2 (0 : Int32) T2 = some (nI (nbN sc)) := (aJ_v (i := 0) (by decide)).trans (by rw [e0])
      have em : (6 : Int32) + ((4 : Int32) * nI (nbN sc)) = nI (mN sc) := by
        rw [show (4 : Int32) * nI (nbN sc) = nI (4 * nbN sc) from pk_mul 4 (nbN sc)]
        exact lx rfl
      obtain ⟨σ1, g1, c1, d1⟩ := An.text (m := mN sc) (by omega) (pk k T2) (by rw [p2]; exact a3) (by rw [p2]; exact a4)
      have b1 : G_X8_text k 0 (nI (mN sc)) T2 = some (nI (mN sc), pt k T2 σ1) := onI_k hk g1
      have r2 : (pt k T2 σ1).2.2 = T2.2.2 := pt_rest hk
      have r0' : aJ2 2 (0 : Int32) (pt k T2 σ1) = some (nI (nbN sc)) := (aJ_v (i := 0) (by decide)).trans (by rw [r2, e0])
      have w00 : wS sc 0 = fun _ => 32 := funext fun i => if_neg (Nat.not_lt_zero i)
      have q0 : TQ k sc O 0 (pt k T2 σ1) := ⟨by rw [pk_pt hk, w00]; exact c1, by rw [pk_pt hk]; exact d1, by rw [r2]; exact e60, by rw [r2]; exact e0, by rw [r2]; exact e17, by rw [r2]; exact s2, by rw [ot_pt hk, o2]; exact a6⟩
      obtain ⟨Z', p, t, _, _⟩ := q0.put hk (by omega) (c := (110 : Int32)) cB_0.symm
      obtain ⟨⟨r, T3⟩, e, f0, f⟩ := L_town104 hk hL t
      have f0 : r = 1 := f0
      subst f0
      refine ⟨(1, T3), ?_, rfl, f⟩
      dsimp only
      unfold F_L_town_99
      rw [if_pos (show (64 : Int32) ≤ nI 64 from nI_le (a := 64) (Nat.le_refl _) (by decide)), L_low z6, ob_some, l1, w0, ob_some, L_low z9, ob_some, l2, w17, ob_some, r0, ob_some, ck2 hk, ob_some, em, b1, ob_some, r0', ob_some, em, if_pos rfl, p, ob_some, if_neg ne10, e]
      rfl
  obtain ⟨⟨r, T⟩, e, f0, f1, f2, f3, f4⟩ := key
  have f0 : r = 1 := f0
  subst f0
  refine ⟨T, ?_, f1, f2, f3, f4⟩
  unfold F_L_town
  rw [ec, ob_some, e]
end TOWN

theorem sim_round (x y : Int32) : Sim (F_X8_round 0 x y) (F_X9_round 134 x y) := by
  refine sim_of fun A hA => ?_
  obtain ⟨hnw, hn0⟩ := now_wf hA
  have h6 := hnw.1
  have d0 : (0 : Int64).toInt = 0 := rfl
  have d4 : (4 : Int64).toInt = 4 := rfl
  have t4 : ((4 : Int32) < x) ↔ 4 < x.toInt := by rw [Int32.lt_iff_toInt_lt]; rfl
  by_cases hx : 0 ≤ x.toInt ∧ x.toInt ≤ 4
  · obtain ⟨n, hn, rfl⟩ := nat_of hx.1
    have nx : ¬ nI n < 0 := fun q => by have := neg_iff.mp q; omega
    have nx4 : ¬ (4 : Int32) < nI n := fun q => by have := t4.mp q; omega
    have n4 : n ≤ 4 := by omega
    rcases ixc y (n := 6) (by decide) with hy | ⟨r, hr, rfl⟩
    · refine ⟨-1, A, hA, C_same fun σ h => ?_, M_same fun σ h => ?_⟩
      · unfold F_X8_round
        rw [if_neg nx, if_neg nx4, gR_0_0, ob_some, ck_1, ob_some, S_numno sf_1 hy, ob_some, if_pos rfl]
      · unfold F_X9_round
        rw [in_eq, wide, d0, d4, if_pos hx, ob_some, if_neg (by decide), row_no hy, ob_some, if_pos rfl]
    · by_cases hz : nowT A.2.2.2 0 = 0
      · refine ⟨-4, A, hA, C_same fun σ h => ?_, M_same fun σ h => ?_⟩
        · unfold F_X8_round
          rw [if_neg nx, if_neg nx4, gR_0_0, ob_some, ck_1, ob_some, S_num sf_1 hr, ob_some, if_neg (by decide), gR_0_4, ob_some, C_isT h.now, ob_some, hz, if_pos (show nI 0 = (0 : Int32) from rfl)]
        · unfold F_X9_round
          rw [in_eq, wide, d0, d4, if_pos hx, ob_some, if_neg (by decide), row_yes hr, ob_some, if_neg (by decide), M_isTown h.now h6, if_pos hz, ob_some, if_pos rfl]
      · obtain ⟨T, hT⟩ : ∃ T, nowT A.2.2.2 = T := ⟨_, rfl⟩
        obtain ⟨m, hm⟩ : ∃ m, m = T 0 + 1 := ⟨_, rfl⟩
        rw [hT] at hnw h6 hz
        have m0 : 0 < m := by omega
        have hp := pow74 (m := m) (n := n) (by omega) n4
        have hpp : 0 < m ^ n := Nat.pow_pos m0
        have hlt := fun k hk => fq_lt (m := m) (T := T) (n := n) (N := m ^ n) (s := (0, 0)) (a := 0) hpp (Nat.zero_le _) (fun C => (wf_runR hnw hm n C).2.2) k hk
        obtain ⟨R, hR⟩ : ∃ R, fq m T n (0, 0) 0 (m ^ n) = R := ⟨_, rfl⟩
        have hR1 := (hlt (m ^ n) (by omega)).1
        have hR2 := (hlt (m ^ n) (by omega)).2
        rw [hR] at hR1 hR2
        have hR3 : R.2 ≠ 0 := fun z => by
          have := (fq_max (m := m) (T := T) (n := n) (s := (0, 0)) (a := 0) (m ^ n)).2 0 (Nat.le_refl _) (by omega)
          rw [hR] at this
          omega
        have hR1' : R.1 < m ^ n := hR1
        have hR2' : R.2 ≤ 99 * n + 1 := hR2
        refine ⟨mvI R.2, rowA A r (some n) (fun k => rndV (dg m n R.1 k)), hA, fun σ h => ?_, fun σ h => ?_⟩
        · have hnow := h.now
          rw [hT] at hnow
          have fr0 : FrR 0 σ (setI σ 45 3 (-1 : Int32)) := FrR.set (Or.inl rfl) (by decide)
          have c0 : CT (setI σ 45 3 (-1 : Int32)) 18 T := hnow.kept (fun a b p q => fr0.1 a b (by omega))
          obtain ⟨σ1, e1, c1, f1⟩ := C_copyR (k := 0) (by decide) tw_18 (by decide) c0 h6
          have W1 : WR σ1 m n (0, 0) 0 0 := ⟨Nat.zero_le _, by rw [f1.1 _ _ (by decide), setI_1, if_pos ⟨rfl, rfl⟩]; rfl, Or.inl rfl, fun k hk => absurd hk (by omega)⟩
          obtain ⟨σ2, e2, w2, fr2⟩ := C_goOn hnw (by decide) hm n4 n 8 (by omega) 0 0 T 0 (0, 0) σ1 (Nat.zero_add n) rfl c1 W1
          rw [Nat.zero_mul, hR] at w2
          obtain ⟨y1, y2, y3, y4⟩ := w2
          have y3' := y3.resolve_left hR3
          have e1' : F_X2_copyAt 46 (0 : Int32) 18 (setI σ 45 3 (-1 : Int32)) = some (some (lvR 0), σ1) := e1
          have e2' : F_X5_goOn 8 45 (some (lvR 0)) (0 : Int32) (nI n) (0 : Int32) σ1 = some σ2 := e2
          have fo := (fr0.tr ((f1.r (Nat.le_refl _) (by decide)).tr fr2)).o
          obtain ⟨h2, f2⟩ := h.side fo
          obtain ⟨σ3, e3, m1, m2, m3⟩ := S_makeOf (n := n) (src := 88) sf_1 hr h2.1.1 (by omega) (by decide) sh_88 (by omega) (by decide) (by decide)
          obtain ⟨h3, f3⟩ := h2.putR (f := fun k => rndV (dg m n R.1 k)) hr (by omega) m1 (fun i hi => (m2 i hi).trans (y3' i hi)) m3
          refine ⟨σ3, ?_, h3, f2.tr f3⟩
          unfold F_X8_round F_X5_mostFound
          rw [if_neg nx, if_neg nx4, gR_0_0, ob_some, ck_1, ob_some, S_num sf_1 hr, ob_some, if_neg (by decide), gR_0_4, ob_some, C_isT hnow, ob_some, if_neg (nI_ne0 (by omega) (by omega)), gR_0_9, ob_some, ob_some, ck_45, ob_some, pI_45_3, ob_some, gR_45_0, ob_some, ck_46, ob_some, e1', ob_some]
          dsimp only
          rw [e2', ob_some, gI_45_3, ob_some, ob_some, y2, ob_some, ob_some, gR_45_1, ob_some, ck_1, ob_some, e3, ob_some]
        · have hnow := h.now
          rw [hT] at hnow
          have em : nI (T 0) + (1 : Int32) = nI m := by rw [nI_1, hm]
          have k68 : ∃ σ', F_X9_round_68 134 (nI n) (nI r) (nI (m ^ n)) ((0 : Int32), (-1 : Int32), (0 : Int32), σ) = some (mvI R.2, σ') ∧ RM (rowA A r (some n) (fun k => rndV (dg m n R.1 k))) σ' ∧ FM σ σ' := by
            have key : ∃ t, F_X9_round_68 134 (nI n) (nI r) (nI (m ^ n)) ((0 : Int32), (-1 : Int32), (0 : Int32), σ) = some t ∧ ∃ σ', t = (mvI R.2, σ') ∧ RM (rowA A r (some n) (fun k => rndV (dg m n R.1 k))) σ' ∧ FM σ σ' := by
              unfold F_X9_round_68
              refine lp_inv (fun C (u : Int32 × Int32 × Int32 × Mem) => u.1 = nI (fq m T n (0, 0) 0 C).1 ∧ u.2.1 = mvI (fq m T n (0, 0) 0 C).2 ∧ u.2.2.1 = nI C ∧ FrM 7260 σ u.2.2.2) (m ^ n) ?_ ?_ _ ⟨rfl, mvI_0.symm, rfl, FrM.rf⟩
              · intro C u hC ⟨a1, a2, a3, a4⟩
                have hu : MT u.2.2.2 0 T := hnow.kept (fun b _ _ => a4.1 _ _ (by omega))
                have hb := (hlt C (by omega)).2
                obtain ⟨σ', e, f⟩ := M_rcode (x2 := nI r) (x3 := nI (m ^ n)) (C := C) (s := fq m T n (0, 0) 0 C) hu hnw (by decide) hm n4 hC hp (by omega)
                obtain ⟨s', hs'⟩ : ∃ s', stq m T n (fq m T n (0, 0) 0 C) C = s' := ⟨_, rfl⟩
                have eS : fq m T n (0, 0) 0 (C + 1) = s' := by
                  rw [← hs']
                  show stq m T n (fq m T n (0, 0) 0 C) (0 + C) = _
                  rw [Nat.zero_add]
                rw [hs'] at e
                obtain ⟨z, hz2⟩ : ∃ z, mvI s'.2 = z := ⟨_, rfl⟩
                rw [hz2] at e
                rw [a1, a2, a3, if_neg (nI_ge hC (by omega)), e, eS]
                exact ⟨(nI s'.1, z, nI (C + 1), σ'), rfl, rfl, hz2.symm, rfl, a4.tr f⟩
              · intro u ⟨a1, a2, a3, a4⟩
                rw [hR] at a1 a2
                obtain ⟨h2, f2⟩ := h.side hA (a4.n (by decide))
                obtain ⟨σ', e, h3, f3⟩ := M_rdig (A := A) (m := m) (C := R.1) (x := mvI R.2) hA (by rw [hT]; exact hm) n4 (by omega) hr u.2.2.2 h2
                refine ⟨(mvI R.2, σ'), ?_, σ', rfl, h3, f2.tr f3⟩
                rw [a1, a2, a3, if_pos (nI_le (Nat.le_refl _) (by omega))]
                exact e
            obtain ⟨t, e, σ', rfl, k⟩ := key
            exact ⟨σ', e, k⟩
          obtain ⟨σ', e, h2, f2⟩ := k68
          refine ⟨σ', ?_, h2, f2⟩
          have k36 : F_X9_round_36 134 (nI n) (nI r) σ ((1 : Int32), (0 : Int32)) = some (mvI R.2, σ') := by
            have key : ∃ t, F_X9_round_36 134 (nI n) (nI r) σ ((1 : Int32), (0 : Int32)) = some t ∧ t = (mvI R.2, σ') := by
              unfold F_X9_round_36
              refine lp_inv (Q := fun t : Int32 × Mem => t = (mvI R.2, σ')) (fun k (u : Int32 × Int32) => u.2 = nI k ∧ u.1 = nI (m ^ k)) n ?_ ?_ _ ⟨rfl, rfl⟩
              · intro k u hk ⟨a1, a2⟩
                refine ⟨(nI (m ^ (k + 1)), nI (k + 1)), ?_, rfl, rfl⟩
                rw [a1, a2, if_neg (nI_ge hk (by omega)), wR, ob_some, M_r0 hnow, ob_some, em, pk_mul, Nat.pow_succ, nI_1]
              · intro u ⟨a1, a2⟩
                exact ⟨_, by rw [a1, a2, if_pos (nI_le (Nat.le_refl _) (by omega)), e]; rfl, rfl⟩
            obtain ⟨t, e2, rfl⟩ := key
            exact e2
          unfold F_X9_round
          rw [in_eq, wide, d0, d4, if_pos hx, ob_some, if_neg (by decide), row_yes hr, ob_some, if_neg (by decide), M_isTown hnow h6, if_neg hz, ob_some, if_neg (by decide), k36]
  · refine ⟨-1, A, hA, C_same fun σ h => ?_, M_same fun σ h => ?_⟩
    · unfold F_X8_round
      by_cases q : x < 0
      · rw [if_pos q]
      · have q' : ¬ x.toInt < 0 := fun z => q (neg_iff.mpr z)
        rw [if_neg q, if_pos (t4.mpr (by omega))]
    · unfold F_X9_round
      rw [in_eq, wide, d0, d4, if_neg hx, ob_some, if_pos rfl]

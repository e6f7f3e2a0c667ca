theorem sim_brings (x : Int32) : Sim (F_X8_brings 0 x) (F_X9_brings 134 x) := by
  refine sim_of fun A hA => ?_
  obtain ⟨hnw, hn0⟩ := now_wf hA
  have h6 := hnw.1
  rcases ixc x (n := 6) (by decide) with hx | ⟨r, hr, rfl⟩
  · refine ⟨-1, A, hA, C_same fun σ h => ?_, M_same fun σ h => ?_⟩
    · unfold F_X8_brings
      rw [gR_0_0, ob_some, ck_1, ob_some, S_numno sf_1 hx, ob_some, if_pos rfl]
    · unfold F_X9_brings
      rw [row_no hx, ob_some, if_pos rfl]
  · by_cases hz : nowT A.2.2.2 0 = 0
    · refine ⟨-4, A, hA, C_same fun σ h => ?_, M_same fun σ h => ?_⟩
      · unfold F_X8_brings
        rw [gR_0_0, ob_some, ck_1, ob_some, S_num sf_1 hr, ob_some, if_neg (by decide), gR_0_4, ob_some, C_isT h.now, ob_some, hz, if_pos (show nI 0 = (0 : Int32) from rfl)]
      · unfold F_X9_brings
        rw [row_yes hr, ob_some, if_neg (by decide), M_isTown h.now h6, if_pos hz, ob_some, if_pos rfl]
    · have nz0 : ¬ nI (nowT A.2.2.2 0) = (0 : Int32) := nI_ne0 (by omega) (by omega)
      cases hs : A.1.1 r with
      | none =>
        refine ⟨-3, foundA A 1, hA, fun σ h => ?_, fun σ h => ?_⟩
        · obtain ⟨σ', e, h1, h2⟩ := C_refuse (A := A) (f := 1) (by decide) σ h
          have e' : F_X8_refuse 0 (1 : Int32) σ = some (-3, σ') := e
          refine ⟨σ', ?_, h1, h2⟩
          have es : F_X6_stands 1 (nI r) σ = some 0 := by rw [S_stands sf_1 hr, h.1.no hr hs, if_pos (show (-1 : Int32) < 0 by decide)]
          unfold F_X8_brings
          rw [gR_0_0, ob_some, ck_1, ob_some, S_num sf_1 hr, ob_some, if_neg (by decide), gR_0_4, ob_some, C_isT h.now, ob_some, if_neg nz0, ob_some, ck_1, ob_some, es, ob_some, if_pos rfl, e', ob_some]
        · obtain ⟨σ', e, h1, h2⟩ := M_found (A := A) (f := 1) (by decide) σ h
          have e' : F_X9_found 134 (1 : Int32) σ = some (-3, σ') := e
          refine ⟨σ', ?_, h1, h2⟩
          unfold F_X9_brings
          rw [row_yes hr, ob_some, if_neg (by decide), M_isTown h.now h6, if_neg hz, ob_some, if_neg (by decide), gR_134_4, ob_some, aI_eq sh_138 hr (by decide), ob_some, h.1.no hr hs, if_neg nm1, e', ob_some]
      | some n =>
        rcases Nat.lt_or_ge 40 n with hbig | hsm
        · exact ⟨-1, A, hA, fun σ h => absurd (h.1.row hr hs).1 (by omega), fun σ h => absurd (h.1.row hr hs).1 (by omega)⟩
        have g0 : (0 : Int32) ≤ nI n := nI_pos' (by omega)
        have sC : ∀ σ, RC A σ → F_X6_stands 1 (nI r) σ = some 1 := fun σ h => by
          rw [S_stands sf_1 hr, (h.1.row hr hs).2.1, if_neg (nI_pos (by omega))]
        by_cases h10 : n ≤ 10
        · have l10 : nI n ≤ (10 : Int32) := nI_le (b := 10) h10 (by decide)
          by_cases hg : ∀ j, j < n → gdB (nowT A.2.2.2) (A.1.2 r) j
          · obtain ⟨N, V, kC, kM⟩ : ∃ N V, (∀ σ, RC A σ → ∃ σ', (F_X7_copyFrom 26 18 σ).bind (fun q65 => F_X8_brings_91 0 (nI r) ((0 : Int32), (0 : Int32), q65)) = some (nI N, σ') ∧ RC (toldA A V) σ' ∧ FC σ σ') ∧ ∀ σ, RM A σ → ∃ σ', (F_X9_tries 134 σ).bind (fun q6 => F_X9_brings_117 134 (nI r) ((0 : Int32), (0 : Int32), q6)) = some (nI N, σ') ∧ RM (toldA A V) σ' ∧ FM σ σ' := ⟨_, _, C_bringsL hA hr hs h10 hg, M_bringsL hA hr hs h10 hg⟩
            refine ⟨nI N, toldA A V, hA, fun σ h => ?_, fun σ h => ?_⟩
            · obtain ⟨σ', e, h1, h2⟩ := kC σ h
              refine ⟨σ', ?_, h1, h2⟩
              unfold F_X8_brings
              rw [gR_0_0, ob_some, ck_1, ob_some, S_num sf_1 hr, ob_some, if_neg (by decide), gR_0_4, ob_some, C_isT h.now, ob_some, if_neg nz0, ob_some, ck_1, ob_some, sC σ h, ob_some, if_neg (by decide), ob_some, ck_1, ob_some, S_size sf_1 hr, (h.1.row hr hs).2.1, ob_some, if_pos l10, (C_isRound hA h hr hs).1 hg, ob_some, if_neg (by decide), gR_0_5, ob_some, ob_some, tC tw_26, ob_some]
              exact e
            · obtain ⟨σ', e, h1, h2⟩ := kM σ h
              obtain ⟨hn, g1, g2⟩ := h.1.row hr hs
              refine ⟨σ', ?_, h1, h2⟩
              have k53 : F_X9_brings_53 134 (nI r) σ (0 : Int32) = some (nI N, σ') := by
                have key : ∃ t, F_X9_brings_53 134 (nI r) σ (0 : Int32) = some t ∧ t = (nI N, σ') := by
                  unfold F_X9_brings_53
                  refine lp_inv (Q := fun t : Int32 × Mem => t = (nI N, σ')) (fun j (s : Int32) => s = nI j) n ?_ ?_ _ rfl
                  · intro j s hj a1
                    refine ⟨nI (j + 1), ?_, rfl⟩
                    rw [a1, gR_134_4, ob_some, aI_eq sh_138 hr (by decide), ob_some, g1, if_neg (nI_ge hj (by omega)), gR_134_3, ob_some, ix40, aI_eq sh_137 (by omega) (by decide), ob_some, g2 j hj]
                    rcases hg j hj with q | ⟨i, hi, q⟩
                    · rw [if_pos q, nI_1]
                    · rw [q, if_neg (nI_n9 (by omega)), ob_some, aI_eq sh_137 (by omega) (by decide), ob_some, g2 j hj, q, M_bed h.now h6 hi, ob_some, if_neg (by decide), nI_1]
                  · intro s a1
                    refine ⟨_, ?_, rfl⟩
                    rw [a1, gR_134_4, ob_some, aI_eq sh_138 hr (by decide), ob_some, g1, if_pos (nI_le (Nat.le_refl _) (by omega))]
                    cases e1 : F_X9_tries 134 σ with
                    | none => rw [e1] at e; cases e
                    | some q =>
                      rw [e1, ob_some] at e
                      rw [ob_some, e]
                      rfl
                obtain ⟨t, e2, rfl⟩ := key
                exact e2
              unfold F_X9_brings
              rw [row_yes hr, ob_some, if_neg (by decide), M_isTown h.now h6, if_neg hz, ob_some, if_neg (by decide), gR_134_4, ob_some, aI_eq sh_138 hr (by decide), ob_some, g1, if_pos g0, ob_some, aI_eq sh_138 hr (by decide), ob_some, g1, if_pos l10, k53]
          · refine ⟨-3, foundA A 3, hA, fun σ h => ?_, fun σ h => ?_⟩
            · obtain ⟨σ', e, h1, h2⟩ := C_refuse (A := A) (f := 3) (by decide) σ h
              have e' : F_X8_refuse 0 (3 : Int32) σ = some (-3, σ') := e
              refine ⟨σ', ?_, h1, h2⟩
              unfold F_X8_brings
              rw [gR_0_0, ob_some, ck_1, ob_some, S_num sf_1 hr, ob_some, if_neg (by decide), gR_0_4, ob_some, C_isT h.now, ob_some, if_neg nz0, ob_some, ck_1, ob_some, sC σ h, ob_some, if_neg (by decide), ob_some, ck_1, ob_some, S_size sf_1 hr, (h.1.row hr hs).2.1, ob_some, if_pos l10, (C_isRound hA h hr hs).2 hg, ob_some, if_pos rfl, e', ob_some]
            · obtain ⟨σ', e, h1, h2⟩ := M_found (A := A) (f := 3) (by decide) σ h
              have e' : F_X9_found 134 (3 : Int32) σ = some (-3, σ') := e
              obtain ⟨hn, g1, g2⟩ := h.1.row hr hs
              refine ⟨σ', ?_, h1, h2⟩
              have k53 : F_X9_brings_53 134 (nI r) σ (0 : Int32) = some (-3, σ') := by
                have key : ∃ t, F_X9_brings_53 134 (nI r) σ (0 : Int32) = some t ∧ t = (-3, σ') := by
                  unfold F_X9_brings_53
                  refine lp_inv2 (Q := fun t : Int32 × Mem => t = (-3, σ')) (fun j (s : Int32) => s = nI j ∧ ∀ k, k < j → gdB (nowT A.2.2.2) (A.1.2 r) k) n ?_ ?_ _ ⟨rfl, fun k hk => absurd hk (by omega)⟩
                  · intro j s hj ⟨a1, a2⟩
                    have nxt : gdB (nowT A.2.2.2) (A.1.2 r) j → ∀ k, k < j + 1 → gdB (nowT A.2.2.2) (A.1.2 r) k := fun q k hk => by
                      by_cases y : k = j
                      · rw [y]; exact q
                      · exact a2 k (by omega)
                    rw [a1, gR_134_4, ob_some, aI_eq sh_138 hr (by decide), ob_some, g1, if_neg (nI_ge hj (by omega)), gR_134_3, ob_some, ix40, aI_eq sh_137 (by omega) (by decide), ob_some, g2 j hj]
                    by_cases q : A.1.2 r j = -9
                    · rw [if_pos q, nI_1]
                      exact Or.inl ⟨_, rfl, rfl, nxt (Or.inl q)⟩
                    · rw [if_neg q, ob_some, aI_eq sh_137 (by omega) (by decide), ob_some, g2 j hj]
                      rcases ixc (A.1.2 r j) (n := nowT A.2.2.2 0) (by omega) with hx | ⟨i, hi, q2⟩
                      · rw [M_bedno h.now h6 hx, ob_some, if_pos rfl, e', ob_some]
                        exact Or.inr ⟨_, rfl, rfl⟩
                      · rw [q2, M_bed h.now h6 hi, ob_some, if_neg (by decide), nI_1]
                        exact Or.inl ⟨_, rfl, rfl, nxt (Or.inr ⟨i, hi, q2⟩)⟩
                  · intro s ⟨a1, a2⟩
                    exact absurd a2 hg
                obtain ⟨t, e2, rfl⟩ := key
                exact e2
              unfold F_X9_brings
              rw [row_yes hr, ob_some, if_neg (by decide), M_isTown h.now h6, if_neg hz, ob_some, if_neg (by decide), gR_134_4, ob_some, aI_eq sh_138 hr (by decide), ob_some, g1, if_pos g0, ob_some, aI_eq sh_138 hr (by decide), ob_some, g1, if_pos l10, k53]
        · have l10 : ¬ nI n ≤ (10 : Int32) := nI_ge (a := 10) (by omega) (by omega)
          refine ⟨-3, foundA A 5, hA, fun σ h => ?_, fun σ h => ?_⟩
          · obtain ⟨σ', e, h1, h2⟩ := C_refuse (A := A) (f := 5) (by decide) σ h
            have e' : F_X8_refuse 0 (5 : Int32) σ = some (-3, σ') := e
            refine ⟨σ', ?_, h1, h2⟩
            unfold F_X8_brings
            rw [gR_0_0, ob_some, ck_1, ob_some, S_num sf_1 hr, ob_some, if_neg (by decide), gR_0_4, ob_some, C_isT h.now, ob_some, if_neg nz0, ob_some, ck_1, ob_some, sC σ h, ob_some, if_neg (by decide), ob_some, ck_1, ob_some, S_size sf_1 hr, (h.1.row hr hs).2.1, ob_some, if_neg l10, e', ob_some]
          · obtain ⟨σ', e, h1, h2⟩ := M_found (A := A) (f := 5) (by decide) σ h
            have e' : F_X9_found 134 (5 : Int32) σ = some (-3, σ') := e
            obtain ⟨hn, g1, g2⟩ := h.1.row hr hs
            refine ⟨σ', ?_, h1, h2⟩
            unfold F_X9_brings
            rw [row_yes hr, ob_some, if_neg (by decide), M_isTown h.now h6, if_neg hz, ob_some, if_neg (by decide), gR_134_4, ob_some, aI_eq sh_138 hr (by decide), ob_some, g1, if_pos g0, ob_some, aI_eq sh_138 hr (by decide), ob_some, g1, if_neg l10, e', ob_some]

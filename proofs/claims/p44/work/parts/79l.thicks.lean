theorem sim_thicks (x y : Int32) : Sim (F_X8_thicks 0 x y) (F_X9_thicks 134 x y) := by
  refine sim_of fun A hA => ?_
  obtain ⟨hnw, hn0⟩ := now_wf hA
  have h6 := hnw.1
  rcases pairs_of hA x y with ⟨r, A', hr, hA', hC, hM⟩ | ⟨i, r, n, rfl, hi, rfl, hr, hs, hn, he, hg, hC, hM⟩
  · refine ⟨r, A', hA', fun σ h => ?_, hM (fun σ' => F_X9_thicks_35 134 x y σ' ((0 : Int32), (0 : Int32)))⟩
    obtain ⟨σ', e, h1, h2⟩ := hC σ h
    exact ⟨σ', by unfold F_X8_thicks; rw [e, ob_some, if_neg hr], h1, h2⟩
  · generalize hT : nowT A.2.2.2 = T at *
    have b := hnw.2.2.1 i hi
    refine ⟨bitI (fun th => fitP T i (T (3 + i)) th (A.1.2 r) (n / 2)) 10, A, hA, fun σ h => ?_, M_same fun σ h => ?_⟩
    · obtain ⟨σ', e, h1, fr, hP⟩ := hC σ h
      have hnow := h1.now
      rw [hT] at hnow
      refine ⟨σ', ?_, (h.side fr).1, (h.side fr).2⟩
      unfold F_X8_thicks
      rw [e, ob_some, if_pos rfl, gR_0_11, ob_some, gR_0_4, ob_some, ob_some, tC tw_18, ob_some, C_kind tw_18 hnow hnw hi, ob_some, ck_93, ob_some, C_thicksF hnow hnw hi hP (by omega) b.1, ob_some]
    · have hnow := h.now
      rw [hT] at hnow
      obtain ⟨_, g1, g2⟩ := h.1.row hr hs
      refine (hM (fun σ' => F_X9_thicks_35 134 (nI i) (nI r) σ' ((0 : Int32), (0 : Int32))) σ h).trans ?_
      have v3 := hnow (3 + i) (by omega)
      rw [Nat.zero_add] at v3
      have key : ∃ t, F_X9_thicks_35 134 (nI i) (nI r) σ ((0 : Int32), (0 : Int32)) = some t ∧ t = (bitI (fun th => fitP T i (T (3 + i)) th (A.1.2 r) (n / 2)) 10, σ) := by
        unfold F_X9_thicks_35
        refine lp_inv (fun j (s : Int32 × Int32) => s.2 = nI j ∧ s.1 = bitI (fun th => fitP T i (T (3 + i)) th (A.1.2 r) (n / 2)) j) 10 ?_ ?_ _ ⟨rfl, rfl⟩
        · intro j s hj ⟨a1, a2⟩
          refine ⟨(bitI (fun th => fitP T i (T (3 + i)) th (A.1.2 r) (n / 2)) (j + 1), nI (j + 1)), ?_, rfl, rfl⟩
          rw [a1, a2, if_neg (show ¬ (10 : Int32) ≤ nI j from nI_ge (b := 10) hj (by decide)), wR, ob_some, show (3 : Int32) + nI i = nI (3 + i) from lx rfl, w_rd (by omega), ob_some, v3, M_so hnow hnw hi hr hn he g1 g2 hg b.1 (by omega), ob_some]
          unfold F_X9_thicks_71
          by_cases q : fitP T i (T (3 + i)) j (A.1.2 r) (n / 2)
          · rw [if_pos q, if_neg (by decide), nI_1]
            show _ = some (Sum.inl (_ ||| (if fitP T i (T (3 + i)) j (A.1.2 r) (n / 2) then _ else _), _))
            rw [if_pos q]
          · rw [if_neg q, if_pos rfl, nI_1]
            show _ = some (Sum.inl (_ ||| (if fitP T i (T (3 + i)) j (A.1.2 r) (n / 2) then _ else _), _))
            rw [if_neg q]
        · intro s ⟨a1, a2⟩
          exact ⟨(s.1, σ), by rw [a1, if_pos (show (10 : Int32) ≤ nI 10 by decide)], by rw [a2]⟩
      obtain ⟨t, e, rfl⟩ := key
      exact e
theorem sim_kinds (x y : Int32) : Sim (F_X8_kinds 0 x y) (F_X9_kinds 134 x y) := by
  refine sim_of fun A hA => ?_
  obtain ⟨hnw, hn0⟩ := now_wf hA
  have h6 := hnw.1
  rcases pairs_of hA x y with ⟨r, A', hr, hA', hC, hM⟩ | ⟨i, r, n, rfl, hi, rfl, hr, hs, hn, he, hg, hC, hM⟩
  · refine ⟨r, A', hA', fun σ h => ?_, hM (fun σ' => F_X9_kinds_35 134 x y σ' ((0 : Int32), (0 : Int32)))⟩
    obtain ⟨σ', e, h1, h2⟩ := hC σ h
    exact ⟨σ', by unfold F_X8_kinds; rw [e, ob_some, if_neg hr], h1, h2⟩
  · generalize hT : nowT A.2.2.2 = T at *
    have b := hnw.2.2.1 i hi
    refine ⟨bitI (fun kd => fitP T i kd (T (21 + i)) (A.1.2 r) (n / 2)) 6, A, hA, fun σ h => ?_, M_same fun σ h => ?_⟩
    · obtain ⟨σ', e, h1, fr, hP⟩ := hC σ h
      have hnow := h1.now
      rw [hT] at hnow
      refine ⟨σ', ?_, (h.side fr).1, (h.side fr).2⟩
      unfold F_X8_kinds
      rw [e, ob_some, if_pos rfl, gR_0_11, ob_some, gR_0_4, ob_some, ob_some, tC tw_18, ob_some, C_thick tw_18 hnow hnw hi, ob_some, ck_93, ob_some, C_kindsF hnow hnw hi hP (by omega) b.2.2.2.1, ob_some]
    · have hnow := h.now
      rw [hT] at hnow
      obtain ⟨_, g1, g2⟩ := h.1.row hr hs
      refine (hM (fun σ' => F_X9_kinds_35 134 (nI i) (nI r) σ' ((0 : Int32), (0 : Int32))) σ h).trans ?_
      have v3 := hnow (21 + i) (by omega)
      rw [Nat.zero_add] at v3
      have key : ∃ t, F_X9_kinds_35 134 (nI i) (nI r) σ ((0 : Int32), (0 : Int32)) = some t ∧ t = (bitI (fun kd => fitP T i kd (T (21 + i)) (A.1.2 r) (n / 2)) 6, σ) := by
        unfold F_X9_kinds_35
        refine lp_inv (fun j (s : Int32 × Int32) => s.2 = nI j ∧ s.1 = bitI (fun kd => fitP T i kd (T (21 + i)) (A.1.2 r) (n / 2)) j) 6 ?_ ?_ _ ⟨rfl, rfl⟩
        · intro j s hj ⟨a1, a2⟩
          have hz : ¬ (5 : Int32) < nI j := fun z => by
            have := (nI_ltI (a := 5) (b := j) (by decide) (by omega)).mp z
            omega
          refine ⟨(bitI (fun kd => fitP T i kd (T (21 + i)) (A.1.2 r) (n / 2)) (j + 1), nI (j + 1)), ?_, rfl, rfl⟩
          rw [a1, a2, if_neg hz, wR, ob_some, show (21 : Int32) + nI i = nI (21 + i) from lx rfl, w_rd (by omega), ob_some, v3, M_so hnow hnw hi hr hn he g1 g2 hg (by omega) b.2.2.2.1, ob_some]
          unfold F_X9_kinds_71
          by_cases q : fitP T i j (T (21 + i)) (A.1.2 r) (n / 2)
          · rw [if_pos q, if_neg (by decide), nI_1]
            show _ = some (Sum.inl (_ ||| (if fitP T i j (T (21 + i)) (A.1.2 r) (n / 2) then _ else _), _))
            rw [if_pos q]
          · rw [if_neg q, if_pos rfl, nI_1]
            show _ = some (Sum.inl (_ ||| (if fitP T i j (T (21 + i)) (A.1.2 r) (n / 2) then _ else _), _))
            rw [if_neg q]
        · intro s ⟨a1, a2⟩
          exact ⟨(s.1, σ), by rw [a1, if_pos (show (5 : Int32) < nI 6 by decide)], by rw [a2]⟩
      obtain ⟨t, e, rfl⟩ := key
      exact e

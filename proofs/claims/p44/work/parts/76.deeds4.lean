/-! ===== thin, swap ===== -/
theorem lx {a b : Nat} {x : Int32} (h : x = nI a) : x + nI b = nI (a + b) := by rw [h, nI_add]
theorem sim_thin (x : Int32) : Sim (F_X8_thin 0 x) (F_X9_thin 134 x) := by
  refine sim_of fun A hA => ?_
  obtain ⟨hnw, hn0⟩ := now_wf hA
  have h6 := hnw.1
  rcases ixc x (n := nowT A.2.2.2 0) (by omega) with hx | ⟨i, hi, rfl⟩
  · refine ⟨-1, A, hA, C_same fun σ h => ?_, M_same fun σ h => ?_⟩
    · unfold F_X8_thin
      rw [gR_0_4, ob_some, tC tw_18, ob_some, C_hasno tw_18 h.now hx, ob_some, if_pos rfl]
    · unfold F_X9_thin
      rw [M_bedno h.now h6 hx, ob_some, if_pos rfl]
  · have b := hnw.2.2.1 i hi
    have ea : (21 : Int32) + nI i = nI (21 + i) := lx rfl
    by_cases hz : nowT A.2.2.2 (21 + i) = 0
    · refine ⟨-4, A, hA, C_same fun σ h => ?_, M_same fun σ h => ?_⟩
      · unfold F_X8_thin
        rw [gR_0_4, ob_some, tC tw_18, ob_some, C_has tw_18 h.now hnw hi, ob_some, if_neg (by decide), ob_some, tC tw_18, ob_some, C_thick tw_18 h.now hnw hi, ob_some, hz, if_pos (show nI 0 = (0 : Int32) from rfl)]
      · have hv := h.now (21 + i) (by omega)
        rw [Nat.zero_add, hz] at hv
        unfold F_X9_thin
        rw [M_bed h.now h6 hi, ob_some, if_neg (by decide), wR, ob_some, ea, w_rd (by omega), ob_some, hv, if_pos (show nI 0 = (0 : Int32) from rfl)]
    · have e0 : ¬ nI (nowT A.2.2.2 (21 + i)) = (0 : Int32) := nI_ne0 (by omega) (by omega)
      by_cases h40 : A.2.2.2.2.1 < 40
      · have hc : okD (A.2.2.2.1 0) (200 + 10 * i) := Or.inr (Or.inl ⟨i, by omega, Or.inr rfl⟩)
        refine ⟨nI (nowT A.2.2.2 (21 + i) - 1), deA A (pushD A.2.2.2 (200 + 10 * i)), push_ok hA h40 hc, fun σ h => ?_, fun σ h => ?_⟩
        · obtain ⟨σ', e, h1, h2⟩ := C_enact (w := 2) (i := i) (j := 0) hA h40 hc (by omega) σ h
          rw [an_thin (by omega)] at e
          refine ⟨σ', ?_, h1, h2⟩
          have e40 : (nI A.2.2.2.2.1 < (40 : Int32)) := nI_lt (b := 40) h40 (by decide)
          have e' : F_X8_enact 0 (2 : Int32) (nI i) (0 : Int32) σ = some (nI (nowT A.2.2.2 (21 + i) - 1), σ') := e
          unfold F_X8_thin
          rw [gR_0_4, ob_some, tC tw_18, ob_some, C_has tw_18 h.now hnw hi, ob_some, if_neg (by decide), ob_some, tC tw_18, ob_some, C_thick tw_18 h.now hnw hi, ob_some, if_neg e0, gI_0_7, ob_some, h.dc, if_pos e40, e', ob_some]
        · obtain ⟨σ1, f1, m1, m2, m3, m4⟩ := M_minds h.dc h40
          have t0 : MT σ1 0 (nowT A.2.2.2) := h.2.2.2.1.kept (fun b p1 p2 => m3 _ _ (by omega) (by omega))
          have hv := h.now (21 + i) (by omega)
          have hv1 := t0 (21 + i) (by omega)
          rw [Nat.zero_add] at hv hv1
          have g1 : MT (setI σ1 135 (0 + (21 + i)) (nI (nowT A.2.2.2 (21 + i) - 1))) 0 (applyD (nowT A.2.2.2) (200 + 10 * i)) := by
            rw [ap_thin (by omega)]; exact t0.set
          obtain ⟨k1, k2⟩ := M_push2 h h40 m1 m2 m3 m4 g1 (FrM.set (by omega))
          refine ⟨_, ?_, k1, k2⟩
          have e40 : ¬ (nI A.2.2.2.2.1 = (40 : Int32)) := fun z => by
            have := (nI_eq (a := A.2.2.2.2.1) (b := 40) (by omega) (by decide)).mp z
            omega
          have es : nI (nowT A.2.2.2 (21 + i)) - (1 : Int32) = nI (nowT A.2.2.2 (21 + i) - 1) := pk_sub (a := nowT A.2.2.2 (21 + i)) (b := 1) (by omega)
          unfold F_X9_thin
          rw [M_bed h.now h6 hi, ob_some, if_neg (by decide), wR, ob_some, ea, w_rd (by omega), ob_some, hv, if_neg e0, gI_134_1, ob_some, h.dc, if_neg e40, f1, ob_some, ob_some, w_rd (by omega), ob_some, hv1, es, w_wr (by omega), ob_some, ob_some, w_rd (by omega), ob_some, setI_1, if_pos ⟨rfl, rfl⟩, Nat.zero_add]
      · have h40' : A.2.2.2.2.1 = 40 := by have := hA.2.1; omega
        refine ⟨-2, A, hA, C_same fun σ h => ?_, M_same fun σ h => ?_⟩
        · unfold F_X8_thin
          rw [gR_0_4, ob_some, tC tw_18, ob_some, C_has tw_18 h.now hnw hi, ob_some, if_neg (by decide), ob_some, tC tw_18, ob_some, C_thick tw_18 h.now hnw hi, ob_some, if_neg e0, gI_0_7, ob_some, h.dc, h40', if_neg (by decide)]
        · have hv := h.now (21 + i) (by omega)
          rw [Nat.zero_add] at hv
          unfold F_X9_thin
          rw [M_bed h.now h6 hi, ob_some, if_neg (by decide), wR, ob_some, ea, w_rd (by omega), ob_some, hv, if_neg e0, gI_134_1, ob_some, h.dc, h40', if_pos (by decide)]
theorem sim_swap (x y : Int32) : Sim (F_X8_swap 0 x y) (F_X9_swap 134 x y) := by
  refine sim_of fun A hA => ?_
  obtain ⟨hnw, hn0⟩ := now_wf hA
  have h6 := hnw.1
  rcases ixc x (n := nowT A.2.2.2 0) (by omega) with hx | ⟨i, hi, rfl⟩
  · refine ⟨-1, A, hA, C_same fun σ h => ?_, M_same fun σ h => ?_⟩
    · unfold F_X8_swap
      rw [gR_0_4, ob_some, tC tw_18, ob_some, C_hasno tw_18 h.now hx, ob_some, if_pos rfl]
    · unfold F_X9_swap
      rw [M_bedno h.now h6 hx, ob_some, if_pos rfl]
  · rcases ixc y (n := nowT A.2.2.2 0) (by omega) with hy | ⟨j, hj, rfl⟩
    · refine ⟨-1, A, hA, C_same fun σ h => ?_, M_same fun σ h => ?_⟩
      · unfold F_X8_swap
        rw [gR_0_4, ob_some, tC tw_18, ob_some, C_has tw_18 h.now hnw hi, ob_some, if_neg (by decide), ob_some, tC tw_18, ob_some, C_hasno tw_18 h.now hy, ob_some, if_pos rfl]
      · unfold F_X9_swap
        rw [M_bed h.now h6 hi, ob_some, if_neg (by decide), M_bedno h.now h6 hy, ob_some, if_pos rfl]
    · by_cases hij : i = j
      · refine ⟨-1, A, hA, C_same fun σ h => ?_, M_same fun σ h => ?_⟩
        · unfold F_X8_swap
          rw [gR_0_4, ob_some, tC tw_18, ob_some, C_has tw_18 h.now hnw hi, ob_some, if_neg (by decide), ob_some, tC tw_18, ob_some, C_has tw_18 h.now hnw hj, ob_some, if_neg (by decide), if_pos (by rw [hij])]
        · unfold F_X9_swap
          rw [M_bed h.now h6 hi, ob_some, if_neg (by decide), M_bed h.now h6 hj, ob_some, if_neg (by decide), if_pos (by rw [hij])]
      · have e0 : ¬ nI i = nI j := fun z => hij ((nI_eq (by omega) (by omega)).mp z)
        by_cases h40 : A.2.2.2.2.1 < 40
        · have hc : okD (A.2.2.2.1 0) (300 + 10 * i + j) := Or.inr (Or.inr ⟨i, j, by omega, by omega, hij, rfl⟩)
          refine ⟨nI (gapT (swapT (nowT A.2.2.2) i j) i i), deA A (pushD A.2.2.2 (300 + 10 * i + j)), push_ok hA h40 hc, fun σ h => ?_, fun σ h => ?_⟩
          · obtain ⟨σ', e, h1, h2⟩ := C_enact (w := 3) (i := i) (j := j) hA h40 hc (by omega) σ h
            rw [an_swap (by omega) (by omega)] at e
            refine ⟨σ', ?_, h1, h2⟩
            have e40 : (nI A.2.2.2.2.1 < (40 : Int32)) := nI_lt (b := 40) h40 (by decide)
            have e' : F_X8_enact 0 (3 : Int32) (nI i) (nI j) σ = some (nI (gapT (swapT (nowT A.2.2.2) i j) i i), σ') := e
            unfold F_X8_swap
            rw [gR_0_4, ob_some, tC tw_18, ob_some, C_has tw_18 h.now hnw hi, ob_some, if_neg (by decide), ob_some, tC tw_18, ob_some, C_has tw_18 h.now hnw hj, ob_some, if_neg (by decide), if_neg e0, gI_0_7, ob_some, h.dc, if_pos e40, e', ob_some]
          · obtain ⟨σ1, f1, m1, m2, m3, m4⟩ := M_minds h.dc h40
            have t0 : MT σ1 0 (nowT A.2.2.2) := h.2.2.2.1.kept (fun b p1 p2 => m3 _ _ (by omega) (by omega))
            have hvi := t0 (15 + i) (by omega)
            have hvj := t0 (15 + j) (by omega)
            have t1 : MT (setI σ1 135 (0 + (15 + i)) (nI (nowT A.2.2.2 (15 + j)))) 0 _ := t0.set
            have t2 : MT (setI (setI σ1 135 (0 + (15 + i)) (nI (nowT A.2.2.2 (15 + j)))) 135 (0 + (15 + j)) (nI (nowT A.2.2.2 (15 + i)))) 0 (swapT (nowT A.2.2.2) i j) := t1.set
            have hw2 : wfT 41 (swapT (nowT A.2.2.2) i j) := by
              rw [← ap_swap (by omega) (by omega)]
              exact (wf_apply hnw (by rw [hn0]; exact hc)).1
            have g1 := t2
            rw [← ap_swap (by omega) (by omega)] at g1
            obtain ⟨k1, k2⟩ := M_push2 h h40 m1 m2 m3 m4 g1 ((FrM.set (by omega)).tr (FrM.set (by omega)))
            refine ⟨_, ?_, k1, k2⟩
            have e40 : ¬ (nI A.2.2.2.2.1 = (40 : Int32)) := fun z => by
              have := (nI_eq (a := A.2.2.2.2.1) (b := 40) (by omega) (by decide)).mp z
              omega
            have eai : (15 : Int32) + nI i = nI (15 + i) := lx rfl
            have eaj : (15 : Int32) + nI j = nI (15 + j) := lx rfl
            have eg := M_gap (f := 0) t2 (by decide) hw2 (i := i) (by rw [swap_0]; exact hi)
            rw [Nat.zero_add, Nat.zero_add] at eg
            rw [Nat.zero_add] at hvi hvj
            rw [Nat.zero_add, Nat.zero_add]
            unfold F_X9_swap
            rw [M_bed h.now h6 hi, ob_some, if_neg (by decide), M_bed h.now h6 hj, ob_some, if_neg (by decide), if_neg e0, gI_134_1, ob_some, h.dc, if_neg e40, f1, ob_some, wR, ob_some, eai, w_rd (by omega), ob_some, ob_some, ob_some, eaj, w_rd (by omega), ob_some, w_wr (by omega), ob_some, ob_some, w_wr (by omega), ob_some, hvi, hvj]
            exact (congrArg (fun o : Option Int32 => o.bind fun q => some (q, _)) eg).trans rfl
        · have h40' : A.2.2.2.2.1 = 40 := by have := hA.2.1; omega
          refine ⟨-2, A, hA, C_same fun σ h => ?_, M_same fun σ h => ?_⟩
          · unfold F_X8_swap
            rw [gR_0_4, ob_some, tC tw_18, ob_some, C_has tw_18 h.now hnw hi, ob_some, if_neg (by decide), ob_some, tC tw_18, ob_some, C_has tw_18 h.now hnw hj, ob_some, if_neg (by decide), if_neg e0, gI_0_7, ob_some, h.dc, h40', if_neg (by decide)]
          · unfold F_X9_swap
            rw [M_bed h.now h6 hi, ob_some, if_neg (by decide), M_bed h.now h6 hj, ob_some, if_neg (by decide), if_neg e0, gI_134_1, ob_some, h.dc, h40', if_pos (by decide)]

/-! ===== inspect, thin, swap ===== -/
theorem an_insp {T : Tn} {i : Nat} (hi : i < 6) : ansD T (100 + 10 * i) = inspS T i := by
  unfold ansD
  rw [if_pos (by omega), show (100 + 10 * i) / 10 % 10 = i by omega]
theorem an_thin {T : Tn} {i : Nat} (hi : i < 6) : ansD T (200 + 10 * i) = T (21 + i) - 1 := by
  unfold ansD
  rw [if_neg (by omega), if_pos (by omega), show (200 + 10 * i) / 10 % 10 = i by omega]
theorem an_swap {T : Tn} {i j : Nat} (hi : i < 6) (hj : j < 6) : ansD T (300 + 10 * i + j) = gapT (swapT T i j) i i := by
  unfold ansD
  rw [if_neg (by omega), if_neg (by omega), if_pos (by omega), show (300 + 10 * i + j) / 10 % 10 = i by omega, show (300 + 10 * i + j) % 10 = j by omega]
theorem M_bedno {σ : Mem} {T : Tn} {x : Int32} (h : MT σ 0 T) (h6 : T 0 ≤ 6) (hx : x < 0 ∨ nI (T 0) ≤ x) : F_X9_isBed 134 x σ = some 0 := by rw [M_isBed h h6, if_pos hx]
theorem nb_in {i n : Nat} (hi : i < n) (hn : n ≤ 100) : ¬ (nI i < 0 ∨ nI n ≤ nI i) := fun z => z.elim (nI_pos (by omega)) (nI_ge hi (by omega))
theorem M_bed {σ : Mem} {T : Tn} {i : Nat} (h : MT σ 0 T) (h6 : T 0 ≤ 6) (hi : i < T 0) : F_X9_isBed 134 (nI i) σ = some 1 := by rw [M_isBed h h6, if_neg (nb_in hi (by omega))]
theorem sim_inspect (x : Int32) : Sim (F_X8_inspect 0 x) (F_X9_inspect 134 x) := by
  refine sim_of fun A hA => ?_
  obtain ⟨hnw, hn0⟩ := now_wf hA
  have h6 := hnw.1
  rcases ixc x (n := nowT A.2.2.2 0) (by omega) with hx | ⟨i, hi, rfl⟩
  · refine ⟨-1, A, hA, C_same fun σ h => ?_, M_same fun σ h => ?_⟩
    · unfold F_X8_inspect
      rw [gR_0_4, ob_some, tC tw_18, ob_some, C_hasno tw_18 h.now hx, ob_some, if_pos rfl]
    · unfold F_X9_inspect
      rw [M_bedno h.now h6 hx, ob_some, if_pos rfl]
  · by_cases h40 : A.2.2.2.2.1 < 40
    · have hc : okD (A.2.2.2.1 0) (100 + 10 * i) := Or.inr (Or.inl ⟨i, by omega, Or.inl rfl⟩)
      refine ⟨nI (inspS (nowT A.2.2.2) i), deA A (pushD A.2.2.2 (100 + 10 * i)), push_ok hA h40 hc, fun σ h => ?_, fun σ h => ?_⟩
      · obtain ⟨σ', e, h1, h2⟩ := C_enact (w := 1) (i := i) (j := 0) hA h40 hc (by omega) σ h
        rw [an_insp (by omega)] at e
        refine ⟨σ', ?_, h1, h2⟩
        have e40 : (nI A.2.2.2.2.1 < (40 : Int32)) := nI_lt (b := 40) h40 (by decide)
        have e' : F_X8_enact 0 (1 : Int32) (nI i) (0 : Int32) σ = some (nI (inspS (nowT A.2.2.2) i), σ') := e
        unfold F_X8_inspect
        rw [gR_0_4, ob_some, tC tw_18, ob_some, C_has tw_18 h.now hnw hi, ob_some, if_neg (by decide), gI_0_7, ob_some, h.dc, if_pos e40, e', ob_some]
      · obtain ⟨σ1, f1, m1, m2, m3, m4⟩ := M_minds h.dc h40
        have t0 : MT σ1 0 (nowT A.2.2.2) := h.2.2.2.1.kept (fun b p1 p2 => m3 _ _ (by omega) (by omega))
        obtain ⟨σ2, f2, g1, g2⟩ := M_insp (f := 0) t0 (by decide) hnw hi
        rw [← ap_insp (by omega)] at g1
        obtain ⟨k1, k2⟩ := M_push2 h h40 m1 m2 m3 m4 g1 g2
        refine ⟨σ2, ?_, k1, k2⟩
        have e40 : ¬ (nI A.2.2.2.2.1 = (40 : Int32)) := fun z => by
          have := (nI_eq (a := A.2.2.2.2.1) (b := 40) (by omega) (by decide)).mp z
          omega
        have f2' : F_X9_inspects 134 (0 : Int32) (nI i) σ1 = some (nI (inspS (nowT A.2.2.2) i), σ2) := f2
        unfold F_X9_inspect
        rw [M_bed h.now h6 hi, ob_some, if_neg (by decide), gI_134_1, ob_some, h.dc, if_neg e40, f1, ob_some, f2', ob_some]
    · have h40' : A.2.2.2.2.1 = 40 := by have := hA.2.1; omega
      refine ⟨-2, A, hA, C_same fun σ h => ?_, M_same fun σ h => ?_⟩
      · unfold F_X8_inspect
        rw [gR_0_4, ob_some, tC tw_18, ob_some, C_has tw_18 h.now hnw hi, ob_some, if_neg (by decide), gI_0_7, ob_some, h.dc, h40', if_neg (by decide)]
      · unfold F_X9_inspect
        rw [M_bed h.now h6 hi, ob_some, if_neg (by decide), gI_134_1, ob_some, h.dc, h40', if_pos (by decide)]

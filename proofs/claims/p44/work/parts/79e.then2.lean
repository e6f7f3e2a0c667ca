theorem sim_then (x y : Int32) : Sim (F_X8_then 0 x y) (F_X9_then 134 x y) := by
  refine sim_of fun A hA => ?_
  obtain ⟨hnw, hn0⟩ := now_wf hA
  have h6 := hnw.1
  have d0 : (0 : Int64).toInt = 0 := rfl
  have d40 : (40 : Int64).toInt = 40 := rfl
  have c40 : (40 : Int32).toInt = 40 := rfl
  have t4 : (y ≤ (40 : Int32)) ↔ y.toInt ≤ 40 := by rw [Int32.le_iff_toInt_le, c40]
  rcases ixc x (n := nowT A.2.2.2 0) (by omega) with hx | ⟨i, hi, rfl⟩
  · refine ⟨-1, A, hA, C_same fun σ h => ?_, M_same fun σ h => ?_⟩
    · unfold F_X8_then
      rw [gR_0_4, ob_some, tC tw_18, ob_some, C_hasno tw_18 h.now hx, ob_some, if_pos rfl]
    · unfold F_X9_then
      rw [M_bedno h.now h6 hx, ob_some, if_pos rfl]
  · by_cases hy : 0 ≤ y.toInt ∧ y.toInt ≤ 40
    · obtain ⟨n, hn, rfl⟩ := nat_of hy.1
      have wa := wf_alone hnw hi n
      have hi2 : i < aloneT (nowT A.2.2.2) i n 0 := by rw [alone_0]; exact hi
      have ag := alone_agr hi h6 n
      refine ⟨nI (aloneT (nowT A.2.2.2) i n (27 + i)), toldA A (nI (aloneT (nowT A.2.2.2) i n (21 + i))), hA, fun σ h => ?_, fun σ h => ?_⟩
      · obtain ⟨σ1, e1, c1, f1⟩ := C_copy tw_26 (k2 := 18) tw_18 (by decide) h6 h.now
        obtain ⟨σ2, e2, c2, f2⟩ := C_alone (n := n) tw_26 c1 hnw (by omega) hi
        obtain ⟨h3, f3⟩ := h.aside (f1.tr f2)
        obtain ⟨σ3, e3, h4, f4⟩ := C_tell (A := A) (v := nI (aloneT (nowT A.2.2.2) i n (21 + i))) σ2 h3
        have es : F_X8_tell 0 (nI (aloneT (nowT A.2.2.2) i n (21 + i))) σ2 = some (1, setI σ2 0 13 (nI (aloneT (nowT A.2.2.2) i n (21 + i)))) := by
          unfold F_X8_tell
          rw [pI_0_13, ob_some]
        have e4 := e3.symm.trans es
        injection e4 with e4
        injection e4 with _ e4
        subst e4
        refine ⟨_, ?_, h4, f3.tr f4⟩
        have c3 : CT (setI σ2 0 13 (nI (aloneT (nowT A.2.2.2) i n (21 + i)))) 26 (aloneT (nowT A.2.2.2) i n) := c2.kept (fun a b p q => by rw [setI_1, if_neg (by omega)])
        unfold F_X8_then
        rw [gR_0_4, ob_some, tC tw_18, ob_some, C_has tw_18 h.now hnw hi, ob_some, if_neg (by decide), if_neg (show ¬ nI n < 0 from fun q => by have := neg_iff.mp q; omega), if_pos (t4.mpr hy.2), gR_0_5, ob_some, ob_some, tC tw_26, ob_some, e1, ob_some, ob_some, tC tw_26, ob_some, e2, ob_some, ob_some, tC tw_26, ob_some, C_thick tw_26 c2 wa hi2, ob_some, pI_0_13, ob_some, ob_some, tC tw_26, ob_some, C_lies tw_26 c3 wa hi2, ob_some]
      · obtain ⟨σ1, e1, c1, f1⟩ := M_tries h.now
        have hC1 : COL σ1 (nowT A.2.2.2) := fun m hm => by rw [f1.1 _ _ (by omega)]; exact h.now.col m hm
        obtain ⟨σ2, e2, c2, f2⟩ := M_nights (n := n) c1 hC1 hnw (by omega)
        obtain ⟨h3, f3⟩ := RM.aside hA h (f1.tr f2)
        obtain ⟨σ3, e3, h4, f4⟩ := M_tells (A := A) (v := nI (aloneT (nowT A.2.2.2) i n (21 + i))) (r := nI (aloneT (nowT A.2.2.2) i n (27 + i))) σ2 h3
        refine ⟨σ3, ?_, h4, f3.tr f4⟩
        have v21 := c2 (21 + i) (by omega)
        have v27 := c2 (27 + i) (by omega)
        rw [ag (21 + i) (by unfold keyB; omega)] at v21
        rw [ag (27 + i) (by unfold keyB; omega)] at v27
        have r21 : aI 135 ((7281 : Int32) + nI i) σ2 = some (nI (aloneT (nowT A.2.2.2) i n (21 + i))) := by
          rw [show (7281 : Int32) + nI i = nI (7260 + (21 + i)) from (lx (a := 7281) rfl).trans (by rw [show 7281 + i = 7260 + (21 + i) by omega]), w_rd (by omega), v21]
        have r27 : aI 135 ((7287 : Int32) + nI i) σ2 = some (nI (aloneT (nowT A.2.2.2) i n (27 + i))) := by
          rw [show (7287 : Int32) + nI i = nI (7260 + (27 + i)) from (lx (a := 7287) rfl).trans (by rw [show 7287 + i = 7260 + (27 + i) by omega]), w_rd (by omega), v27]
        unfold F_X9_then
        rw [M_bed h.now h6 hi, ob_some, if_neg (by decide), in_eq, wide, d0, d40, if_pos hy, ob_some, if_neg (by decide), e1, ob_some, e2, ob_some, wR, ob_some, r21, ob_some, ob_some, r27, ob_some, e3, ob_some]
    · refine ⟨-1, A, hA, C_same fun σ h => ?_, M_same fun σ h => ?_⟩
      · unfold F_X8_then
        rw [gR_0_4, ob_some, tC tw_18, ob_some, C_has tw_18 h.now hnw hi, ob_some, if_neg (by decide)]
        by_cases q : y < 0
        · rw [if_pos q]
        · have q' : ¬ y.toInt < 0 := fun z => q (neg_iff.mpr z)
          rw [if_neg q, if_neg (fun z => by have := t4.mp z; omega)]
      · unfold F_X9_then
        rw [M_bed h.now h6 hi, ob_some, if_neg (by decide), in_eq, wide, d0, d40, if_neg hy, ob_some, if_pos rfl]

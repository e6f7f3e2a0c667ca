/-! ===== the least thinning ===== -/
def thnT (T : Tn) (i s : Nat) : Tn := updT T (21 + i) (T (21 + i) - s)
theorem wf_thn {B i s : Nat} {T : Tn} (hw : wfT B T) (hi : i < T 0) : wfT B (thnT T i s) := by
  have b := hw.2.2.1 i hi
  exact wf_bed hw hi (Or.inr (Or.inl ⟨rfl, by omega⟩))
theorem thn_0 {i s : Nat} {T : Tn} : thnT T i s 0 = T 0 := upd_ne (by omega)
abbrev lstP (T : Tn) (i n s : Nat) : Prop := dueT (aloneT (thnT T i s) i n) i
theorem sim_least (x y : Int32) : Sim (F_X8_least 0 x y) (F_X9_least 134 x y) := by
  refine sim_of fun A hA => ?_
  obtain ⟨hnw, hn0⟩ := now_wf hA
  have h6 := hnw.1
  have d0 : (0 : Int64).toInt = 0 := rfl
  have d40 : (40 : Int64).toInt = 40 := rfl
  have c40 : (40 : Int32).toInt = 40 := rfl
  have t4 : (y ≤ (40 : Int32)) ↔ y.toInt ≤ 40 := by rw [Int32.le_iff_toInt_le, c40]
  rcases ixc x (n := nowT A.2.2.2 0) (by omega) with hx | ⟨i, hi, rfl⟩
  · refine ⟨-1, A, hA, C_same fun σ h => ?_, M_same fun σ h => ?_⟩
    · unfold F_X8_least
      rw [gR_0_4, ob_some, tC tw_18, ob_some, C_hasno tw_18 h.now hx, ob_some, if_pos rfl]
    · unfold F_X9_least
      rw [M_bedno h.now h6 hx, ob_some, if_pos rfl]
  · by_cases hy : 0 ≤ y.toInt ∧ y.toInt ≤ 40
    · obtain ⟨n, hn, rfl⟩ := nat_of hy.1
      generalize hT : nowT A.2.2.2 = T at *
      have b := hnw.2.2.1 i hi
      have hi6 : i < 6 := by omega
      generalize hK : T (21 + i) = K at *
      refine ⟨firV (lstP T i n) (K + 1) 0, A, hA, fun σ h => ?_, fun σ h => ?_⟩
      · have hnow := h.now
        rw [hT] at hnow
        have key : ∃ t, F_X8_least_35 0 (nI i) (nI n) (nI K) ((0 : Int32), σ) = some t ∧ (t.1 = firV (lstP T i n) (K + 1) 0 ∧ FrK 26 σ t.2) := by
          unfold F_X8_least_35
          refine lp_inv2 (fun j (s : Int32 × Mem) => s.1 = nI j ∧ CT s.2 18 T ∧ FrK 26 σ s.2 ∧ firV (lstP T i n) (K + 1 - j) j = firV (lstP T i n) (K + 1) 0) (K + 1) ?_ ?_ _ ⟨rfl, hnow, FrK.rf, rfl⟩
          · intro j s hj ⟨a1, a2, a3, a4⟩
            obtain ⟨σ1, e1, c1, f1⟩ := C_copy tw_26 (k2 := 18) tw_18 (by decide) h6 a2
            have e2 := C_thin (v := j) tw_26 c1 hnw hi (by omega)
            have c2 : CT (setI σ1 (26 + 5) i (nI (T (21 + i) - j))) 26 (thnT T i j) := c1.set (o := 5) h6 hi (by decide) (by decide) (by omega)
            have f2 : FrK 26 σ1 (setI σ1 (26 + 5) i (nI (T (21 + i) - j))) := FrK.set (by decide) (by decide)
            have w2 := wf_thn (s := j) hnw hi
            obtain ⟨σ3, e3, c3, f3⟩ := C_alone (n := n) tw_26 c2 w2 (by omega) (by rw [thn_0]; exact hi)
            have wa := wf_alone w2 (by rw [thn_0]; exact hi) n
            have hi2 : i < aloneT (thnT T i j) i n 0 := by rw [alone_0, thn_0]; exact hi
            have e4 := C_found tw_26 c3 wa hi2
            have fr := a3.tr ((f1.tr f2).tr f3)
            have hz : ¬ nI K < nI j := fun z => by
              have := (nI_ltI (a := K) (b := j) (by omega) (by omega)).mp z
              omega
            rw [show K + 1 - j = (K + 1 - (j + 1)) + 1 by omega] at a4
            by_cases hd : lstP T i n j
            · rw [firV_yes (P := lstP T i n) hd] at a4
              refine Or.inr ⟨(nI j, σ3), ?_, a4, fr⟩
              rw [a1, if_neg hz, gR_0_5, ob_some, gR_0_4, ob_some, tC tw_26, ob_some, e1, ob_some, ob_some, tC tw_26, ob_some, e2, ob_some, ob_some, tC tw_26, ob_some, e3, ob_some, ob_some, tC tw_26, ob_some, e4, ob_some, if_pos hd, if_neg (by decide)]
            · rw [firV_no (P := lstP T i n) hd] at a4
              refine Or.inl ⟨(nI (j + 1), σ3), ?_, rfl, ?_, fr, a4⟩
              · rw [a1, if_neg hz, gR_0_5, ob_some, gR_0_4, ob_some, tC tw_26, ob_some, e1, ob_some, ob_some, tC tw_26, ob_some, e2, ob_some, ob_some, tC tw_26, ob_some, e3, ob_some, ob_some, tC tw_26, ob_some, e4, ob_some, if_neg hd, if_pos rfl, nI_1]
              · exact hnow.kept (fun a b p q => fr.1 a b (by omega))
          · intro s ⟨a1, a2, a3, a4⟩
            rw [Nat.sub_self] at a4
            exact ⟨((-9 : Int32), s.2), by rw [a1, if_pos (nI_lt (by omega) (by omega))], a4, a3⟩
        obtain ⟨t, e2, t1, t2⟩ := key
        obtain ⟨h3, f3⟩ := h.aside t2
        refine ⟨t.2, ?_, h3, f3⟩
        unfold F_X8_least
        rw [gR_0_4, ob_some, tC tw_18, ob_some, C_has tw_18 hnow hnw hi, ob_some, if_neg (by decide), if_neg (show ¬ nI n < 0 from fun q => by have := neg_iff.mp q; omega), if_pos (t4.mpr hy.2), ob_some, tC tw_18, ob_some, C_thick tw_18 hnow hnw hi, ob_some, hK, e2, ← t1]
      · have hnow := h.now
        rw [hT] at hnow
        have key : ∃ t, F_X9_least_24 134 (nI i) (nI n) ((0 : Int32), σ) = some t ∧ (t.1 = firV (lstP T i n) (K + 1) 0 ∧ FrM 7260 σ t.2) := by
          unfold F_X9_least_24
          refine lp_inv2 (fun j (s : Int32 × Mem) => s.1 = nI j ∧ MT s.2 0 T ∧ FrM 7260 σ s.2 ∧ firV (lstP T i n) (K + 1 - j) j = firV (lstP T i n) (K + 1) 0) (K + 1) ?_ ?_ _ ⟨rfl, hnow, FrM.rf, rfl⟩
          · intro j s hj ⟨a1, a2, a3, a4⟩
            have v0 := a2 (21 + i) (by omega)
            rw [Nat.zero_add, hK] at v0
            have r0 : aI 135 ((21 : Int32) + nI i) s.2 = some (nI K) := by
              rw [show (21 : Int32) + nI i = nI (21 + i) from lx rfl, w_rd (by omega), v0]
            obtain ⟨σ1, e1, c1, f1⟩ := M_tries a2
            have v1 := c1 (21 + i) (by omega)
            rw [hK] at v1
            have i7 : (7281 : Int32) + nI i = nI (7260 + (21 + i)) := (lx (a := 7281) rfl).trans (by rw [show 7281 + i = 7260 + (21 + i) by omega])
            have r1 : aI 135 (nI (7260 + (21 + i))) σ1 = some (nI K) := by rw [w_rd (by omega), v1]
            have es : nI K - nI j = nI (T (21 + i) - j) := by rw [pk_sub (by omega), hK]
            have c2 : MT (setI σ1 135 (7260 + (21 + i)) (nI (T (21 + i) - j))) 7260 (thnT T i j) := c1.set
            have f2 : FrM 7260 σ1 (setI σ1 135 (7260 + (21 + i)) (nI (T (21 + i) - j))) := FrM.set (by omega)
            have hC2 : COL (setI σ1 135 (7260 + (21 + i)) (nI (T (21 + i) - j))) (thnT T i j) := fun m hm => by
              rw [(f1.tr f2).1 _ _ (by omega)]
              show s.2.1 135 (39 + m) = nI (updT T (21 + i) _ (39 + m))
              rw [upd_ne (by omega)]
              exact a2.col m hm
            have w2 := wf_thn (s := j) hnw hi
            obtain ⟨σ3, e3, c3, f3⟩ := M_nights (n := n) c2 hC2 w2 (by omega)
            have wa := wf_passN w2 n
            have hi2 : i < passN (thnT T i j) n 0 := by rw [passN_0, thn_0]; exact hi
            have hD := due_agr (alone_agr (T := thnT T i j) (i := i) (by rw [thn_0]; exact hi) (by rw [thn_0]; exact h6) n)
            have dd : F_X9_isDue 134 (7260 : Int32) (nI i) σ3 = some (if dueT (passN (thnT T i j) n) i then 1 else 0) := M_due c3 (by decide) wa hi2
            have fr := a3.tr ((f1.tr f2).tr f3)
            have hz : ¬ nI K < nI j := fun z => by
              have := (nI_ltI (a := K) (b := j) (by omega) (by omega)).mp z
              omega
            rw [show K + 1 - j = (K + 1 - (j + 1)) + 1 by omega] at a4
            by_cases hd : lstP T i n j
            · rw [firV_yes (P := lstP T i n) hd] at a4
              refine Or.inr ⟨(nI j, σ3), ?_, a4, fr⟩
              rw [a1, wR, ob_some, r0, ob_some, if_neg hz, e1, ob_some, ob_some, i7, r1, ob_some, es, w_wr (by omega), ob_some, e3, ob_some, dd, ob_some, if_pos (hD.mpr hd), if_neg (by decide)]
            · rw [firV_no (P := lstP T i n) hd] at a4
              refine Or.inl ⟨(nI (j + 1), σ3), ?_, rfl, ?_, fr, a4⟩
              · rw [a1, wR, ob_some, r0, ob_some, if_neg hz, e1, ob_some, ob_some, i7, r1, ob_some, es, w_wr (by omega), ob_some, e3, ob_some, dd, ob_some, if_neg (fun z => hd (hD.mp z)), if_pos rfl, nI_1]
              · exact hnow.kept (fun b p1 p2 => fr.1 _ _ (by omega))
          · intro s ⟨a1, a2, a3, a4⟩
            rw [Nat.sub_self] at a4
            have v0 := a2 (21 + i) (by omega)
            rw [Nat.zero_add, hK] at v0
            have r0 : aI 135 ((21 : Int32) + nI i) s.2 = some (nI K) := by
              rw [show (21 : Int32) + nI i = nI (21 + i) from lx rfl, w_rd (by omega), v0]
            exact ⟨((-9 : Int32), s.2), by rw [a1, wR, ob_some, r0, ob_some, if_pos (nI_lt (by omega) (by omega))], a4, a3⟩
        obtain ⟨t, e2, t1, t2⟩ := key
        obtain ⟨h3, f3⟩ := RM.aside hA h t2
        refine ⟨t.2, ?_, h3, f3⟩
        unfold F_X9_least
        rw [M_bed hnow h6 hi, ob_some, if_neg (by decide), in_eq, wide, d0, d40, if_pos hy, ob_some, if_neg (by decide), e2, ← t1]
    · refine ⟨-1, A, hA, C_same fun σ h => ?_, M_same fun σ h => ?_⟩
      · unfold F_X8_least
        rw [gR_0_4, ob_some, tC tw_18, ob_some, C_has tw_18 h.now hnw hi, ob_some, if_neg (by decide)]
        by_cases q : y < 0
        · rw [if_pos q]
        · have q' : ¬ y.toInt < 0 := fun z => q (neg_iff.mpr z)
          rw [if_neg q, if_neg (fun z => by have := t4.mp z; omega)]
      · unfold F_X9_least
        rw [M_bed h.now h6 hi, ob_some, if_neg (by decide), in_eq, wide, d0, d40, if_neg hy, ob_some, if_pos rfl]

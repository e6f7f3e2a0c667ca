/-! ===== the first of some ===== -/
def firV (P : Nat → Prop) [DecidablePred P] : Nat → Nat → Int32
  | 0, _ => -9
  | f + 1, j => if P j then nI j else firV P f (j + 1)
theorem firV_yes {P : Nat → Prop} [DecidablePred P] {f j : Nat} (h : P j) : firV P (f + 1) j = nI j := if_pos h
theorem firV_no {P : Nat → Prop} [DecidablePred P] {f j : Nat} (h : ¬ P j) : firV P (f + 1) j = firV P f (j + 1) := if_neg h
/-- would be found in this town -/
abbrev dueT (T : Tn) (i : Nat) : Prop := T 43 ≤ T (27 + i)
theorem due_agr {i : Nat} {T U : Tn} (h : agr i T U) : dueT T i ↔ dueT U i := by
  unfold dueT
  rw [h 43 (by unfold keyB; omega), h (27 + i) (by unfold keyB; omega)]
theorem sim_when (x : Int32) : Sim (F_X8_when 0 x) (F_X9_when 134 x) := by
  refine sim_of fun A hA => ?_
  obtain ⟨hnw, hn0⟩ := now_wf hA
  have h6 := hnw.1
  rcases ixc x (n := nowT A.2.2.2 0) (by omega) with hx | ⟨i, hi, rfl⟩
  · refine ⟨-1, A, hA, C_same fun σ h => ?_, M_same fun σ h => ?_⟩
    · unfold F_X8_when
      rw [gR_0_4, ob_some, tC tw_18, ob_some, C_hasno tw_18 h.now hx, ob_some, if_pos rfl]
    · unfold F_X9_when
      rw [M_bedno h.now h6 hx, ob_some, if_pos rfl]
  · generalize hT : nowT A.2.2.2 = T at *
    have z40 : ∀ j, j < 41 → ¬ (40 : Int32) < nI j := fun j hj z => by
      have := (nI_ltI (a := 40) (b := j) (by decide) (by omega)).mp z
      omega
    have z41 : (40 : Int32) < nI 41 := by decide
    refine ⟨firV (fun j => dueT (aloneT T i j) i) 41 0, A, hA, fun σ h => ?_, fun σ h => ?_⟩
    · have hnow := h.now
      rw [hT] at hnow
      obtain ⟨σ1, e1, c1, f1⟩ := C_copy tw_26 (k2 := 18) tw_18 (by decide) h6 hnow
      have key : ∃ t, F_X8_when_26 0 (nI i) ((0 : Int32), σ1) = some t ∧ (t.1 = firV (fun j => dueT (aloneT T i j) i) 41 0 ∧ FrK 26 σ t.2) := by
        unfold F_X8_when_26
        refine lp_inv2 (fun j (s : Int32 × Mem) => s.1 = nI j ∧ CT s.2 26 (aloneT T i j) ∧ FrK 26 σ s.2 ∧ firV (fun j => dueT (aloneT T i j) i) (41 - j) j = firV (fun j => dueT (aloneT T i j) i) 41 0) 41 ?_ ?_ _ ⟨rfl, c1, f1, rfl⟩
        · intro j s hj ⟨a1, a2, a3, a4⟩
          have wa := wf_alone hnw hi j
          have hi2 : i < aloneT T i j 0 := by rw [alone_0]; exact hi
          rw [show 41 - j = (41 - (j + 1)) + 1 by omega] at a4
          by_cases hd : dueT (aloneT T i j) i
          · rw [firV_yes (P := fun j => dueT (aloneT T i j) i) hd] at a4
            refine Or.inr ⟨(nI j, s.2), ?_, a4, a3⟩
            rw [a1, if_neg (z40 j hj), gR_0_5, ob_some, tC tw_26, ob_some, C_found tw_26 a2 wa hi2, ob_some, if_pos hd, if_neg (by decide)]
          · rw [firV_no (P := fun j => dueT (aloneT T i j) i) hd] at a4
            obtain ⟨σ', e2, c2, f2⟩ := C_alone (n := 1) tw_26 a2 wa (by omega) hi2
            have e2' : F_X7_passAlone 26 (nI i) (1 : Int32) s.2 = some σ' := e2
            refine Or.inl ⟨(nI (j + 1), σ'), ?_, rfl, c2, a3.tr f2, a4⟩
            rw [a1, if_neg (z40 j hj), gR_0_5, ob_some, tC tw_26, ob_some, C_found tw_26 a2 wa hi2, ob_some, if_neg hd, if_pos rfl, ob_some, tC tw_26, ob_some, e2', ob_some, nI_1]
        · intro s ⟨a1, a2, a3, a4⟩
          exact ⟨((-9 : Int32), s.2), by rw [a1, if_pos z41], a4, a3⟩
      obtain ⟨t, e2, t1, t2⟩ := key
      obtain ⟨h3, f3⟩ := h.aside t2
      refine ⟨t.2, ?_, h3, f3⟩
      unfold F_X8_when
      rw [gR_0_4, ob_some, tC tw_18, ob_some, C_has tw_18 hnow hnw hi, ob_some, if_neg (by decide), gR_0_5, ob_some, ob_some, tC tw_26, ob_some, e1, ob_some, e2, ← t1]
    · have hnow := h.now
      rw [hT] at hnow
      obtain ⟨σ1, e1, c1, f1⟩ := M_tries hnow
      have hC1 : COL σ1 T := fun m hm => by rw [f1.1 _ _ (by omega)]; exact hnow.col m hm
      have key : ∃ t, F_X9_when_16 134 (nI i) ((0 : Int32), σ1) = some t ∧ (t.1 = firV (fun j => dueT (aloneT T i j) i) 41 0 ∧ FrM 7260 σ t.2) := by
        unfold F_X9_when_16
        refine lp_inv2 (fun j (s : Int32 × Mem) => s.1 = nI j ∧ MT s.2 7260 (passN T j) ∧ COL s.2 T ∧ FrM 7260 σ s.2 ∧ firV (fun j => dueT (aloneT T i j) i) (41 - j) j = firV (fun j => dueT (aloneT T i j) i) 41 0) 41 ?_ ?_ _ ⟨rfl, c1, hC1, f1, rfl⟩
        · intro j s hj ⟨a1, a2, aC, a3, a4⟩
          have wa := wf_passN hnw j
          have hi2 : i < passN T j 0 := by rw [passN_0]; exact hi
          have hD := due_agr (alone_agr hi h6 j)
          rw [show 41 - j = (41 - (j + 1)) + 1 by omega] at a4
          have dd := M_due a2 (by decide) wa hi2
          have dd' : F_X9_isDue 134 (7260 : Int32) (nI i) s.2 = some (if dueT (passN T j) i then 1 else 0) := dd
          by_cases hd : dueT (aloneT T i j) i
          · rw [firV_yes (P := fun j => dueT (aloneT T i j) i) hd] at a4
            refine Or.inr ⟨(nI j, s.2), ?_, a4, a3⟩
            rw [a1, if_neg (z40 j hj), dd', ob_some, if_pos (hD.mpr hd), if_neg (by decide)]
          · rw [firV_no (P := fun j => dueT (aloneT T i j) i) hd] at a4
            obtain ⟨σ', g1, g2, g3⟩ := M_pass (f := 7260) a2 (aC.ext (fun m _ => passN_col h6 j)) (by decide) (Or.inr (by decide)) wa (by omega)
            have g1' : F_X9_passes 134 (7260 : Int32) s.2 = some (_, σ') := g1
            refine Or.inl ⟨(nI (j + 1), σ'), ?_, rfl, g2, fun m hm => ?_, a3.tr g3, a4⟩
            · rw [a1, if_neg (z40 j hj), dd', ob_some, if_neg (fun z => hd (hD.mp z)), if_pos rfl, g1', ob_some, nI_1]
            · show σ'.1 135 (39 + m) = _
              rw [g3.1 _ _ (by omega)]; exact aC m hm
        · intro s ⟨a1, a2, aC, a3, a4⟩
          exact ⟨((-9 : Int32), s.2), by rw [a1, if_pos z41], a4, a3⟩
      obtain ⟨t, e2, t1, t2⟩ := key
      obtain ⟨h3, f3⟩ := RM.aside hA h t2
      refine ⟨t.2, ?_, h3, f3⟩
      unfold F_X9_when
      rw [M_bed hnow h6 hi, ob_some, if_neg (by decide), e1, ob_some, e2, ← t1]

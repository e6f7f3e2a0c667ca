/-! ===== single calls: what they answer, what they leave ===== -/
def An {α : Type} (A : Ab) (F : Mem → Option (α × Mem)) (r : α) (A' : Ab) : Prop := ∀ σ, RC A σ → Dr σ → ∃ σ', F σ = some (r, σ') ∧ RC A' σ' ∧ Dr σ'
theorem an_C {α : Type} {A A' : Ab} {F : Mem → Option (α × Mem)} {r : α} (h : CAns A F r A') : An A F r A' := fun σ hR hD => by
  obtain ⟨σ', e, c, f⟩ := h σ hR
  exact ⟨σ', e, c, hD.keptC f⟩
theorem an_S {α : Type} {A : Ab} {F : Mem → Option (α × Mem)} {r : α} (h : ∀ σ, RC A σ → F σ = some (r, σ)) : An A F r A := an_C (C_same h)
theorem an_of {α : Type} {tb : Prop} {A : Ab} {F G : Mem → Option (α × Mem)} (h : Sim F G) (hA : okDe tb A.2.2.2) : ∃ r A', okDe tb A'.2.2.2 ∧ An A F r A' := by
  obtain ⟨r, A', h1, h2, _⟩ := h A hA
  exact ⟨r, A', h1, fun σ hR hD => by
    obtain ⟨σ', e, c, f⟩ := h2 σ hR hD
    exact ⟨σ', e, c, hD.keptC f⟩⟩
/-- a number between -9 and a million -/
def Small (r : Int32) : Prop := -9 ≤ r.toInt ∧ r.toInt ≤ 1000000
theorem small_1 : Small (-1) := by unfold Small; decide
theorem small_4 : Small (-4) := by unfold Small; decide
theorem small_nI {n : Nat} (h : n ≤ 1000000) : Small (nI n) := by
  unfold Small
  rw [nI_toInt (by omega)]
  omega
theorem small_fir (P : Nat → Prop) [DecidablePred P] : ∀ (f j : Nat), j + f ≤ 1000000 → Small (firV P f j)
  | 0, _, _ => (by unfold firV Small; decide)
  | f + 1, j, h => by
    show Small (if P j then nI j else firV P f (j + 1))
    split
    · exact small_nI (by omega)
    · exact small_fir P f (j + 1) (by omega)
theorem small_sum {a b c d : Int32} (ha : Small a) (hb : Small b) (hc : Small c) (hd : Small d) : ¬ (((a + b) + c) + d) ≤ (-9999 : Int32) := by
  unfold Small at ha hb hc hd
  have e1 : (a + b).toInt = a.toInt + b.toInt := by rw [Int32.toInt_add]; exact Int.bmod_eq_of_le (by omega) (by omega)
  have e2 : (a + b + c).toInt = a.toInt + b.toInt + c.toInt := by rw [Int32.toInt_add, e1]; exact Int.bmod_eq_of_le (by omega) (by omega)
  have e3 : (a + b + c + d).toInt = a.toInt + b.toInt + c.toInt + d.toInt := by rw [Int32.toInt_add, e2]; exact Int.bmod_eq_of_le (by omega) (by omega)
  have e4 : (-9999 : Int32).toInt = -9999 := rfl
  rw [Int32.le_iff_toInt_le, e3, e4]
  omega

theorem A_when {tb : Prop} {A : Ab} (hA : okDe tb A.2.2.2) (x : Int32) : ∃ r, Small r ∧ An A (F_X8_when 0 x) r A := by
  obtain ⟨hnw, hn0⟩ := now_wf hA
  have h6 := hnw.1
  rcases ixc x (n := nowT A.2.2.2 0) (by omega) with hx | ⟨i, hi, rfl⟩
  · refine ⟨-1, small_1, an_S (fun σ h => ?_)⟩
    · unfold F_X8_when
      rw [gR_0_4, ob_some, tC tw_18, ob_some, C_hasno tw_18 h.now hx, ob_some, if_pos rfl]
  · generalize hT : nowT A.2.2.2 = T at *
    have z40 : ∀ j, j < 41 → ¬ (40 : Int32) < nI j := fun j hj z => by
      have := (nI_ltI (a := 40) (b := j) (by decide) (by omega)).mp z
      omega
    have z41 : (40 : Int32) < nI 41 := by decide
    refine ⟨firV (fun j => dueT (aloneT T i j) i) 41 0, small_fir _ _ _ (by decide), an_C (fun σ h => ?_)⟩
    · have hnow := h.now
      rw [hT] at hnow
      obtain ⟨σ1, e1, c1, f1⟩ := C_copy tw_26 (k2 := 18) tw_18 (by decide) h6 hnow
      have key : ∃ t, F_X8_when_26 0 (nI i) ((0 : Int32), σ1) = some t ∧ (t.1 = firV (fun j => dueT (aloneT T i j) i) 41 0 ∧ FrK 26 σ t.2) := by
        unfold F_X8_when_26
        refine lp_inv2 (fun j (s : Int32 × Mem) => s.1 = nI j ∧ CT s.2 26 (aloneT T i j) ∧ FrK 26 σ s.2 ∧ firV (fun j => dueT (aloneT T i j) i) (41 - j) j = firV (fun j => dueT (aloneT T i j) i) 41 0) 41 ?_ ?_ _ ⟨rfl, c1, f1, rfl⟩
        · intro j s hj ⟨a1, a2, a3, a4⟩
          have wa := wf_alone hnw hi j
          have hi2 : i < aloneT T i j 0 := by rw [alone_0]; exact hi
          rw [show 41 - j = (41 - (j + 1)) + 1 by omega] at a4
          by_cases hd : dueT (aloneT T i j) i
          · rw [firV_yes (P := fun j => dueT (aloneT T i j) i) hd] at a4
            refine Or.inr ⟨(nI j, s.2), ?_, a4, a3⟩
            rw [a1, if_neg (z40 j hj), gR_0_5, ob_some, tC tw_26, ob_some, C_found tw_26 a2 wa hi2, ob_some, if_pos hd, if_neg (by decide)]
          · rw [firV_no (P := fun j => dueT (aloneT T i j) i) hd] at a4
            obtain ⟨σ', e2, c2, f2⟩ := C_alone (n := 1) tw_26 a2 wa (by omega) hi2
            have e2' : F_X7_passAlone 26 (nI i) (1 : Int32) s.2 = some σ' := e2
            refine Or.inl ⟨(nI (j + 1), σ'), ?_, rfl, c2, a3.tr f2, a4⟩
            rw [a1, if_neg (z40 j hj), gR_0_5, ob_some, tC tw_26, ob_some, C_found tw_26 a2 wa hi2, ob_some, if_neg hd, if_pos rfl, ob_some, tC tw_26, ob_some, e2', ob_some, nI_1]
        · intro s ⟨a1, a2, a3, a4⟩
          exact ⟨((-9 : Int32), s.2), by rw [a1, if_pos z41], a4, a3⟩
      obtain ⟨t, e2, t1, t2⟩ := key
      obtain ⟨h3, f3⟩ := h.aside t2
      refine ⟨t.2, ?_, h3, f3⟩
      unfold F_X8_when
      rw [gR_0_4, ob_some, tC tw_18, ob_some, C_has tw_18 hnow hnw hi, ob_some, if_neg (by decide), gR_0_5, ob_some, ob_some, tC tw_26, ob_some, e1, ob_some, e2, ← t1]

theorem A_least {tb : Prop} {A : Ab} (hA : okDe tb A.2.2.2) (x y : Int32) : ∃ r, Small r ∧ An A (F_X8_least 0 x y) r A := by
  obtain ⟨hnw, hn0⟩ := now_wf hA
  have h6 := hnw.1
  have d0 : (0 : Int64).toInt = 0 := rfl
  have d40 : (40 : Int64).toInt = 40 := rfl
  have c40 : (40 : Int32).toInt = 40 := rfl
  have t4 : (y ≤ (40 : Int32)) ↔ y.toInt ≤ 40 := by rw [Int32.le_iff_toInt_le, c40]
  rcases ixc x (n := nowT A.2.2.2 0) (by omega) with hx | ⟨i, hi, rfl⟩
  · refine ⟨-1, small_1, an_S (fun σ h => ?_)⟩
    · unfold F_X8_least
      rw [gR_0_4, ob_some, tC tw_18, ob_some, C_hasno tw_18 h.now hx, ob_some, if_pos rfl]
  · by_cases hy : 0 ≤ y.toInt ∧ y.toInt ≤ 40
    · obtain ⟨n, hn, rfl⟩ := nat_of hy.1
      generalize hT : nowT A.2.2.2 = T at *
      have b := hnw.2.2.1 i hi
      have hi6 : i < 6 := by omega
      generalize hK : T (21 + i) = K at *
      refine ⟨firV (lstP T i n) (K + 1) 0, small_fir _ _ _ (by have := b.2.2.2.1; omega), an_C (fun σ h => ?_)⟩
      · have hnow := h.now
        rw [hT] at hnow
        have key : ∃ t, F_X8_least_35 0 (nI i) (nI n) (nI K) ((0 : Int32), σ) = some t ∧ (t.1 = firV (lstP T i n) (K + 1) 0 ∧ FrK 26 σ t.2) := by
          unfold F_X8_least_35
          refine lp_inv2 (fun j (s : Int32 × Mem) => s.1 = nI j ∧ CT s.2 18 T ∧ FrK 26 σ s.2 ∧ firV (lstP T i n) (K + 1 - j) j = firV (lstP T i n) (K + 1) 0) (K + 1) ?_ ?_ _ ⟨rfl, hnow, FrK.rf, rfl⟩
          · intro j s hj ⟨a1, a2, a3, a4⟩
            obtain ⟨σ1, e1, c1, f1⟩ := C_copy tw_26 (k2 := 18) tw_18 (by decide) h6 a2
            have e2 := C_thin (v := j) tw_26 c1 hnw hi (by omega)
            have c2 : CT (setI σ1 (26 + 5) i (nI (T (21 + i) - j))) 26 (thnT T i j) := c1.set (o := 5) h6 hi (by decide) (by decide) (by omega)
            have f2 : FrK 26 σ1 (setI σ1 (26 + 5) i (nI (T (21 + i) - j))) := FrK.set (by decide) (by decide)
            have w2 := wf_thn (s := j) hnw hi
            obtain ⟨σ3, e3, c3, f3⟩ := C_alone (n := n) tw_26 c2 w2 (by omega) (by rw [thn_0]; exact hi)
            have wa := wf_alone w2 (by rw [thn_0]; exact hi) n
            have hi2 : i < aloneT (thnT T i j) i n 0 := by rw [alone_0, thn_0]; exact hi
            have e4 := C_found tw_26 c3 wa hi2
            have fr := a3.tr ((f1.tr f2).tr f3)
            have hz : ¬ nI K < nI j := fun z => by
              have := (nI_ltI (a := K) (b := j) (by omega) (by omega)).mp z
              omega
            rw [show K + 1 - j = (K + 1 - (j + 1)) + 1 by omega] at a4
            by_cases hd : lstP T i n j
            · rw [firV_yes (P := lstP T i n) hd] at a4
              refine Or.inr ⟨(nI j, σ3), ?_, a4, fr⟩
              rw [a1, if_neg hz, gR_0_5, ob_some, gR_0_4, ob_some, tC tw_26, ob_some, e1, ob_some, ob_some, tC tw_26, ob_some, e2, ob_some, ob_some, tC tw_26, ob_some, e3, ob_some, ob_some, tC tw_26, ob_some, e4, ob_some, if_pos hd, if_neg (by decide)]
            · rw [firV_no (P := lstP T i n) hd] at a4
              refine Or.inl ⟨(nI (j + 1), σ3), ?_, rfl, ?_, fr, a4⟩
              · rw [a1, if_neg hz, gR_0_5, ob_some, gR_0_4, ob_some, tC tw_26, ob_some, e1, ob_some, ob_some, tC tw_26, ob_some, e2, ob_some, ob_some, tC tw_26, ob_some, e3, ob_some, ob_some, tC tw_26, ob_some, e4, ob_some, if_neg hd, if_pos rfl, nI_1]
              · exact hnow.kept (fun a b p q => fr.1 a b (by omega))
          · intro s ⟨a1, a2, a3, a4⟩
            rw [Nat.sub_self] at a4
            exact ⟨((-9 : Int32), s.2), by rw [a1, if_pos (nI_lt (by omega) (by omega))], a4, a3⟩
        obtain ⟨t, e2, t1, t2⟩ := key
        obtain ⟨h3, f3⟩ := h.aside t2
        refine ⟨t.2, ?_, h3, f3⟩
        unfold F_X8_least
        rw [gR_0_4, ob_some, tC tw_18, ob_some, C_has tw_18 hnow hnw hi, ob_some, if_neg (by decide), if_neg (show ¬ nI n < 0 from fun q => by have := neg_iff.mp q; omega), if_pos (t4.mpr hy.2), ob_some, tC tw_18, ob_some, C_thick tw_18 hnow hnw hi, ob_some, hK, e2, ← t1]
    · refine ⟨-1, small_1, an_S (fun σ h => ?_)⟩
      · unfold F_X8_least
        rw [gR_0_4, ob_some, tC tw_18, ob_some, C_has tw_18 h.now hnw hi, ob_some, if_neg (by decide)]
        by_cases q : y < 0
        · rw [if_pos q]
        · have q' : ¬ y.toInt < 0 := fun z => q (neg_iff.mpr z)
          rw [if_neg q, if_neg (fun z => by have := t4.mp z; omega)]

theorem A_cross {tb : Prop} {A : Ab} (hA : okDe tb A.2.2.2) (x y : Int32) : ∃ r, Small r ∧ ∀ σ, RC A σ → F_X8_cross 0 x y σ = some r := by
  obtain ⟨hnw, hn0⟩ := now_wf hA
  have h6 := hnw.1
  have c99 : (99 : Int32).toInt = 99 := rfl
  have t4 : (y ≤ (99 : Int32)) ↔ y.toInt ≤ 99 := by rw [Int32.le_iff_toInt_le, c99]
  rcases ixc x (n := nowT A.2.2.2 0) (by omega) with hx | ⟨i, hi, rfl⟩
  · refine ⟨-1, small_1, fun σ hC => ?_⟩
    unfold F_X8_cross
    rw [gR_0_4, ob_some, tC tw_18, ob_some, C_hasno tw_18 hC.now hx, ob_some, if_pos rfl]
  · by_cases hy : 0 ≤ y.toInt ∧ y.toInt ≤ 99
    · obtain ⟨m, hm, rfl⟩ := nat_of hy.1
      refine ⟨nI (crossT (nowT A.2.2.2) i m), small_nI (by have := crossT_le (m := m) hnw hi; omega), fun σ hC => ?_⟩
      unfold F_X8_cross
      rw [gR_0_4, ob_some, tC tw_18, ob_some, C_has tw_18 hC.now hnw hi, ob_some, if_neg (by decide), if_neg (show ¬ nI m < 0 from fun q => by have := neg_iff.mp q; omega), if_pos (t4.mpr hy.2), ob_some, tC tw_18, ob_some, C_crossesIn tw_18 hC.now hnw hi (by omega), ob_some]
    · refine ⟨-1, small_1, fun σ hC => ?_⟩
      unfold F_X8_cross
      rw [gR_0_4, ob_some, tC tw_18, ob_some, C_has tw_18 hC.now hnw hi, ob_some, if_neg (by decide)]
      by_cases q : y < 0
      · rw [if_pos q]
      · have q' : ¬ y.toInt < 0 := fun z => q (neg_iff.mpr z)
        rw [if_neg q, if_neg (fun z => by have := t4.mp z; omega)]
/-- what duel(2) answers -/
def duelV (D : De) : Int32 := if nowT D 0 = 0 then -4 else nI (gmF 2 0 (nowT D))
theorem duel_small {tb : Prop} {D : De} (hA : okDe tb D) : Small (duelV D) := by
  unfold duelV
  split
  · exact small_4
  · exact small_nI (by have := gmF_le 2 0 40 (nowT D) (by decide) (now_wf hA).1; omega)
theorem A_duel {tb : Prop} {A : Ab} (hA : okDe tb A.2.2.2) : An A (F_X8_duel 0 2) (duelV A.2.2.2) A := by
  obtain ⟨hnw, hn0⟩ := now_wf hA
  have h6 := hnw.1
  unfold duelV
  by_cases hz : nowT A.2.2.2 0 = 0
  · rw [if_pos hz]
    refine an_S (fun σ h => ?_)
    unfold F_X8_duel
    rw [if_neg (by decide), if_pos (by decide), gR_0_4, ob_some, C_isT h.now, ob_some, hz, if_pos (show nI 0 = (0 : Int32) from rfl)]
  · rw [if_neg hz]
    refine an_C (fun σ h => ?_)
    generalize hT : nowT A.2.2.2 = T at *
    have hnow := h.now
    rw [hT] at hnow
    obtain ⟨σ', e, f⟩ := C_foundF (n := 2) (by decide) 2 8 (by omega) 0 T 40 σ (Nat.zero_add 2) hnow hnw (by omega)
    have e' : F_X1_foundFrom 8 98 18 (0 : Int32) (2 : Int32) σ = some (nI (gmF 2 0 T), σ') := e
    have fo : FrO σ σ' := ⟨fun a b q => f.1 a b (by omega), f.2⟩
    refine ⟨σ', ?_, (h.side fo).1, (h.side fo).2⟩
    unfold F_X8_duel
    rw [if_neg (by decide), if_pos (by decide), gR_0_4, ob_some, C_isT hnow, ob_some, if_neg (nI_ne0 (by omega) (by omega)), gR_0_12, ob_some, ob_some, ck_98, ob_some, e', ob_some]
theorem A_findings {A : Ab} (f : Int32) : ∃ r, ∀ σ, RC A σ → F_X8_findings 0 f σ = some r := by
  have t1 : (f < (1 : Int32)) ↔ f.toInt < 1 := by rw [Int32.lt_iff_toInt_lt]; rfl
  have t5 : (f ≤ (5 : Int32)) ↔ f.toInt ≤ 5 := by rw [Int32.le_iff_toInt_le]; rfl
  by_cases q : f < (1 : Int32)
  · exact ⟨-1, fun σ _ => by unfold F_X8_findings; rw [if_pos q]; rfl⟩
  · have q2 : ¬ f.toInt < 1 := fun z => q (t1.mpr z)
    by_cases q5 : f ≤ (5 : Int32)
    · have q6 := t5.mp q5
      obtain ⟨k, hk, rfl⟩ := nat_of (x := f) (by omega)
      refine ⟨A.2.2.1.2.2.2.2 k, fun σ hC => ?_⟩
      unfold F_X8_findings
      rw [if_neg q, if_pos q5, gR_0_17, ob_some, rd_eq (by decide) sh_133 (by omega) (by decide), ob_some, hC.2.2.1.2.2.2.2 k (by omega)]
    · exact ⟨-1, fun σ _ => by unfold F_X8_findings; rw [if_neg q, if_neg q5]; rfl⟩
theorem A_asked {A : Ab} {σ : Mem} (hC : RC A σ) : F_X8_asked 0 σ = some A.2.2.1.1 := by unfold F_X8_asked; rw [gI_0_13, ob_some, hC.2.2.1.1]
theorem A_upper {A : Ab} {σ : Mem} (hC : RC A σ) : F_X8_upper 0 σ = some A.2.2.1.2.1 := by unfold F_X8_upper; rw [gL_0_14, ob_some, hC.2.2.1.2.1]
theorem A_lower {A : Ab} {σ : Mem} (hC : RC A σ) : F_X8_lower 0 σ = some A.2.2.1.2.2.1 := by unfold F_X8_lower; rw [gL_0_15, ob_some, hC.2.2.1.2.2.1]
theorem A_finding {A : Ab} {σ : Mem} (hC : RC A σ) : F_X8_finding 0 σ = some A.2.2.1.2.2.2.1 := by unfold F_X8_finding; rw [gI_0_16, ob_some, hC.2.2.1.2.2.2.1]
theorem A_count2 {tb : Prop} {A : Ab} {σ : Mem} (hA : okDe tb A.2.2.2) (h : RC A σ) : F_X8_count 0 2 σ = some (nI A.2.2.2.2.1) := C_count (f := 2) hA h (by decide)

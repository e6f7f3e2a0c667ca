/-! ===== deeds: what they leave ===== -/
/-- but for what is told and the deeds alike -/
def Near (A B : Ab) : Prop := A.1 = B.1 ∧ A.2.1 = B.2.1 ∧ A.2.2.2.1 = B.2.2.2.1 ∧ A.2.2.2.2.2.2 = B.2.2.2.2.2.2
theorem Near.rf {A : Ab} : Near A A := ⟨rfl, rfl, rfl, rfl⟩
theorem Near.tr {A B C : Ab} (h : Near A B) (h2 : Near B C) : Near A C := ⟨h.1.trans h2.1, h.2.1.trans h2.2.1, h.2.2.1.trans h2.2.2.1, h.2.2.2.trans h2.2.2.2⟩
theorem ge4 {n : Nat} (h : n ≤ 100000) : ¬ nI n < (-4 : Int32) := fun z => by
  have e : (-4 : Int32).toInt = -4 := rfl
  rw [Int32.lt_iff_toInt_lt, nI_toInt (by omega), e] at z
  omega
theorem passL_wf {B : Nat} {T : Tn} (hw : wfT B T) : ∀ n, n ≤ T 0 → wfT B (passL T n) ∧ passL T n 0 = T 0 := fun n h => ⟨wf_passL hw n h, passL_0 T n⟩
theorem passS_le {B : Nat} {T : Tn} (hw : wfT B T) : ∀ {n}, n ≤ T 0 → passS T n ≤ 19 * n := by
  intro n
  induction n with
  | zero => intro _; exact Nat.le_refl _
  | succ n ih =>
    intro h
    have h1 := ih (by omega)
    obtain ⟨w1, w2⟩ := passL_wf hw n (by omega)
    have h2 := crossT_le (m := (passL T n) 1) w1 (i := n) (by rw [w2]; omega)
    show passS T n + crossT (passL T n) n ((passL T n) 1) ≤ _
    omega
theorem A_night {tb : Prop} {A : Ab} (hA : okDe tb A.2.2.2) : ∃ r A', okDe tb A'.2.2.2 ∧ Near A' A ∧ ¬ r < (-4 : Int32) ∧ An A (F_X8_night 0) r A' := by
  obtain ⟨hnw, hn0⟩ := now_wf hA
  have h6 := hnw.1
  by_cases hz : A.2.2.2.1 0 = 0
  · refine ⟨-4, A, hA, Near.rf, by decide, an_S (fun σ h => ?_)⟩
    · have e : σ.1 18 8 = 0 := by rw [h.now.1, hn0, hz]; rfl
      unfold F_X8_night
      rw [gR_0_4, ob_some, tI_8 tw_18, ob_some, e, if_pos rfl]
  · by_cases h40 : A.2.2.2.2.1 < 40
    · have hc : okD (A.2.2.2.1 0) 0 := Or.inl ⟨rfl, by omega⟩
      refine ⟨nI (passS (nowT A.2.2.2) (nowT A.2.2.2 0)), deA A (pushD A.2.2.2 0), push_ok hA h40 hc, ⟨rfl, rfl, rfl, rfl⟩, ge4 (by have := passS_le hnw (Nat.le_refl _); omega), an_C (fun σ h => ?_)⟩
      · obtain ⟨σ', e, h1, h2⟩ := C_enact (w := 0) (i := 0) (j := 0) (c := 0) hA h40 hc rfl σ h
        refine ⟨σ', ?_, h1, h2⟩
        have e8 : ¬ nI (A.2.2.2.1 0) = (0 : Int32) := nI_ne0 (by omega) (by omega)
        have e40 : (nI A.2.2.2.2.1 < (40 : Int32)) := nI_lt (b := 40) h40 (by decide)
        have e' : F_X8_enact 0 (0 : Int32) (0 : Int32) (0 : Int32) σ = some (nI (passS (nowT A.2.2.2) (nowT A.2.2.2 0)), σ') := e
        have hb : σ.1 18 8 = nI (A.2.2.2.1 0) := by rw [h.now.1, hn0]
        unfold F_X8_night
        rw [gR_0_4, ob_some, tI_8 tw_18, ob_some, hb, if_neg e8, gI_0_7, ob_some, h.dc, if_pos e40, e', ob_some]
    · have h40' : A.2.2.2.2.1 = 40 := by have := hA.2.1; omega
      refine ⟨-2, A, hA, Near.rf, by decide, an_S (fun σ h => ?_)⟩
      · have e8 : ¬ nI (A.2.2.2.1 0) = (0 : Int32) := nI_ne0 (by omega) (by omega)
        unfold F_X8_night
        rw [gR_0_4, ob_some, tI_8 tw_18, ob_some, h.now.1, hn0, if_neg e8, gI_0_7, ob_some, h.dc, h40', if_neg (by decide)]

theorem A_inspect {tb : Prop} {A : Ab} (hA : okDe tb A.2.2.2) (x : Int32) : ∃ r A', okDe tb A'.2.2.2 ∧ Near A' A ∧ ¬ r < (-4 : Int32) ∧ An A (F_X8_inspect 0 x) r A' := by
  obtain ⟨hnw, hn0⟩ := now_wf hA
  have h6 := hnw.1
  rcases ixc x (n := nowT A.2.2.2 0) (by omega) with hx | ⟨i, hi, rfl⟩
  · refine ⟨-1, A, hA, Near.rf, by decide, an_S (fun σ h => ?_)⟩
    · unfold F_X8_inspect
      rw [gR_0_4, ob_some, tC tw_18, ob_some, C_hasno tw_18 h.now hx, ob_some, if_pos rfl]
  · by_cases h40 : A.2.2.2.2.1 < 40
    · have hc : okD (A.2.2.2.1 0) (100 + 10 * i) := Or.inr (Or.inl ⟨i, by omega, Or.inl rfl⟩)
      refine ⟨nI (inspS (nowT A.2.2.2) i), deA A (pushD A.2.2.2 (100 + 10 * i)), push_ok hA h40 hc, ⟨rfl, rfl, rfl, rfl⟩, ge4 (by have := hnw.2.2.1 i hi; unfold inspS; split <;> omega), an_C (fun σ h => ?_)⟩
      · obtain ⟨σ', e, h1, h2⟩ := C_enact (w := 1) (i := i) (j := 0) hA h40 hc (by omega) σ h
        rw [an_insp (by omega)] at e
        refine ⟨σ', ?_, h1, h2⟩
        have e40 : (nI A.2.2.2.2.1 < (40 : Int32)) := nI_lt (b := 40) h40 (by decide)
        have e' : F_X8_enact 0 (1 : Int32) (nI i) (0 : Int32) σ = some (nI (inspS (nowT A.2.2.2) i), σ') := e
        unfold F_X8_inspect
        rw [gR_0_4, ob_some, tC tw_18, ob_some, C_has tw_18 h.now hnw hi, ob_some, if_neg (by decide), gI_0_7, ob_some, h.dc, if_pos e40, e', ob_some]
    · have h40' : A.2.2.2.2.1 = 40 := by have := hA.2.1; omega
      refine ⟨-2, A, hA, Near.rf, by decide, an_S (fun σ h => ?_)⟩
      · unfold F_X8_inspect
        rw [gR_0_4, ob_some, tC tw_18, ob_some, C_has tw_18 h.now hnw hi, ob_some, if_neg (by decide), gI_0_7, ob_some, h.dc, h40', if_neg (by decide)]

theorem A_thin {tb : Prop} {A : Ab} (hA : okDe tb A.2.2.2) (x : Int32) : ∃ r A', okDe tb A'.2.2.2 ∧ Near A' A ∧ ¬ r < (-4 : Int32) ∧ An A (F_X8_thin 0 x) r A' := by
  obtain ⟨hnw, hn0⟩ := now_wf hA
  have h6 := hnw.1
  rcases ixc x (n := nowT A.2.2.2 0) (by omega) with hx | ⟨i, hi, rfl⟩
  · refine ⟨-1, A, hA, Near.rf, by decide, an_S (fun σ h => ?_)⟩
    · unfold F_X8_thin
      rw [gR_0_4, ob_some, tC tw_18, ob_some, C_hasno tw_18 h.now hx, ob_some, if_pos rfl]
  · have b := hnw.2.2.1 i hi
    have ea : (21 : Int32) + nI i = nI (21 + i) := lx rfl
    by_cases hz : nowT A.2.2.2 (21 + i) = 0
    · refine ⟨-4, A, hA, Near.rf, by decide, an_S (fun σ h => ?_)⟩
      · unfold F_X8_thin
        rw [gR_0_4, ob_some, tC tw_18, ob_some, C_has tw_18 h.now hnw hi, ob_some, if_neg (by decide), ob_some, tC tw_18, ob_some, C_thick tw_18 h.now hnw hi, ob_some, hz, if_pos (show nI 0 = (0 : Int32) from rfl)]
    · have e0 : ¬ nI (nowT A.2.2.2 (21 + i)) = (0 : Int32) := nI_ne0 (by omega) (by omega)
      by_cases h40 : A.2.2.2.2.1 < 40
      · have hc : okD (A.2.2.2.1 0) (200 + 10 * i) := Or.inr (Or.inl ⟨i, by omega, Or.inr rfl⟩)
        refine ⟨nI (nowT A.2.2.2 (21 + i) - 1), deA A (pushD A.2.2.2 (200 + 10 * i)), push_ok hA h40 hc, ⟨rfl, rfl, rfl, rfl⟩, ge4 (by omega), an_C (fun σ h => ?_)⟩
        · obtain ⟨σ', e, h1, h2⟩ := C_enact (w := 2) (i := i) (j := 0) hA h40 hc (by omega) σ h
          rw [an_thin (by omega)] at e
          refine ⟨σ', ?_, h1, h2⟩
          have e40 : (nI A.2.2.2.2.1 < (40 : Int32)) := nI_lt (b := 40) h40 (by decide)
          have e' : F_X8_enact 0 (2 : Int32) (nI i) (0 : Int32) σ = some (nI (nowT A.2.2.2 (21 + i) - 1), σ') := e
          unfold F_X8_thin
          rw [gR_0_4, ob_some, tC tw_18, ob_some, C_has tw_18 h.now hnw hi, ob_some, if_neg (by decide), ob_some, tC tw_18, ob_some, C_thick tw_18 h.now hnw hi, ob_some, if_neg e0, gI_0_7, ob_some, h.dc, if_pos e40, e', ob_some]
      · have h40' : A.2.2.2.2.1 = 40 := by have := hA.2.1; omega
        refine ⟨-2, A, hA, Near.rf, by decide, an_S (fun σ h => ?_)⟩
        · unfold F_X8_thin
          rw [gR_0_4, ob_some, tC tw_18, ob_some, C_has tw_18 h.now hnw hi, ob_some, if_neg (by decide), ob_some, tC tw_18, ob_some, C_thick tw_18 h.now hnw hi, ob_some, if_neg e0, gI_0_7, ob_some, h.dc, h40', if_neg (by decide)]
/-- a night in a town with room for a deed -/
theorem A_nightY {tb : Prop} {A : Ab} (hA : okDe tb A.2.2.2) (hz : 0 < A.2.2.2.1 0) (h40 : A.2.2.2.2.1 < 40) : ∃ r : Int32, ¬ r < 0 ∧ An A (F_X8_night 0) r (deA A (pushD A.2.2.2 0)) := by
  obtain ⟨hnw, hn0⟩ := now_wf hA
  have h6 := hnw.1
  have hc : okD (A.2.2.2.1 0) 0 := Or.inl ⟨rfl, by omega⟩
  have pl := passS_le hnw (Nat.le_refl _)
  refine ⟨nI (passS (nowT A.2.2.2) (nowT A.2.2.2 0)), nI_pos (by omega), an_C (fun σ h => ?_)⟩
  obtain ⟨σ', e, h1, h2⟩ := C_enact (w := 0) (i := 0) (j := 0) (c := 0) hA h40 hc rfl σ h
  refine ⟨σ', ?_, h1, h2⟩
  have e8 : ¬ nI (A.2.2.2.1 0) = (0 : Int32) := nI_ne0 (by omega) (by omega)
  have e40 : (nI A.2.2.2.2.1 < (40 : Int32)) := nI_lt (b := 40) h40 (by decide)
  have e' : F_X8_enact 0 (0 : Int32) (0 : Int32) (0 : Int32) σ = some (nI (passS (nowT A.2.2.2) (nowT A.2.2.2 0)), σ') := e
  have hb : σ.1 18 8 = nI (A.2.2.2.1 0) := by rw [h.now.1, hn0]
  unfold F_X8_night
  rw [gR_0_4, ob_some, tI_8 tw_18, ob_some, hb, if_neg e8, gI_0_7, ob_some, h.dc, if_pos e40, e', ob_some]
theorem A_undo {tb : Prop} {A : Ab} (hA : okDe tb A.2.2.2) {i : Nat} (hi : i < A.2.2.2.2.1 + 1) : An A (F_X8_undo 0 (nI i)) (nI (A.2.2.2.2.1 - i)) (deA A (cutD A.2.2.2 i)) := by
  have hdc := hA.2.1
  have es : nI A.2.2.2.2.1 - nI i = nI (A.2.2.2.2.1 - i) := pk_sub (by omega)
  refine an_C (fun σ h => ?_)
  · obtain ⟨t1, t2, t3, t4, t5⟩ := h.2.2.2
    obtain ⟨σ', g1, g2, g3⟩ := C_redo (σ := setI σ 0 7 (nI i)) (S := A.2.2.2.1) (ds := A.2.2.2.2.2.1) (n := i) (t1.kept (fun a b p q => by rw [setI_1, if_neg (by omega)])) hA.1 (by rw [setI_1, if_pos ⟨rfl, rfl⟩]) (by omega) (fun d hd => by rw [setI_1, if_neg (by omega)]; exact t4 d (by omega)) (fun d hd => hA.2.2.1 d (by omega))
    have keep : ∀ a b, (a < 18 ∨ 25 < a) → (a ≠ 0 ∨ b ≠ 7) → σ'.1 a b = σ.1 a b := fun a b q1 q3 => by
      rw [g3.1 a b (by omega), setI_1, if_neg (by omega)]
    refine ⟨σ', ?_, ⟨h.1.kept (fun a b p q => keep a b (by omega) (by omega)), h.2.1.kept (fun a b p q => keep a b (by omega) (by omega)), h.2.2.1.kept (keep _ _ (by decide) (by decide)) (keep _ _ (by decide) (by decide)) (fun f => keep _ _ (by decide) (by omega)) (fun b => by rw [g3.2]; rfl), t1.kept (fun a b p q => keep a b (by omega) (by omega)), g2, ?_, fun d hd => ?_, t5.kept (fun a b p q => keep a b (by omega) (by omega))⟩, fun a b q => keep a b (by omega) (by omega), fun a b q => by rw [g3.2]; rfl⟩
    · unfold F_X8_undo
      rw [if_neg (nI_pos (by omega)), gI_0_7, ob_some, h.dc, if_pos (nI_le (by omega) (by omega)), ob_some, pI_0_7, ob_some, g1, ob_some, es]
    · show σ'.1 0 7 = nI i
      rw [g3.1 _ _ (by omega), setI_1, if_pos ⟨rfl, rfl⟩]
    · rw [keep _ _ (by decide) (by omega)]; exact t4 d (by have : d < i := hd; omega)

theorem A_keep {tb : Prop} {A : Ab} (hA : okDe tb A.2.2.2) (hz : ¬ A.2.2.2.1 0 = 0) {r : Nat} (hr : r < 3) : An A (F_X8_keep 0 (nI r)) (nI A.2.2.2.2.1) (deA A (keepD A.2.2.2 r)) := by
  obtain ⟨hnw, hn0⟩ := now_wf hA
  have h6 := hnw.1
  have hdc := hA.2.1
  refine an_C (fun σ h => ?_)
  · obtain ⟨t1, t2, t3, t4, t5⟩ := h.2.2.2
    obtain ⟨σ', g1, g2, g3, g4⟩ := S_makeOf (σ := σ) (n := A.2.2.2.2.1) (src := 34) sf_7 hr t5.1 hdc (by decide) sh_34 hdc (by decide) (by decide)
    have e8 : ¬ nI (A.2.2.2.1 0) = (0 : Int32) := nI_ne0 (by omega) (by omega)
    have hb : σ.1 18 8 = nI (A.2.2.2.1 0) := by rw [h.now.1, hn0]
    have keep : ∀ a b, a ≠ 8 → a ≠ 9 → σ'.1 a b = σ.1 a b := fun a b q1 q2 => g4.1 a b (Or.inl q1) (Or.inl q2)
    refine ⟨σ', ?_, ⟨h.1.kept (fun a b p q => keep a b (by omega) (by omega)), h.2.1.kept (fun a b p q => keep a b (by omega) (by omega)), h.2.2.1.kept (keep _ _ (by decide) (by decide)) (keep _ _ (by decide) (by decide)) (fun f => keep _ _ (by decide) (by decide)) (fun b => by rw [g4.2]), t1.kept (fun a b p q => keep a b (by omega) (by omega)), t2.kept (fun a b p q => keep a b (by omega) (by omega)), (keep _ _ (by decide) (by decide)).trans t3, fun d hd => (keep _ _ (by decide) (by decide)).trans (t4 d hd), ?_⟩, fun a b q => keep a b (by omega) (by omega), fun a b q => by rw [g4.2]⟩
    · unfold F_X8_keep
      rw [gR_0_2, ob_some, ck_7, ob_some, S_num sf_7 hr, ob_some, if_neg (by decide), gR_0_4, ob_some, tI_8 tw_18, ob_some, hb, if_neg e8, ob_some, gI_0_7, ob_some, t3, gR_0_6, ob_some, ck_7, ob_some, g1, ob_some, gI_0_7, ob_some, keep _ _ (by decide) (by decide), t3]
    · have t6 := t5.make (f := fun d => nI (A.2.2.2.2.2.1 d)) hr hdc g2 (fun i hi => (g3 i hi).trans (t4 i hi)) g4
      have ef : (fun x => if x = r then (fun d => nI (A.2.2.2.2.2.1 d)) else (fun d => nI (A.2.2.2.2.2.2.2 x d))) = (fun k d => nI ((keepD A.2.2.2 r).2.2.2.2 k d)) := by
        funext k d
        show (if k = r then (fun d => nI (A.2.2.2.2.2.1 d)) else (fun d => nI (A.2.2.2.2.2.2.2 k d))) d = nI ((if k = r then A.2.2.2.2.2.1 else A.2.2.2.2.2.2.2 k) d)
        by_cases q : k = r
        · rw [if_pos q, if_pos q]
        · rw [if_neg q, if_neg q]
      rw [ef] at t6
      exact t6

theorem A_on {tb : Prop} {A : Ab} (hA : okDe tb A.2.2.2) {r n : Nat} (hr : r < 3) (hs : A.2.2.2.2.2.2.1 r = some n) : An A (F_X8_on 0 (nI r)) (nI n) (deA A (onD A.2.2.2 r n)) := by
  obtain ⟨k1, k2, k3⟩ := hA.2.2.2.1 r n hs
  refine an_C (fun σ h => ?_)
  · obtain ⟨t1, t2, t3, t4, t5⟩ := h.2.2.2
    have g := t5.2 r hr
    rw [hs] at g
    obtain ⟨g1, g2, g3⟩ := g
    have key : ∃ q, F_X8_on_30 0 (nI r) ((0 : Int32), setI σ 0 7 (nI n)) = some q ∧ (q.1 = nI n ∧ CT q.2 18 (runD A.2.2.2.1 (A.2.2.2.2.2.2.2 r) n) ∧ q.2.1 0 7 = nI n ∧ (∀ d, d < n → q.2.1 34 d = nI (A.2.2.2.2.2.2.2 r d)) ∧ (∀ a b, (a < 18 ∨ 25 < a) → a ≠ 34 → (a ≠ 0 ∨ b ≠ 7) → q.2.1 a b = σ.1 a b) ∧ q.2.2 = σ.2) := by
      unfold F_X8_on_30
      refine lp_inv (Q := fun q : Int32 × Mem => q.1 = nI n ∧ CT q.2 18 (runD A.2.2.2.1 (A.2.2.2.2.2.2.2 r) n) ∧ q.2.1 0 7 = nI n ∧ (∀ d, d < n → q.2.1 34 d = nI (A.2.2.2.2.2.2.2 r d)) ∧ (∀ a b, (a < 18 ∨ 25 < a) → a ≠ 34 → (a ≠ 0 ∨ b ≠ 7) → q.2.1 a b = σ.1 a b) ∧ q.2.2 = σ.2) (fun i (s : Int32 × Mem) => s.1 = nI i ∧ s.2.1 0 7 = nI n ∧ (∀ d, d < i → s.2.1 34 d = nI (A.2.2.2.2.2.2.2 r d)) ∧ (∀ a b, a ≠ 34 → (a ≠ 0 ∨ b ≠ 7) → s.2.1 a b = σ.1 a b) ∧ s.2.2 = σ.2) n ?_ ?_ _ ⟨rfl, ?_, fun d hd => absurd hd (Nat.not_lt_zero d), fun a b q1 q2 => ?_, rfl⟩
      · intro i s hi ⟨a1, a2, a3, a4, a5⟩
        refine ⟨(nI (i + 1), setI s.2 34 i (nI (A.2.2.2.2.2.2.2 r i))), ?_, rfl, ?_, fun d hd => ?_, fun a b q1 q2 => ?_, a5⟩
        · rw [gI_0_7, ob_some, a2, a1, if_neg (nI_ge hi (by omega)), gR_0_6, ob_some, gR_0_2, ob_some, ck_7, ob_some, S_get sf_7 hr (by rw [a4 _ _ (by omega) (by omega)]; exact t5.1) (by rw [a4 _ _ (by omega) (by omega)]; exact g2) g1 hi, ob_some, a4 _ _ (by omega) (by omega), g3 i hi, wr_eq (by decide) sh_34 (by omega) (by decide), ob_some, nI_1]
        · rw [setI_1, if_neg (by omega)]; exact a2
        · rw [setI_1]
          by_cases z : d = i
          · subst z; rw [if_pos ⟨rfl, rfl⟩]
          · rw [if_neg (by omega)]; exact a3 d (by omega)
        · show (setI s.2 34 i (nI (A.2.2.2.2.2.2.2 r i))).1 a b = _
          rw [setI_1, if_neg (by omega)]; exact a4 a b q1 q2
      · intro s ⟨a1, a2, a3, a4, a5⟩
        obtain ⟨σ', e1, e2, e3⟩ := C_redo (σ := s.2) (S := A.2.2.2.1) (ds := A.2.2.2.2.2.2.2 r) (n := n) (t1.kept (fun a b p q => a4 a b (by omega) (by omega))) hA.1 a2 k1 a3 k3
        refine ⟨(nI n, σ'), ?_, rfl, e2, ?_, fun d hd => ?_, fun a b q1 q2 q3 => ?_, ?_⟩
        · rw [gI_0_7, ob_some, a2, a1, if_pos (nI_le (Nat.le_refl _) (by omega)), e1, ob_some, gI_0_7, ob_some, e3.1 _ _ (by decide), a2]
        · show σ'.1 0 7 = _
          rw [e3.1 _ _ (by decide), a2]
        · show σ'.1 34 d = _
          rw [e3.1 _ _ (by decide), a3 d hd]
        · show σ'.1 a b = _
          rw [e3.1 _ _ q1, a4 a b q2 q3]
        · show σ'.2 = _
          rw [e3.2, a5]
      · show (setI σ 0 7 (nI n)).1 0 7 = _
        rw [setI_1, if_pos ⟨rfl, rfl⟩]
      · show (setI σ 0 7 (nI n)).1 a b = _
        rw [setI_1, if_neg (by omega)]
    obtain ⟨⟨v, σ'⟩, e1, rfl, e2, e3, e4, keep, e5⟩ := key
    refine ⟨σ', ?_, ⟨h.1.kept (fun a b p q => keep a b (by omega) (by omega) (by omega)), h.2.1.kept (fun a b p q => keep a b (by omega) (by omega) (by omega)), h.2.2.1.kept (keep _ _ (by decide) (by decide) (by decide)) (keep _ _ (by decide) (by decide) (by decide)) (fun f => keep _ _ (by decide) (by decide) (by omega)) (fun b => by rw [e5]), t1.kept (fun a b p q => keep a b (by omega) (by omega) (by omega)), e2, e3, e4, t5.kept (fun a b p q => keep a b (by omega) (by omega) (by omega))⟩, fun a b q => keep a b (by omega) (by omega) (by omega), fun a b q => by rw [e5]⟩
    unfold F_X8_on
    rw [gR_0_2, ob_some, Rm_some sf_7 hr g1 g2, ob_some, if_pos rfl, ob_some, ck_7, ob_some, S_size sf_7 hr, ob_some, g2, pI_0_7, ob_some, e1]


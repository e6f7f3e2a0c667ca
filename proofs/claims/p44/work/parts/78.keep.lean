/-! ===== keep, on ===== -/
theorem S_makeOf {σ : Mem} {b many room r n src len : Nat} (h : Sf b many room) (hr : r < many) (hrm : σ.1 b 0 = nI room) (hn : n ≤ room) (hsrc : src < nW) (hsh : shp src = .inr (.inl len)) (hnl : n ≤ len) (hl : len ≤ 100000) (hd : src ≠ b + 1 ∧ src ≠ b + 2) : ∃ σ', F_X6_makeOf b (nI r) (nI n) src σ = some σ' ∧ σ'.1 (b + 1) r = nI n ∧ (∀ i, i < n → σ'.1 (b + 2) (r * room + i) = σ.1 src i) ∧ FrS b r room σ σ' := by
  have h8 := h.2.2.2.2.2.2.2.1
  have h9 := h.2.2.2.2.2.2.2.2.1
  unfold F_X6_makeOf
  rw [h.1, ob_some, h.2.2.1, ob_some, hrm]
  have e : (if nI room < nI n then nI room else nI n) = nI n := if_neg (nI_nlt hn (by omega))
  rw [e, wr_eq (by have := h.2.2.2.2.2.2.1; omega) h.2.2.2.2.1 hr (by omega), ob_some]
  unfold F_X6_makeOf_19
  refine lp_inv (Q := fun t : Mem => t.1 (b + 1) r = nI n ∧ (∀ i, i < n → t.1 (b + 2) (r * room + i) = σ.1 src i) ∧ FrS b r room σ t) (fun j (s : Int32 × Mem) => s.1 = nI j ∧ s.2.1 (b + 1) r = nI n ∧ s.2.1 b 0 = nI room ∧ (∀ i, i < j → s.2.1 (b + 2) (r * room + i) = σ.1 src i) ∧ FrS b r room σ s.2) n ?_ ?_ _ ⟨rfl, ?_, ?_, fun i hi => absurd hi (Nat.not_lt_zero i), fun x y q _ => ?_, rfl⟩
  · intro j s hj ⟨a1, a2, a3, a4, a5⟩
    refine ⟨(nI (j + 1), setI s.2 (b + 2) (r * room + j) (σ.1 src j)), ?_, rfl, ?_, ?_, fun i hi => ?_, fun x y q1 q2 => ?_, ?_⟩
    · rw [a1, if_neg (nI_ge hj (by omega)), h.2.2.1, ob_some, a3, if_neg (nI_ge (show j < room by omega) (by omega)), rd_eq hsrc hsh (by omega) hl, ob_some, a5.1 _ _ (by omega) (by omega), S_set h hr a3 a2 hn hj, ob_some, nI_1]
    · rw [setI_1, if_neg (by omega)]; exact a2
    · rw [setI_1, if_neg (by omega)]; exact a3
    · rw [setI_1]
      by_cases z : i = j
      · subst z; rw [if_pos ⟨rfl, rfl⟩]
      · rw [if_neg (by omega)]; exact a4 i (by omega)
    · show (setI s.2 (b + 2) (r * room + j) (σ.1 src j)).1 x y = _
      rw [setI_1, if_neg (by omega)]; exact a5.1 x y q1 q2
    · exact a5.2
  · intro s ⟨a1, a2, a3, a4, a5⟩
    exact ⟨s.2, by rw [a1, if_pos (nI_le (Nat.le_refl _) (by omega))], a2, a4, a5⟩
  · rw [setI_1, if_pos ⟨rfl, rfl⟩]
  · rw [setI_1, if_neg (by omega)]; exact hrm
  · rw [setI_1, if_neg (by omega)]
theorem kept_no {x : Int32} {σ : Mem} (h : x < 0 ∨ nI 3 ≤ x) : F_X9_isKept x σ = some 0 := by
  unfold F_X9_isKept
  rw [in_eq, if_neg, ob_some, bz0, ob_some]
  rw [wide]
  rw [Int32.lt_iff_toInt_lt, Int32.le_iff_toInt_le, nI_toInt (by decide)] at h
  have e0 : (0 : Int64).toInt = 0 := rfl
  have e5 : (2 : Int64).toInt = 2 := rfl
  have e00 : (0 : Int32).toInt = 0 := rfl
  omega
theorem kept_yes {r : Nat} {σ : Mem} (h : r < 3) : F_X9_isKept (nI r) σ = some 1 := by
  unfold F_X9_isKept
  rw [in_eq, if_pos, ob_some, bz1, ob_some]
  rw [wide, nI_toInt (by omega)]
  have e0 : (0 : Int64).toInt = 0 := rfl
  have e5 : (2 : Int64).toInt = 2 := rfl
  omega
/-- the deeds kept at r -/
def keepD (D : De) (r : Nat) : De := (D.1, D.2.1, D.2.2.1, fun x => if x = r then some D.2.1 else D.2.2.2.1 x, fun x => if x = r then D.2.2.1 else D.2.2.2.2 x)
theorem keep_ok {tb : Prop} {D : De} {r : Nat} (h : okDe tb D) (h0 : 0 < D.1 0) : okDe tb (keepD D r) := by
  refine ⟨h.1, h.2.1, h.2.2.1, fun k n e => ?_, h.2.2.2.2⟩
  have e : (if k = r then some D.2.1 else D.2.2.2.1 k) = some n := e
  show n ≤ 40 ∧ 0 < D.1 0 ∧ ∀ d, d < n → okD (D.1 0) ((if k = r then D.2.2.1 else D.2.2.2.2 k) d)
  by_cases q : k = r
  · rw [if_pos q] at e
    rw [if_pos q]
    injection e with e
    subst e
    exact ⟨h.2.1, h0, h.2.2.1⟩
  · rw [if_neg q] at e
    rw [if_neg q]
    exact h.2.2.2.1 k n e
theorem sim_keep (x : Int32) : Sim (F_X8_keep 0 x) (F_X9_keep 134 x) := by
  refine sim_of fun A hA => ?_
  obtain ⟨hnw, hn0⟩ := now_wf hA
  have h6 := hnw.1
  have hdc := hA.2.1
  rcases ixc x (n := 3) (by decide) with hx | ⟨r, hr, rfl⟩
  · refine ⟨-1, A, hA, C_same fun σ h => ?_, M_same fun σ h => ?_⟩
    · unfold F_X8_keep
      rw [gR_0_2, ob_some, ck_7, ob_some, S_numno sf_7 hx, ob_some, if_pos rfl]
    · unfold F_X9_keep
      rw [kept_no hx, ob_some, if_pos rfl]
  · by_cases hz : A.2.2.2.1 0 = 0
    · refine ⟨-4, A, hA, C_same fun σ h => ?_, M_same fun σ h => ?_⟩
      · have e : σ.1 18 8 = 0 := by rw [h.now.1, hn0, hz]; rfl
        unfold F_X8_keep
        rw [gR_0_2, ob_some, ck_7, ob_some, S_num sf_7 hr, ob_some, if_neg (by decide), gR_0_4, ob_some, tI_8 tw_18, ob_some, e, if_pos rfl]
      · have ht : F_X9_isTown 134 σ = some 0 := by rw [M_isTown h.now h6, hn0, if_pos hz]
        unfold F_X9_keep
        rw [kept_yes hr, ob_some, if_neg (by decide), ht, ob_some, if_pos rfl]
    · refine ⟨nI A.2.2.2.2.1, deA A (keepD A.2.2.2 r), keep_ok hA (by omega), fun σ h => ?_, fun σ h => ?_⟩
      · obtain ⟨t1, t2, t3, t4, t5⟩ := h.2.2.2
        obtain ⟨σ', g1, g2, g3, g4⟩ := S_makeOf (σ := σ) (n := A.2.2.2.2.1) (src := 34) sf_7 hr t5.1 hdc (by decide) sh_34 hdc (by decide) (by decide)
        have e8 : ¬ nI (A.2.2.2.1 0) = (0 : Int32) := nI_ne0 (by omega) (by omega)
        have hb : σ.1 18 8 = nI (A.2.2.2.1 0) := by rw [h.now.1, hn0]
        have keep : ∀ a b, a ≠ 8 → a ≠ 9 → σ'.1 a b = σ.1 a b := fun a b q1 q2 => g4.1 a b (Or.inl q1) (Or.inl q2)
        refine ⟨σ', ?_, ⟨h.1.kept (fun a b p q => keep a b (by omega) (by omega)), h.2.1.kept (fun a b p q => keep a b (by omega) (by omega)), h.2.2.1.kept (keep _ _ (by decide) (by decide)) (keep _ _ (by decide) (by decide)) (fun f => keep _ _ (by decide) (by decide)) (fun b => by rw [g4.2]), t1.kept (fun a b p q => keep a b (by omega) (by omega)), t2.kept (fun a b p q => keep a b (by omega) (by omega)), (keep _ _ (by decide) (by decide)).trans t3, fun d hd => (keep _ _ (by decide) (by decide)).trans (t4 d hd), ?_⟩, fun a b q => keep a b (by omega) (by omega), fun a b q => by rw [g4.2]⟩
        · unfold F_X8_keep
          rw [gR_0_2, ob_some, ck_7, ob_some, S_num sf_7 hr, ob_some, if_neg (by decide), gR_0_4, ob_some, tI_8 tw_18, ob_some, hb, if_neg e8, ob_some, gI_0_7, ob_some, t3, gR_0_6, ob_some, ck_7, ob_some, g1, ob_some, gI_0_7, ob_some, keep _ _ (by decide) (by decide), t3]
        · have t6 := t5.make (f := fun d => nI (A.2.2.2.2.2.1 d)) hr hdc g2 (fun i hi => (g3 i hi).trans (t4 i hi)) g4
          have ef : (fun x => if x = r then (fun d => nI (A.2.2.2.2.2.1 d)) else (fun d => nI (A.2.2.2.2.2.2.2 x d))) = (fun k d => nI ((keepD A.2.2.2 r).2.2.2.2 k d)) := by
            funext k d
            show (if k = r then (fun d => nI (A.2.2.2.2.2.1 d)) else (fun d => nI (A.2.2.2.2.2.2.2 k d))) d = nI ((if k = r then A.2.2.2.2.2.1 else A.2.2.2.2.2.2.2 k) d)
            by_cases q : k = r
            · rw [if_pos q, if_pos q]
            · rw [if_neg q, if_neg q]
          rw [ef] at t6
          exact t6
      · obtain ⟨u1, u2, u3, u4⟩ := h.2.2.2
        obtain ⟨σ1, e1, c1, c2, c3⟩ := M_cp (σ := σ) (f := 0) (t := 1804 * (1 + r)) (n := 1804) (by omega) (by omega) (by omega)
        have e1' : F_X9_copyAll 134 (0 : Int32) ((1804 : Int32) * ((1 : Int32) + nI r)) (1804 : Int32) σ = some σ1 := by
          rw [show (1804 : Int32) * ((1 : Int32) + nI r) = nI (1804 * (1 + r)) by rw [show (1 : Int32) = nI 1 from rfl, nI_add, show (1804 : Int32) = nI 1804 from rfl, pk_mul]]
          exact e1
        have ht : F_X9_isTown 134 σ = some 1 := by rw [M_isTown h.now h6, hn0, if_neg hz]
        have k1 : σ1.1 134 1 = nI A.2.2.2.2.1 := (c2 _ _ (by omega)).trans u3
        have keep : ∀ a b, (a ≠ 135 ∨ b < 1804 * (1 + r) ∨ 1804 * (1 + r) + 1804 ≤ b) → (a ≠ 136 ∨ b ≠ r) → (setI σ1 136 r (nI A.2.2.2.2.1)).1 a b = σ.1 a b := fun a b q1 q3 => by
          rw [setI_1, if_neg (by omega), c2 a b (by omega)]
        have cp : ∀ {f : Nat} {T : Tn}, MT σ f T → f + 44 ≤ 1804 → MT (setI σ1 136 r (nI A.2.2.2.2.1)) (1804 * (1 + r) + f) T := fun {f T} hT hf j hj => by
          rw [setI_1, if_neg (by omega), show 1804 * (1 + r) + f + j = 1804 * (1 + r) + (f + j) by omega, c1 (f + j) (by omega), Nat.zero_add]
          exact hT j hj
        refine ⟨setI σ1 136 r (nI A.2.2.2.2.1), ?_, ⟨h.1.kept (fun a j q => keep a j (by omega) (by omega)), h.2.1.kept (fun a j q => keep a j (by omega) (by omega)), h.2.2.1.kept (keep _ _ (by omega) (by omega)) (keep _ _ (by omega) (by omega)) (fun f => keep _ _ (by omega) (by omega)) (by show σ1.2 _ _ = _; rw [c3]) (by show σ1.2 _ _ = _; rw [c3]), u1.kept (fun b p1 p2 => keep _ _ (by omega) (by omega)), fun d hd => (u2 d hd).kept (fun b p1 p2 => keep _ _ (by have : d < A.2.2.2.2.1 := hd; omega) (by omega)), (keep _ _ (by omega) (by omega)).trans u3, fun k hk => ?_⟩, fun a b q => keep a b (by omega) (by omega), fun a b q => by show σ1.2 _ _ = _; rw [c3]⟩
        · unfold F_X9_keep
          rw [kept_yes hr, ob_some, if_neg (by decide), ht, ob_some, if_neg (by decide), e1', ob_some, gR_134_2, ob_some, gI_134_1, ob_some, k1, sI_eq sh_136 hr (by decide), ob_some, gI_134_1, ob_some, setI_1, if_neg (by omega), k1]
        · have h2 := u4 k hk
          show match (if k = r then some A.2.2.2.2.1 else A.2.2.2.2.2.2.1 k) with
            | none => (setI σ1 136 r (nI A.2.2.2.2.1)).1 136 k = -1
            | some n => (setI σ1 136 r (nI A.2.2.2.2.1)).1 136 k = nI n ∧ MT (setI σ1 136 r (nI A.2.2.2.2.1)) (1804 * (1 + k)) (runD A.2.2.2.1 (if k = r then A.2.2.2.2.2.1 else A.2.2.2.2.2.2.2 k) n) ∧ ∀ d, d < n → MT (setI σ1 136 r (nI A.2.2.2.2.1)) (1804 * (1 + k) + 44 * (1 + d)) (runD A.2.2.2.1 (if k = r then A.2.2.2.2.2.1 else A.2.2.2.2.2.2.2 k) d)
          by_cases q : k = r
          · subst q
            simp only [if_true]
            refine ⟨by rw [setI_1, if_pos ⟨rfl, rfl⟩], cp u1 (by decide), fun d hd => cp (u2 d hd) (by omega)⟩
          · simp only [if_neg q]
            cases e : A.2.2.2.2.2.2.1 k with
            | none => rw [e] at h2; exact (keep _ _ (by omega) (by omega)).trans h2
            | some n =>
              rw [e] at h2
              have hn := (hA.2.2.2.1 k n e).1
              exact ⟨(keep _ _ (by omega) (by omega)).trans h2.1, h2.2.1.kept (fun b p1 p2 => keep _ _ (by omega) (by omega)), fun d hd => (h2.2.2 d hd).kept (fun b p1 p2 => keep _ _ (by omega) (by omega))⟩

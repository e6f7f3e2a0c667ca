/-! ===== the reference's deeds ===== -/
theorem M_cp {σ : Mem} {f t n : Nat} (hd : f + n ≤ t ∨ t + n ≤ f) (h1 : f + n ≤ 7304) (h2 : t + n ≤ 7304) : ∃ σ', F_X9_copyAll 134 (nI f) (nI t) (nI n) σ = some σ' ∧ (∀ j, j < n → σ'.1 135 (t + j) = σ.1 135 (f + j)) ∧ (∀ a b, (a ≠ 135 ∨ b < t ∨ t + n ≤ b) → σ'.1 a b = σ.1 a b) ∧ σ'.2 = σ.2 := by
  unfold F_X9_copyAll F_X9_copyAll_3
  refine lp_inv (Q := fun s : Mem => (∀ j, j < n → s.1 135 (t + j) = σ.1 135 (f + j)) ∧ (∀ a b, (a ≠ 135 ∨ b < t ∨ t + n ≤ b) → s.1 a b = σ.1 a b) ∧ s.2 = σ.2) (fun i (s : Int32 × Mem) => s.1 = nI i ∧ (∀ j, j < i → s.2.1 135 (t + j) = σ.1 135 (f + j)) ∧ (∀ a b, (a ≠ 135 ∨ b < t ∨ t + n ≤ b) → s.2.1 a b = σ.1 a b) ∧ s.2.2 = σ.2) n ?_ ?_ _ ⟨rfl, fun j hj => absurd hj (Nat.not_lt_zero j), fun a b _ => rfl, rfl⟩
  · intro i s hi ⟨a1, a2, a3, a4⟩
    refine ⟨(nI (i + 1), setI s.2 135 (t + i) (σ.1 135 (f + i))), ?_, rfl, fun j hj => ?_, fun a b q => ?_, a4⟩
    · rw [a1, if_neg (nI_ge hi (by omega)), wR, ob_some, ob_some, nI_add, w_rd (by omega), ob_some, nI_add, w_wr (by omega), ob_some, a3 135 (f + i) (by omega), nI_1]
    · rw [setI_1]
      by_cases z : j = i
      · subst z; rw [if_pos ⟨rfl, rfl⟩]
      · rw [if_neg (by omega)]; exact a2 j (by omega)
    · show (setI s.2 135 (t + i) (σ.1 135 (f + i))).1 a b = _
      rw [setI_1, if_neg (by omega)]; exact a3 a b q
  · intro s ⟨a1, a2, a3, a4⟩
    exact ⟨s.2, by rw [a1, if_pos (nI_le (Nat.le_refl _) (by omega))], a2, a3, a4⟩
theorem M_minds {σ : Mem} {dc : Nat} (h : σ.1 134 1 = nI dc) (h40 : dc < 40) : ∃ σ', F_X9_minds 134 σ = some σ' ∧ (∀ j, j < 44 → σ'.1 135 (44 * (1 + dc) + j) = σ.1 135 j) ∧ σ'.1 134 1 = nI (dc + 1) ∧ (∀ a b, (a ≠ 135 ∨ b < 44 * (1 + dc) ∨ 44 * (1 + dc) + 44 ≤ b) → (a ≠ 134 ∨ b ≠ 1) → σ'.1 a b = σ.1 a b) ∧ σ'.2 = σ.2 := by
  obtain ⟨σ1, e, c1, c2, c3⟩ := M_cp (σ := σ) (f := 0) (t := 44 * (1 + dc)) (n := 44) (by omega) (by omega) (by omega)
  have e' : F_X9_copyAll 134 (0 : Int32) ((44 : Int32) * ((1 : Int32) + nI dc)) (44 : Int32) σ = some σ1 := by
    rw [show (44 : Int32) * ((1 : Int32) + nI dc) = nI (44 * (1 + dc)) by rw [show (1 : Int32) = nI 1 from rfl, nI_add, show (44 : Int32) = nI 44 from rfl, pk_mul]]
    exact e
  refine ⟨setI σ1 134 1 (nI (dc + 1)), ?_, fun j hj => ?_, ?_, fun a b q1 q2 => ?_, c3⟩
  · unfold F_X9_minds
    rw [gI_134_1, ob_some, h, e', ob_some, gI_134_1, ob_some, pI_134_1, ob_some, c2 _ _ (by omega), h, nI_1]
  · rw [setI_1, if_neg (by omega), c1 j hj, Nat.zero_add]
  · rw [setI_1, if_pos ⟨rfl, rfl⟩]
  · rw [setI_1, if_neg (by omega)]; exact c2 a b q1
/-- a deed behind the keeping of what was -/
theorem M_push {σ σ1 σ2 : Mem} {D : De} {c : Nat} (h : MDe σ D) (h40 : D.2.1 < 40) (m1 : ∀ j, j < 44 → σ1.1 135 (44 * (1 + D.2.1) + j) = σ.1 135 j) (m2 : σ1.1 134 1 = nI (D.2.1 + 1)) (m3 : ∀ a b, (a ≠ 135 ∨ b < 44 * (1 + D.2.1) ∨ 44 * (1 + D.2.1) + 44 ≤ b) → (a ≠ 134 ∨ b ≠ 1) → σ1.1 a b = σ.1 a b) (g1 : MT σ2 0 (applyD (nowT D) c)) (g2 : FrM 0 σ1 σ2) : MDe σ2 (pushD D c) := by
  have keep : ∀ a b, (a ≠ 135 ∨ 44 ≤ b) → (a ≠ 135 ∨ b < 44 * (1 + D.2.1) ∨ 44 * (1 + D.2.1) + 44 ≤ b) → (a ≠ 134 ∨ b ≠ 1) → σ2.1 a b = σ.1 a b := fun a b q1 q2 q3 => by rw [g2.1 a b (by omega), m3 a b q2 q3]
  refine ⟨?_, fun d hd => ?_, ?_, fun k hk => ?_⟩
  · show MT σ2 0 (nowT (pushD D c))
    rw [push_now]; exact g1
  · have hd : d < D.2.1 + 1 := hd
    show MT σ2 (44 * (1 + d)) (runD D.1 (fun d => if d = D.2.1 then c else D.2.2.1 d) d)
    rw [run_ext d (fun x hx => if_neg (by omega))]
    by_cases q : d = D.2.1
    · subst q
      intro j hj
      rw [g2.1 _ _ (by omega), m1 j hj]
      have := h.1 j hj
      rw [Nat.zero_add] at this
      exact this
    · exact (h.2.1 d (by omega)).kept (fun b p1 p2 => keep _ _ (by omega) (by omega) (by omega))
  · show σ2.1 134 1 = nI (D.2.1 + 1)
    rw [g2.1 _ _ (by omega)]; exact m2
  · have h2 := h.2.2.2 k hk
    show match D.2.2.2.1 k with
      | none => σ2.1 136 k = -1
      | some n => σ2.1 136 k = nI n ∧ MT σ2 (1804 * (1 + k)) (runD D.1 (D.2.2.2.2 k) n) ∧ ∀ d, d < n → MT σ2 (1804 * (1 + k) + 44 * (1 + d)) (runD D.1 (D.2.2.2.2 k) d)
    cases e : D.2.2.2.1 k with
    | none => rw [e] at h2; exact (keep _ _ (by omega) (by omega) (by omega)).trans h2
    | some n =>
      rw [e] at h2
      exact ⟨(keep _ _ (by omega) (by omega) (by omega)).trans h2.1, h2.2.1.kept (fun b p1 p2 => keep _ _ (by omega) (by omega) (by omega)), fun d hd => (h2.2.2 d hd).kept (fun b p1 p2 => keep _ _ (by omega) (by omega) (by omega))⟩
/-- the same, with all that is not a town's -/
theorem M_push2 {σ σ1 σ2 : Mem} {A : Ab} {c : Nat} (h : RM A σ) (h40 : A.2.2.2.2.1 < 40) (m1 : ∀ j, j < 44 → σ1.1 135 (44 * (1 + A.2.2.2.2.1) + j) = σ.1 135 j) (m2 : σ1.1 134 1 = nI (A.2.2.2.2.1 + 1)) (m3 : ∀ a b, (a ≠ 135 ∨ b < 44 * (1 + A.2.2.2.2.1) ∨ 44 * (1 + A.2.2.2.2.1) + 44 ≤ b) → (a ≠ 134 ∨ b ≠ 1) → σ1.1 a b = σ.1 a b) (m4 : σ1.2 = σ.2) (g1 : MT σ2 0 (applyD (nowT A.2.2.2) c)) (g2 : FrM 0 σ1 σ2) : RM (deA A (pushD A.2.2.2 c)) σ2 ∧ FM σ σ2 := by
  have keep : ∀ a b, a ≠ 135 → (a ≠ 134 ∨ b ≠ 1) → σ2.1 a b = σ.1 a b := fun a b q1 q3 => by rw [g2.1 a b (by omega), m3 a b (by omega) q3]
  have k2 : σ2.2 = σ.2 := g2.2.trans m4
  exact ⟨⟨h.1.kept (fun a j q => keep a j (by omega) (by omega)), h.2.1.kept (fun a j q => keep a j (by omega) (by omega)), h.2.2.1.kept (keep _ _ (by decide) (by decide)) (keep _ _ (by decide) (by decide)) (fun f => keep _ _ (by decide) (by omega)) (by rw [k2]) (by rw [k2]), M_push h.2.2.2 h40 m1 m2 m3 g1 g2⟩, fun a b q => keep a b (by omega) (by omega), fun a b q => by rw [k2]⟩
theorem MT.col {σ : Mem} {T : Tn} (h : MT σ 0 T) : COL σ T := fun m hm => by
  have := h (39 + m) (by omega)
  rwa [Nat.zero_add] at this
theorem M_isTown {σ : Mem} {T : Tn} (h : MT σ 0 T) (h6 : T 0 ≤ 6) : F_X9_isTown 134 σ = some (if T 0 = 0 then 0 else 1) := by
  have e0 : (nI (T 0) ≤ (0 : Int32)) ↔ T 0 ≤ 0 := nI_leI (b := 0) (by omega) (by decide)
  have h0 : σ.1 135 0 = nI (T 0) := h 0 (by decide)
  unfold F_X9_isTown
  rw [wR, ob_some, show (0 : Int32) = nI 0 from rfl, w_rd (by decide), ob_some, h0]
  by_cases q : T 0 = 0
  · rw [if_pos (show nI (T 0) ≤ nI 0 from e0.mpr (by omega)), if_pos q]
  · rw [if_neg (show ¬ nI (T 0) ≤ nI 0 from fun z => q (by have := e0.mp z; omega)), if_neg q]
theorem M_isBed {σ : Mem} {T : Tn} {x : Int32} (h : MT σ 0 T) (h6 : T 0 ≤ 6) : F_X9_isBed 134 x σ = some (if x < 0 ∨ nI (T 0) ≤ x then 0 else 1) := by
  have h0 : σ.1 135 0 = nI (T 0) := h 0 (by decide)
  unfold F_X9_isBed
  rw [wR, ob_some, show aI 135 (0 : Int32) σ = some (σ.1 135 0) from w_rd (j := 0) (by decide), ob_some, h0, in_row (by omega), ob_some]
  split
  · rw [bz0, ob_some]
  · rw [bz1, ob_some]
theorem RC.now {A : Ab} {σ : Mem} (h : RC A σ) : CT σ 18 (nowT A.2.2.2) := h.2.2.2.2.1
theorem RM.now {A : Ab} {σ : Mem} (h : RM A σ) : MT σ 0 (nowT A.2.2.2) := h.2.2.2.1
theorem RC.dc {A : Ab} {σ : Mem} (h : RC A σ) : σ.1 0 7 = nI A.2.2.2.2.1 := h.2.2.2.2.2.1
theorem RM.dc {A : Ab} {σ : Mem} (h : RM A σ) : σ.1 134 1 = nI A.2.2.2.2.1 := h.2.2.2.2.2.1
theorem sim_night : Sim (F_X8_night 0) (F_X9_night 134) := by
  refine sim_of fun A hA => ?_
  obtain ⟨hnw, hn0⟩ := now_wf hA
  have h6 := hnw.1
  by_cases hz : A.2.2.2.1 0 = 0
  · refine ⟨-4, A, hA, C_same fun σ h => ?_, M_same fun σ h => ?_⟩
    · have e : σ.1 18 8 = 0 := by rw [h.now.1, hn0, hz]; rfl
      unfold F_X8_night
      rw [gR_0_4, ob_some, tI_8 tw_18, ob_some, e, if_pos rfl]
    · unfold F_X9_night
      rw [M_isTown h.now h6, hn0, if_pos hz, ob_some, if_pos rfl]
  · by_cases h40 : A.2.2.2.2.1 < 40
    · have hc : okD (A.2.2.2.1 0) 0 := Or.inl ⟨rfl, by omega⟩
      refine ⟨nI (passS (nowT A.2.2.2) (nowT A.2.2.2 0)), deA A (pushD A.2.2.2 0), push_ok hA h40 hc, fun σ h => ?_, fun σ h => ?_⟩
      · obtain ⟨σ', e, h1, h2⟩ := C_enact (w := 0) (i := 0) (j := 0) (c := 0) hA h40 hc rfl σ h
        refine ⟨σ', ?_, h1, h2⟩
        have e8 : ¬ nI (A.2.2.2.1 0) = (0 : Int32) := nI_ne0 (by omega) (by omega)
        have e40 : (nI A.2.2.2.2.1 < (40 : Int32)) := nI_lt (b := 40) h40 (by decide)
        have e' : F_X8_enact 0 (0 : Int32) (0 : Int32) (0 : Int32) σ = some (nI (passS (nowT A.2.2.2) (nowT A.2.2.2 0)), σ') := e
        have hb : σ.1 18 8 = nI (A.2.2.2.1 0) := by rw [h.now.1, hn0]
        unfold F_X8_night
        rw [gR_0_4, ob_some, tI_8 tw_18, ob_some, hb, if_neg e8, gI_0_7, ob_some, h.dc, if_pos e40, e', ob_some]
      · obtain ⟨σ1, f1, m1, m2, m3, m4⟩ := M_minds h.dc h40
        have t0 : MT σ1 0 (nowT A.2.2.2) := h.2.2.2.1.kept (fun b p1 p2 => m3 _ _ (by omega) (by omega))
        obtain ⟨σ2, f2, g1, g2⟩ := M_pass (f := 0) t0 t0.col (by decide) (Or.inl rfl) hnw (by decide)
        obtain ⟨k1, k2⟩ := M_push2 (c := 0) h h40 m1 m2 m3 m4 g1 g2
        refine ⟨σ2, ?_, k1, k2⟩
        have e40 : ¬ (nI A.2.2.2.2.1 = (40 : Int32)) := fun z => by
          have := (nI_eq (a := A.2.2.2.2.1) (b := 40) (by omega) (by decide)).mp z
          omega
        have f2' : F_X9_passes 134 (0 : Int32) σ1 = some (nI (passS (nowT A.2.2.2) (nowT A.2.2.2 0)), σ2) := f2
        have ht : F_X9_isTown 134 σ = some 1 := by rw [M_isTown h.now h6, hn0, if_neg hz]
        unfold F_X9_night
        rw [ht, ob_some, if_neg (by decide), gI_134_1, ob_some, h.dc, if_neg e40, f1, ob_some, f2', ob_some]
    · have h40' : A.2.2.2.2.1 = 40 := by have := hA.2.1; omega
      refine ⟨-2, A, hA, C_same fun σ h => ?_, M_same fun σ h => ?_⟩
      · have e8 : ¬ nI (A.2.2.2.1 0) = (0 : Int32) := nI_ne0 (by omega) (by omega)
        unfold F_X8_night
        rw [gR_0_4, ob_some, tI_8 tw_18, ob_some, h.now.1, hn0, if_neg e8, gI_0_7, ob_some, h.dc, h40', if_neg (by decide)]
      · unfold F_X9_night
        rw [M_isTown h.now h6, hn0, if_neg hz, ob_some, if_neg (by decide), gI_134_1, ob_some, h.dc, h40', if_pos (by decide)]

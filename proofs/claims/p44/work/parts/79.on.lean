/-! ===== on ===== -/
def onD (D : De) (r n : Nat) : De := (D.1, n, D.2.2.2.2 r, D.2.2.2)
theorem on_ok {tb : Prop} {D : De} {r n : Nat} (h : okDe tb D) (e : D.2.2.2.1 r = some n) : okDe tb (onD D r n) := by
  obtain ⟨k1, k2, k3⟩ := h.2.2.2.1 r n e
  exact ⟨h.1, k1, k3, h.2.2.2.1, fun q => absurd (show D.1 0 = 0 from q) (by omega)⟩
theorem sim_on (x : Int32) : Sim (F_X8_on 0 x) (F_X9_on 134 x) := by
  refine sim_of fun A hA => ?_
  rcases ixc x (n := 3) (by decide) with hx | ⟨r, hr, rfl⟩
  · refine ⟨-1, A, hA, C_same fun σ h => ?_, M_same fun σ h => ?_⟩
    · unfold F_X8_on
      rw [gR_0_2, ob_some, Rm_no sf_7 hx, ob_some, if_neg n10]
    · unfold F_X9_on
      rw [kept_no hx, ob_some, if_pos rfl]
  · cases hs : A.2.2.2.2.2.2.1 r with
    | none =>
      refine ⟨-3, foundA A 1, hA, fun σ h => ?_, fun σ h => ?_⟩
      · obtain ⟨σ', e, h1, h2⟩ := C_refuse (A := A) (f := 1) (by decide) σ h
        refine ⟨σ', ?_, h1, h2⟩
        have g := h.2.2.2.2.2.2.2.2 r hr
        rw [hs] at g
        unfold F_X8_on
        rw [gR_0_2, ob_some, Rm_none sf_7 hr g, e, ob_some, if_neg n30]
      · obtain ⟨σ', e, h1, h2⟩ := M_found (A := A) (f := 1) (by decide) σ h
        refine ⟨σ', ?_, h1, h2⟩
        have g := h.2.2.2.2.2.2 r hr
        rw [hs] at g
        have e' : F_X9_found 134 (1 : Int32) σ = some (-3, σ') := e
        unfold F_X9_on
        rw [kept_yes hr, ob_some, if_neg (by decide), gR_134_2, ob_some, aI_eq sh_136 hr (by decide), ob_some, g, if_neg (by decide), e', ob_some]
    | some n =>
      obtain ⟨k1, k2, k3⟩ := hA.2.2.2.1 r n hs
      refine ⟨nI n, deA A (onD A.2.2.2 r n), on_ok hA hs, fun σ h => ?_, fun σ h => ?_⟩
      · obtain ⟨t1, t2, t3, t4, t5⟩ := h.2.2.2
        have g := t5.2 r hr
        rw [hs] at g
        obtain ⟨g1, g2, g3⟩ := g
        have key : ∃ q, F_X8_on_30 0 (nI r) ((0 : Int32), setI σ 0 7 (nI n)) = some q ∧ (q.1 = nI n ∧ CT q.2 18 (runD A.2.2.2.1 (A.2.2.2.2.2.2.2 r) n) ∧ q.2.1 0 7 = nI n ∧ (∀ d, d < n → q.2.1 34 d = nI (A.2.2.2.2.2.2.2 r d)) ∧ (∀ a b, (a < 18 ∨ 25 < a) → a ≠ 34 → (a ≠ 0 ∨ b ≠ 7) → q.2.1 a b = σ.1 a b) ∧ q.2.2 = σ.2) := by
          unfold F_X8_on_30
          refine lp_inv (Q := fun q : Int32 × Mem => q.1 = nI n ∧ CT q.2 18 (runD A.2.2.2.1 (A.2.2.2.2.2.2.2 r) n) ∧ q.2.1 0 7 = nI n ∧ (∀ d, d < n → q.2.1 34 d = nI (A.2.2.2.2.2.2.2 r d)) ∧ (∀ a b, (a < 18 ∨ 25 < a) → a ≠ 34 → (a ≠ 0 ∨ b ≠ 7) → q.2.1 a b = σ.1 a b) ∧ q.2.2 = σ.2) (fun i (s : Int32 × Mem) => s.1 = nI i ∧ s.2.1 0 7 = nI n ∧ (∀ d, d < i → s.2.1 34 d = nI (A.2.2.2.2.2.2.2 r d)) ∧ (∀ a b, a ≠ 34 → (a ≠ 0 ∨ b ≠ 7) → s.2.1 a b = σ.1 a b) ∧ s.2.2 = σ.2) n ?_ ?_ _ ⟨rfl, ?_, fun d hd => absurd hd (Nat.not_lt_zero d), fun a b q1 q2 => ?_, rfl⟩
          · intro i s hi ⟨a1, a2, a3, a4, a5⟩
            refine ⟨(nI (i + 1), setI s.2 34 i (nI (A.2.2.2.2.2.2.2 r i))), ?_, rfl, ?_, fun d hd => ?_, fun a b q1 q2 => ?_, a5⟩
            · rw [gI_0_7, ob_some, a2, a1, if_neg (nI_ge hi (by omega)), gR_0_6, ob_some, gR_0_2, ob_some, ck_7, ob_some, S_get sf_7 hr (by rw [a4 _ _ (by omega) (by omega)]; exact t5.1) (by rw [a4 _ _ (by omega) (by omega)]; exact g2) g1 hi, ob_some, a4 _ _ (by omega) (by omega), g3 i hi, wr_eq (by decide) sh_34 (by omega) (by decide), ob_some, nI_1]
            · rw [setI_1, if_neg (by omega)]; exact a2
            · rw [setI_1]
              by_cases z : d = i
              · subst z; rw [if_pos ⟨rfl, rfl⟩]
              · rw [if_neg (by omega)]; exact a3 d (by omega)
            · show (setI s.2 34 i (nI (A.2.2.2.2.2.2.2 r i))).1 a b = _
              rw [setI_1, if_neg (by omega)]; exact a4 a b q1 q2
          · intro s ⟨a1, a2, a3, a4, a5⟩
            obtain ⟨σ', e1, e2, e3⟩ := C_redo (σ := s.2) (S := A.2.2.2.1) (ds := A.2.2.2.2.2.2.2 r) (n := n) (t1.kept (fun a b p q => a4 a b (by omega) (by omega))) hA.1 a2 k1 a3 k3
            refine ⟨(nI n, σ'), ?_, rfl, e2, ?_, fun d hd => ?_, fun a b q1 q2 q3 => ?_, ?_⟩
            · rw [gI_0_7, ob_some, a2, a1, if_pos (nI_le (Nat.le_refl _) (by omega)), e1, ob_some, gI_0_7, ob_some, e3.1 _ _ (by decide), a2]
            · show σ'.1 0 7 = _
              rw [e3.1 _ _ (by decide), a2]
            · show σ'.1 34 d = _
              rw [e3.1 _ _ (by decide), a3 d hd]
            · show σ'.1 a b = _
              rw [e3.1 _ _ q1, a4 a b q2 q3]
            · show σ'.2 = _
              rw [e3.2, a5]
          · show (setI σ 0 7 (nI n)).1 0 7 = _
            rw [setI_1, if_pos ⟨rfl, rfl⟩]
          · show (setI σ 0 7 (nI n)).1 a b = _
            rw [setI_1, if_neg (by omega)]
        obtain ⟨⟨v, σ'⟩, e1, rfl, e2, e3, e4, keep, e5⟩ := key
        refine ⟨σ', ?_, ⟨h.1.kept (fun a b p q => keep a b (by omega) (by omega) (by omega)), h.2.1.kept (fun a b p q => keep a b (by omega) (by omega) (by omega)), h.2.2.1.kept (keep _ _ (by decide) (by decide) (by decide)) (keep _ _ (by decide) (by decide) (by decide)) (fun f => keep _ _ (by decide) (by decide) (by omega)) (fun b => by rw [e5]), t1.kept (fun a b p q => keep a b (by omega) (by omega) (by omega)), e2, e3, e4, t5.kept (fun a b p q => keep a b (by omega) (by omega) (by omega))⟩, fun a b q => keep a b (by omega) (by omega) (by omega), fun a b q => by rw [e5]⟩
        unfold F_X8_on
        rw [gR_0_2, ob_some, Rm_some sf_7 hr g1 g2, ob_some, if_pos rfl, ob_some, ck_7, ob_some, S_size sf_7 hr, ob_some, g2, pI_0_7, ob_some, e1]
      · obtain ⟨u1, u2, u3, u4⟩ := h.2.2.2
        have g := u4 r hr
        rw [hs] at g
        obtain ⟨g1, g2, g3⟩ := g
        obtain ⟨σ1, e1, c1, c2, c3⟩ := M_cp (σ := σ) (f := 1804 * (1 + r)) (t := 0) (n := 1804) (by omega) (by omega) (by omega)
        have e1' : F_X9_copyAll 134 ((1804 : Int32) * ((1 : Int32) + nI r)) (0 : Int32) (1804 : Int32) σ = some σ1 := by
          rw [show (1804 : Int32) * ((1 : Int32) + nI r) = nI (1804 * (1 + r)) by rw [show (1 : Int32) = nI 1 from rfl, nI_add, show (1804 : Int32) = nI 1804 from rfl, pk_mul]]
          exact e1
        have kk : σ1.1 136 r = nI n := (c2 _ _ (by omega)).trans g1
        have keep : ∀ a b, (a ≠ 135 ∨ 1804 ≤ b) → (a ≠ 134 ∨ b ≠ 1) → (setI σ1 134 1 (nI n)).1 a b = σ.1 a b := fun a b q1 q3 => by
          rw [setI_1, if_neg (by omega), c2 a b (by omega)]
        have cp : ∀ {f : Nat} {T : Tn}, MT σ (1804 * (1 + r) + f) T → f + 44 ≤ 1804 → MT (setI σ1 134 1 (nI n)) f T := fun {f T} hT hf j hj => by
          have := c1 (f + j) (by omega)
          rw [Nat.zero_add] at this
          rw [setI_1, if_neg (by omega), this, ← Nat.add_assoc]
          exact hT j hj
        refine ⟨setI σ1 134 1 (nI n), ?_, ⟨h.1.kept (fun a j q => keep a j (by omega) (by omega)), h.2.1.kept (fun a j q => keep a j (by omega) (by omega)), h.2.2.1.kept (keep _ _ (by omega) (by omega)) (keep _ _ (by omega) (by omega)) (fun f => keep _ _ (by omega) (by omega)) (by show σ1.2 _ _ = _; rw [c3]) (by show σ1.2 _ _ = _; rw [c3]), cp g2 (by decide), fun d hd => cp (g3 d hd) (by have hd : d < n := hd; omega), ?_, fun k hk => ?_⟩, fun a b q => keep a b (by omega) (by omega), fun a b q => by show σ1.2 _ _ = _; rw [c3]⟩
        · unfold F_X9_on
          rw [kept_yes hr, ob_some, if_neg (by decide), gR_134_2, ob_some, aI_eq sh_136 hr (by decide), ob_some, g1, if_pos (nI_pos' (by omega)), e1', ob_some, ob_some, aI_eq sh_136 hr (by decide), ob_some, kk, pI_134_1, ob_some, gI_134_1, ob_some, setI_1, if_pos ⟨rfl, rfl⟩]
        · rw [setI_1, if_pos ⟨rfl, rfl⟩]; rfl
        · have h2 := u4 k hk
          show match A.2.2.2.2.2.2.1 k with
            | none => (setI σ1 134 1 (nI n)).1 136 k = -1
            | some m => (setI σ1 134 1 (nI n)).1 136 k = nI m ∧ MT (setI σ1 134 1 (nI n)) (1804 * (1 + k)) (runD A.2.2.2.1 (A.2.2.2.2.2.2.2 k) m) ∧ ∀ d, d < m → MT (setI σ1 134 1 (nI n)) (1804 * (1 + k) + 44 * (1 + d)) (runD A.2.2.2.1 (A.2.2.2.2.2.2.2 k) d)
          cases e : A.2.2.2.2.2.2.1 k with
          | none => rw [e] at h2; exact (keep _ _ (by omega) (by omega)).trans h2
          | some m =>
            rw [e] at h2
            exact ⟨(keep _ _ (by omega) (by omega)).trans h2.1, h2.2.1.kept (fun b p1 p2 => keep _ _ (by omega) (by omega)), fun d hd => (h2.2.2 d hd).kept (fun b p1 p2 => keep _ _ (by omega) (by omega))⟩

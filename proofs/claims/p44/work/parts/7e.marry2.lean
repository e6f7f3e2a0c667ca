theorem M_digits {A : Ab} {n C r : Nat} {x : Int32} (h0 : 0 < n) (h6 : n ≤ 6) (hC : C < n ^ n) (hr : r < 6) (hn : nowT A.2.2.2 0 = n) (σ : Mem) (h : RM A σ) : ∃ σ', (F_X9_anew 134 (nI r) (nI n) σ).bind (fun q15 => (gR 9 0 134).bind fun p18 => (aI p18 (0 : Int32) q15).bind fun v19 => (F_X9_marry_226 134 (nI r) x (nI C, (v19 - (1 : Int32)), q15)).map fun z => (Sum.inr z : (Int32 × Int32 × Int32) ⊕ (Int32 × Mem))) = some (.inr (x, σ')) ∧ RM (rowA A r (some n) (fun k => nI (dg n n C k))) σ' ∧ FM σ σ' := by
  have p66 := pow66 h6
  obtain ⟨σ1, e1, s1, _, f1, f2⟩ := M_anew (n := n) (σ := σ) hr
  have hnow := h.now
  have m1 : ∀ u : Mem, (∀ b, u.1 135 b = σ.1 135 b) → aI 135 (0 : Int32) u = some (nI n) := fun u hu => by
    have e : u.1 135 0 = nI (nowT A.2.2.2 0) := (hu 0).trans (hnow 0 (by decide))
    exact (w_rd (j := 0) (by decide)).trans (by rw [e, hn])
  have key : ∃ t, F_X9_marry_226 134 (nI r) x (nI C, (nI n - (1 : Int32)), σ1) = some t ∧ ∃ σ', t = (x, σ') ∧ σ'.1 138 r = nI n ∧ (∀ k, k < n → σ'.1 137 (r * 40 + k) = nI (dg n n C k)) ∧ (∀ x y, (x ≠ 138 ∨ y ≠ r) → (x ≠ 137 ∨ y < r * 40 ∨ r * 40 + 40 ≤ y) → σ'.1 x y = σ.1 x y) ∧ σ'.2 = σ.2 := by
    unfold F_X9_marry_226
    refine lp_inv (fun j (u : Int32 × Int32 × Mem) => u.1 = nI (C / n ^ j) ∧ u.2.1 = nI (n - j) + (-1 : Int32) ∧ u.2.2.1 138 r = nI n ∧ (∀ k, n - j ≤ k → k < n → u.2.2.1 137 (r * 40 + k) = nI (dg n n C k)) ∧ (∀ x y, (x ≠ 138 ∨ y ≠ r) → (x ≠ 137 ∨ y < r * 40 ∨ r * 40 + 40 ≤ y) → u.2.2.1 x y = σ.1 x y) ∧ u.2.2.2 = σ.2) n ?_ ?_ _ ⟨?_, ?_, s1, fun k h1 h2 => absurd h2 (by omega), f1, f2⟩
    · intro j u hj ⟨a1, a2, a3, a4, a5, a6⟩
      obtain ⟨m, hm⟩ : ∃ m, n - j = m + 1 := ⟨n - j - 1, by omega⟩
      rw [hm] at a2
      have a2' : u.2.1 = nI m := a2.trans (nI_m1 m)
      have hD : C / n ^ j / n = C / n ^ (j + 1) := by rw [Nat.div_div_eq_div_mul, ← Nat.pow_succ]
      have hl : C / n ^ j ≤ C := Nat.div_le_self _ _
      have r0 := m1 u.2.2 (fun b => a5 _ _ (by omega) (by omega))
      have r1 := m1 (setI u.2.2 137 (r * 40 + m) (nI (C / n ^ j % n))) (fun b => by rw [setI_1, if_neg (by omega)]; exact a5 _ _ (by omega) (by omega))
      refine ⟨(nI (C / n ^ (j + 1)), nI m + (-1 : Int32), setI u.2.2 137 (r * 40 + m) (nI (C / n ^ j % n))), ?_, rfl, ?_, ?_, fun k h1 h2 => ?_, fun x y q1 q2 => ?_, a6⟩
      · rw [a1, a2', if_neg (nI_pos (by omega)), gR_134_3, ob_some, wR, ob_some, r0, ob_some, nz_N h0 (by omega), ob_some, pk_rem (by omega) h0 (by omega), ix40, sI_eq sh_137 (by omega) (by decide), ob_some, ob_some, r1, ob_some, nz_N h0 (by omega), ob_some, pk_div (by omega) h0 (by omega), hD]
      · show nI m + (-1 : Int32) = nI (n - (j + 1)) + (-1)
        rw [show n - (j + 1) = m by omega]
      · show (setI u.2.2 137 (r * 40 + m) _).1 138 r = _
        rw [setI_1, if_neg (by omega)]; exact a3
      · show (setI u.2.2 137 (r * 40 + m) _).1 137 (r * 40 + k) = _
        rw [setI_1]
        by_cases y : k = m
        · rw [if_pos ⟨rfl, by omega⟩, y]
          have e := dg_up (n := n) (m + 1) j C m (by omega)
          rw [show m + 1 + j = n by omega] at e
          rw [e]
          show _ = nI (if m = m then C / n ^ j % n else _)
          rw [if_pos rfl]
        · rw [if_neg (by omega)]; exact a4 k (by omega) h2
      · show (setI u.2.2 137 (r * 40 + m) _).1 x y = _
        rw [setI_1, if_neg (by omega)]; exact a5 x y q1 q2
    · intro u ⟨a1, a2, a3, a4, a5, a6⟩
      rw [Nat.sub_self] at a2 a4
      have a2' : u.2.1 = -1 := a2
      exact ⟨_, by rw [a2', if_pos (by decide)], u.2.2, rfl, a3, fun k hk => a4 k (Nat.zero_le _) hk, a5, a6⟩
    · rw [Nat.pow_zero, Nat.div_one]
    · show nI n - (1 : Int32) = nI (n - 0) + (-1 : Int32)
      rw [Nat.sub_zero, show nI n = nI (n - 1 + 1) by rw [show n - 1 + 1 = n by omega], nI_m1, ← nI_1]
      exact Int32.add_sub_cancel _ _
  obtain ⟨t, e, σ', rfl, k1, k2, k3, k4⟩ := key
  obtain ⟨p1, p2⟩ := h.putR (f := fun k => nI (dg n n C k)) hr (by omega) k1 k2 k3 k4
  refine ⟨σ', ?_, p1, p2⟩
  rw [e1, ob_some, wR, ob_some, m1 σ1 (fun b => f1 _ _ (by omega) (by omega)), ob_some, e]
  rfl
theorem sim_marry (x : Int32) : Sim (F_X8_marry 0 x) (F_X9_marry 134 x) := by
  refine sim_of fun A hA => ?_
  obtain ⟨hnw, hn0⟩ := now_wf hA
  have h6 := hnw.1
  rcases ixc x (n := 6) (by decide) with hx | ⟨r, hr, rfl⟩
  · refine ⟨-1, A, hA, C_same fun σ h => ?_, M_same fun σ h => ?_⟩
    · unfold F_X8_marry
      rw [gR_0_0, ob_some, ck_1, ob_some, S_numno sf_1 hx, ob_some, if_pos rfl]
    · unfold F_X9_marry
      rw [row_no hx, ob_some, if_pos rfl]
  · by_cases hz : nowT A.2.2.2 0 = 0
    · refine ⟨-4, A, hA, C_same fun σ h => ?_, M_same fun σ h => ?_⟩
      · unfold F_X8_marry
        rw [gR_0_0, ob_some, ck_1, ob_some, S_num sf_1 hr, ob_some, if_neg (by decide), gR_0_4, ob_some, C_isT h.now, ob_some, hz, if_pos (show nI 0 = (0 : Int32) from rfl)]
      · unfold F_X9_marry
        rw [row_yes hr, ob_some, if_neg (by decide), M_isTown h.now h6, if_pos hz, ob_some, if_pos rfl]
    · obtain ⟨n, hn⟩ : ∃ n, nowT A.2.2.2 0 = n := ⟨_, rfl⟩
      have h0 : 0 < n := by omega
      have n6 : n ≤ 6 := by omega
      have p66 := pow66 n6
      have hc : ∀ i j, i < n → j < n → costT (nowT A.2.2.2) i j ≤ 19 := by rw [← hn]; exact cost_le hnw
      have hend := fo_end h0 n6 hc
      obtain ⟨R, hR⟩ : ∃ R, fo n (costT (nowT A.2.2.2)) (0, 1000000) 0 (n ^ n) = R := ⟨_, rfl⟩
      have hlt : ∀ k, k ≤ n ^ n → (fo n (costT (nowT A.2.2.2)) (0, 1000000) 0 k).1 < n ^ n := by
        intro k
        induction k with
        | zero => intro _; exact Nat.pow_pos h0
        | succ k ih =>
          intro hk
          show (stp n (costT (nowT A.2.2.2)) (fo n (costT (nowT A.2.2.2)) (0, 1000000) 0 k) (0 + k)).1 < _
          by_cases q : okC n (costT (nowT A.2.2.2)) (fo n (costT (nowT A.2.2.2)) (0, 1000000) 0 k) (0 + k)
          · rw [stp_yes q]; show 0 + k < _; omega
          · rw [stp_no q]; exact ih (by omega)
      have hRl := hlt (n ^ n) (Nat.le_refl _)
      rw [hR] at hend hRl
      refine ⟨nI R.2, rowA A r (some n) (fun k => nI (dg n n R.1 k)), hA, fun σ h => ?_, fun σ h => ?_⟩
      · have hnow := h.now
        have fr0 : FrW σ (setI σ 90 2 (1000000 : Int32)) := FrW.set (by decide) (by decide)
        have hW : WM (setI σ 90 2 (1000000 : Int32)) n (0, 1000000) 0 0 := ⟨Nat.le_refl _, by rw [setI_1, if_pos ⟨rfl, rfl⟩]; rfl, Or.inl rfl, fun k hk => absurd hk (by omega)⟩
        have hp : popN (gN n 0 0) = 0 := by show popN 0 = 0; decide
        obtain ⟨σ2, e2, w2, fr2⟩ := C_give hnw (by decide) hn.symm h0 n 8 (by omega) 0 0 (0, 1000000) (setI σ 90 2 (1000000 : Int32)) (Nat.zero_add n) hp (hnow.kept (fun a b p q => fr0.1 a b (by omega))) hW
        rw [Nat.zero_mul, hR] at w2
        obtain ⟨y1, y2, y3, y4⟩ := w2
        have y3' : ∀ k, k < n → σ2.1 91 k = nI (dg n n R.1 k) := y3.resolve_left (by omega)
        have e2' : F_X3_give 8 90 18 (0 : Int32) (0 : Int32) (0 : Int32) (setI σ 90 2 (1000000 : Int32)) = some σ2 := e2
        obtain ⟨h2, f2⟩ := h.side (fr0.tr fr2).o
        obtain ⟨σ3, e3, m1, m2, m3⟩ := S_makeOf (n := n) (src := 91) sf_1 hr h2.1.1 (by omega) (by decide) sh_91 (by omega) (by decide) (by decide)
        obtain ⟨h3, f3⟩ := h2.putR (f := fun k => nI (dg n n R.1 k)) hr (by omega) m1 (fun i hi => (m2 i hi).trans (y3' i hi)) m3
        refine ⟨σ3, ?_, h3, f2.tr f3⟩
        have hn2 := h2.now
        unfold F_X8_marry F_X3_fewestCrossing
        rw [gR_0_0, ob_some, ck_1, ob_some, S_num sf_1 hr, ob_some, if_neg (by decide), gR_0_4, ob_some, C_isT hnow, ob_some, hn, if_neg (nI_ne0 h0 (by omega)), gR_0_10, ob_some, ob_some, ck_90, ob_some, pI_90_2, ob_some, e2', ob_some, gI_90_2, ob_some, ob_some, y2, ob_some, ob_some, C_isT hn2, ob_some, ob_some, gR_90_0, ob_some, ck_1, ob_some, hn, e3, ob_some]
      · have hnow := h.now
        have r0 : aI 135 (0 : Int32) σ = some (nI n) := by rw [← hn]; exact M_r0 hnow
        obtain ⟨σ2, e2, h2, f2⟩ := M_digits (A := A) (C := R.1) (x := nI R.2) h0 n6 hRl hr hn σ h
        refine ⟨σ2, ?_, h2, f2⟩
        have k57 : F_X9_marry_57 134 (nI r) (nI (n ^ n)) σ ((0 : Int32), (1000000 : Int32), (0 : Int32)) = some (nI R.2, σ2) := by
          have key : ∃ t, F_X9_marry_57 134 (nI r) (nI (n ^ n)) σ ((0 : Int32), (1000000 : Int32), (0 : Int32)) = some t ∧ t = (nI R.2, σ2) := by
            unfold F_X9_marry_57
            refine lp_inv (Q := fun t : Int32 × Mem => t = (nI R.2, σ2)) (fun C (u : Int32 × Int32 × Int32) => u.2.2 = nI C ∧ u.1 = nI (fo n (costT (nowT A.2.2.2)) (0, 1000000) 0 C).1 ∧ u.2.1 = nI (fo n (costT (nowT A.2.2.2)) (0, 1000000) 0 C).2) (n ^ n) ?_ ?_ _ ⟨rfl, rfl, rfl⟩
            · intro C u hC ⟨a1, a2, a3⟩
              have hm := (fo_min (n := n) (c := costT (nowT A.2.2.2)) (s := (0, 1000000)) (a := 0) C).1
              refine ⟨(nI (fo n (costT (nowT A.2.2.2)) (0, 1000000) 0 (C + 1)).1, nI (fo n (costT (nowT A.2.2.2)) (0, 1000000) 0 (C + 1)).2, nI (C + 1)), ?_, rfl, rfl, rfl⟩
              · rw [a1, a2, a3, if_neg (nI_ge hC (by omega)), wR, ob_some, r0, ob_some, M_code hnow hnw (by decide) hn.symm h0 hC hm]
                show _ = some (Sum.inl (nI (stp n (costT (nowT A.2.2.2)) (fo n (costT (nowT A.2.2.2)) (0, 1000000) 0 C) (0 + C)).1, nI (stp n (costT (nowT A.2.2.2)) (fo n (costT (nowT A.2.2.2)) (0, 1000000) 0 C) (0 + C)).2, nI (C + 1)))
                rw [Nat.zero_add]
            · intro u ⟨a1, a2, a3⟩
              rw [hR] at a2 a3
              exact ⟨_, by rw [a1, a2, a3, if_pos (nI_le (Nat.le_refl _) (by omega)), wR, ob_some, r0, ob_some]; exact e2, rfl⟩
          obtain ⟨t, e, rfl⟩ := key
          exact e
        have k23 : F_X9_marry_23 134 (nI r) σ ((1 : Int32), (0 : Int32)) = some (nI R.2, σ2) := by
          have key : ∃ t, F_X9_marry_23 134 (nI r) σ ((1 : Int32), (0 : Int32)) = some t ∧ t = (nI R.2, σ2) := by
            unfold F_X9_marry_23
            refine lp_inv (Q := fun t : Int32 × Mem => t = (nI R.2, σ2)) (fun k (u : Int32 × Int32) => u.2 = nI k ∧ u.1 = nI (n ^ k)) n ?_ ?_ _ ⟨rfl, rfl⟩
            · intro k u hk ⟨a1, a2⟩
              refine ⟨(nI (n ^ (k + 1)), nI (k + 1)), ?_, rfl, rfl⟩
              rw [a1, a2, wR, ob_some, r0, ob_some, if_neg (nI_ge hk (by omega)), ob_some, r0, ob_some, pk_mul, Nat.pow_succ, nI_1]
            · intro u ⟨a1, a2⟩
              exact ⟨_, by rw [a1, a2, wR, ob_some, r0, ob_some, if_pos (nI_le (Nat.le_refl _) (by omega)), k57]; rfl, rfl⟩
          obtain ⟨t, e, rfl⟩ := key
          exact e
        unfold F_X9_marry
        rw [row_yes hr, ob_some, if_neg (by decide), M_isTown hnow h6, if_neg hz, ob_some, if_neg (by decide), k23]

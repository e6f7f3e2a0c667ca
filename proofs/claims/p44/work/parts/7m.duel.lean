theorem M_back {σ : Mem} {T : Tn} {B m n : Nat} (hw : wfT B T) (hm : m = T 0 + 1) (hn : n ≤ 4) (hp : m ^ n ≤ 2401) (hv : ∀ j, j < m ^ n → σ.1 144 j = valI (valP m T n 0 j)) : ∃ σ', F_X9_duel_238 134 (nI m) (nI (m ^ n), (nI n - (1 : Int32)), σ) = some (valI (valP m T n n 0), σ') ∧ FrV σ σ' := by
  have m0 : 0 < m := by omega
  have key : ∃ t, F_X9_duel_238 134 (nI m) (nI (m ^ n), (nI n - (1 : Int32)), σ) = some t ∧ (t.1 = valI (valP m T n n 0) ∧ FrV σ t.2) := by
    unfold F_X9_duel_238
    refine lp_inv (fun D (u : Int32 × Int32 × Mem) => u.1 = nI (m ^ (n - D)) ∧ u.2.1 = mvI (n - D) ∧ (∀ j, j < m ^ (n - D) → u.2.2.1 144 j = valI (valP m T n D j)) ∧ FrV σ u.2.2) n ?_ ?_ _ ⟨rfl, mvI_sub n, hv, FrV.rf⟩
    · intro D u hD ⟨a1, a2, a3, a4⟩
      obtain ⟨σ', e, k1, k2⟩ := M_back2 hw hm hn hD hp a3
      have hpl2 : m ^ (n - D) ≤ m ^ n := Nat.pow_le_pow_right m0 (by omega)
      have eD : m ^ (n - D) / m = m ^ (n - (D + 1)) := by
        rw [show n - D = (n - (D + 1)) + 1 by omega, Nat.pow_succ]; exact Nat.mul_div_cancel _ m0
      have a2' : u.2.1 = nI (n - (D + 1)) := by rw [a2, show n - D = (n - (D + 1)) + 1 by omega, mvI_s]
      have em : nI (n - (D + 1)) + (-1 : Int32) = mvI (n - (D + 1)) := rfl
      obtain ⟨x, hx⟩ : ∃ x, mvI (n - (D + 1)) = x := ⟨_, rfl⟩
      refine ⟨(nI (m ^ (n - (D + 1))), x, σ'), ?_, rfl, hx.symm, k1, a4.tr k2⟩
      have m10 : m < 2 ^ 31 := by have := hw.1; omega
      rw [a1, a2', if_neg (nI_pos (by omega)), nz_N m0 m10, ob_some, pk_div (by omega) m0 m10, eD, e, em, hx]
    · intro u ⟨a1, a2, a3, a4⟩
      rw [Nat.sub_self] at a2 a3
      have r0 : aI 144 (0 : Int32) u.2.2 = some (valI (valP m T n n 0)) := (aI_eq (j := 0) sh_144 (by decide) (by decide)).trans (by rw [a3 0 (Nat.pow_pos m0)])
      exact ⟨(valI (valP m T n n 0), u.2.2), by rw [a2, mvI_0, if_pos (by decide), gR_134_15, ob_some, r0, ob_some], rfl, a4⟩
  obtain ⟨⟨t1, t2⟩, e, k1, k2⟩ := key
  exact ⟨t2, by rw [e, show t1 = _ from k1], k2⟩
theorem M_duelL {σ : Mem} {T : Tn} {B m n : Nat} (h : MT σ 0 T) (hw : wfT B T) (hB : B ≤ 900) (hm : m = T 0 + 1) (hn : n ≤ 4) (hp : m ^ n ≤ 2401) : ∃ σ', F_X9_duel_57 134 (nI n) (nI m) (nI (m ^ n)) ((0 : Int32), σ) = some (valI (valP m T n n 0), σ') ∧ FrN σ σ' := by
  have m0 : 0 < m := by omega
  have key : ∃ t, F_X9_duel_57 134 (nI n) (nI m) (nI (m ^ n)) ((0 : Int32), σ) = some t ∧ (t.1 = valI (valP m T n n 0) ∧ FrN σ t.2) := by
    unfold F_X9_duel_57
    refine lp_inv (fun C (u : Int32 × Mem) => u.1 = nI C ∧ (∀ j, j < C → u.2.1 144 j = valI (valP m T n 0 j)) ∧ (∀ a b, (a ≠ 135 ∨ b < 7260) → a ≠ 144 → u.2.1 a b = σ.1 a b) ∧ u.2.2 = σ.2) (m ^ n) ?_ ?_ _ ⟨rfl, fun j hj => absurd hj (by omega), fun _ _ _ _ => rfl, rfl⟩
    · intro C u hC ⟨a1, a2, a3, a4⟩
      have hu : MT u.2 0 T := h.kept (fun b _ _ => a3 _ _ (by omega) (by decide))
      obtain ⟨σ1, e1, c1, f1⟩ := M_tries hu
      have hC1 : COL σ1 T := fun i hi => by rw [f1.1 _ _ (by omega)]; exact hu.col i hi
      obtain ⟨σ2, e2, v2, f2, f3⟩ := M_play (x3 := nI (m ^ n)) c1 hC1 hw hB hm hn hC hp
      refine ⟨(nI (C + 1), σ2), ?_, rfl, fun j hj => ?_, fun a b q1 q2 => ?_, ?_⟩
      · rw [a1, if_neg (nI_ge hC (by omega)), e1, ob_some, e2]
      · show σ2.1 144 j = _
        by_cases y : j = C
        · rw [y]; exact v2
        · rw [f2 _ _ (by omega) (by omega), f1.1 _ _ (by omega)]; exact a2 j (by omega)
      · show σ2.1 a b = _
        rw [f2 a b q1 (by omega), f1.1 a b (by omega)]; exact a3 a b q1 q2
      · show σ2.2 = _
        rw [f3, f1.2]; exact a4
    · intro u ⟨a1, a2, a3, a4⟩
      obtain ⟨σ', e, f⟩ := M_back hw hm hn hp a2
      refine ⟨(valI (valP m T n n 0), σ'), ?_, rfl, fun a b q => ?_, fun a b _ => by rw [f.2, a4]⟩
      · rw [a1, if_pos (nI_le (Nat.le_refl _) (by omega)), e]; rfl
      · show σ'.1 a b = _
        rw [f.1 a b (by omega)]; exact a3 a b (by omega) (by omega)
  obtain ⟨⟨t1, t2⟩, e, k1, k2⟩ := key
  exact ⟨t2, by rw [e, show t1 = _ from k1], k2⟩
theorem pow74 {m n : Nat} (hm : m ≤ 7) (hn : n ≤ 4) : m ^ n ≤ 2401 := by
  have h : ∀ m, m ≤ 7 → ∀ n, n ≤ 4 → m ^ n ≤ 2401 := by decide
  exact h m hm n hn
theorem sim_duel (x : Int32) : Sim (F_X8_duel 0 x) (F_X9_duel 134 x) := by
  refine sim_of fun A hA => ?_
  obtain ⟨hnw, hn0⟩ := now_wf hA
  have h6 := hnw.1
  have d0 : (0 : Int64).toInt = 0 := rfl
  have d4 : (4 : Int64).toInt = 4 := rfl
  have t4 : (x ≤ (4 : Int32)) ↔ x.toInt ≤ 4 := by rw [Int32.le_iff_toInt_le]; rfl
  by_cases hx : 0 ≤ x.toInt ∧ x.toInt ≤ 4
  · obtain ⟨n, hn, rfl⟩ := nat_of hx.1
    have nx : ¬ nI n < 0 := fun q => by have := neg_iff.mp q; omega
    have n4 : n ≤ 4 := by omega
    by_cases hz : nowT A.2.2.2 0 = 0
    · refine ⟨-4, A, hA, C_same fun σ h => ?_, M_same fun σ h => ?_⟩
      · unfold F_X8_duel
        rw [if_neg nx, if_pos (t4.mpr hx.2), gR_0_4, ob_some, C_isT h.now, ob_some, hz, if_pos (show nI 0 = (0 : Int32) from rfl)]
      · unfold F_X9_duel
        rw [in_eq, wide, d0, d4, if_pos hx, ob_some, if_neg (by decide), M_isTown h.now h6, if_pos hz, ob_some, if_pos rfl]
    · generalize hT : nowT A.2.2.2 = T at *
      have m0 : 0 < T 0 + 1 := by omega
      have hp := pow74 (m := T 0 + 1) (n := n) (by omega) n4
      have hv := valP_eq (m := T 0 + 1) hnw rfl n4 n 0 (Nat.le_refl _)
      rw [Nat.sub_self] at hv
      have hv2 : valP (T 0 + 1) T n n 0 = some (0 + gmF n 0 T) := hv
      rw [Nat.zero_add] at hv2
      refine ⟨nI (gmF n 0 T), A, hA, fun σ h => ?_, fun σ h => ?_⟩
      · have hnow := h.now
        rw [hT] at hnow
        obtain ⟨σ', e, f⟩ := C_foundF n4 n 8 (by omega) 0 T 40 σ (Nat.zero_add n) hnow hnw (by omega)
        have e' : F_X1_foundFrom 8 98 18 (0 : Int32) (nI n) σ = some (nI (gmF n 0 T), σ') := e
        have fo : FrO σ σ' := ⟨fun a b q => f.1 a b (by omega), f.2⟩
        refine ⟨σ', ?_, (h.side fo).1, (h.side fo).2⟩
        unfold F_X8_duel
        rw [if_neg nx, if_pos (t4.mpr hx.2), gR_0_4, ob_some, C_isT hnow, ob_some, if_neg (nI_ne0 (by omega) (by omega)), gR_0_12, ob_some, ob_some, ck_98, ob_some, e', ob_some]
      · have hnow := h.now
        rw [hT] at hnow
        obtain ⟨σ', e, f⟩ := M_duelL hnow hnw (by decide) rfl n4 hp
        rw [hv2, valI_s] at e
        refine ⟨σ', ?_, (h.side hA f).1, (h.side hA f).2⟩
        have k38 : F_X9_duel_38 134 (nI n) (nI (T 0 + 1)) σ ((1 : Int32), (0 : Int32)) = some (nI (gmF n 0 T), σ') := by
          have key : ∃ t, F_X9_duel_38 134 (nI n) (nI (T 0 + 1)) σ ((1 : Int32), (0 : Int32)) = some t ∧ t = (nI (gmF n 0 T), σ') := by
            unfold F_X9_duel_38
            refine lp_inv (Q := fun t : Int32 × Mem => t = (nI (gmF n 0 T), σ')) (fun k (u : Int32 × Int32) => u.2 = nI k ∧ u.1 = nI ((T 0 + 1) ^ k)) n ?_ ?_ _ ⟨rfl, rfl⟩
            · intro k u hk ⟨a1, a2⟩
              refine ⟨(nI ((T 0 + 1) ^ (k + 1)), nI (k + 1)), ?_, rfl, rfl⟩
              rw [a1, a2, if_neg (nI_ge hk (by omega)), pk_mul, Nat.pow_succ, nI_1]
            · intro u ⟨a1, a2⟩
              exact ⟨_, by rw [a1, a2, if_pos (nI_le (Nat.le_refl _) (by omega)), e]; rfl, rfl⟩
          obtain ⟨t, e2, rfl⟩ := key
          exact e2
        unfold F_X9_duel
        rw [in_eq, wide, d0, d4, if_pos hx, ob_some, if_neg (by decide), M_isTown hnow h6, if_neg hz, ob_some, if_neg (by decide), wR, ob_some, M_r0 hnow, ob_some, nI_1, k38]
  · refine ⟨-1, A, hA, C_same fun σ h => ?_, M_same fun σ h => ?_⟩
    · unfold F_X8_duel
      by_cases q : x < 0
      · rw [if_pos q]
      · have q' : ¬ x.toInt < 0 := fun z => q (neg_iff.mpr z)
        rw [if_neg q, if_neg (fun z => by have := t4.mp z; omega)]
    · unfold F_X9_duel
      rw [in_eq, wide, d0, d4, if_neg hx, ob_some, if_pos rfl]

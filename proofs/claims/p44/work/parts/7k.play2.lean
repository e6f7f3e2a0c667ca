def valI (o : Option Nat) : Int32 := match o with
  | none => -1
  | some x => nI x
theorem valI_n : valI none = -1 := rfl
theorem valI_s (x : Nat) : valI (some x) = nI x := rfl
theorem run_col {B m : Nat} {T : Tn} (hw : wfT B T) (hm : m = T 0 + 1) : ∀ k e j, (runP m T k e).1 (39 + j) = T (39 + j)
  | 0, _, _ => rfl
  | k + 1, e, j => by
    obtain ⟨h1, h2⟩ := wf_runP hw hm k (e / m)
    have h6 := h1.1
    have ih := run_col hw hm k (e / m) j
    exact (step_col h6 (by rw [h2, ← hm]; exact Nat.mod_lt _ (by omega))).trans ih
theorem M_play {σ : Mem} {T : Tn} {B n m C : Nat} {x3 : Int32} (h : MT σ 7260 T) (hC : COL σ T) (hw : wfT B T) (hB : B ≤ 900) (hm : m = T 0 + 1) (hn : n ≤ 4) (hc : C < m ^ n) (hp : m ^ n ≤ 2401) : ∃ σ', F_X9_duel_79 134 (nI n) (nI m) x3 (nI C) ((0 : Int32), nI (m ^ n), (1 : Int32), (0 : Int32), σ) = some (.inl (nI (C + 1), σ')) ∧ σ'.1 144 C = valI (valP m T n 0 C) ∧ (∀ a b, (a ≠ 135 ∨ b < 7260) → (a ≠ 144 ∨ b ≠ C) → σ'.1 a b = σ.1 a b) ∧ σ'.2 = σ.2 := by
  have h6 := hw.1
  have m0 : 0 < m := by omega
  have key : ∃ t, F_X9_duel_79 134 (nI n) (nI m) x3 (nI C) ((0 : Int32), nI (m ^ n), (1 : Int32), (0 : Int32), σ) = some t ∧ ∃ σ', t = .inl (nI (C + 1), σ') ∧ σ'.1 144 C = valI (valP m T n 0 C) ∧ (∀ a b, (a ≠ 135 ∨ b < 7260) → (a ≠ 144 ∨ b ≠ C) → σ'.1 a b = σ.1 a b) ∧ σ'.2 = σ.2 := by
    unfold F_X9_duel_79
    refine lp_inv (fun k (u : Int32 × Int32 × Int32 × Int32 × Mem) => u.1 = nI (runP m T k (C / m ^ (n - k))).2.1 ∧ u.2.1 = nI (m ^ (n - k)) ∧ u.2.2.1 = mayI (runP m T k (C / m ^ (n - k))).2.2 ∧ u.2.2.2.1 = nI k ∧ PS u.2.2.2.2 T (runP m T k (C / m ^ (n - k))) ∧ FrM 7260 σ u.2.2.2.2) n ?_ ?_ _ ⟨rfl, rfl, rfl, rfl, ⟨h, hC⟩, FrM.rf⟩
    · intro k u hk ⟨a1, a2, a3, a4, a5, a6⟩
      obtain ⟨D, hD⟩ : ∃ D, n - k = D + 1 := ⟨n - k - 1, by omega⟩
      rw [hD] at a1 a2 a3 a5
      obtain ⟨w1, w2⟩ := wf_runP hw hm k (C / m ^ (D + 1))
      have col := run_col hw hm k (C / m ^ (D + 1))
      have hpD : 0 < m ^ D := Nat.pow_pos m0
      have hpl : m ^ (D + 1) ≤ m ^ n := Nat.pow_le_pow_right m0 (by omega)
      have hpl2 : m ^ D ≤ m ^ (D + 1) := Nat.pow_le_pow_right m0 (by omega)
      have eD : m ^ (D + 1) / m = m ^ D := by rw [Nat.pow_succ]; exact Nat.mul_div_cancel _ m0
      have eq1 : C / m ^ D / m = C / m ^ (D + 1) := by rw [Nat.div_div_eq_div_mul, ← Nat.pow_succ]
      have hq : C / m ^ D ≤ C := Nat.div_le_self _ _
      have hd : C / m ^ D % m < m := Nat.mod_lt _ m0
      have eR : runP m T (k + 1) (C / m ^ D) = stepP k (runP m T k (C / m ^ (D + 1))) (C / m ^ D % m) := by
        show stepP k (runP m T k (C / m ^ D / m)) (C / m ^ D % m) = _
        rw [eq1]
      obtain ⟨σ', e, p1, p2⟩ := M_stepP (x1 := nI n) (x2 := nI m) (x3 := x3) (x4 := nI C) (x0 := 0) (part := nI (m ^ D)) a5 w1 (by omega) (fun j _ => col j) (show C / m ^ D % m < (runP m T k (C / m ^ (D + 1))).1 0 + 1 by omega) (show k ≤ 4 by omega)
      have nk1 : n - (k + 1) = D := by omega
      refine ⟨(nI (runP m T (k + 1) (C / m ^ D)).2.1, nI (m ^ D), mayI (runP m T (k + 1) (C / m ^ D)).2.2, nI (k + 1), σ'), ?_, ?_⟩
      · rw [a1, a2, a3, a4, if_neg (nI_ge hk (by omega)), nz_N m0 (by omega), ob_some, pk_div (by omega) m0 (by omega), eD, nz_N hpD (by omega), ob_some, ob_some, pk_div (by omega) hpD (by omega), pk_rem (by omega) m0 (by omega), mvI_sub]
        dsimp only
        rw [e, ← eR]
      · rw [nk1]
        refine ⟨rfl, rfl, rfl, rfl, ?_, a6.tr p2⟩
        rw [eR]; exact p1
    · intro u ⟨a1, a2, a3, a4, a5, a6⟩
      rw [Nat.sub_self, Nat.pow_zero, Nat.div_one] at a1 a3 a5
      obtain ⟨P, hP⟩ : ∃ P, runP m T n C = P := ⟨_, rfl⟩
      rw [hP] at a1 a3
      have eV : valP m T n 0 C = endP P := by rw [← hP]; rfl
      rw [eV]
      unfold F_X9_duel_223
      rw [a1, a3, a4, if_pos (nI_le (Nat.le_refl _) (by omega)), gR_134_15, ob_some]
      have fin : ∀ v : Int32, v = valI (endP P) → (setI u.2.2.2.2 144 C v).1 144 C = valI (endP P) ∧ (∀ a b, (a ≠ 135 ∨ b < 7260) → (a ≠ 144 ∨ b ≠ C) → (setI u.2.2.2.2 144 C v).1 a b = σ.1 a b) ∧ (setI u.2.2.2.2 144 C v).2 = σ.2 := fun v hv => by
        refine ⟨by rw [setI_1, if_pos ⟨rfl, rfl⟩, hv], fun a b q1 q2 => ?_, a6.2⟩
        rw [setI_1, if_neg (by omega)]
        exact a6.1 a b (by omega)
      by_cases c : P.2.2 = true
      · have eE : valI (endP P) = nI P.2.1 := by unfold endP; rw [if_pos c]; rfl
        rw [mayI_t c, if_neg (by decide), sI_eq sh_144 (by omega) (by decide), ob_some, nI_1]
        exact ⟨_, rfl, _, rfl, fin _ eE.symm⟩
      · have eE : valI (endP P) = -1 := by unfold endP; rw [if_neg c]; rfl
        rw [mayI_f c, if_pos rfl, sI_eq sh_144 (by omega) (by decide), ob_some, nI_1]
        exact ⟨_, rfl, _, rfl, fin _ eE.symm⟩
  obtain ⟨t, e, σ', rfl, k⟩ := key
  exact ⟨σ', e, k⟩

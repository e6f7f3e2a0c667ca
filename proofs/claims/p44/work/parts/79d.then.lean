/-! ===== then ===== -/
theorem M_tries {σ : Mem} {T : Tn} (h : MT σ 0 T) : ∃ σ', F_X9_tries 134 σ = some σ' ∧ MT σ' 7260 T ∧ FrM 7260 σ σ' := by
  obtain ⟨σ1, e1, c1, c2, c3⟩ := M_cp (σ := σ) (f := 0) (t := 7260) (n := 44) (by omega) (by omega) (by omega)
  have e1' : F_X9_copyAll 134 (0 : Int32) (7260 : Int32) (44 : Int32) σ = some σ1 := e1
  exact ⟨σ1, by unfold F_X9_tries; rw [e1', ob_some], fun j hj => (c1 j hj).trans (h j hj), fun a b q => c2 a b q, c3⟩
theorem wf_passN {B : Nat} {T : Tn} (hw : wfT B T) : ∀ n, wfT (B + n) (passN T n)
  | 0 => hw
  | n + 1 => wf_pass (wf_passN hw n)
theorem passN_col {T : Tn} (h6 : T 0 ≤ 6) {m : Nat} : ∀ n, passN T n (39 + m) = T (39 + m)
  | 0 => rfl
  | n + 1 => by
    show updT (passL (passN T n) (passN T n 0)) 1 _ (39 + m) = _
    rw [upd_ne (by omega), passL_col _ (by rw [passN_0]; exact h6), passN_col h6 n]
theorem M_nights {σ : Mem} {T : Tn} {B n : Nat} (h : MT σ 7260 T) (hC : COL σ T) (hw : wfT B T) (hB : B + n ≤ 100000) : ∃ σ', F_X9_triesNights 134 (nI n) σ = some σ' ∧ MT σ' 7260 (passN T n) ∧ FrM 7260 σ σ' := by
  have h6 := hw.1
  unfold F_X9_triesNights F_X9_triesNights_2
  refine lp_inv (Q := fun t : Mem => MT t 7260 (passN T n) ∧ FrM 7260 σ t) (fun j (s : Int32 × Mem) => s.1 = nI j ∧ MT s.2 7260 (passN T j) ∧ COL s.2 T ∧ FrM 7260 σ s.2) n ?_ ?_ _ ⟨rfl, h, hC, FrM.rf⟩
  · intro j s hj ⟨a1, a2, a3, a4⟩
    obtain ⟨σ', g1, g2, g3⟩ := M_pass (f := 7260) a2 (a3.ext (fun m _ => passN_col h6 j)) (by decide) (Or.inr (by decide)) (wf_passN hw j) (by omega)
    have g1' : F_X9_passes 134 (7260 : Int32) s.2 = some (_, σ') := g1
    refine ⟨(nI (j + 1), σ'), ?_, rfl, g2, fun m hm => ?_, a4.tr g3⟩
    · rw [a1, if_neg (nI_ge hj (by omega)), g1', ob_some, nI_1]
    · show σ'.1 135 (39 + m) = _
      rw [g3.1 _ _ (by omega)]; exact a3 m hm
  · intro s ⟨a1, a2, a3, a4⟩
    exact ⟨s.2, by rw [a1, if_pos (nI_le (Nat.le_refl _) (by omega))], a2, a4⟩

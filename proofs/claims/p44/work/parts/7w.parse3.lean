def ansT (o : Nat ⊕ Tn) : Int32 := match o with
  | .inl r => nI r
  | .inr _ => -9
theorem resB_0 {v : Nat → Int32} {n p : Nat} {D : Tn} : resB v n 0 D p = if n ≤ sk v n p then .inr D else .inl (sk v n p) := rfl
theorem resB_s {v : Nat → Int32} {n f p : Nat} {D : Tn} : resB v n (f + 1) D p = if n ≤ sk v n p then (if D 0 = 0 then .inl (sk v n p) else .inr D) else if kdN (v (sk v n p)) = 6 then .inl (sk v n p) else if cfN v n 0 3 (sk v n p + 1) = 3 then resB v n f (addB v D (sk v n p)) (sk v n p + 4) else .inl (sk v n p + 1 + cfN v n 0 3 (sk v n p + 1)) := rfl
theorem cfN_at {v : Nat → Int32} {n l : Nat} : ∀ k j p, j < k → (∀ m, m < j → figP v n l (p + m)) → ¬ figP v n l (p + j) → cfN v n l k p = j
  | 0, j, p, h, _, _ => absurd h (by omega)
  | k + 1, 0, p, _, _, hn => cfN_no hn
  | k + 1, j + 1, p, h, hy, hn => by
    rw [cfN_yes (show figP v n l p from hy 0 (by omega))]
    rw [cfN_at k j (p + 1) (by omega) (fun m hm => by rw [show p + 1 + m = p + (m + 1) by omega]; exact hy (m + 1) (by omega)) (by rw [show p + 1 + j = p + (j + 1) by omega]; exact hn)]
theorem cfN_all {v : Nat → Int32} {n l : Nat} : ∀ k p, (∀ m, m < k → figP v n l (p + m)) → cfN v n l k p = k
  | 0, p, _ => rfl
  | k + 1, p, hy => by
    rw [cfN_yes (show figP v n l p from hy 0 (by omega)), cfN_all k (p + 1) (fun m hm => by rw [show p + 1 + m = p + (m + 1) by omega]; exact hy (m + 1) (by omega))]
theorem C_bedno {σ : Mem} {v : Nat → Int32} {n q : Nat} {D : Tn} (h : CD σ D) (hR : RD σ v n q) (hn : n ≤ 60) (hq : q < n) (hx : kdN (v q) = 6 ∨ D 0 = 6) : F_X4_takesBed 35 σ = some (0, σ) := by
  have kl := kdN_le (v q)
  unfold F_X4_takesBed
  rw [C_kindHere hR hn (by omega), ob_some, if_pos hq]
  by_cases k6 : kdN (v q) = 6
  · rw [if_pos k6, if_pos rfl]
  · rw [if_neg k6, if_neg (nI_m1' (by omega)), gR_35_0, ob_some, tI_8 tw_36, h.1, ob_some, hx.resolve_left k6, if_neg (by decide)]
theorem C_beds {v : Nat → Int32} {n : Nat} (hn : n ≤ 60) : ∀ f D p σ, D 0 + f = 6 → p ≤ n → CD σ D → RD σ v n p → ∃ σ', F_X4_readTown_69 35 (nI (D 0), σ) = some (ansT (resB v n f D p), σ') ∧ FrT σ σ' ∧ ∀ D', resB v n f D p = .inr D' → CD σ' D' := by
  intro f
  induction f with
  | zero =>
    intro D p σ hf hp h hR
    obtain ⟨s1, s2⟩ := sk_le (v := v) hp
    obtain ⟨σ1, e1, r1, g1⟩ := C_skip hn (n - p) p σ rfl hp hR
    have h1 := h.pg g1
    have n6 : ¬ (6 : Int32) < nI (D 0) := fun z => by
      have := (nI_ltI (a := 6) (b := D 0) (by decide) (by omega)).mp z
      omega
    rw [resB_0]
    by_cases q : n ≤ sk v n p
    · rw [if_pos q]
      refine ⟨σ1, ?_, g1.t, fun D' z => ?_⟩
      · unfold F_X4_readTown_69
        apply lp_out
        dsimp only
        rw [if_neg n6, e1, ob_some, gI_35_3, ob_some, gI_35_2, ob_some, r1.1, r1.2.1, if_neg (nI_nlt (by omega) (by omega)), gR_35_0, ob_some, tI_8 tw_36, h1.1, ob_some, if_neg (show ¬ nI (D 0) ≤ (0 : Int32) from nI_ge (a := 0) (by omega) (by omega))]
        rfl
      · injection z with z
        rw [← z]; exact h1
    · rw [if_neg q]
      refine ⟨σ1, ?_, g1.t, fun D' z => by cases z⟩
      unfold F_X4_readTown_69
      apply lp_out
      dsimp only
      rw [if_neg n6, e1, ob_some, gI_35_3, ob_some, gI_35_2, ob_some, r1.1, r1.2.1, if_pos (nI_lt (by omega) (by omega)), C_bedno h1 r1 hn (by omega) (Or.inr (by omega)), ob_some, if_pos rfl, gI_35_3, ob_some, r1.2.1]
      rfl
  | succ f ih =>
    intro D p σ hf hp h hR
    obtain ⟨s1, s2⟩ := sk_le (v := v) hp
    obtain ⟨σ1, e1, r1, g1⟩ := C_skip hn (n - p) p σ rfl hp hR
    have h1 := h.pg g1
    have n6 : ¬ (6 : Int32) < nI (D 0) := fun z => by
      have := (nI_ltI (a := 6) (b := D 0) (by decide) (by omega)).mp z
      omega
    rw [resB_s]
    by_cases q : n ≤ sk v n p
    · rw [if_pos q]
      by_cases z0 : D 0 = 0
      · rw [if_pos z0]
        refine ⟨σ1, ?_, g1.t, fun D' z => by cases z⟩
        unfold F_X4_readTown_69
        apply lp_out
        dsimp only
        rw [if_neg n6, e1, ob_some, gI_35_3, ob_some, gI_35_2, ob_some, r1.1, r1.2.1, if_neg (nI_nlt (by omega) (by omega)), gR_35_0, ob_some, tI_8 tw_36, h1.1, ob_some, z0, if_pos (by decide), ob_some]
        rfl
      · rw [if_neg z0]
        refine ⟨σ1, ?_, g1.t, fun D' z => ?_⟩
        · unfold F_X4_readTown_69
          apply lp_out
          dsimp only
          rw [if_neg n6, e1, ob_some, gI_35_3, ob_some, gI_35_2, ob_some, r1.1, r1.2.1, if_neg (nI_nlt (by omega) (by omega)), gR_35_0, ob_some, tI_8 tw_36, h1.1, ob_some, if_neg (show ¬ nI (D 0) ≤ (0 : Int32) from nI_ge (a := 0) (by omega) (by omega))]
          rfl
        · injection z with z
          rw [← z]; exact h1
    · rw [if_neg q]
      by_cases k6 : kdN (v (sk v n p)) = 6
      · rw [if_pos k6]
        refine ⟨σ1, ?_, g1.t, fun D' z => by cases z⟩
        unfold F_X4_readTown_69
        apply lp_out
        dsimp only
        rw [if_neg n6, e1, ob_some, gI_35_3, ob_some, gI_35_2, ob_some, r1.1, r1.2.1, if_pos (nI_lt (by omega) (by omega)), C_bedno h1 r1 hn (by omega) (Or.inl k6), ob_some, if_pos rfl, gI_35_3, ob_some, r1.2.1]
        rfl
      · rw [if_neg k6]
        obtain ⟨ky, kn⟩ := C_takesBed h1 r1 hn (by omega) k6 (by omega)
        by_cases c3 : cfN v n 0 3 (sk v n p + 1) = 3
        · rw [if_pos c3]
          obtain ⟨σ2, e2, r2, h2, f2⟩ := ky c3
          have e0 : addB v D (sk v n p) 0 = D 0 + 1 := by unfold addB; rw [upd_eq]
          have hl : sk v n p + 4 ≤ n := by
            have p1 : figP v n 0 (sk v n p + 1) := Decidable.byContradiction fun z => by rw [cfN_no z] at c3; omega
            rw [cfN_yes p1] at c3
            have p2 : figP v n 0 (sk v n p + 1 + 1) := Decidable.byContradiction fun z => by rw [cfN_no z] at c3; omega
            rw [cfN_yes p2] at c3
            have p3 : figP v n 0 (sk v n p + 1 + 1 + 1) := Decidable.byContradiction fun z => by rw [cfN_no z] at c3; omega
            have := p3.1
            omega
          obtain ⟨σ3, e3, f3, k3⟩ := ih (addB v D (sk v n p)) (sk v n p + 4) σ2 (by omega) hl h2 r2
          refine ⟨σ3, ?_, (g1.t.tr f2).tr f3, k3⟩
          rw [e0] at e3
          rw [← e3]
          unfold F_X4_readTown_69
          apply lp_in
          dsimp only
          rw [if_neg n6, e1, ob_some, gI_35_3, ob_some, gI_35_2, ob_some, r1.1, r1.2.1, if_pos (nI_lt (by omega) (by omega)), e2, ob_some, if_neg (show ¬ (1 : Int32) = 0 by decide), nI_1]
        · rw [if_neg c3]
          obtain ⟨σ2, e2, r2, f2⟩ := kn c3
          refine ⟨σ2, ?_, g1.t.tr f2, fun D' z => by cases z⟩
          unfold F_X4_readTown_69
          apply lp_out
          dsimp only
          rw [if_neg n6, e1, ob_some, gI_35_3, ob_some, gI_35_2, ob_some, r1.1, r1.2.1, if_pos (nI_lt (by omega) (by omega)), e2, ob_some, if_pos rfl, gI_35_3, ob_some, r2.2.1]
          rfl

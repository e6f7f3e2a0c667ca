theorem oddS_yes {p o v R : Nat} (h : subN R o = true ∧ v ≤ popN R) : oddS p o v (R + 1) = oddS p o v R + wayN p o R := if_pos h
theorem oddS_no {p o v R : Nat} (h : ¬ (subN R o = true ∧ v ≤ popN R)) : oddS p o v (R + 1) = oddS p o v R := if_neg h
theorem pow_lt62 : ∀ k, k ≤ 6 → 12 ^ k < 2 ^ 62 ∧ 12 ^ k ≠ 0 := by decide
theorem odd_lt62 {p o v : Nat} (hp : p ≤ 12) : oddS p o v 64 < 2 ^ 62 := by
  have h := oddS_le (p := p) (o := o) (v := v) (fun R => way_le hp) 64
  exact Nat.lt_of_le_of_lt h (by decide)
theorem C_isT {σ : Mem} {T : Tn} (h : CT σ 18 T) : gI 7 8 18 σ = some (nI (T 0)) := by rw [tI_8 tw_18, h.1]
theorem C_oddL {A : Ab} {T : Tn} {v p o : Nat} (hv : v ≤ 6) (hp : p ≤ 12) (ho : o < 64) (σ : Mem) (h : RC A σ) : ∃ σ', F_X8_odds_49 0 (nI v) (nI p) (nI o) σ ((0 : Int64), (0 : Int32)) = some (1, σ') ∧ RC (toldL A (lN (oddS p o v 64 / Nat.gcd (oddS p o v 64) (12 ^ popN o))) (lN (12 ^ popN o / Nat.gcd (oddS p o v 64) (12 ^ popN o)))) σ' ∧ FC σ σ' := by
  have hpo := pow_lt62 (popN o) (pop_le o)
  obtain ⟨σ', e, h1, h2⟩ := C_chance (A := A) (odd_lt62 (o := o) (v := v) hp) hpo.1 hpo.2 σ h
  have key : ∃ t, F_X8_odds_49 0 (nI v) (nI p) (nI o) σ ((0 : Int64), (0 : Int32)) = some t ∧ t = (1, σ') := by
    unfold F_X8_odds_49
    refine lp_inv (Q := fun t : Int32 × Mem => t = (1, σ')) (fun R (s : Int64 × Int32) => s.2 = nI R ∧ s.1 = lN (oddS p o v R)) 64 ?_ ?_ _ ⟨rfl, rfl⟩
    · intro R s hR ⟨a1, a2⟩
      refine ⟨(lN (oddS p o v (R + 1)), nI (R + 1)), ?_, rfl, rfl⟩
      rw [a1, a2, if_neg (show ¬ (64 : Int32) ≤ nI R from nI_ge (b := 64) hR (by decide))]
      have hpR := pop_le R
      by_cases q : subN R o = true
      · rw [if_pos ((sub_iff o ho R hR).mpr q), bc_pop hR, ob_some]
        by_cases z : v ≤ popN R
        · rw [if_neg (nI_nlt z (by omega)), C_ways hp ho hR q, ob_some, lN_add, nI_1, oddS_yes ⟨q, z⟩]
        · rw [if_pos (nI_lt (by omega) (by omega)), nI_1, oddS_no (fun y => z y.2)]
      · rw [if_neg (fun z => q ((sub_iff o ho R hR).mp z)), nI_1, oddS_no (fun y => q y.1)]
    · intro s ⟨a1, a2⟩
      refine ⟨_, ?_, rfl⟩
      rw [a1, if_pos (show (64 : Int32) ≤ nI 64 by decide), bc_pop ho, ob_some, show (12 : Int32) = nI 12 from rfl, C_power (by decide) (pop_le o), ob_some, a2, e, ob_some]
  obtain ⟨t, e2, rfl⟩ := key
  exact ⟨σ', e2, h1, h2⟩
theorem M_oddL {A : Ab} {T : Tn} {v p o : Nat} (hv : v ≤ 6) (hp : p ≤ 12) (h6 : T 0 ≤ 6) (ho : o < 2 ^ T 0) (hT : nowT A.2.2.2 = T) (σ : Mem) (h : RM A σ) : ∃ σ', F_X9_odds_47 134 (nI v) (nI p) (nI o) σ ((0 : Int64), (0 : Int32)) = some (1, σ') ∧ RM (toldL A (lN (oddS p o v 64 / Nat.gcd (oddS p o v 64) (12 ^ popN o))) (lN (12 ^ popN o / Nat.gcd (oddS p o v 64) (12 ^ popN o)))) σ' ∧ FM σ σ' := by
  have o64 : o < 64 := by
    have h2 : 2 ^ T 0 ≤ 2 ^ 6 := Nat.pow_le_pow_right (by decide) h6
    omega
  have hnow := h.now
  rw [hT] at hnow
  have hpo := pow_lt62 (popN o) (pop_le o)
  obtain ⟨σ', e, h1, h2⟩ := M_parts (A := A) (odd_lt62 (o := o) (v := v) hp) hpo.1 hpo.2 σ h
  have key : ∃ t, F_X9_odds_47 134 (nI v) (nI p) (nI o) σ ((0 : Int64), (0 : Int32)) = some t ∧ t = (1, σ') := by
    unfold F_X9_odds_47
    refine lp_inv (Q := fun t : Int32 × Mem => t = (1, σ')) (fun R (s : Int64 × Int32) => s.2 = nI R ∧ s.1 = lN (oddS p o v R)) 64 ?_ ?_ _ ⟨rfl, rfl⟩
    · intro R s hR ⟨a1, a2⟩
      refine ⟨(lN (oddS p o v (R + 1)), nI (R + 1)), ?_, rfl, rfl⟩
      rw [a1, a2, if_neg (show ¬ (64 : Int32) ≤ nI R from nI_ge (b := 64) hR (by decide))]
      unfold F_X9_odds_85 F_X9_odds_86
      have hpR := pop_le R
      have e0 : lN (oddS p o v R) + (0 : Int64) = lN (oddS p o v R) := lN_add (oddS p o v R) 0
      by_cases q : subN R o = true
      · rw [if_pos ((sub_iff o o64 R hR).mpr q), M_ones hR, ob_some]
        by_cases z : v ≤ popN R
        · rw [if_neg (nI_nlt z (by omega)), M_ways hnow h6 hp ho hR q, ob_some, lN_add, nI_1, oddS_yes ⟨q, z⟩]
        · rw [if_pos (nI_lt (by omega) (by omega)), nI_1, oddS_no (fun y => z y.2), e0]
      · rw [if_neg (fun z => q ((sub_iff o o64 R hR).mp z)), nI_1, oddS_no (fun y => q y.1), e0]
    · intro s ⟨a1, a2⟩
      refine ⟨_, ?_, rfl⟩
      rw [a1, if_pos (show (64 : Int32) ≤ nI 64 by decide), M_all o64, ob_some, a2, e, ob_some]
  obtain ⟨t, e2, rfl⟩ := key
  exact ⟨σ', e2, h1, h2⟩
theorem sim_odds (x y : Int32) : Sim (F_X8_odds 0 x y) (F_X9_odds 134 x y) := by
  refine sim_of fun A hA => ?_
  obtain ⟨hnw, hn0⟩ := now_wf hA
  have h6 := hnw.1
  have d0 : (0 : Int64).toInt = 0 := rfl
  have d6 : (6 : Int64).toInt = 6 := rfl
  have d12 : (12 : Int64).toInt = 12 := rfl
  have t6 : ((6 : Int32) < x) ↔ 6 < x.toInt := by rw [Int32.lt_iff_toInt_lt]; rfl
  have t12 : (y ≤ (12 : Int32)) ↔ y.toInt ≤ 12 := by rw [Int32.le_iff_toInt_le]; rfl
  by_cases hx : 0 ≤ x.toInt ∧ x.toInt ≤ 6
  · obtain ⟨v, hv, rfl⟩ := nat_of hx.1
    have nx : ¬ nI v < 0 := fun q => by have := neg_iff.mp q; omega
    have nx6 : ¬ (6 : Int32) < nI v := fun q => by have := t6.mp q; omega
    by_cases hy : 0 ≤ y.toInt ∧ y.toInt ≤ 12
    · obtain ⟨p, hp, rfl⟩ := nat_of hy.1
      have ny : ¬ nI p < 0 := fun q => by have := neg_iff.mp q; omega
      by_cases hz : nowT A.2.2.2 0 = 0
      · refine ⟨-4, A, hA, C_same fun σ h => ?_, M_same fun σ h => ?_⟩
        · unfold F_X8_odds
          rw [if_neg nx, if_neg nx6, if_neg ny, if_pos (t12.mpr hy.2), gR_0_4, ob_some, C_isT h.now, ob_some, hz, if_pos (show nI 0 = (0 : Int32) from rfl)]
        · unfold F_X9_odds
          rw [in_eq, wide, d0, d6, if_pos hx, ob_some, if_neg (by decide), in_eq, wide, d0, d12, if_pos hy, ob_some, if_neg (by decide), M_isTown h.now h6, if_pos hz, ob_some, if_pos rfl]
      · have o64 := bitN_64 (P := fun j => dueT (nowT A.2.2.2) j) h6
        obtain ⟨X, Y, kC, kM⟩ : ∃ X Y, (∀ σ, RC A σ → ∃ σ', F_X8_odds_49 0 (nI v) (nI p) (nI (dueN (nowT A.2.2.2))) σ ((0 : Int64), (0 : Int32)) = some (1, σ') ∧ RC (toldL A X Y) σ' ∧ FC σ σ') ∧ ∀ σ, RM A σ → ∃ σ', F_X9_odds_47 134 (nI v) (nI p) (nI (dueN (nowT A.2.2.2))) σ ((0 : Int64), (0 : Int32)) = some (1, σ') ∧ RM (toldL A X Y) σ' ∧ FM σ σ' := ⟨_, _, C_oddL (T := nowT A.2.2.2) (by omega) (by omega) o64, M_oddL (T := nowT A.2.2.2) (by omega) (by omega) h6 (bitN_lt _) rfl⟩
        refine ⟨1, toldL A X Y, hA, fun σ h => ?_, fun σ h => ?_⟩
        · obtain ⟨σ', e, h1, h2⟩ := kC σ h
          refine ⟨σ', ?_, h1, h2⟩
          unfold F_X8_odds
          rw [if_neg nx, if_neg nx6, if_neg ny, if_pos (t12.mpr hy.2), gR_0_4, ob_some, C_isT h.now, ob_some, if_neg (nI_ne0 (by omega) (by omega)), ob_some, tC tw_18, ob_some, C_bits tw_18 h.now hnw, ob_some, e]
        · obtain ⟨σ', e, h1, h2⟩ := kM σ h
          refine ⟨σ', ?_, h1, h2⟩
          unfold F_X9_odds
          rw [in_eq, wide, d0, d6, if_pos hx, ob_some, if_neg (by decide), in_eq, wide, d0, d12, if_pos hy, ob_some, if_neg (by decide), M_isTown h.now h6, if_neg hz, ob_some, if_neg (by decide), M_dueNow h.now hnw, ob_some, e]
    · refine ⟨-1, A, hA, C_same fun σ h => ?_, M_same fun σ h => ?_⟩
      · unfold F_X8_odds
        rw [if_neg nx, if_neg nx6]
        by_cases q : y < 0
        · rw [if_pos q]
        · have q' : ¬ y.toInt < 0 := fun z => q (neg_iff.mpr z)
          rw [if_neg q, if_neg (fun z => by have := t12.mp z; omega)]
      · unfold F_X9_odds
        rw [in_eq, wide, d0, d6, if_pos hx, ob_some, if_neg (by decide), in_eq, wide, d0, d12, if_neg hy, ob_some, if_pos rfl]
  · refine ⟨-1, A, hA, C_same fun σ h => ?_, M_same fun σ h => ?_⟩
    · unfold F_X8_odds
      by_cases q : x < 0
      · rw [if_pos q]
      · have q' : ¬ x.toInt < 0 := fun z => q (neg_iff.mpr z)
        rw [if_neg q, if_pos (t6.mpr (by omega))]
    · unfold F_X9_odds
      rw [in_eq, wide, d0, d6, if_neg hx, ob_some, if_pos rfl]

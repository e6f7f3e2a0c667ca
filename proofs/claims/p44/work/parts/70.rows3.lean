theorem ixc (a : Int32) {n : Nat} (hn : n < 2 ^ 31) : (a < 0 ∨ nI n ≤ a) ∨ ∃ r, r < n ∧ a = nI r := (pk_ix a hn).elim (fun h => Or.inl (Or.inl h)) (fun h => h.elim (fun h => Or.inl (Or.inr h)) Or.inr)
theorem in_row {n : Nat} {x : Int32} {σ : Mem} (hn : n ≤ 60) : F_X9_in x.toInt64 (0 : Int64) (nI n - (1 : Int32)).toInt64 σ = some (if x < 0 ∨ nI n ≤ x then 0 else 1) := by
  rw [in_eq, wide, wide]
  have e : (nI n - (1 : Int32)).toInt = (n : Int) - 1 := pk_sub_toInt (a := n) (b := 1) (by omega) (by decide)
  have e0 : (0 : Int64).toInt = 0 := rfl
  have e00 : (0 : Int32).toInt = 0 := rfl
  have h : (x < 0 ∨ nI n ≤ x) ↔ (x.toInt < 0 ∨ (n : Int) ≤ x.toInt) := by
    rw [Int32.lt_iff_toInt_lt, Int32.le_iff_toInt_le, nI_toInt (by omega), e00]
  by_cases q : x < 0 ∨ nI n ≤ x
  · rw [if_pos q, if_neg]
    rw [e, e0]
    have := h.mp q
    omega
  · rw [if_neg q, if_pos]
    rw [e, e0]
    have this : ¬ (x.toInt < 0 ∨ (n : Int) ≤ x.toInt) := fun z => q (h.mpr z)
    omega
theorem sim_at (a b : Int32) : Sim (F_X8_at 0 a b) (F_X9_at 134 a b) := by
  refine sim_of fun A hA => ?_
  rcases ixc a (n := 6) (by decide) with ha | ⟨r, hr, rfl⟩
  · refine ⟨-1, A, hA, C_same fun σ _ => ?_, M_same fun σ _ => ?_⟩
    · unfold F_X8_at
      rw [gR_0_0, ob_some, Rp_no sf_1 ha, ob_some, if_neg n10]
    · unfold F_X9_at
      rw [row_no ha, ob_some, if_pos rfl]
  · cases hs : A.1.1 r with
    | none =>
      refine ⟨-3, foundA A 1, hA, fun σ h => ?_, fun σ h => ?_⟩
      · obtain ⟨σ', e, h1, h2⟩ := C_refuse (A := A) (f := 1) (by decide) σ h
        refine ⟨σ', ?_, h1, h2⟩
        unfold F_X8_at
        rw [gR_0_0, ob_some, Rp_none sf_1 hr (h.1.no hr hs) e, ob_some, if_neg n30]
      · obtain ⟨σ', e, h1, h2⟩ := M_found (A := A) (f := 1) (by decide) σ h
        have e' : F_X9_found 134 (1 : Int32) σ = some (-3, σ') := e
        refine ⟨σ', ?_, h1, h2⟩
        unfold F_X9_at
        rw [row_yes hr, ob_some, if_neg (by decide), gR_134_4, ob_some, aI_eq sh_138 hr (by decide), ob_some, h.1.no hr hs, if_neg nm1, e', ob_some]
    | some n =>
      rcases Nat.lt_or_ge 40 n with hbig | hsm
      · exact ⟨-1, A, hA, fun σ h => absurd (h.1.row hr hs).1 (by omega), fun σ h => absurd (h.1.row hr hs).1 (by omega)⟩
      rcases ixc b (n := n) (by omega) with hb | ⟨i, hi, rfl⟩
      · refine ⟨-3, foundA A 2, hA, fun σ h => ?_, fun σ h => ?_⟩
        · obtain ⟨hn, g1, g2⟩ := h.1.row hr hs
          obtain ⟨σ', e, h1, h2⟩ := C_refuse (A := A) (f := 2) (by decide) σ h
          refine ⟨σ', ?_, h1, h2⟩
          unfold F_X8_at
          rw [gR_0_0, ob_some, Rp_out sf_1 hr hn g1 hb e, ob_some, if_neg n30]
        · obtain ⟨hn, g1, g2⟩ := h.1.row hr hs
          obtain ⟨σ', e, h1, h2⟩ := M_found (A := A) (f := 2) (by decide) σ h
          have e' : F_X9_found 134 (2 : Int32) σ = some (-3, σ') := e
          refine ⟨σ', ?_, h1, h2⟩
          unfold F_X9_at
          rw [row_yes hr, ob_some, if_neg (by decide), gR_134_4, ob_some, aI_eq sh_138 hr (by decide), ob_some, g1, if_pos (nI_pos' (by omega)), ob_some, aI_eq sh_138 hr (by decide), ob_some, g1, in_row (by omega), ob_some, if_pos hb, if_pos rfl, e', ob_some]
      · refine ⟨1, toldA A (A.1.2 r i), hA, fun σ h => ?_, fun σ h => ?_⟩
        · obtain ⟨hn, g1, g2⟩ := h.1.row hr hs
          obtain ⟨σ', e, h1, h2⟩ := C_tell (A := A) (v := A.1.2 r i) σ h
          refine ⟨σ', ?_, h1, h2⟩
          unfold F_X8_at
          rw [gR_0_0, ob_some, Rp_in sf_1 hr hn g1 hi, ob_some, if_pos rfl, ob_some, ck_1, ob_some, S_get sf_1 hr h.1.1 g1 hn hi, ob_some, g2 i hi, e, ob_some]
        · obtain ⟨hn, g1, g2⟩ := h.1.row hr hs
          obtain ⟨σ', e, h1, h2⟩ := M_tells (A := A) (v := A.1.2 r i) (r := 1) σ h
          refine ⟨σ', ?_, h1, h2⟩
          have hb : ¬ (nI i < 0 ∨ nI n ≤ nI i) := fun q => q.elim (nI_pos (by omega)) (nI_ge hi (by omega))
          unfold F_X9_at
          rw [row_yes hr, ob_some, if_neg (by decide), gR_134_4, ob_some, aI_eq sh_138 hr (by decide), ob_some, g1, if_pos (nI_pos' (by omega)), ob_some, aI_eq sh_138 hr (by decide), ob_some, g1, in_row (by omega), ob_some, if_neg hb, if_neg (by decide), gR_134_3, ob_some, ix40, aI_eq sh_137 (by omega) (by decide), ob_some, g2 i hi, e, ob_some]

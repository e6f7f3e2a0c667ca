/-! ===== mean ===== -/
def accS (f : Nat → Int32) : Nat → Int64
  | 0 => 0
  | n + 1 => accS f n + (f n).toInt64
theorem nz_row {n : Nat} (h0 : 0 < n) (hn : n ≤ 1000) : nzL (nI n).toInt64 = some () := by
  unfold nzL
  rw [if_neg]
  intro z
  have e := congrArg Int64.toInt z
  rw [wide, nI_toInt (by omega)] at e
  have e0 : (0 : Int64).toInt = 0 := rfl
  rw [e0] at e
  omega
theorem sim_mean (a : Int32) : Sim (F_X8_mean 0 a) (F_X9_mean 134 a) := by
  refine sim_of fun A hA => ?_
  rcases ixc a (n := 6) (by decide) with ha | ⟨r, hr, rfl⟩
  · refine ⟨-1, A, hA, C_same fun σ _ => ?_, M_same fun σ _ => ?_⟩
    · unfold F_X8_mean
      rw [gR_0_0, ob_some, Rm_no sf_1 ha, ob_some, if_neg n10]
    · unfold F_X9_mean
      rw [row_no ha, ob_some, if_pos rfl]
  · cases hs : A.1.1 r with
    | none =>
      refine ⟨-3, foundA A 1, hA, fun σ h => ?_, fun σ h => ?_⟩
      · obtain ⟨σ', e, h1, h2⟩ := C_refuse (A := A) (f := 1) (by decide) σ h
        refine ⟨σ', ?_, h1, h2⟩
        unfold F_X8_mean
        rw [gR_0_0, ob_some, Rm_none sf_1 hr (h.1.no hr hs), e, ob_some, if_neg n30]
      · obtain ⟨σ', e, h1, h2⟩ := M_found (A := A) (f := 1) (by decide) σ h
        have e' : F_X9_found 134 (1 : Int32) σ = some (-3, σ') := e
        refine ⟨σ', ?_, h1, h2⟩
        unfold F_X9_mean
        rw [row_yes hr, ob_some, if_neg (by decide), gR_134_4, ob_some, aI_eq sh_138 hr (by decide), ob_some, h.1.no hr hs, if_neg nm1, e', ob_some]
    | some n =>
      rcases Nat.lt_or_ge 40 n with hbig | hsm
      · exact ⟨-1, A, hA, fun σ h => absurd (h.1.row hr hs).1 (by omega), fun σ h => absurd (h.1.row hr hs).1 (by omega)⟩
      by_cases hz : n = 0
      · refine ⟨-3, foundA A 4, hA, fun σ h => ?_, fun σ h => ?_⟩
        · obtain ⟨hn, g1, g2⟩ := h.1.row hr hs
          obtain ⟨σ', e, h1, h2⟩ := C_refuse (A := A) (f := 4) (by decide) σ h
          have e' : F_X8_refuse 0 (4 : Int32) σ = some (-3, σ') := e
          refine ⟨σ', ?_, h1, h2⟩
          unfold F_X8_mean
          rw [gR_0_0, ob_some, Rm_some sf_1 hr hn g1, ob_some, if_pos rfl, ob_some, ck_1, ob_some, S_size sf_1 hr, ob_some, g1, hz, if_neg (by decide), e', ob_some]
        · obtain ⟨hn, g1, g2⟩ := h.1.row hr hs
          obtain ⟨σ', e, h1, h2⟩ := M_found (A := A) (f := 4) (by decide) σ h
          have e' : F_X9_found 134 (4 : Int32) σ = some (-3, σ') := e
          refine ⟨σ', ?_, h1, h2⟩
          unfold F_X9_mean
          rw [row_yes hr, ob_some, if_neg (by decide), gR_134_4, ob_some, aI_eq sh_138 hr (by decide), ob_some, g1, hz, if_pos (by decide), ob_some, aI_eq sh_138 hr (by decide), ob_some, g1, hz, if_pos (show nI 0 = (0 : Int32) from rfl), e', ob_some]
      · refine ⟨1, toldA A (accS (A.1.2 r) n / (nI n).toInt64).toInt32, hA, fun σ h => ?_, fun σ h => ?_⟩
        · obtain ⟨hn, g1, g2⟩ := h.1.row hr hs
          obtain ⟨σ', e, h1, h2⟩ := C_tell (A := A) (v := (accS (A.1.2 r) n / (nI n).toInt64).toInt32) σ h
          refine ⟨σ', ?_, h1, h2⟩
          have key : ∃ q, F_X8_mean_41 0 (nI r) (nI n) σ ((0 : Int64), (0 : Int32)) = some q ∧ q = (1, σ') := by
            unfold F_X8_mean_41
            refine lp_inv (Q := fun q : Int32 × Mem => q = (1, σ')) (fun i (s : Int64 × Int32) => s.1 = accS (A.1.2 r) i ∧ s.2 = nI i) n ?_ ?_ _ ⟨rfl, rfl⟩
            · intro i s hi ⟨a1, a2⟩
              refine ⟨(accS (A.1.2 r) (i + 1), nI (i + 1)), ?_, rfl, rfl⟩
              rw [a2, if_neg (nI_ge hi (by omega)), gR_0_0, ob_some, ck_1, ob_some, S_get sf_1 hr h.1.1 g1 hn hi, ob_some, g2 i hi, a1, nI_1]
              rfl
            · intro s ⟨a1, a2⟩
              exact ⟨(1, σ'), by rw [a2, if_pos (nI_le (Nat.le_refl _) (by omega)), nz_row (by omega) (by omega), ob_some, a1, e, ob_some], rfl⟩
          obtain ⟨q, e2, rfl⟩ := key
          unfold F_X8_mean
          rw [gR_0_0, ob_some, Rm_some sf_1 hr hn g1, ob_some, if_pos rfl, ob_some, ck_1, ob_some, S_size sf_1 hr, ob_some, g1, if_pos (show (0 : Int32) < nI n from nI_lt (a := 0) (b := n) (by omega) (by omega)), e2]
        · obtain ⟨hn, g1, g2⟩ := h.1.row hr hs
          obtain ⟨σ', e, h1, h2⟩ := M_tells (A := A) (v := (accS (A.1.2 r) n / (nI n).toInt64).toInt32) (r := 1) σ h
          refine ⟨σ', ?_, h1, h2⟩
          have key : ∃ q, F_X9_mean_44 134 (nI r) σ ((0 : Int64), (0 : Int32)) = some q ∧ q = (1, σ') := by
            unfold F_X9_mean_44
            refine lp_inv (Q := fun q : Int32 × Mem => q = (1, σ')) (fun i (s : Int64 × Int32) => s.1 = accS (A.1.2 r) i ∧ s.2 = nI i) n ?_ ?_ _ ⟨rfl, rfl⟩
            · intro i s hi ⟨a1, a2⟩
              refine ⟨(accS (A.1.2 r) (i + 1), nI (i + 1)), ?_, rfl, rfl⟩
              rw [gR_134_4, ob_some, aI_eq sh_138 hr (by decide), ob_some, g1, a2, if_neg (nI_ge hi (by omega)), gR_134_3, ob_some, ix40, aI_eq sh_137 (by omega) (by decide), ob_some, g2 i hi, a1, nI_1]
              rfl
            · intro s ⟨a1, a2⟩
              exact ⟨(1, σ'), by rw [gR_134_4, ob_some, aI_eq sh_138 hr (by decide), ob_some, g1, a2, if_pos (nI_le (Nat.le_refl _) (by omega)), ob_some, aI_eq sh_138 hr (by decide), ob_some, g1, nz_row (by omega) (by omega), ob_some, a1, e, ob_some], rfl⟩
          obtain ⟨q, e2, rfl⟩ := key
          unfold F_X9_mean
          rw [row_yes hr, ob_some, if_neg (by decide), gR_134_4, ob_some, aI_eq sh_138 hr (by decide), ob_some, g1, if_pos (nI_pos' (by omega)), ob_some, aI_eq sh_138 hr (by decide), ob_some, g1, if_neg (nI_ne0 (by omega) (by omega)), e2]

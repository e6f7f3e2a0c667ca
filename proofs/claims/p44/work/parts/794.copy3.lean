theorem fnd {A : Ab} (f : Nat) (hf : f < 6) : CAns A (F_X8_refuse 0 (nI f)) (-3) (foundA A f) ∧ MAns A (F_X9_found 134 (nI f)) (-3) (foundA A f) := ⟨C_refuse hf, M_found hf⟩
theorem sim_copy (a x b y c : Int32) : Sim (F_X8_copy 0 a x b y c) (F_X9_copy 134 a x b y c) := by
  refine sim_of fun A hA => ?_
  rcases ixc a (n := 6) (by decide) with ha | ⟨r, hr, rfl⟩
  · refine ⟨-1, A, hA, C_same fun σ _ => ?_, M_same fun σ _ => ?_⟩
    · unfold F_X8_copy
      rw [gR_0_0, ob_some, ck_1, ob_some, S_numno sf_1 ha, ob_some, if_pos rfl]
    · unfold F_X9_copy
      rw [row_no ha, ob_some, if_pos rfl]
  rcases ixc b (n := 6) (by decide) with hb | ⟨t, ht, rfl⟩
  · refine ⟨-1, A, hA, C_same fun σ _ => ?_, M_same fun σ _ => ?_⟩
    · unfold F_X8_copy
      rw [gR_0_0, ob_some, ck_1, ob_some, S_num sf_1 hr, ob_some, if_neg (by decide), ob_some, ck_1, ob_some, S_numno sf_1 hb, ob_some, if_pos rfl]
    · unfold F_X9_copy
      rw [row_yes hr, ob_some, if_neg (by decide), row_no hb, ob_some, if_pos rfl]
  have hp : ∀ σ : Mem, F_X8_copy 0 (nI r) x (nI t) y c σ = if 0 ≤ c then (F_X6_stands 1 (nI r) σ).bind fun q21 => if q21 = 0 then F_X8_copy_57 0 σ else (F_X6_stands 1 (nI t) σ).bind fun q27 => if q27 = 0 then F_X8_copy_57 0 σ else (F_X6_holds 1 (nI r) x c σ).bind fun q33 => if q33 = 0 then F_X8_copy_92 0 σ else (F_X6_holds 1 (nI t) y c σ).bind fun q39 => if q39 = 0 then F_X8_copy_92 0 σ else (F_X6_move 1 (nI r) x (nI t) y c σ).bind fun q45 => some ((1 : Int32), q45) else (F_X8_refuse 0 (5 : Int32) σ).bind fun q47 => some (q47.1, q47.2) := fun σ => by
    unfold F_X8_copy
    rw [gR_0_0, ob_some, ck_1, ob_some, S_num sf_1 hr, ob_some, if_neg (by decide), ob_some, ck_1, ob_some, S_num sf_1 ht, ob_some, if_neg (by decide)]
    rfl
  have hq : ∀ σ : Mem, F_X9_copy 134 (nI r) x (nI t) y c σ = if 0 ≤ c then (if σ.1 138 r < 0 then F_X9_copy_45 134 σ else if 0 ≤ σ.1 138 t then (F_X9_fits x c (σ.1 138 r) σ).bind fun q44 => if q44 = 0 then F_X9_copy_82 134 σ else (F_X9_fits y c (σ.1 138 t) σ).bind fun q51 => if q51 = 0 then F_X9_copy_82 134 σ else F_X9_copy_91 134 (nI r) x (nI t) y c ((0 : Int32), σ) else F_X9_copy_45 134 σ) else (F_X9_found 134 (5 : Int32) σ).bind fun q54 => some (q54.1, q54.2) := fun σ => by
    unfold F_X9_copy
    rw [row_yes hr, ob_some, if_neg (by decide), row_yes ht, ob_some, if_neg (by decide), gR_134_4]
    simp only [ob_some, aI_eq sh_138 hr (show 6 ≤ 100000 by decide), aI_eq sh_138 ht (show 6 ≤ 100000 by decide)]
  have f1 := fnd (A := A) 1 (by decide)
  have f2 := fnd (A := A) 2 (by decide)
  have f5 := fnd (A := A) 5 (by decide)
  have r1 : CAns A (F_X8_copy_57 0) (-3) (foundA A 1) := fun σ h => by
    obtain ⟨σ', e, h1, h2⟩ := f1.1 σ h
    have e' : F_X8_refuse 0 (1 : Int32) σ = some (-3, σ') := e
    exact ⟨σ', by unfold F_X8_copy_57; rw [e', ob_some], h1, h2⟩
  have r2 : CAns A (F_X8_copy_92 0) (-3) (foundA A 2) := fun σ h => by
    obtain ⟨σ', e, h1, h2⟩ := f2.1 σ h
    have e' : F_X8_refuse 0 (2 : Int32) σ = some (-3, σ') := e
    exact ⟨σ', by unfold F_X8_copy_92; rw [e', ob_some], h1, h2⟩
  have m1 : MAns A (F_X9_copy_45 134) (-3) (foundA A 1) := fun σ h => by
    obtain ⟨σ', e, h1, h2⟩ := f1.2 σ h
    have e' : F_X9_found 134 (1 : Int32) σ = some (-3, σ') := e
    exact ⟨σ', by unfold F_X9_copy_45; rw [e', ob_some], h1, h2⟩
  have m2 : MAns A (F_X9_copy_82 134) (-3) (foundA A 2) := fun σ h => by
    obtain ⟨σ', e, h1, h2⟩ := f2.2 σ h
    have e' : F_X9_found 134 (2 : Int32) σ = some (-3, σ') := e
    exact ⟨σ', by unfold F_X9_copy_82; rw [e', ob_some], h1, h2⟩
  by_cases hc : 0 ≤ c
  · have hc' : 0 ≤ c.toInt := by
      rw [Int32.le_iff_toInt_le] at hc; exact hc
    cases hs : A.1.1 r with
    | none =>
      refine ⟨-3, foundA A 1, hA, fun σ h => ?_, fun σ h => ?_⟩
      · rw [hp, if_pos hc, S_stands sf_1 hr, ob_some, h.1.no hr hs, if_pos (m1_lt (n := 0)), if_pos rfl]
        exact r1 σ h
      · rw [hq, if_pos hc, h.1.no hr hs, if_pos (m1_lt (n := 0))]
        exact m1 σ h
    | some n =>
      cases hs2 : A.1.1 t with
      | none =>
        refine ⟨-3, foundA A 1, hA, fun σ h => ?_, fun σ h => ?_⟩
        · obtain ⟨hn, g1, g2⟩ := h.1.row hr hs
          rw [hp, if_pos hc, S_stands sf_1 hr, ob_some, g1, if_neg (nI_pos (by omega)), if_neg (by decide), S_stands sf_1 ht, ob_some, h.1.no ht hs2, if_pos (m1_lt (n := 0)), if_pos rfl]
          exact r1 σ h
        · obtain ⟨hn, g1, g2⟩ := h.1.row hr hs
          rw [hq, if_pos hc, g1, if_neg (nI_pos (by omega)), h.1.no ht hs2, if_neg nm1]
          exact m1 σ h
      | some m =>
        rcases Nat.lt_or_ge 40 n with hbig | hsm
        · exact ⟨-1, A, hA, fun σ h => absurd (h.1.row hr hs).1 (by omega), fun σ h => absurd (h.1.row hr hs).1 (by omega)⟩
        rcases Nat.lt_or_ge 40 m with hbig | hsm2
        · exact ⟨-1, A, hA, fun σ h => absurd (h.1.row ht hs2).1 (by omega), fun σ h => absurd (h.1.row ht hs2).1 (by omega)⟩
        have cp : ∀ σ, RC A σ → F_X8_copy 0 (nI r) x (nI t) y c σ = if 0 ≤ x.toInt ∧ x.toInt + c.toInt ≤ n then (if 0 ≤ y.toInt ∧ y.toInt + c.toInt ≤ m then (F_X6_move 1 (nI r) x (nI t) y c σ).bind fun q45 => some ((1 : Int32), q45) else F_X8_copy_92 0 σ) else F_X8_copy_92 0 σ := fun σ h => by
          obtain ⟨hn, g1, g2⟩ := h.1.row hr hs
          obtain ⟨hm, g3, g4⟩ := h.1.row ht hs2
          rw [hp, if_pos hc, S_stands sf_1 hr, ob_some, g1, if_neg (nI_pos (by omega)), if_neg (by decide), S_stands sf_1 ht, ob_some, g3, if_neg (nI_pos (by omega)), if_neg (by decide), S_holds sf_1 hr g1 hn hc', ob_some]
          by_cases z1 : 0 ≤ x.toInt ∧ x.toInt + c.toInt ≤ n
          · rw [if_pos z1, if_pos z1, if_neg (by decide), S_holds sf_1 ht g3 hm hc', ob_some]
            by_cases z2 : 0 ≤ y.toInt ∧ y.toInt + c.toInt ≤ m
            · rw [if_pos z2, if_pos z2, if_neg (by decide)]
            · rw [if_neg z2, if_neg z2, if_pos rfl]
          · rw [if_neg z1, if_neg z1, if_pos rfl]
        have mp : ∀ σ, RM A σ → F_X9_copy 134 (nI r) x (nI t) y c σ = if 0 ≤ x.toInt ∧ x.toInt + c.toInt ≤ n then (if 0 ≤ y.toInt ∧ y.toInt + c.toInt ≤ m then F_X9_copy_91 134 (nI r) x (nI t) y c ((0 : Int32), σ) else F_X9_copy_82 134 σ) else F_X9_copy_82 134 σ := fun σ h => by
          obtain ⟨hn, g1, g2⟩ := h.1.row hr hs
          obtain ⟨hm, g3, g4⟩ := h.1.row ht hs2
          rw [hq, if_pos hc, g1, if_neg (nI_pos (by omega)), g3, if_pos (nI_pos' (by omega)), M_fits (by omega) hc', ob_some]
          by_cases z1 : 0 ≤ x.toInt ∧ x.toInt + c.toInt ≤ n
          · rw [if_pos z1, if_pos z1, if_neg (by decide), M_fits (by omega) hc', ob_some]
            by_cases z2 : 0 ≤ y.toInt ∧ y.toInt + c.toInt ≤ m
            · rw [if_pos z2, if_pos z2, if_neg (by decide)]
            · rw [if_neg z2, if_neg z2, if_pos rfl]
          · rw [if_neg z1, if_neg z1, if_pos rfl]
        by_cases z1 : 0 ≤ x.toInt ∧ x.toInt + c.toInt ≤ n
        · by_cases z2 : 0 ≤ y.toInt ∧ y.toInt + c.toInt ≤ m
          · obtain ⟨k, hk, rfl⟩ := nat_of hc'
            obtain ⟨i, hi, rfl⟩ := nat_of z1.1
            obtain ⟨j, hj, rfl⟩ := nat_of z2.1
            have q1 : i + k ≤ n := by omega
            have q2 : j + k ≤ m := by omega
            refine ⟨1, rowA A t (some m) (copF A r t i j k), hA, fun σ h => ?_, fun σ h => ?_⟩
            · obtain ⟨σ', e, h1, h2⟩ := C_cop hr ht hs hs2 q1 q2 σ h
              exact ⟨σ', by rw [cp σ h, if_pos z1, if_pos z2, e, ob_some], h1, h2⟩
            · obtain ⟨σ', e, h1, h2⟩ := M_cop hr ht hs hs2 q1 q2 σ h
              exact ⟨σ', by rw [mp σ h, if_pos z1, if_pos z2, e], h1, h2⟩
          · refine ⟨-3, foundA A 2, hA, fun σ h => ?_, fun σ h => ?_⟩
            · rw [cp σ h, if_pos z1, if_neg z2]; exact r2 σ h
            · rw [mp σ h, if_pos z1, if_neg z2]; exact m2 σ h
        · refine ⟨-3, foundA A 2, hA, fun σ h => ?_, fun σ h => ?_⟩
          · rw [cp σ h, if_neg z1]; exact r2 σ h
          · rw [mp σ h, if_neg z1]; exact m2 σ h
  · refine ⟨-3, foundA A 5, hA, fun σ h => ?_, fun σ h => ?_⟩
    · obtain ⟨σ', e, h1, h2⟩ := f5.1 σ h
      have e' : F_X8_refuse 0 (5 : Int32) σ = some (-3, σ') := e
      exact ⟨σ', by rw [hp, if_neg hc, e', ob_some], h1, h2⟩
    · obtain ⟨σ', e, h1, h2⟩ := f5.2 σ h
      have e' : F_X9_found 134 (5 : Int32) σ = some (-3, σ') := e
      exact ⟨σ', by rw [hq, if_neg hc, e', ob_some], h1, h2⟩

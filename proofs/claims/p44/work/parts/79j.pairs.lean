theorem in99 {x : Int32} {σ : Mem} : F_X9_in x.toInt64 (0 : Int64) (99 : Int64) σ = some (if 0 ≤ x.toInt ∧ x.toInt ≤ 99 then 1 else 0) := by
  rw [in_eq, wide, show (0 : Int64).toInt = 0 from rfl, show (99 : Int64).toInt = 99 from rfl]
theorem in30 {x : Int32} {σ : Mem} : F_X9_in x.toInt64 (0 : Int64) (30 : Int64) σ = some (if 0 ≤ x.toInt ∧ x.toInt ≤ 30 then 1 else 0) := by
  rw [in_eq, wide, show (0 : Int64).toInt = 0 from rfl, show (30 : Int64).toInt = 30 from rfl]
theorem M_against {σ : Mem} {r n : Nat} {f : Nat → Int32} (hr : r < 6) (hn : n ≤ 40) (he : n % 2 = 0) (h1 : σ.1 138 r = nI n) (h2 : ∀ j, j < n → σ.1 137 (r * 40 + j) = f j) : ((∀ k, k < n / 2 → goodP f k) → F_X9_against_34 134 (nI r) σ (0 : Int32) = some (0, σ)) ∧ ((¬ ∀ k, k < n / 2 → goodP f k) → ∀ z σ', F_X9_found 134 (3 : Int32) σ = some (z, σ') → F_X9_against_34 134 (nI r) σ (0 : Int32) = some (z, σ')) := by
  have stp : ∀ j, j < n / 2 → ∀ s : Int32, s = nI (2 * j) → goodP f j → ∃ s', (gR 9 4 134).bind (fun p2 => (aI p2 (nI r) σ).bind fun v3 => if v3 ≤ s then (some (.inr (((0 : Int32), σ))) : Option (Int32 ⊕ (Int32 × Mem))) else (gR 9 3 134).bind fun p7 => (aI p7 (((40 : Int32) * nI r) + s) σ).bind fun v8 => (F_X9_in v8.toInt64 (0 : Int64) (99 : Int64) σ).bind fun q10 => if q10 = 0 then (F_X9_against_90 134 σ).map fun z => .inr z else (gR 9 3 134).bind fun p14 => (aI p14 ((((40 : Int32) * nI r) + s) + (1 : Int32)) σ).bind fun v15 => (F_X9_in v15.toInt64 (0 : Int64) (30 : Int64) σ).bind fun q17 => if q17 = 0 then (F_X9_against_90 134 σ).map fun z => .inr z else some (.inl (s + (2 : Int32)))) = some (.inl s') ∧ s' = nI (2 * (j + 1)) := by
    intro j hj s hs q
    refine ⟨nI (2 * (j + 1)), ?_, rfl⟩
    rw [hs, gR_134_4, ob_some, aI_eq sh_138 hr (by decide), ob_some, h1, if_neg (nI_ge (by omega) (by omega)), gR_134_3, ob_some, ix40, aI_eq sh_137 (by omega) (by decide), ob_some, h2 _ (by omega), in99, ob_some, if_pos q.1, if_neg (by decide), ob_some, nI_1, aI_eq sh_137 (by omega) (by decide), ob_some, show r * 40 + 2 * j + 1 = r * 40 + (2 * j + 1) by omega, h2 _ (by omega), in30, ob_some, if_pos q.2, if_neg (by decide), show nI (2 * j) + (2 : Int32) = nI (2 * (j + 1)) from nI_add (2 * j) 2]
  have bad : ∀ j, j < n / 2 → ∀ s : Int32, s = nI (2 * j) → ¬ goodP f j → ∀ z σ', F_X9_found 134 (3 : Int32) σ = some (z, σ') → (gR 9 4 134).bind (fun p2 => (aI p2 (nI r) σ).bind fun v3 => if v3 ≤ s then (some (.inr (((0 : Int32), σ))) : Option (Int32 ⊕ (Int32 × Mem))) else (gR 9 3 134).bind fun p7 => (aI p7 (((40 : Int32) * nI r) + s) σ).bind fun v8 => (F_X9_in v8.toInt64 (0 : Int64) (99 : Int64) σ).bind fun q10 => if q10 = 0 then (F_X9_against_90 134 σ).map fun z => .inr z else (gR 9 3 134).bind fun p14 => (aI p14 ((((40 : Int32) * nI r) + s) + (1 : Int32)) σ).bind fun v15 => (F_X9_in v15.toInt64 (0 : Int64) (30 : Int64) σ).bind fun q17 => if q17 = 0 then (F_X9_against_90 134 σ).map fun z => .inr z else some (.inl (s + (2 : Int32)))) = some (.inr (z, σ')) := by
    intro j hj s hs q z σ' ez
    have e9 : F_X9_against_90 134 σ = some (z, σ') := by unfold F_X9_against_90; rw [ez, ob_some]
    rw [hs, gR_134_4, ob_some, aI_eq sh_138 hr (by decide), ob_some, h1, if_neg (nI_ge (by omega) (by omega)), gR_134_3, ob_some, ix40, aI_eq sh_137 (by omega) (by decide), ob_some, h2 _ (by omega), in99, ob_some]
    by_cases q1 : 0 ≤ (f (2 * j)).toInt ∧ (f (2 * j)).toInt ≤ 99
    · rw [if_pos q1, if_neg (by decide), ob_some, nI_1, aI_eq sh_137 (by omega) (by decide), ob_some, show r * 40 + 2 * j + 1 = r * 40 + (2 * j + 1) by omega, h2 _ (by omega), in30, ob_some, if_neg (fun y => q ⟨q1, y⟩), if_pos rfl, e9]
      rfl
    · rw [if_neg q1, if_pos rfl, e9]
      rfl
  have fin : ∀ s : Int32, s = nI (2 * (n / 2)) → (gR 9 4 134).bind (fun p2 => (aI p2 (nI r) σ).bind fun v3 => if v3 ≤ s then (some (.inr (((0 : Int32), σ))) : Option (Int32 ⊕ (Int32 × Mem))) else (gR 9 3 134).bind fun p7 => (aI p7 (((40 : Int32) * nI r) + s) σ).bind fun v8 => (F_X9_in v8.toInt64 (0 : Int64) (99 : Int64) σ).bind fun q10 => if q10 = 0 then (F_X9_against_90 134 σ).map fun z => .inr z else (gR 9 3 134).bind fun p14 => (aI p14 ((((40 : Int32) * nI r) + s) + (1 : Int32)) σ).bind fun v15 => (F_X9_in v15.toInt64 (0 : Int64) (30 : Int64) σ).bind fun q17 => if q17 = 0 then (F_X9_against_90 134 σ).map fun z => .inr z else some (.inl (s + (2 : Int32)))) = some (.inr (0, σ)) := by
    intro s hs
    rw [hs, gR_134_4, ob_some, aI_eq sh_138 hr (by decide), ob_some, h1, if_pos (nI_le (by omega) (by omega))]
  constructor
  · intro hg
    have key : ∃ t, F_X9_against_34 134 (nI r) σ (0 : Int32) = some t ∧ t = (0, σ) := by
      unfold F_X9_against_34
      refine lp_inv (Q := fun t : Int32 × Mem => t = (0, σ)) (fun j (s : Int32) => s = nI (2 * j)) (n / 2) ?_ ?_ _ rfl
      · intro j s hj a1
        exact stp j hj s a1 (hg j hj)
      · intro s a1
        exact ⟨_, fin s a1, rfl⟩
    obtain ⟨t, e, rfl⟩ := key
    exact e
  · intro hb z σ' ez
    have key : ∃ t, F_X9_against_34 134 (nI r) σ (0 : Int32) = some t ∧ t = (z, σ') := by
      unfold F_X9_against_34
      refine lp_inv2 (Q := fun t : Int32 × Mem => t = (z, σ')) (fun j (s : Int32) => s = nI (2 * j) ∧ ∀ k, k < j → goodP f k) (n / 2) ?_ ?_ _ ⟨rfl, fun k hk => absurd hk (by omega)⟩
      · intro j s hj ⟨a1, a2⟩
        by_cases q : goodP f j
        · obtain ⟨s', e1, e2⟩ := stp j hj s a1 q
          refine Or.inl ⟨s', e1, e2, fun k hk => ?_⟩
          by_cases y : k = j
          · rw [y]; exact q
          · exact a2 k (by omega)
        · exact Or.inr ⟨_, bad j hj s a1 q z σ' ez, rfl⟩
      · intro s ⟨a1, a2⟩
        exact absurd a2 hb
    obtain ⟨t, e, rfl⟩ := key
    exact e
/-- the reference's road into it -/
noncomputable def preM (x y : Int32) (K : Mem → Option (Int32 × Mem)) (σ : Mem) : Option (Int32 × Mem) :=
  (F_X9_isBed 134 x σ).bind fun q9 =>
  if q9 = 0 then
  some ((-1 : Int32), σ)
  else
  (F_X9_isRow y σ).bind fun q12 =>
  if q12 = 0 then
  some ((-1 : Int32), σ)
  else
  (F_X9_against 134 y σ).bind fun q15 =>
  if 0 ≤ q15.1 then
  K q15.2
  else
  some (q15.1, q15.2)
theorem m30 : ¬ (0 : Int32) ≤ -3 := by decide
theorem pairs_of {tb : Prop} {A : Ab} (hA : okDe tb A.2.2.2) (x y : Int32) : (∃ r A', ¬ r = 0 ∧ okDe tb A'.2.2.2 ∧ CAns A (F_X8_takePairs 0 x y) r A' ∧ ∀ K, MAns A (preM x y K) r A') ∨ ∃ i r n, x = nI i ∧ i < nowT A.2.2.2 0 ∧ y = nI r ∧ r < 6 ∧ A.1.1 r = some n ∧ n ≤ 40 ∧ n % 2 = 0 ∧ (∀ k, k < n / 2 → goodP (A.1.2 r) k) ∧ (∀ σ, RC A σ → ∃ σ', F_X8_takePairs 0 x y σ = some (0, σ') ∧ RC A σ' ∧ FrO σ σ' ∧ PC σ' (A.1.2 r) (n / 2)) ∧ ∀ K σ, RM A σ → preM x y K σ = K σ := by
  obtain ⟨hnw, hn0⟩ := now_wf hA
  have h6 := hnw.1
  rcases ixc x (n := nowT A.2.2.2 0) (by omega) with hx | ⟨i, hi, rfl⟩
  · refine Or.inl ⟨-1, A, n10, hA, C_same fun σ h => ?_, fun K => M_same fun σ h => ?_⟩
    · unfold F_X8_takePairs
      rw [gR_0_4, ob_some, tC tw_18, ob_some, C_hasno tw_18 h.now hx, ob_some, if_pos rfl]
    · unfold preM
      rw [M_bedno h.now h6 hx, ob_some, if_pos rfl]
  rcases ixc y (n := 6) (by decide) with hy | ⟨r, hr, rfl⟩
  · refine Or.inl ⟨-1, A, n10, hA, C_same fun σ h => ?_, fun K => M_same fun σ h => ?_⟩
    · unfold F_X8_takePairs
      rw [gR_0_4, ob_some, tC tw_18, ob_some, C_has tw_18 h.now hnw hi, ob_some, if_neg (by decide), gR_0_0, ob_some, Rm_no sf_1 hy, ob_some, if_neg n10]
    · unfold preM
      rw [M_bed h.now h6 hi, ob_some, if_neg (by decide), row_no hy, ob_some, if_pos rfl]
  cases hs : A.1.1 r with
  | none =>
    refine Or.inl ⟨-3, foundA A 1, n30, hA, fun σ h => ?_, fun K σ h => ?_⟩
    · obtain ⟨σ', e, h1, h2⟩ := C_refuse (A := A) (f := 1) (by decide) σ h
      refine ⟨σ', ?_, h1, h2⟩
      unfold F_X8_takePairs
      rw [gR_0_4, ob_some, tC tw_18, ob_some, C_has tw_18 h.now hnw hi, ob_some, if_neg (by decide), gR_0_0, ob_some, Rm_none sf_1 hr (h.1.no hr hs), e, ob_some, if_neg n30]
    · obtain ⟨σ', e, h1, h2⟩ := M_found (A := A) (f := 1) (by decide) σ h
      have e' : F_X9_found 134 (1 : Int32) σ = some (-3, σ') := e
      refine ⟨σ', ?_, h1, h2⟩
      unfold preM F_X9_against
      rw [M_bed h.now h6 hi, ob_some, if_neg (by decide), row_yes hr, ob_some, if_neg (by decide), gR_134_4, ob_some, aI_eq sh_138 hr (by decide), ob_some, h.1.no hr hs, if_neg nm1, e', ob_some, ob_some, if_neg m30]
  | some n =>
    rcases Nat.lt_or_ge 40 n with hbig | hsm
    · exact Or.inl ⟨-1, A, n10, hA, fun σ h => absurd (h.1.row hr hs).1 (by omega), fun K σ h => absurd (h.1.row hr hs).1 (by omega)⟩
    have er : nI n - nI n / (2 : Int32) * (2 : Int32) = nI (n % 2) := rem2 (by omega)
    have g0 : (0 : Int32) ≤ nI n := nI_pos' (by omega)
    by_cases he : n % 2 = 0
    · have ez : nI (n % 2) = (0 : Int32) := by rw [he]; rfl
      by_cases hg : ∀ k, k < n / 2 → goodP (A.1.2 r) k
      · refine Or.inr ⟨i, r, n, rfl, hi, rfl, hr, hs, hsm, he, hg, fun σ h => ?_, fun K σ h => ?_⟩
        · obtain ⟨hn, g1, g2⟩ := h.1.row hr hs
          obtain ⟨σ', fr, k⟩ := C_take hr hn h.1.1 g1 g2
          rcases k with ⟨_, k1, k2⟩ | ⟨k0, _⟩
          · refine ⟨σ', ?_, (h.side fr).1, fr, k2⟩
            unfold F_X8_takePairs
            rw [gR_0_4, ob_some, tC tw_18, ob_some, C_has tw_18 h.now hnw hi, ob_some, if_neg (by decide), gR_0_0, ob_some, Rm_some sf_1 hr hn g1, ob_some, if_pos rfl, ob_some, ck_1, ob_some, S_size sf_1 hr, ob_some, g1, er, if_pos ez, gR_0_11, ob_some, ob_some, ck_93, ob_some, k1, ob_some, if_neg (show ¬ (1 : Int32) = 0 by decide)]
          · exact absurd hg k0
        · obtain ⟨hn, g1, g2⟩ := h.1.row hr hs
          unfold preM F_X9_against
          rw [M_bed h.now h6 hi, ob_some, if_neg (by decide), row_yes hr, ob_some, if_neg (by decide), gR_134_4, ob_some, aI_eq sh_138 hr (by decide), ob_some, g1, if_pos g0, ob_some, aI_eq sh_138 hr (by decide), ob_some, g1, er, if_pos ez, (M_against hr hn he g1 g2).1 hg, ob_some, if_pos (show (0 : Int32) ≤ 0 by decide)]
      · refine Or.inl ⟨-3, foundA A 3, n30, hA, fun σ h => ?_, fun K σ h => ?_⟩
        · obtain ⟨hn, g1, g2⟩ := h.1.row hr hs
          obtain ⟨σ1, fr, k⟩ := C_take hr hn h.1.1 g1 g2
          rcases k with ⟨k0, _⟩ | ⟨_, k1⟩
          · exact absurd k0 hg
          · obtain ⟨p1, p2⟩ := h.side fr
            obtain ⟨σ', e, h1, h2⟩ := C_refuse (A := A) (f := 3) (by decide) σ1 p1
            have e' : F_X8_refuse 0 (3 : Int32) σ1 = some (-3, σ') := e
            refine ⟨σ', ?_, h1, p2.tr h2⟩
            unfold F_X8_takePairs
            rw [gR_0_4, ob_some, tC tw_18, ob_some, C_has tw_18 h.now hnw hi, ob_some, if_neg (by decide), gR_0_0, ob_some, Rm_some sf_1 hr hn g1, ob_some, if_pos rfl, ob_some, ck_1, ob_some, S_size sf_1 hr, ob_some, g1, er, if_pos ez, gR_0_11, ob_some, ob_some, ck_93, ob_some, k1, ob_some, if_pos rfl, e', ob_some]
        · obtain ⟨hn, g1, g2⟩ := h.1.row hr hs
          obtain ⟨σ', e, h1, h2⟩ := M_found (A := A) (f := 3) (by decide) σ h
          have e' : F_X9_found 134 (3 : Int32) σ = some (-3, σ') := e
          refine ⟨σ', ?_, h1, h2⟩
          unfold preM F_X9_against
          rw [M_bed h.now h6 hi, ob_some, if_neg (by decide), row_yes hr, ob_some, if_neg (by decide), gR_134_4, ob_some, aI_eq sh_138 hr (by decide), ob_some, g1, if_pos g0, ob_some, aI_eq sh_138 hr (by decide), ob_some, g1, er, if_pos ez, (M_against hr hn he g1 g2).2 hg _ _ e', ob_some, if_neg m30]
    · have ez : ¬ nI (n % 2) = (0 : Int32) := nI_ne0 (by omega) (by omega)
      refine Or.inl ⟨-3, foundA A 5, n30, hA, fun σ h => ?_, fun K σ h => ?_⟩
      · obtain ⟨hn, g1, g2⟩ := h.1.row hr hs
        obtain ⟨σ', e, h1, h2⟩ := C_refuse (A := A) (f := 5) (by decide) σ h
        have e' : F_X8_refuse 0 (5 : Int32) σ = some (-3, σ') := e
        refine ⟨σ', ?_, h1, h2⟩
        unfold F_X8_takePairs
        rw [gR_0_4, ob_some, tC tw_18, ob_some, C_has tw_18 h.now hnw hi, ob_some, if_neg (by decide), gR_0_0, ob_some, Rm_some sf_1 hr hn g1, ob_some, if_pos rfl, ob_some, ck_1, ob_some, S_size sf_1 hr, ob_some, g1, er, if_neg ez, e', ob_some]
      · obtain ⟨hn, g1, g2⟩ := h.1.row hr hs
        obtain ⟨σ', e, h1, h2⟩ := M_found (A := A) (f := 5) (by decide) σ h
        have e' : F_X9_found 134 (5 : Int32) σ = some (-3, σ') := e
        refine ⟨σ', ?_, h1, h2⟩
        unfold preM F_X9_against
        rw [M_bed h.now h6 hi, ob_some, if_neg (by decide), row_yes hr, ob_some, if_neg (by decide), gR_134_4, ob_some, aI_eq sh_138 hr (by decide), ob_some, g1, if_pos g0, ob_some, aI_eq sh_138 hr (by decide), ob_some, g1, er, if_neg ez, e', ob_some, ob_some, if_neg m30]

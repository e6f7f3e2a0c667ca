/-! ===== count ===== -/
def sumF (g : Nat → Nat) : Nat → Nat
  | 0 => 0
  | n + 1 => sumF g n + g n
def stdG (rs : Nat → Option Nat) (r : Nat) : Nat := match rs r with
  | none => 0
  | some _ => 1
def qltG (T : Tn) (j : Nat) : Nat := if T (3 + j) = 2 ∨ T (3 + j) = 4 then 1 else 0
theorem stdG_n {rs : Nat → Option Nat} {r : Nat} (h : rs r = none) : stdG rs r = 0 := by unfold stdG; rw [h]
theorem stdG_s {rs : Nat → Option Nat} {r n : Nat} (h : rs r = some n) : stdG rs r = 1 := by unfold stdG; rw [h]
theorem C_standing {σ : Mem} {b many room : Nat} {rs : Nat → Option Nat} {rv : Nat → Nat → Int32} (hf : Sf b many room) (h : CSh σ b many room rs rv) : F_X6_standing b σ = some (nI (sumF (stdG rs) many)) := by
  obtain ⟨q1, q2, q3, q4, q5, q6, q7, q8, q9, q10, q11⟩ := hf
  have hf : Sf b many room := ⟨q1, q2, q3, q4, q5, q6, q7, q8, q9, q10, q11⟩
  have key : ∃ t, F_X6_standing_13 (b + 1) (nI many) σ ((0 : Int32), (0 : Int32)) = some t ∧ t = nI (sumF (stdG rs) many) := by
    unfold F_X6_standing_13
    refine lp_inv (fun j (s : Int32 × Int32) => s.2 = nI j ∧ s.1 = nI (sumF (stdG rs) j)) many ?_ ?_ _ ⟨rfl, rfl⟩
    · intro j s hj ⟨a1, a2⟩
      refine ⟨(nI (sumF (stdG rs) (j + 1)), nI (j + 1)), ?_, rfl, rfl⟩
      rw [a1, a2, if_neg (nI_ge hj (by omega)), aJ_eq (by omega) q5 hj (by omega), ob_some]
      unfold F_X6_standing_36
      show _ = some (Sum.inl (nI (sumF (stdG rs) j + stdG rs j), nI (j + 1)))
      cases e : rs j with
      | none => rw [h.no hj e, if_pos (by decide), stdG_n e, show (0 : Int32) = nI 0 from rfl, nI_add, nI_1]
      | some n =>
        obtain ⟨g0, g1, _⟩ := h.row hj e
        rw [g1, if_neg (nI_pos (by omega)), stdG_s e, nI_1, nI_1]
    · intro s ⟨a1, a2⟩
      exact ⟨s.1, by rw [a1, if_pos (nI_le (Nat.le_refl _) (by omega))], a2⟩
  obtain ⟨t, e, rfl⟩ := key
  unfold F_X6_standing
  rw [q1, ob_some, aN_eq (by omega) q5, ob_some, e]
theorem M_std {σ : Mem} {ms n : Nat} {rs : Nat → Option Nat} {g : Int32 → Option (Int32 × Int32)} (h : ∀ r, r < n → (rs r = none → σ.1 ms r = -1) ∧ ∀ m, rs r = some m → m ≤ 60 ∧ σ.1 ms r = nI m) {r : Nat} (hr : r < n) {α : Type} {u v : α} : (if 0 ≤ σ.1 ms r then u else v) = if stdG rs r = 1 then u else v := by
  cases e : rs r with
  | none => rw [(h r hr).1 e, if_neg (by decide), stdG_n e, if_neg (by decide)]
  | some m =>
    obtain ⟨g0, g1⟩ := (h r hr).2 m e
    rw [g1, if_pos (nI_pos' (by omega)), stdG_s e, if_pos rfl]
section CNS
variable {σ : Mem} {B : Nat} {T : Tn}
theorem C_finesA (h : CT σ 18 T) (hw : wfT B T) : F_X7_fines 18 σ = some (nI (T 2)) := by
  have h6 := hw.1
  have key : ∃ t, F_X7_fines_4 18 σ ((0 : Int32), (0 : Int32)) = some t ∧ t = nI (T 2) := by
    unfold F_X7_fines_4
    refine lp_inv (fun j (s : Int32 × Int32) => s.2 = nI j ∧ s.1 = nI (sumT T j)) (T 0) ?_ ?_ _ ⟨rfl, rfl⟩
    · intro j s hj ⟨a1, a2⟩
      refine ⟨(nI (sumT T (j + 1)), nI (j + 1)), ?_, rfl, rfl⟩
      rw [a1, a2, C_isT h, ob_some, if_neg (nI_ge hj (by omega)), tR_6 tw_18, ob_some, tw_18.rd (o := 7) (by decide) (by decide) (by omega), ob_some, (h.2.2.2.2 j hj).2.2.2.2.2, nI_add, nI_1]
      rfl
    · intro s ⟨a1, a2⟩
      exact ⟨s.1, by rw [a1, C_isT h, ob_some, if_pos (nI_le (Nat.le_refl _) (by omega))], by rw [a2, hw.2.2.2.2.2]⟩
  obtain ⟨t, e, rfl⟩ := key
  unfold F_X7_fines
  exact e
theorem C_liesA (h : CT σ 18 T) (hw : wfT B T) : F_X7_liesInAll 18 σ = some (nI (sumF (fun j => T (27 + j)) (T 0))) := by
  have h6 := hw.1
  have key : ∃ t, F_X7_liesInAll_4 18 σ ((0 : Int32), (0 : Int32)) = some t ∧ t = nI (sumF (fun j => T (27 + j)) (T 0)) := by
    unfold F_X7_liesInAll_4
    refine lp_inv (fun j (s : Int32 × Int32) => s.2 = nI j ∧ s.1 = nI (sumF (fun j => T (27 + j)) j)) (T 0) ?_ ?_ _ ⟨rfl, rfl⟩
    · intro j s hj ⟨a1, a2⟩
      refine ⟨(nI (sumF (fun j => T (27 + j)) (j + 1)), nI (j + 1)), ?_, rfl, rfl⟩
      rw [a1, a2, C_isT h, ob_some, if_neg (nI_ge hj (by omega)), C_lies tw_18 h hw hj, ob_some, nI_add, nI_1]
      rfl
    · intro s ⟨a1, a2⟩
      exact ⟨s.1, by rw [a1, C_isT h, ob_some, if_pos (nI_le (Nat.le_refl _) (by omega))], a2⟩
  obtain ⟨t, e, rfl⟩ := key
  unfold F_X7_liesInAll
  exact e
theorem C_quilts (h : CT σ 18 T) (hw : wfT B T) : F_X7_quilts 18 σ = some (nI (sumF (qltG T) (T 0))) := by
  have h6 := hw.1
  have key : ∃ t, F_X7_quilts_4 18 σ ((0 : Int32), (0 : Int32)) = some t ∧ t = nI (sumF (qltG T) (T 0)) := by
    unfold F_X7_quilts_4
    refine lp_inv (fun j (s : Int32 × Int32) => s.2 = nI j ∧ s.1 = nI (sumF (qltG T) j)) (T 0) ?_ ?_ _ ⟨rfl, rfl⟩
    · intro j s hj ⟨a1, a2⟩
      refine ⟨(nI (sumF (qltG T) (j + 1)), nI (j + 1)), ?_, rfl, rfl⟩
      have b := (hw.2.2.1 j hj).1
      have ei : F_X8_isOfKind (nI (T (3 + j))) (2 : Int32) σ = some (if isK' (T (3 + j)) 2 then 1 else 0) := C_isOf b (by decide) (by decide)
      rw [a1, a2, C_isT h, ob_some, if_neg (nI_ge hj (by omega)), C_kind tw_18 h hw hj, ob_some, ei, ob_some]
      unfold F_X7_quilts_30
      show _ = some (Sum.inl (nI (sumF (qltG T) j + qltG T j), nI (j + 1)))
      unfold qltG
      by_cases q : T (3 + j) = 2 ∨ T (3 + j) = 4
      · rw [if_pos q, if_pos (show isK' (T (3 + j)) 2 by unfold isK'; omega), if_neg (by decide), nI_1, nI_1]
      · rw [if_neg q, if_neg (show ¬ isK' (T (3 + j)) 2 by unfold isK'; omega), if_pos rfl, show (0 : Int32) = nI 0 from rfl, nI_add, nI_1]
    · intro s ⟨a1, a2⟩
      exact ⟨s.1, by rw [a1, C_isT h, ob_some, if_pos (nI_le (Nat.le_refl _) (by omega))], a2⟩
  obtain ⟨t, e, rfl⟩ := key
  unfold F_X7_quilts
  exact e
theorem M_r0 (h : MT σ 0 T) : aI 135 (0 : Int32) σ = some (nI (T 0)) := (w_rd (j := 0) (by decide)).trans (by rw [show σ.1 135 0 = nI (T 0) from h 0 (by decide)])
theorem M_liesA (h : MT σ 0 T) (hw : wfT B T) : F_X9_countOf_84 134 σ ((0 : Int32), (0 : Int32)) = some (nI (sumF (fun j => T (27 + j)) (T 0))) := by
  have h6 := hw.1
  have key : ∃ t, F_X9_countOf_84 134 σ ((0 : Int32), (0 : Int32)) = some t ∧ t = nI (sumF (fun j => T (27 + j)) (T 0)) := by
    unfold F_X9_countOf_84
    refine lp_inv (fun j (s : Int32 × Int32) => s.2 = nI j ∧ s.1 = nI (sumF (fun j => T (27 + j)) j)) (T 0) ?_ ?_ _ ⟨rfl, rfl⟩
    · intro j s hj ⟨a1, a2⟩
      refine ⟨(nI (sumF (fun j => T (27 + j)) (j + 1)), nI (j + 1)), ?_, rfl, rfl⟩
      have v := h (27 + j) (by omega)
      rw [Nat.zero_add] at v
      rw [a1, a2, wR, ob_some, M_r0 h, ob_some, if_neg (nI_ge hj (by omega)), ob_some, show (27 : Int32) + nI j = nI (27 + j) from lx rfl, w_rd (by omega), ob_some, v, nI_add, nI_1]
      rfl
    · intro s ⟨a1, a2⟩
      exact ⟨s.1, by rw [a1, wR, ob_some, M_r0 h, ob_some, if_pos (nI_le (Nat.le_refl _) (by omega))], a2⟩
  obtain ⟨t, e, rfl⟩ := key
  exact e
theorem M_quilts (h : MT σ 0 T) (hw : wfT B T) : F_X9_countOf_149 134 σ ((0 : Int32), (0 : Int32)) = some (nI (sumF (qltG T) (T 0))) := by
  have h6 := hw.1
  have key : ∃ t, F_X9_countOf_149 134 σ ((0 : Int32), (0 : Int32)) = some t ∧ t = nI (sumF (qltG T) (T 0)) := by
    unfold F_X9_countOf_149
    refine lp_inv (fun j (s : Int32 × Int32) => s.2 = nI j ∧ s.1 = nI (sumF (qltG T) j)) (T 0) ?_ ?_ _ ⟨rfl, rfl⟩
    · intro j s hj ⟨a1, a2⟩
      refine ⟨(nI (sumF (qltG T) (j + 1)), nI (j + 1)), ?_, rfl, rfl⟩
      have b := (hw.2.2.1 j hj).1
      have v := h (3 + j) (by omega)
      rw [Nat.zero_add] at v
      have rv : aI 135 ((3 : Int32) + nI j) σ = some (nI (T (3 + j))) := by rw [show (3 : Int32) + nI j = nI (3 + j) from lx rfl, w_rd (by omega), v]
      have i2 := nI_eq (a := T (3 + j)) (b := 2) (by omega) (by decide)
      have i4 := nI_eq (a := T (3 + j)) (b := 4) (by omega) (by decide)
      have j2 : nI (T (3 + j)) = (2 : Int32) ↔ T (3 + j) = 2 := i2
      have j4 : nI (T (3 + j)) = (4 : Int32) ↔ T (3 + j) = 4 := i4
      rw [a1, a2, wR, ob_some, M_r0 h, ob_some, if_neg (nI_ge hj (by omega)), ob_some, rv, ob_some]
      unfold F_X9_countOf_184 F_X9_countOf_189
      show _ = some (Sum.inl (nI (sumF (qltG T) j + qltG T j), nI (j + 1)))
      unfold qltG
      by_cases q : T (3 + j) = 2
      · rw [if_pos (Or.inl q), if_pos (j2.mpr q), nI_1, nI_1]
      · rw [if_neg (fun z => q (j2.mp z)), ob_some, rv, ob_some]
        by_cases q4 : T (3 + j) = 4
        · rw [if_pos (Or.inr q4), if_pos (j4.mpr q4), nI_1, nI_1]
        · rw [if_neg (fun z => q4 (j4.mp z)), if_neg (fun z => z.elim q q4), show (0 : Int32) = nI 0 from rfl, nI_add, nI_1]
    · intro s ⟨a1, a2⟩
      exact ⟨s.1, by rw [a1, wR, ob_some, M_r0 h, ob_some, if_pos (nI_le (Nat.le_refl _) (by omega))], a2⟩
  obtain ⟨t, e, rfl⟩ := key
  exact e
end CNS
theorem std01 {rs : Nat → Option Nat} {r : Nat} : stdG rs r = 1 ∨ stdG rs r = 0 := by
  cases e : rs r with
  | none => exact Or.inr (stdG_n e)
  | some m => exact Or.inl (stdG_s e)
theorem M_rowsN {σ : Mem} {rs : Nat → Option Nat} (h : ∀ r, r < 6 → (rs r = none → σ.1 138 r = -1) ∧ ∀ m, rs r = some m → m ≤ 60 ∧ σ.1 138 r = nI m) : F_X9_countOf_201 134 σ ((0 : Int32), (0 : Int32)) = some (nI (sumF (stdG rs) 6)) := by
  have key : ∃ t, F_X9_countOf_201 134 σ ((0 : Int32), (0 : Int32)) = some t ∧ t = nI (sumF (stdG rs) 6) := by
    unfold F_X9_countOf_201
    refine lp_inv (fun j (s : Int32 × Int32) => s.2 = nI j ∧ s.1 = nI (sumF (stdG rs) j)) 6 ?_ ?_ _ ⟨rfl, rfl⟩
    · intro j s hj ⟨a1, a2⟩
      refine ⟨(nI (sumF (stdG rs) (j + 1)), nI (j + 1)), ?_, rfl, rfl⟩
      rw [a1, a2, if_neg (show ¬ (6 : Int32) ≤ nI j from nI_ge (b := 6) hj (by decide)), gR_134_4, ob_some, aI_eq sh_138 hj (by decide), ob_some, M_std (g := fun _ => none) h hj]
      unfold F_X9_countOf_222
      show _ = some (Sum.inl (nI (sumF (stdG rs) j + stdG rs j), nI (j + 1)))
      rcases std01 (rs := rs) (r := j) with q | q
      · rw [if_pos q, q, nI_1, nI_1]
      · rw [if_neg (by omega), q, show (0 : Int32) = nI 0 from rfl, nI_add, nI_1]
    · intro s ⟨a1, a2⟩
      exact ⟨s.1, by rw [a1, if_pos (show (6 : Int32) ≤ nI 6 by decide)], a2⟩
  obtain ⟨t, e, rfl⟩ := key
  exact e
theorem M_textsN {σ : Mem} {rs : Nat → Option Nat} (h : ∀ r, r < 4 → (rs r = none → σ.1 140 r = -1) ∧ ∀ m, rs r = some m → m ≤ 60 ∧ σ.1 140 r = nI m) : F_X9_countOf_234 134 σ ((0 : Int32), (0 : Int32)) = some (nI (sumF (stdG rs) 4)) := by
  have key : ∃ t, F_X9_countOf_234 134 σ ((0 : Int32), (0 : Int32)) = some t ∧ t = nI (sumF (stdG rs) 4) := by
    unfold F_X9_countOf_234
    refine lp_inv (fun j (s : Int32 × Int32) => s.2 = nI j ∧ s.1 = nI (sumF (stdG rs) j)) 4 ?_ ?_ _ ⟨rfl, rfl⟩
    · intro j s hj ⟨a1, a2⟩
      refine ⟨(nI (sumF (stdG rs) (j + 1)), nI (j + 1)), ?_, rfl, rfl⟩
      rw [a1, a2, if_neg (show ¬ (4 : Int32) ≤ nI j from nI_ge (b := 4) hj (by decide)), gR_134_6, ob_some, aI_eq sh_140 hj (by decide), ob_some, M_std (g := fun _ => none) h hj]
      unfold F_X9_countOf_254
      show _ = some (Sum.inl (nI (sumF (stdG rs) j + stdG rs j), nI (j + 1)))
      rcases std01 (rs := rs) (r := j) with q | q
      · rw [if_pos q, q, nI_1, nI_1]
      · rw [if_neg (by omega), q, show (0 : Int32) = nI 0 from rfl, nI_add, nI_1]
    · intro s ⟨a1, a2⟩
      exact ⟨s.1, by rw [a1, if_pos (show (4 : Int32) ≤ nI 4 by decide)], a2⟩
  obtain ⟨t, e, rfl⟩ := key
  exact e
theorem M_keptN {σ : Mem} {rs : Nat → Option Nat} (h : ∀ r, r < 3 → (rs r = none → σ.1 136 r = -1) ∧ ∀ m, rs r = some m → m ≤ 60 ∧ σ.1 136 r = nI m) : F_X9_countOf_266 134 σ ((0 : Int32), (0 : Int32)) = some (nI (sumF (stdG rs) 3)) := by
  have key : ∃ t, F_X9_countOf_266 134 σ ((0 : Int32), (0 : Int32)) = some t ∧ t = nI (sumF (stdG rs) 3) := by
    unfold F_X9_countOf_266
    refine lp_inv (fun j (s : Int32 × Int32) => s.2 = nI j ∧ s.1 = nI (sumF (stdG rs) j)) 3 ?_ ?_ _ ⟨rfl, rfl⟩
    · intro j s hj ⟨a1, a2⟩
      refine ⟨(nI (sumF (stdG rs) (j + 1)), nI (j + 1)), ?_, rfl, rfl⟩
      rw [a1, a2, if_neg (show ¬ (3 : Int32) ≤ nI j from nI_ge (b := 3) hj (by decide)), gR_134_2, ob_some, aI_eq sh_136 hj (by decide), ob_some, M_std (g := fun _ => none) h hj]
      unfold F_X9_countOf_286
      show _ = some (Sum.inl (nI (sumF (stdG rs) j + stdG rs j), nI (j + 1)))
      rcases std01 (rs := rs) (r := j) with q | q
      · rw [if_pos q, q, nI_1, nI_1]
      · rw [if_neg (by omega), q, show (0 : Int32) = nI 0 from rfl, nI_add, nI_1]
    · intro s ⟨a1, a2⟩
      exact ⟨s.1, by rw [a1, if_pos (show (3 : Int32) ≤ nI 3 by decide)], a2⟩
  obtain ⟨t, e, rfl⟩ := key
  exact e

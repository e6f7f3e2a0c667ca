/-! ===== rows and texts: both sides ===== -/
theorem wide (x : Int32) : x.toInt64.toInt = x.toInt := Int32.toInt_toInt64 x
theorem cmp_lt0 (x y : Int64) : (lg_cmp x y) < 0 ↔ x < y := by
  have h := lg_cmp_ge x y
  rw [← Int32.not_le, h, Int64.not_le]
theorem cmp_gt0 (x y : Int64) : 0 < (lg_cmp x y) ↔ y < x := by
  unfold lg_cmp
  by_cases h : x > y
  · rw [if_pos h]
    exact ⟨fun _ => h, fun _ => by decide⟩
  · rw [if_neg h]
    refine ⟨fun q => ?_, fun q => absurd q h⟩
    split at q
    · exact absurd q (by decide)
    · exact absurd q (by decide)
theorem in_eq {x lo hi : Int64} {σ : Mem} : F_X9_in x lo hi σ = some (if lo.toInt ≤ x.toInt ∧ x.toInt ≤ hi.toInt then 1 else 0) := by
  unfold F_X9_in
  by_cases h : (lg_cmp x lo) < 0
  · rw [if_pos h, if_neg]
    rw [cmp_lt0, Int64.lt_iff_toInt_lt] at h
    omega
  · rw [if_neg h]
    rw [cmp_lt0, Int64.lt_iff_toInt_lt] at h
    by_cases h2 : 0 < (lg_cmp x hi)
    · rw [if_pos h2, if_neg]
      rw [cmp_gt0, Int64.lt_iff_toInt_lt] at h2
      omega
    · rw [if_neg h2, if_pos]
      rw [cmp_gt0, Int64.lt_iff_toInt_lt] at h2
      omega
theorem bz1 : bz 1 = some () := by decide
theorem bz0 : bz 0 = some () := by decide
theorem row_no {x : Int32} {σ : Mem} (h : x < 0 ∨ nI 6 ≤ x) : F_X9_isRow x σ = some 0 := by
  unfold F_X9_isRow
  rw [in_eq, if_neg, ob_some, bz0, ob_some]
  rw [wide]
  rw [Int32.lt_iff_toInt_lt, Int32.le_iff_toInt_le, nI_toInt (by decide)] at h
  have e0 : (0 : Int64).toInt = 0 := rfl
  have e5 : (5 : Int64).toInt = 5 := rfl
  have e00 : (0 : Int32).toInt = 0 := rfl
  omega
theorem row_yes {r : Nat} {σ : Mem} (h : r < 6) : F_X9_isRow (nI r) σ = some 1 := by
  unfold F_X9_isRow
  rw [in_eq, if_pos, ob_some, bz1, ob_some]
  rw [wide, nI_toInt (by omega)]
  have e0 : (0 : Int64).toInt = 0 := rfl
  have e5 : (5 : Int64).toInt = 5 := rfl
  omega
theorem text_no {x : Int32} {σ : Mem} (h : x < 0 ∨ nI 4 ≤ x) : F_X9_isText x σ = some 0 := by
  unfold F_X9_isText
  rw [in_eq, if_neg, ob_some, bz0, ob_some]
  rw [wide]
  rw [Int32.lt_iff_toInt_lt, Int32.le_iff_toInt_le, nI_toInt (by decide)] at h
  have e0 : (0 : Int64).toInt = 0 := rfl
  have e5 : (3 : Int64).toInt = 3 := rfl
  have e00 : (0 : Int32).toInt = 0 := rfl
  omega
theorem text_yes {r : Nat} {σ : Mem} (h : r < 4) : F_X9_isText (nI r) σ = some 1 := by
  unfold F_X9_isText
  rw [in_eq, if_pos, ob_some, bz1, ob_some]
  rw [wide, nI_toInt (by omega)]
  have e0 : (0 : Int64).toInt = 0 := rfl
  have e5 : (3 : Int64).toInt = 3 := rfl
  omega
def rowA (A : Ab) (r : Nat) (o : Option Nat) (f : Nat → Int32) : Ab := ((fun x => if x = r then o else A.1.1 x, fun x => if x = r then f else A.1.2 x), A.2)
def textA (A : Ab) (r : Nat) (o : Option Nat) (f : Nat → Int32) : Ab := (A.1, (fun x => if x = r then o else A.2.1.1 x, fun x => if x = r then f else A.2.1.2 x), A.2.2)
/-- a shelf of which one row is made anew -/
theorem CSh.make {σ σ' : Mem} {b many room r n : Nat} {rs : Nat → Option Nat} {rv : Nat → Nat → Int32} {f : Nat → Int32} (h : CSh σ b many room rs rv) (hr : r < many) (hn : n ≤ room) (h1 : σ'.1 (b + 1) r = nI n) (h2 : ∀ i, i < n → σ'.1 (b + 2) (r * room + i) = f i) (fr : FrS b r room σ σ') : CSh σ' b many room (fun x => if x = r then some n else rs x) (fun x => if x = r then f else rv x) := by
  refine ⟨(fr.1 _ _ (Or.inl (by omega)) (Or.inl (by omega))).trans h.1, fun x hx => ?_⟩
  by_cases q : x = r
  · subst q
    simp only [if_true]
    exact ⟨hn, h1, h2⟩
  · simp only [if_neg q]
    have h3 := h.2 x hx
    cases e : rs x with
    | none => rw [e] at h3; exact (fr.1 _ _ (Or.inr q) (Or.inl (by omega))).trans h3
    | some m =>
      rw [e] at h3
      refine ⟨h3.1, (fr.1 _ _ (Or.inr q) (Or.inl (by omega))).trans h3.2.1, fun i hi => ?_⟩
      refine (fr.1 _ _ (Or.inl (by omega)) (Or.inr ?_)).trans (h3.2.2 i hi)
      rcases Nat.lt_or_gt_of_ne q with z | z
      · have := Nat.mul_le_mul_right room (show x + 1 ≤ r from z)
        rw [Nat.succ_mul] at this
        have := h3.1
        omega
      · have := Nat.mul_le_mul_right room (show r + 1 ≤ x from z)
        rw [Nat.succ_mul] at this
        omega
theorem C_row {A : Ab} {r n : Nat} (hr : r < 6) (hn : n ≤ 40) : CAns A (F_X8_row 0 (nI r) (nI n)) (nI n) (rowA A r (some n) (fun _ => 0)) := by
  intro σ h
  obtain ⟨σ', e, e1, e2, fr⟩ := S_make (v := 0) sf_1 hr h.1.1 hn
  have hF : F_X8_row 0 (nI r) (nI n) σ = some (nI n, σ') := by
    unfold F_X8_row F_X8_makeAnew
    rw [gR_0_0, ob_some, ck_1, ob_some, S_num sf_1 hr, ob_some, if_neg (by decide), gI_1_0, ob_some, h.1.1, if_pos (nI_le hn (by decide)), if_pos (nI_pos' (by omega)), ob_some, e, ob_some, ob_some]
  have keep : ∀ a j, (a < 2 ∨ 3 < a) → σ'.1 a j = σ.1 a j := fun a j q => fr.1 a j (Or.inl (by omega)) (Or.inl (by omega))
  exact ⟨σ', hF, ⟨h.1.make hr hn e1 e2 fr, h.2.1.kept (fun a j _ _ => keep a j (by omega)), h.2.2.1.kept (keep _ _ (by decide)) (keep _ _ (by decide)) (fun f => keep _ _ (by decide)) (fun j => by rw [fr.2]), h.2.2.2.kept (keep _ _ (by decide)) (fun a j q => keep a j (by omega))⟩, fun a j q => keep a j (by omega), fun a j q => by rw [fr.2]⟩
theorem ix40 {r i : Nat} : ((40 : Int32) * nI r) + nI i = nI (r * 40 + i) := by
  rw [show (40 : Int32) = nI 40 from rfl, pk_mul, nI_add, Nat.mul_comm]
theorem ix60 {r i : Nat} : ((60 : Int32) * nI r) + nI i = nI (r * 60 + i) := by
  rw [show (60 : Int32) = nI 60 from rfl, pk_mul, nI_add, Nat.mul_comm]
theorem MSh.make {σ σ' : Mem} {ms mp many room r n : Nat} {rs : Nat → Option Nat} {rv : Nat → Nat → Int32} {f : Nat → Int32} (h : MSh σ ms mp many room rs rv) (hn : n ≤ room) (h1 : σ'.1 ms r = nI n) (h2 : ∀ i, i < n → σ'.1 mp (r * room + i) = f i) (k1 : ∀ x, x ≠ r → σ'.1 ms x = σ.1 ms x) (k2 : ∀ y, (y < r * room ∨ r * room + room ≤ y) → σ'.1 mp y = σ.1 mp y) : MSh σ' ms mp many room (fun x => if x = r then some n else rs x) (fun x => if x = r then f else rv x) := by
  intro x hx
  by_cases q : x = r
  · subst q
    simp only [if_true]
    exact ⟨hn, h1, h2⟩
  · simp only [if_neg q]
    have h3 := h x hx
    cases e : rs x with
    | none => rw [e] at h3; exact (k1 x q).trans h3
    | some m =>
      rw [e] at h3
      refine ⟨h3.1, (k1 x q).trans h3.2.1, fun i hi => (k2 _ ?_).trans (h3.2.2 i hi)⟩
      have h4 := h3.1
      rcases Nat.lt_or_gt_of_ne q with z | z
      · have := Nat.mul_le_mul_right room (show x + 1 ≤ r from z)
        rw [Nat.succ_mul] at this
        omega
      · have := Nat.mul_le_mul_right room (show r + 1 ≤ x from z)
        rw [Nat.succ_mul] at this
        omega
theorem M_anew {r n : Nat} {σ : Mem} (hr : r < 6) : ∃ σ', F_X9_anew 134 (nI r) (nI n) σ = some σ' ∧ σ'.1 138 r = nI n ∧ (∀ i, i < 40 → σ'.1 137 (r * 40 + i) = 0) ∧ (∀ x y, (x ≠ 138 ∨ y ≠ r) → (x ≠ 137 ∨ y < r * 40 ∨ r * 40 + 40 ≤ y) → σ'.1 x y = σ.1 x y) ∧ σ'.2 = σ.2 := by
  unfold F_X9_anew
  rw [gR_134_4, ob_some, sI_eq sh_138 hr (by decide), ob_some]
  unfold F_X9_anew_9
  refine lp_inv (Q := fun t : Mem => t.1 138 r = nI n ∧ (∀ i, i < 40 → t.1 137 (r * 40 + i) = 0) ∧ (∀ x y, (x ≠ 138 ∨ y ≠ r) → (x ≠ 137 ∨ y < r * 40 ∨ r * 40 + 40 ≤ y) → t.1 x y = σ.1 x y) ∧ t.2 = σ.2) (fun j (s : Int32 × Mem) => s.1 = nI j ∧ s.2.1 138 r = nI n ∧ (∀ i, i < j → s.2.1 137 (r * 40 + i) = 0) ∧ (∀ x y, (x ≠ 138 ∨ y ≠ r) → (x ≠ 137 ∨ y < r * 40 ∨ r * 40 + 40 ≤ y) → s.2.1 x y = σ.1 x y) ∧ s.2.2 = σ.2) 40 ?_ ?_ _ ⟨rfl, ?_, fun i hi => absurd hi (Nat.not_lt_zero i), fun x y q _ => ?_, rfl⟩
  · intro j s hj ⟨a1, a2, a3, a4, a5⟩
    have h40 : (40 : Int32) ≤ nI j ↔ 40 ≤ j := nI_leI (a := 40) (by decide) (by omega)
    refine ⟨(nI (j + 1), setI s.2 137 (r * 40 + j) 0), ?_, rfl, ?_, fun i hi => ?_, fun x y q1 q2 => ?_, a5⟩
    · rw [a1, if_neg (fun z => by have := h40.mp z; omega), gR_134_3, ob_some, ix40, sI_eq sh_137 (by omega) (by decide), ob_some, nI_1]
    · rw [setI_1, if_neg (by omega)]; exact a2
    · rw [setI_1]
      by_cases z : i = j
      · subst z; rw [if_pos ⟨rfl, rfl⟩]
      · rw [if_neg (by omega)]; exact a3 i (by omega)
    · show (setI s.2 137 (r * 40 + j) 0).1 x y = _
      rw [setI_1, if_neg (by omega)]; exact a4 x y q1 q2
  · intro s ⟨a1, a2, a3, a4, a5⟩
    have h40 : (40 : Int32) ≤ nI 40 := by decide
    exact ⟨s.2, by rw [a1, if_pos h40], a2, a3, a4, a5⟩
  · rw [setI_1, if_pos ⟨rfl, rfl⟩]
  · rw [setI_1, if_neg (by omega)]
theorem M_row {A : Ab} {r n : Nat} (hr : r < 6) (hn : n ≤ 40) : MAns A (F_X9_row 134 (nI r) (nI n)) (nI n) (rowA A r (some n) (fun _ => 0)) := by
  intro σ h
  obtain ⟨σ', e, e1, e2, fr, f2⟩ := M_anew (n := n) (σ := σ) hr
  have h40 : nI n ≤ (40 : Int32) := nI_le (b := 40) hn (by decide)
  have hF : F_X9_row 134 (nI r) (nI n) σ = some (nI n, σ') := by
    unfold F_X9_row
    rw [row_yes hr, ob_some, if_neg (by decide), if_pos h40, if_pos (nI_pos' (by omega)), e, ob_some]
  have keep : ∀ a j, (a < 137 ∨ 138 < a) → σ'.1 a j = σ.1 a j := fun a j q => fr a j (Or.inl (by omega)) (Or.inl (by omega))
  exact ⟨σ', hF, ⟨h.1.make hn e1 (fun i hi => e2 i (by omega)) (fun x q => fr _ _ (Or.inr q) (Or.inl (by decide))) (fun y q => fr _ _ (Or.inl (by decide)) (Or.inr q)), h.2.1.kept (fun a j q => keep a j (by omega)), h.2.2.1.kept (keep _ _ (by decide)) (keep _ _ (by decide)) (fun f => keep _ _ (by decide)) (by rw [f2]) (by rw [f2]), h.2.2.2.kept (keep _ _ (by decide)) (fun a j q => keep a j (by omega))⟩, fun a j q => keep a j (by omega), fun a j q => by rw [f2]⟩
/-- an answer that changes nothing -/
theorem C_same {A : Ab} {α : Type} {F : Mem → Option (α × Mem)} {r : α} (h : ∀ σ, RC A σ → F σ = some (r, σ)) : CAns A F r A := fun σ hσ => ⟨σ, h σ hσ, hσ, FC.rf⟩
theorem M_same {A : Ab} {α : Type} {F : Mem → Option (α × Mem)} {r : α} (h : ∀ σ, RM A σ → F σ = some (r, σ)) : MAns A F r A := fun σ hσ => ⟨σ, h σ hσ, hσ, FM.rf⟩
theorem sim_row (a b : Int32) : Sim (F_X8_row 0 a b) (F_X9_row 134 a b) := by
  refine sim_of fun A hA => ?_
  rcases pk_ix a (n := 6) (by decide) with ha | ha | ⟨r, hr, rfl⟩
  · refine ⟨-1, A, hA, C_same fun σ _ => ?_, M_same fun σ _ => ?_⟩
    · unfold F_X8_row F_X8_makeAnew
      rw [gR_0_0, ob_some, ck_1, ob_some, S_numno sf_1 (Or.inl ha), ob_some, if_pos rfl, ob_some]
    · unfold F_X9_row
      rw [row_no (Or.inl ha), ob_some, if_pos rfl]
  · refine ⟨-1, A, hA, C_same fun σ _ => ?_, M_same fun σ _ => ?_⟩
    · unfold F_X8_row F_X8_makeAnew
      rw [gR_0_0, ob_some, ck_1, ob_some, S_numno sf_1 (Or.inr ha), ob_some, if_pos rfl, ob_some]
    · unfold F_X9_row
      rw [row_no (Or.inr ha), ob_some, if_pos rfl]
  · by_cases hb : b ≤ nI 40
    · by_cases hb0 : b < 0
      · refine ⟨-3, foundA A 5, hA, ?_, ?_⟩
        · intro σ h
          obtain ⟨σ', e, h1, h2⟩ := C_refuse (A := A) (f := 5) (by decide) σ h
          have hn : ¬ (0 : Int32) ≤ b := Int32.not_le.mpr hb0
          refine ⟨σ', ?_, h1, h2⟩
          unfold F_X8_row F_X8_makeAnew
          rw [gR_0_0, ob_some, ck_1, ob_some, S_num sf_1 hr, ob_some, if_neg (by decide), gI_1_0, ob_some, h.1.1, if_pos hb, if_neg hn]
          have e' : F_X8_refuse 0 (5 : Int32) σ = some (-3, σ') := e
          rw [e', ob_some, ob_some]
        · intro σ h
          obtain ⟨σ', e, h1, h2⟩ := M_found (A := A) (f := 5) (by decide) σ h
          have hn : ¬ (0 : Int32) ≤ b := Int32.not_le.mpr hb0
          refine ⟨σ', ?_, h1, h2⟩
          have e' : F_X9_found 134 (5 : Int32) σ = some (-3, σ') := e
          unfold F_X9_row
          rw [row_yes hr, ob_some, if_neg (by decide), if_pos (show b ≤ (40 : Int32) from hb), if_neg hn, e', ob_some]
      · obtain ⟨n, hn, rfl⟩ := nI_of2 (M := nI 40) (n := 40) (by decide) hb0 hb
        exact ⟨nI n, rowA A r (some n) (fun _ => 0), hA, C_row hr hn, M_row hr hn⟩
    · refine ⟨-1, A, hA, C_same fun σ h => ?_, M_same fun σ _ => ?_⟩
      · unfold F_X8_row F_X8_makeAnew
        rw [gR_0_0, ob_some, ck_1, ob_some, S_num sf_1 hr, ob_some, if_neg (by decide), gI_1_0, ob_some, h.1.1, if_neg hb, ob_some]
      · unfold F_X9_row
        rw [row_yes hr, ob_some, if_neg (by decide), if_neg (show ¬ b ≤ (40 : Int32) from hb)]

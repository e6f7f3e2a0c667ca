/-! ===== digest ===== -/
def mixL (a : Int64) (x : Int32) : Int64 := ((31 : Int64) * a) + x.toInt64
def foldL (g : Nat → Int32) (a : Int64) : Nat → Int64
  | 0 => a
  | n + 1 => mixL (foldL g a n) (g n)
def sizeV (rs : Nat → Option Nat) (r : Nat) : Int32 := match rs r with
  | none => -1
  | some n => nI n
def rowN (rs : Nat → Option Nat) (r : Nat) : Nat := match rs r with
  | none => 0
  | some n => n
theorem sizeV_n {rs : Nat → Option Nat} {r : Nat} (h : rs r = none) : sizeV rs r = -1 := by unfold sizeV; rw [h]
theorem sizeV_s {rs : Nat → Option Nat} {r n : Nat} (h : rs r = some n) : sizeV rs r = nI n := by unfold sizeV; rw [h]
theorem rowN_n {rs : Nat → Option Nat} {r : Nat} (h : rs r = none) : rowN rs r = 0 := by unfold rowN; rw [h]
theorem rowN_s {rs : Nat → Option Nat} {r n : Nat} (h : rs r = some n) : rowN rs r = n := by unfold rowN; rw [h]
def shF (rs : Nat → Option Nat) (rv : Nat → Nat → Int32) (a : Int64) : Nat → Int64
  | 0 => a
  | r + 1 => foldL (rv r) (mixL (shF rs rv a r) (sizeV rs r)) (rowN rs r)
def bedF (T : Tn) (a : Int64) : Nat → Int64
  | 0 => a
  | j + 1 => foldL (fun f => nI (bedV T j f)) (bedF T a j) 8
theorem C_sizeV {σ : Mem} {b many room r : Nat} {rs : Nat → Option Nat} {rv : Nat → Nat → Int32} (hf : Sf b many room) (h : CSh σ b many room rs rv) (hr : r < many) : F_X6_size b (nI r) σ = some (sizeV rs r) := by
  rw [S_size hf hr]
  cases e : rs r with
  | none => rw [h.no hr e, sizeV_n e]
  | some n => rw [(h.row hr e).2.1, sizeV_s e]
theorem C_dRow {σ : Mem} {b many room r : Nat} {a : Int64} {rs : Nat → Option Nat} {rv : Nat → Nat → Int32} (hf : Sf b many room) (h : CSh σ b many room rs rv) (hr : r < many) : F_X6_digestOn_27 b (nI r) σ (a, (0 : Int32)) = some (.inl (foldL (rv r) a (rowN rs r), nI (r + 1))) := by
  obtain ⟨q1, q2, q3, q4, q5, q6, q7, q8, q9, q10, q11⟩ := hf
  have hf : Sf b many room := ⟨q1, q2, q3, q4, q5, q6, q7, q8, q9, q10, q11⟩
  cases e : rs r with
  | none =>
    unfold F_X6_digestOn_27
    apply lp_out
    dsimp only
    rw [C_sizeV hf h hr, ob_some, sizeV_n e, if_pos (by decide), rowN_n e, nI_1]
    rfl
  | some n =>
    obtain ⟨g0, g1, g2⟩ := h.row hr e
    have key : ∃ t, F_X6_digestOn_27 b (nI r) σ (a, (0 : Int32)) = some t ∧ t = .inl (foldL (rv r) a n, nI (r + 1)) := by
      unfold F_X6_digestOn_27
      refine lp_inv (fun j (s : Int64 × Int32) => s.2 = nI j ∧ s.1 = foldL (rv r) a j) n ?_ ?_ _ ⟨rfl, rfl⟩
      · intro j s hj ⟨a1, a2⟩
        refine ⟨(foldL (rv r) a (j + 1), nI (j + 1)), ?_, rfl, rfl⟩
        rw [a1, a2, C_sizeV hf h hr, ob_some, sizeV_s e, if_neg (nI_ge hj (by omega)), S_get hf hr h.1 g1 g0 hj, ob_some, g2 j hj, nI_1]
        rfl
      · intro s ⟨a1, a2⟩
        exact ⟨_, by rw [a1, C_sizeV hf h hr, ob_some, sizeV_s e, if_pos (nI_le (Nat.le_refl _) (by omega)), a2, nI_1], rfl⟩
    obtain ⟨t, e2, rfl⟩ := key
    rw [e2, rowN_s e]
theorem C_dShelf {σ : Mem} {b many room : Nat} {a : Int64} {rs : Nat → Option Nat} {rv : Nat → Nat → Int32} (hf : Sf b many room) (h : CSh σ b many room rs rv) : F_X6_digestOn b a σ = some (shF rs rv a many) := by
  obtain ⟨q1, q2, q3, q4, q5, q6, q7, q8, q9, q10, q11⟩ := hf
  have hf : Sf b many room := ⟨q1, q2, q3, q4, q5, q6, q7, q8, q9, q10, q11⟩
  have key : ∃ t, F_X6_digestOn_2 b σ (a, (0 : Int32)) = some t ∧ t = shF rs rv a many := by
    unfold F_X6_digestOn_2
    refine lp_inv (fun j (s : Int64 × Int32) => s.2 = nI j ∧ s.1 = shF rs rv a j) many ?_ ?_ _ ⟨rfl, rfl⟩
    · intro j s hj ⟨a1, a2⟩
      refine ⟨(shF rs rv a (j + 1), nI (j + 1)), ?_, rfl, rfl⟩
      rw [a1, a2, q1, ob_some, aN_eq (by omega) q5, ob_some, if_neg (nI_ge hj (by omega)), C_sizeV hf h hj, ob_some, C_dRow hf h hj]
      rfl
    · intro s ⟨a1, a2⟩
      exact ⟨s.1, by rw [a1, q1, ob_some, aN_eq (by omega) q5, ob_some, if_pos (nI_le (Nat.le_refl _) (by omega))], a2⟩
  obtain ⟨t, e, rfl⟩ := key
  unfold F_X6_digestOn
  exact e
/-- after beds: kept sizes, rows, texts -/
def tailF (A : Ab) (a : Int64) : Int64 := shF A.2.1.1 A.2.1.2 (shF A.1.1 A.1.2 (foldL (sizeV A.2.2.2.2.2.2.1) a 3) 6) 4
def digF (A : Ab) : Int64 := tailF A (bedF (nowT A.2.2.2) (foldL (fun f => nI (cntA A f)) 17 11) (nowT A.2.2.2 0))
theorem C_digest {tb : Prop} {A : Ab} {σ : Mem} (hA : okDe tb A.2.2.2) (h : RC A σ) : F_X8_digest 0 σ = some (digF A) := by
  obtain ⟨hnw, hn0⟩ := now_wf hA
  have hnow := h.now
  have h6 := hnw.1
  have k86 : ∀ a, F_X8_digest_86 0 σ (a, (0 : Int32)) = some (tailF A a) := by
    intro a
    have key : ∃ t, F_X8_digest_86 0 σ (a, (0 : Int32)) = some t ∧ t = tailF A a := by
      unfold F_X8_digest_86
      refine lp_inv (fun j (s : Int64 × Int32) => s.2 = nI j ∧ s.1 = foldL (sizeV A.2.2.2.2.2.2.1) a j) 3 ?_ ?_ _ ⟨rfl, rfl⟩
      · intro j s hj ⟨a1, a2⟩
        refine ⟨(foldL (sizeV A.2.2.2.2.2.2.1) a (j + 1), nI (j + 1)), ?_, rfl, rfl⟩
        rw [a1, a2, if_neg (show ¬ (3 : Int32) ≤ nI j from nI_ge (b := 3) hj (by decide)), gR_0_2, ob_some, ck_7, ob_some, C_sizeV sf_7 h.2.2.2.2.2.2.2 hj, ob_some, nI_1]
        rfl
      · intro s ⟨a1, a2⟩
        exact ⟨_, by rw [a1, a2, if_pos (show (3 : Int32) ≤ nI 3 by decide), gR_0_1, ob_some, gR_0_0, ob_some, ck_1, ob_some, C_dShelf sf_1 h.1, ob_some, ck_4, ob_some, C_dShelf sf_4 h.2.1, ob_some]; rfl, rfl⟩
    obtain ⟨t, e, rfl⟩ := key
    exact e
  have k47 : ∀ a i, i < nowT A.2.2.2 0 → F_X8_digest_47 0 (nI i) σ (a, (0 : Int32)) = some (.inl (foldL (fun f => nI (bedV (nowT A.2.2.2) i f)) a 8, nI (i + 1))) := by
    intro a i hi
    have key : ∃ t, F_X8_digest_47 0 (nI i) σ (a, (0 : Int32)) = some t ∧ t = .inl (foldL (fun f => nI (bedV (nowT A.2.2.2) i f)) a 8, nI (i + 1)) := by
      unfold F_X8_digest_47
      refine lp_inv (fun j (s : Int64 × Int32) => s.2 = nI j ∧ s.1 = foldL (fun f => nI (bedV (nowT A.2.2.2) i f)) a j) 8 ?_ ?_ _ ⟨rfl, rfl⟩
      · intro j s hj ⟨a1, a2⟩
        refine ⟨(foldL (fun f => nI (bedV (nowT A.2.2.2) i f)) a (j + 1), nI (j + 1)), ?_, rfl, rfl⟩
        rw [a1, a2, if_neg (show ¬ (8 : Int32) ≤ nI j from nI_ge (b := 8) hj (by decide)), gR_0_4, ob_some, tC tw_18, ob_some, C_about tw_18 hnow hnw (by decide) hi hj, ob_some, nI_1]
        rfl
      · intro s ⟨a1, a2⟩
        exact ⟨_, by rw [a1, a2, if_pos (show (8 : Int32) ≤ nI 8 by decide), nI_1], rfl⟩
    obtain ⟨t, e, rfl⟩ := key
    exact e
  have k33 : ∀ a, F_X8_digest_33 0 σ (a, (0 : Int32)) = some (tailF A (bedF (nowT A.2.2.2) a (nowT A.2.2.2 0))) := by
    intro a
    have key : ∃ t, F_X8_digest_33 0 σ (a, (0 : Int32)) = some t ∧ t = tailF A (bedF (nowT A.2.2.2) a (nowT A.2.2.2 0)) := by
      unfold F_X8_digest_33
      refine lp_inv (fun j (s : Int64 × Int32) => s.2 = nI j ∧ s.1 = bedF (nowT A.2.2.2) a j) (nowT A.2.2.2 0) ?_ ?_ _ ⟨rfl, rfl⟩
      · intro j s hj ⟨a1, a2⟩
        refine ⟨(bedF (nowT A.2.2.2) a (j + 1), nI (j + 1)), ?_, rfl, rfl⟩
        rw [a1, a2, gR_0_4, ob_some, C_isT hnow, ob_some, if_neg (nI_ge hj (by omega)), k47 _ j hj]
        rfl
      · intro s ⟨a1, a2⟩
        exact ⟨_, by rw [a1, a2, gR_0_4, ob_some, C_isT hnow, ob_some, if_pos (nI_le (Nat.le_refl _) (by omega)), k86]; rfl, rfl⟩
    obtain ⟨t, e, rfl⟩ := key
    exact e
  have key : ∃ t, F_X8_digest_6 0 σ ((17 : Int64), (0 : Int32)) = some t ∧ t = digF A := by
    unfold F_X8_digest_6
    refine lp_inv (fun j (s : Int64 × Int32) => s.2 = nI j ∧ s.1 = foldL (fun f => nI (cntA A f)) 17 j) 11 ?_ ?_ _ ⟨rfl, rfl⟩
    · intro j s hj ⟨a1, a2⟩
      refine ⟨(foldL (fun f => nI (cntA A f)) 17 (j + 1), nI (j + 1)), ?_, rfl, rfl⟩
      rw [a1, a2, if_neg (show ¬ (11 : Int32) ≤ nI j from nI_ge (b := 11) hj (by decide)), C_count hA h hj, ob_some, nI_1]
      rfl
    · intro s ⟨a1, a2⟩
      exact ⟨_, by rw [a1, a2, if_pos (show (11 : Int32) ≤ nI 11 by decide), k33]; rfl, rfl⟩
  obtain ⟨t, e, rfl⟩ := key
  unfold F_X8_digest
  exact e

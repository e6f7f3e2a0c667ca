/-! ===== a year by lots ===== -/
def lotC (nb w : Nat) : Nat := if w % 4 = 2 then 100 + 10 * (w / 8 % nb) else if w % 4 = 3 then 200 + 10 * (w / 8 % nb) else 0
def lotR (D : De) (s : Nat) : Nat → Nat × Nat × De
  | 0 => (0, s, D)
  | n + 1 => ((lotR D s n).1 + (if (lotR D s n).2.1 * 48271 % 2147483647 % 4 = 2 then inspS (nowT (lotR D s n).2.2) ((lotR D s n).2.1 * 48271 % 2147483647 / 8 % D.1 0) else 0), (lotR D s n).2.1 * 48271 % 2147483647, pushD (lotR D s n).2.2 (lotC (D.1 0) ((lotR D s n).2.1 * 48271 % 2147483647)))
theorem lotC_ok {nb w : Nat} (h : 0 < nb) : okD nb (lotC nb w) := by
  have := Nat.mod_lt (w / 8) h
  unfold lotC
  split
  · exact Or.inr (Or.inl ⟨_, this, Or.inl rfl⟩)
  · split
    · exact Or.inr (Or.inl ⟨_, this, Or.inr rfl⟩)
    · exact Or.inl ⟨rfl, h⟩
theorem lot_ok {tb : Prop} {D : De} {s : Nat} (hD : okDe tb D) (h0 : 0 < D.1 0) (hs : s < 2147483647) : ∀ n, D.2.1 + n ≤ 40 → okDe tb (lotR D s n).2.2 ∧ (lotR D s n).2.2.1 = D.1 ∧ (lotR D s n).2.2.2.1 = D.2.1 + n ∧ (lotR D s n).2.1 < 2147483647
  | 0, _ => ⟨hD, rfl, rfl, hs⟩
  | n + 1, h => by
    obtain ⟨a1, a2, a3, a4⟩ := lot_ok hD h0 hs n (by omega)
    refine ⟨push_ok a1 (by omega) (by rw [a2]; exact lotC_ok h0), a2, ?_, Nat.mod_lt _ (by decide)⟩
    show (lotR D s n).2.2.2.1 + 1 = _
    rw [a3]; omega
theorem lz {w : Nat} (h : w < 2147483647) : (lN w * (48271 : Int64)) - (lN w * (48271 : Int64)) / (2147483647 : Int64) * (2147483647 : Int64) = lN (w * 48271 % 2147483647) := by
  rw [show (48271 : Int64) = lN 48271 from rfl, show (2147483647 : Int64) = lN 2147483647 from rfl, lN_mul, pk_lRem (by omega) (by decide) (by decide)]
theorem lz4 {w : Nat} (h : w < 2147483647) : (lN w - lN w / (4 : Int64) * (4 : Int64)).toInt32 = nI (w % 4) := by
  rw [show (4 : Int64) = lN 4 from rfl, pk_lRem (by omega) (by decide) (by decide), lN_i]
theorem lz8 {w nb : Nat} (h : w < 2147483647) (h0 : 0 < nb) (hb : nb ≤ 6) : ((lN w / (8 : Int64)) - (lN w / (8 : Int64)) / (nI nb).toInt64 * (nI nb).toInt64).toInt32 = nI (w / 8 % nb) := by
  rw [show (8 : Int64) = lN 8 from rfl, nI_l (by omega), pk_lDiv (by omega) (by decide) (by decide), pk_lRem (by omega) h0 (by omega), lN_i]
theorem C_lots {tb : Prop} {A : Ab} {n s : Nat} (hA : okDe tb A.2.2.2) (h0 : 0 < A.2.2.2.1 0) (hs : s < 2147483647) (hn : A.2.2.2.2.1 + n ≤ 40) (σ : Mem) (h : RC A σ) : ∃ q, F_X8_lots_64 0 (nI n) (nI (A.2.2.2.1 0)) ((0 : Int32), lN s, (0 : Int32), σ) = some q ∧ (q.1 = nI (lotR A.2.2.2 s n).1 ∧ RC (deA A (lotR A.2.2.2 s n).2.2) q.2 ∧ FC σ q.2) := by
  have h6 := hA.1.1
  unfold F_X8_lots_64
  refine lp_inv (Q := fun q : Int32 × Mem => q.1 = nI (lotR A.2.2.2 s n).1 ∧ RC (deA A (lotR A.2.2.2 s n).2.2) q.2 ∧ FC σ q.2) (fun i (t : Int32 × Int64 × Int32 × Mem) => t.1 = nI (lotR A.2.2.2 s i).1 ∧ t.2.1 = lN (lotR A.2.2.2 s i).2.1 ∧ t.2.2.1 = nI i ∧ RC (deA A (lotR A.2.2.2 s i).2.2) t.2.2.2 ∧ FC σ t.2.2.2) n ?_ ?_ _ ⟨rfl, rfl, rfl, h, FC.rf⟩
  · intro i t hi ⟨a1, a2, a3, a4, a5⟩
    obtain ⟨b1, b2, b3, b4⟩ := lot_ok hA h0 hs i (by omega)
    have hw : (t.2.1 * (48271 : Int64)) - (t.2.1 * (48271 : Int64)) / (2147483647 : Int64) * (2147483647 : Int64) = lN ((lotR A.2.2.2 s i).2.1 * 48271 % 2147483647) := by rw [a2]; exact lz b4
    have hm := Nat.mod_lt ((lotR A.2.2.2 s i).2.1 * 48271) (show 2147483647 > 0 by decide)
    generalize hwv : (lotR A.2.2.2 s i).2.1 * 48271 % 2147483647 = w at hw hm
    have hk := Nat.mod_lt (w / 8) h0
    have hr : lotR A.2.2.2 s (i + 1) = ((lotR A.2.2.2 s i).1 + (if w % 4 = 2 then inspS (nowT (lotR A.2.2.2 s i).2.2) (w / 8 % A.2.2.2.1 0) else 0), w, pushD (lotR A.2.2.2 s i).2.2 (lotC (A.2.2.2.1 0) w)) := by rw [← hwv]; rfl
    have e2 : (nI (w % 4) = (2 : Int32)) ↔ w % 4 = 2 := nI_eq (b := 2) (by omega) (by decide)
    have e3 : (nI (w % 4) = (3 : Int32)) ↔ w % 4 = 3 := nI_eq (b := 3) (by omega) (by decide)
    have hc := lotC_ok (w := w) h0
    rw [hr]
    by_cases z2 : w % 4 = 2
    · have hl : lotC (A.2.2.2.1 0) w = 100 + 10 * (w / 8 % A.2.2.2.1 0) := by unfold lotC; rw [if_pos z2]
      rw [hl] at hc ⊢
      obtain ⟨σ', e, c1, c2⟩ := C_enact (A := deA A (lotR A.2.2.2 s i).2.2) (w := 1) (i := w / 8 % A.2.2.2.1 0) (j := 0) (c := 100 + 10 * (w / 8 % A.2.2.2.1 0)) b1 (by show (lotR A.2.2.2 s i).2.2.2.1 < 40; omega) (by show okD ((lotR A.2.2.2 s i).2.2.1 0) _; rw [b2]; exact hc) (by omega) t.2.2.2 a4
      rw [an_insp (by omega)] at e
      have e' : F_X8_enact 0 (1 : Int32) (nI (w / 8 % A.2.2.2.1 0)) (0 : Int32) t.2.2.2 = some (nI (inspS (nowT (lotR A.2.2.2 s i).2.2) (w / 8 % A.2.2.2.1 0)), σ') := e
      refine ⟨(nI ((lotR A.2.2.2 s i).1 + inspS (nowT (lotR A.2.2.2 s i).2.2) (w / 8 % A.2.2.2.1 0)), lN w, nI (i + 1), σ'), ?_, by rw [if_pos z2], rfl, rfl, c1, a5.tr c2⟩
      simp only [a3, hw, lz4 hm, lz8 hm h0 h6, nz_row h0 (show A.2.2.2.1 0 ≤ 1000 by omega), ob_some, e']
      rw [if_neg (nI_ge hi (by omega)), if_pos (e2.mpr z2), a1, nI_add, nI_1]
    · by_cases z3 : w % 4 = 3
      · have hl : lotC (A.2.2.2.1 0) w = 200 + 10 * (w / 8 % A.2.2.2.1 0) := by unfold lotC; rw [if_neg z2, if_pos z3]
        rw [hl] at hc ⊢
        obtain ⟨σ', e, c1, c2⟩ := C_enact (A := deA A (lotR A.2.2.2 s i).2.2) (w := 2) (i := w / 8 % A.2.2.2.1 0) (j := 0) (c := 200 + 10 * (w / 8 % A.2.2.2.1 0)) b1 (by show (lotR A.2.2.2 s i).2.2.2.1 < 40; omega) (by show okD ((lotR A.2.2.2 s i).2.2.1 0) _; rw [b2]; exact hc) (by omega) t.2.2.2 a4
        have e' : F_X8_enact 0 (2 : Int32) (nI (w / 8 % A.2.2.2.1 0)) (0 : Int32) t.2.2.2 = some (_, σ') := e
        refine ⟨(nI (lotR A.2.2.2 s i).1, lN w, nI (i + 1), σ'), ?_, by rw [if_neg z2]; rfl, rfl, rfl, c1, a5.tr c2⟩
        simp only [a3, hw, lz4 hm, lz8 hm h0 h6, nz_row h0 (show A.2.2.2.1 0 ≤ 1000 by omega), ob_some, e']
        rw [if_neg (nI_ge hi (by omega)), if_neg (fun q => z2 (e2.mp q)), if_pos (e3.mpr z3), a1, nI_1]
      · have hl : lotC (A.2.2.2.1 0) w = 0 := by unfold lotC; rw [if_neg z2, if_neg z3]
        rw [hl] at hc ⊢
        obtain ⟨σ', e, c1, c2⟩ := C_enact (A := deA A (lotR A.2.2.2 s i).2.2) (w := 0) (i := 0) (j := 0) (c := 0) b1 (by show (lotR A.2.2.2 s i).2.2.2.1 < 40; omega) (by show okD ((lotR A.2.2.2 s i).2.2.1 0) _; rw [b2]; exact hc) (by omega) t.2.2.2 a4
        have e' : F_X8_enact 0 (0 : Int32) (0 : Int32) (0 : Int32) t.2.2.2 = some (_, σ') := e
        refine ⟨(nI (lotR A.2.2.2 s i).1, lN w, nI (i + 1), σ'), ?_, by rw [if_neg z2]; rfl, rfl, rfl, c1, a5.tr c2⟩
        simp only [a3, hw, lz4 hm, lz8 hm h0 h6, nz_row h0 (show A.2.2.2.1 0 ≤ 1000 by omega), ob_some, e']
        rw [if_neg (nI_ge hi (by omega)), if_neg (fun q => z2 (e2.mp q)), if_neg (fun q => z3 (e3.mp q)), a1, nI_1]
  · intro t ⟨a1, a2, a3, a4, a5⟩
    exact ⟨(t.1, t.2.2.2), by rw [a3, if_pos (nI_le (Nat.le_refl _) (by omega))], a1, a4, a5⟩

/-! ===== the class's town: reading ===== -/
theorem Tw.lt {k : Nat} (h : Tw k) : k + 7 < nW := h.2.2.2.2.2.2.2.2
theorem Tw.ar {k o : Nat} (h : Tw k) (h1 : 2 ≤ o) (h2 : o ≤ 7) : shp (k + o) = .inr (.inl 6) := by
  obtain ⟨-, -, a2, a3, a4, a5, a6, a7, -⟩ := h
  rcases (show o = 2 ∨ o = 3 ∨ o = 4 ∨ o = 5 ∨ o = 6 ∨ o = 7 by omega) with q | q | q | q | q | q <;> subst q <;> assumption
theorem Tw.rd {k o j : Nat} {σ : Mem} (h : Tw k) (h1 : 2 ≤ o) (h2 : o ≤ 7) (hj : j < 6) : F_X8_read (k + o) (nI j) σ = some (σ.1 (k + o) j) := rd_eq (by have := h.lt; omega) (h.ar h1 h2) hj (by decide)
theorem Tw.wr {k o j : Nat} {v : Int32} {σ : Mem} (h : Tw k) (h1 : 2 ≤ o) (h2 : o ≤ 7) (hj : j < 6) : F_X8_write (k + o) (nI j) v σ = some (setI σ (k + o) j v) := wr_eq (by have := h.lt; omega) (h.ar h1 h2) hj (by decide)
/-- a number of a bed is another one -/
theorem CT.set {σ : Mem} {k o b i v : Nat} {T : Tn} (h : CT σ k T) (h6 : T 0 ≤ 6) (hi : i < T 0) (h1 : 2 ≤ o) (h2 : o ≤ 7) (hb : b = 6 * o - 9 + i) : CT (setI σ (k + o) i (nI v)) k (updT T b v) := by
  obtain ⟨a0, a1, a2, a3, a4⟩ := h
  have e0 : updT T b v 0 = T 0 := by unfold updT; rw [if_neg (by omega)]
  refine ⟨?_, ?_, ?_, ?_, ?_⟩
  · rw [e0, setI_1, if_neg (by omega)]; exact a0
  · rw [setI_1, if_neg (by omega)]; unfold updT; rw [if_neg (by omega)]; exact a1
  · rw [e0, setI_1, if_neg (by omega)]; unfold updT; rw [if_neg (by omega)]; exact a2
  · intro m hm
    rw [setI_1, if_neg (by omega)]; unfold updT; rw [if_neg (by omega)]; exact a3 m hm
  · intro j hj
    rw [e0] at hj
    obtain ⟨c2, c3, c4, c5, c6, c7⟩ := a4 j hj
    unfold updT
    simp only [setI_1]
    refine ⟨?_, ?_, ?_, ?_, ?_, ?_⟩
    · by_cases q : o = 2 ∧ j = i
      · rw [if_pos (by omega), if_pos (by omega)]
      · rw [if_neg (by omega), if_neg (by omega)]; exact c2
    · by_cases q : o = 3 ∧ j = i
      · rw [if_pos (by omega), if_pos (by omega)]
      · rw [if_neg (by omega), if_neg (by omega)]; exact c3
    · by_cases q : o = 4 ∧ j = i
      · rw [if_pos (by omega), if_pos (by omega)]
      · rw [if_neg (by omega), if_neg (by omega)]; exact c4
    · by_cases q : o = 5 ∧ j = i
      · rw [if_pos (by omega), if_pos (by omega)]
      · rw [if_neg (by omega), if_neg (by omega)]; exact c5
    · by_cases q : o = 6 ∧ j = i
      · rw [if_pos (by omega), if_pos (by omega)]
      · rw [if_neg (by omega), if_neg (by omega)]; exact c6
    · by_cases q : o = 7 ∧ j = i
      · rw [if_pos (by omega), if_pos (by omega)]
      · rw [if_neg (by omega), if_neg (by omega)]; exact c7
theorem CT.night {σ : Mem} {k v : Nat} {T : Tn} (h : CT σ k T) : CT (setI σ k 9 (nI v)) k (updT T 1 v) := by
  obtain ⟨a0, a1, a2, a3, a4⟩ := h
  refine ⟨?_, ?_, ?_, ?_, ?_⟩
  · rw [setI_1, if_neg (by omega)]; exact a0
  · rw [setI_1, if_pos ⟨rfl, rfl⟩]; rfl
  · rw [setI_1, if_neg (by omega)]; exact a2
  · intro m hm
    rw [setI_1, if_neg (by omega)]; unfold updT; rw [if_neg (by omega)]; exact a3 m hm
  · intro j hj
    have h0 : updT T 1 v 0 = T 0 := rfl
    rw [h0] at hj
    obtain ⟨c2, c3, c4, c5, c6, c7⟩ := a4 j hj
    unfold updT
    simp only [setI_1]
    refine ⟨?_, ?_, ?_, ?_, ?_, ?_⟩ <;> (rw [if_neg (by omega), if_neg (by omega)]; assumption)
/-- fines stand in the reference alone -/
theorem CT.fine {σ : Mem} {k v : Nat} {T : Tn} (h : CT σ k T) : CT σ k (updT T 2 v) := by
  obtain ⟨a0, a1, a2, a3, a4⟩ := h
  refine ⟨a0, a1, a2, fun m hm => ?_, fun j hj => ?_⟩
  · unfold updT; rw [if_neg (by omega)]; exact a3 m hm
  · have h0 : updT T 2 v 0 = T 0 := rfl
    rw [h0] at hj
    obtain ⟨c2, c3, c4, c5, c6, c7⟩ := a4 j hj
    unfold updT
    refine ⟨?_, ?_, ?_, ?_, ?_, ?_⟩ <;> (rw [if_neg (by omega)]; assumption)
/-- what a town's other places hold doesn't matter -/
theorem CT.kept {σ σ' : Mem} {k : Nat} {T : Tn} (h : CT σ k T) (ho : ∀ a b, k ≤ a → a ≤ k + 7 → σ'.1 a b = σ.1 a b) : CT σ' k T := by
  obtain ⟨a0, a1, a2, a3, a4⟩ := h
  refine ⟨(ho _ _ (by omega) (by omega)).trans a0, (ho _ _ (by omega) (by omega)).trans a1, fun q => (ho _ _ (by omega) (by omega)).trans (a2 q), fun m hm => (ho _ _ (by omega) (by omega)).trans (a3 m hm), fun j hj => ?_⟩
  obtain ⟨c2, c3, c4, c5, c6, c7⟩ := a4 j hj
  exact ⟨(ho _ _ (by omega) (by omega)).trans c2, (ho _ _ (by omega) (by omega)).trans c3, (ho _ _ (by omega) (by omega)).trans c4, (ho _ _ (by omega) (by omega)).trans c5, (ho _ _ (by omega) (by omega)).trans c6, (ho _ _ (by omega) (by omega)).trans c7⟩
section CTR
variable {σ : Mem} {k i B : Nat} {T : Tn}
theorem C_kind (hk : Tw k) (h : CT σ k T) (hw : wfT B T) (hi : i < T 0) : F_X7_kindOf k (nI i) σ = some (nI (T (3 + i))) := by
  unfold F_X7_kindOf
  rw [tR_1 hk, ob_some, hk.rd (o := 2) (by decide) (by decide) (by have := hw.1; omega), ob_some, (h.2.2.2.2 i hi).1]
theorem C_thick (hk : Tw k) (h : CT σ k T) (hw : wfT B T) (hi : i < T 0) : F_X7_thickOf k (nI i) σ = some (nI (T (21 + i))) := by
  unfold F_X7_thickOf
  rw [tR_4 hk, ob_some, hk.rd (o := 5) (by decide) (by decide) (by have := hw.1; omega), ob_some, (h.2.2.2.2 i hi).2.2.2.1]
theorem C_lies (hk : Tw k) (h : CT σ k T) (hw : wfT B T) (hi : i < T 0) : F_X7_liesIn k (nI i) σ = some (nI (T (27 + i))) := by
  unfold F_X7_liesIn
  rw [tR_5 hk, ob_some, hk.rd (o := 6) (by decide) (by decide) (by have := hw.1; omega), ob_some, (h.2.2.2.2 i hi).2.2.2.2.1]
theorem C_cold {m : Nat} (hk : Tw k) (h : CT σ k T) (hm : m ≤ 100000) : F_X7_coldOf k (nI m) σ = some (nI (T (39 + m % 4))) := by
  have h4 : m % 4 < 4 := Nat.mod_lt _ (by decide)
  unfold F_X7_coldOf
  rw [tR_0 hk, ob_some, rem4 hm, rd_eq (by have := hk.lt; omega) hk.2.1 h4 (by decide), ob_some, h.2.2.2.1 _ h4]
theorem C_gap {j : Nat} (hk : Tw k) (h : CT σ k T) (hw : wfT B T) (hi : i < T 0) (hj : j < T 0) : F_X7_gapWith k (nI i) (nI j) σ = some (nI (gapT T i j)) := by
  unfold F_X7_gapWith
  rw [tR_2 hk, ob_some, hk.rd (o := 3) (by decide) (by decide) (by have := hw.1; omega), ob_some, tR_3 hk, ob_some, hk.rd (o := 4) (by decide) (by decide) (by have := hw.1; omega), ob_some, (h.2.2.2.2 i hi).2.1, (h.2.2.2.2 j hj).2.2.1, abs_eq (hw.2.2.1 i hi).2.1 (hw.2.2.1 j hj).2.2.1]
  rfl
theorem C_crossesIn {m : Nat} (hk : Tw k) (h : CT σ k T) (hw : wfT B T) (hi : i < T 0) (hm : m ≤ 100000) : F_X7_crossesIn k (nI i) (nI m) σ = some (nI (crossT T i m)) := by
  have b := hw.2.2.1 i hi
  have h4 : m % 4 < 4 := Nat.mod_lt _ (by decide)
  unfold F_X7_crossesIn
  rw [C_kind hk h hw hi, ob_some, C_gap hk h hw hi hi, ob_some, C_thick hk h hw hi, ob_some, C_cold hk h hm, ob_some, C_crossing b.1 (gapT_le b.2.1 b.2.2.1) b.2.2.2.1 hm (hw.2.2.2.1 _ h4), ob_some]
  rfl
theorem C_crossesAs {kd th m : Nat} (hk : Tw k) (h : CT σ k T) (hw : wfT B T) (hi : i < T 0) (hm : m ≤ 100000) (h1 : kd < 6) (h2 : th ≤ 9) : F_X7_crossesAs k (nI i) (nI kd) (nI th) (nI m) σ = some (nI (crN kd (gapT T i i) th m (T (39 + m % 4)))) := by
  have b := hw.2.2.1 i hi
  have h4 : m % 4 < 4 := Nat.mod_lt _ (by decide)
  unfold F_X7_crossesAs
  rw [C_gap hk h hw hi hi, ob_some, C_cold hk h hm, ob_some, C_crossing h1 (gapT_le b.2.1 b.2.2.1) h2 hm (hw.2.2.2.1 _ h4), ob_some]
theorem C_crossesWith {j : Nat} (hk : Tw k) (h : CT σ k T) (hw : wfT B T) (hB : B ≤ 100000) (hi : i < T 0) (hj : j < T 0) : F_X7_crossesWith k (nI i) (nI j) σ = some (nI (crN (T (3 + i)) (gapT T i j) (T (21 + i)) (T 1) (T (39 + T 1 % 4)))) := by
  have b := hw.2.2.1 i hi
  have h4 : T 1 % 4 < 4 := Nat.mod_lt _ (by decide)
  have hm : T 1 ≤ 100000 := Nat.le_trans hw.2.1 hB
  unfold F_X7_crossesWith
  rw [C_kind hk h hw hi, ob_some, C_gap hk h hw hi hj, ob_some, C_thick hk h hw hi, ob_some, tI_9 hk, ob_some, ob_some, h.2.1, C_cold hk h hm, ob_some, C_crossing b.1 (gapT_le b.2.1 (hw.2.2.1 j hj).2.2.1) b.2.2.2.1 hm (hw.2.2.2.1 _ h4), ob_some]
theorem C_has (hk : Tw k) (h : CT σ k T) (hw : wfT B T) (hi : i < T 0) : F_X7_has k (nI i) σ = some 1 := by
  have h6 := hw.1
  unfold F_X7_has
  rw [if_neg (nI_pos (by omega)), tI_8 hk, ob_some, h.1, if_neg (nI_ge hi (by omega))]
theorem C_hasno {x : Int32} (hk : Tw k) (h : CT σ k T) (hx : x < 0 ∨ nI (T 0) ≤ x) : F_X7_has k x σ = some 0 := by
  unfold F_X7_has
  by_cases q : x < 0
  · rw [if_pos q]
  · rw [if_neg q, tI_8 hk, ob_some, h.1, if_pos (hx.resolve_left q)]
theorem C_found (hk : Tw k) (h : CT σ k T) (hw : wfT B T) (hi : i < T 0) : F_X7_wouldBeFound k (nI i) σ = some (if T 43 ≤ T (27 + i) then 1 else 0) := by
  have b := hw.2.2.1 i hi
  have b2 := hw.2.2.2.2.1
  unfold F_X7_wouldBeFound
  rw [C_has hk h hw hi, ob_some, if_neg (by decide), tR_5 hk, ob_some, hk.rd (o := 6) (by decide) (by decide) (by have := hw.1; omega), ob_some, (h.2.2.2.2 i hi).2.2.2.2.1, tI_7 hk, ob_some, h.2.2.1 (by omega)]
  by_cases q : T 43 ≤ T (27 + i)
  · rw [if_neg (nI_nlt q (by omega)), if_pos q]
  · rw [if_pos (nI_lt (by omega) (by omega)), if_neg q]
theorem C_foundno {x : Int32} (hk : Tw k) (h : CT σ k T) (hx : x < 0 ∨ nI (T 0) ≤ x) : F_X7_wouldBeFound k x σ = some 0 := by
  unfold F_X7_wouldBeFound
  rw [C_hasno hk h hx, ob_some, if_pos rfl]
end CTR

/-! ===== bed ===== -/
def bedV (T : Tn) (i f : Nat) : Nat := if f = 0 then T (3 + i) else if f = 1 then T (9 + i) else if f = 2 then T (15 + i) else if f = 3 then T (21 + i) else if f = 4 then T (27 + i) else if f = 5 then crossT T i (T 1) else if f = 6 then barN (T (3 + i)) (T (21 + i)) else T (33 + i)
theorem C_about {σ : Mem} {k i B f : Nat} {T : Tn} (hk : Tw k) (h : CT σ k T) (hw : wfT B T) (hB : B ≤ 100000) (hi : i < T 0) (hf : f < 8) : F_X7_about k (nI i) (nI f) σ = some (nI (bedV T i f)) := by
  have b := hw.2.2.1 i hi
  have h6 := hw.1
  have q := h.2.2.2.2 i hi
  unfold F_X7_about
  rcases (show f = 0 ∨ f = 1 ∨ f = 2 ∨ f = 3 ∨ f = 4 ∨ f = 5 ∨ f = 6 ∨ f = 7 by omega) with rfl | rfl | rfl | rfl | rfl | rfl | rfl | rfl
  · rw [if_pos (by decide), C_kind hk h hw hi, ob_some]; rfl
  · rw [if_neg (by decide), if_pos (by decide), tR_2 hk, ob_some, hk.rd (o := 3) (by decide) (by decide) (by omega), ob_some, q.2.1]; rfl
  · rw [if_neg (by decide), if_neg (by decide), if_pos (by decide), tR_3 hk, ob_some, hk.rd (o := 4) (by decide) (by decide) (by omega), ob_some, q.2.2.1]; rfl
  · rw [if_neg (by decide), if_neg (by decide), if_neg (by decide), if_pos (by decide), C_thick hk h hw hi, ob_some]; rfl
  · rw [if_neg (by decide), if_neg (by decide), if_neg (by decide), if_neg (by decide), if_pos (by decide), C_lies hk h hw hi, ob_some]; rfl
  · rw [if_neg (by decide), if_neg (by decide), if_neg (by decide), if_neg (by decide), if_neg (by decide), if_pos (by decide), tI_9 hk, ob_some, h.2.1, C_crossesIn hk h hw hi (Nat.le_trans hw.2.1 hB), ob_some]; rfl
  · rw [if_neg (by decide), if_neg (by decide), if_neg (by decide), if_neg (by decide), if_neg (by decide), if_neg (by decide), if_pos (by decide), C_kind hk h hw hi, ob_some, C_thick hk h hw hi, ob_some, C_bar b.1 b.2.2.2.1, ob_some]; rfl
  · rw [if_neg (by decide), if_neg (by decide), if_neg (by decide), if_neg (by decide), if_neg (by decide), if_neg (by decide), if_neg (by decide), tR_6 hk, ob_some, hk.rd (o := 7) (by decide) (by decide) (by omega), ob_some, q.2.2.2.2.2]; rfl
theorem M_about {σ : Mem} {i B f : Nat} {T : Tn} (h : MT σ 0 T) (hw : wfT B T) (hB : B ≤ 100000) (hi : i < T 0) (hf : f < 8) : F_X9_bedTells 134 (nI i) (nI f) σ = some (nI (bedV T i f)) := by
  have b := hw.2.2.1 i hi
  have h6 := hw.1
  have rd : ∀ n : Nat, n ≤ 33 → aI 135 (nI n + nI i) σ = some (nI (T (n + i))) := fun n hn => by
    have := h (n + i) (by omega)
    rw [Nat.zero_add] at this
    rw [nI_add, w_rd (by omega), this]
  unfold F_X9_bedTells
  rcases (show f = 0 ∨ f = 1 ∨ f = 2 ∨ f = 3 ∨ f = 4 ∨ f = 5 ∨ f = 6 ∨ f = 7 by omega) with rfl | rfl | rfl | rfl | rfl | rfl | rfl | rfl
  · rw [if_pos (by decide), wR, ob_some, show (3 : Int32) = nI 3 from rfl, rd 3 (by decide), ob_some]; rfl
  · rw [if_neg (by decide), if_pos (by decide), wR, ob_some, show (9 : Int32) = nI 9 from rfl, rd 9 (by decide), ob_some]; rfl
  · rw [if_neg (by decide), if_neg (by decide), if_pos (by decide), wR, ob_some, show (15 : Int32) = nI 15 from rfl, rd 15 (by decide), ob_some]; rfl
  · rw [if_neg (by decide), if_neg (by decide), if_neg (by decide), if_pos (by decide), wR, ob_some, show (21 : Int32) = nI 21 from rfl, rd 21 (by decide), ob_some]; rfl
  · rw [if_neg (by decide), if_neg (by decide), if_neg (by decide), if_neg (by decide), if_pos (by decide), wR, ob_some, show (27 : Int32) = nI 27 from rfl, rd 27 (by decide), ob_some]; rfl
  · have e : F_X9_crossIn 134 (0 : Int32) (nI i) σ = some (nI (crossT T i (T 1))) := M_crossIn (f := 0) h h.col (by decide) hw hB hi
    rw [if_neg (by decide), if_neg (by decide), if_neg (by decide), if_neg (by decide), if_neg (by decide), if_pos (by decide), e, ob_some]; rfl
  · have r3 : aI 135 ((3 : Int32) + nI i) σ = some (nI (T (3 + i))) := rd 3 (by decide)
    have r21 : aI 135 ((21 : Int32) + nI i) σ = some (nI (T (21 + i))) := rd 21 (by decide)
    rw [if_neg (by decide), if_neg (by decide), if_neg (by decide), if_neg (by decide), if_neg (by decide), if_neg (by decide), if_pos (by decide), wR, ob_some, r3, ob_some, ob_some, r21, ob_some, M_bar b.1 b.2.2.2.1, ob_some]; rfl
  · rw [if_neg (by decide), if_neg (by decide), if_neg (by decide), if_neg (by decide), if_neg (by decide), if_neg (by decide), if_neg (by decide), wR, ob_some, show (33 : Int32) = nI 33 from rfl, rd 33 (by decide), ob_some]; rfl
theorem sim_bed (x y : Int32) : Sim (F_X8_bed 0 x y) (F_X9_bed 134 x y) := by
  refine sim_of fun A hA => ?_
  obtain ⟨hnw, hn0⟩ := now_wf hA
  have h6 := hnw.1
  have d0 : (0 : Int64).toInt = 0 := rfl
  have d7 : (7 : Int64).toInt = 7 := rfl
  have c8 : (8 : Int32).toInt = 8 := rfl
  have t4 : (y < (8 : Int32)) ↔ y.toInt < 8 := by rw [Int32.lt_iff_toInt_lt, c8]
  rcases ixc x (n := nowT A.2.2.2 0) (by omega) with hx | ⟨i, hi, rfl⟩
  · refine ⟨-1, A, hA, C_same fun σ h => ?_, M_same fun σ h => ?_⟩
    · unfold F_X8_bed
      rw [gR_0_4, ob_some, tC tw_18, ob_some, C_hasno tw_18 h.now hx, ob_some, if_pos rfl]
    · unfold F_X9_bed
      rw [M_bedno h.now h6 hx, ob_some, if_pos rfl]
  · by_cases hy : 0 ≤ y.toInt ∧ y.toInt ≤ 7
    · obtain ⟨f, hf, rfl⟩ := nat_of hy.1
      refine ⟨1, toldA A (nI (bedV (nowT A.2.2.2) i f)), hA, fun σ h => ?_, fun σ h => ?_⟩
      · obtain ⟨σ', e, h1, h2⟩ := C_tell (A := A) (v := nI (bedV (nowT A.2.2.2) i f)) σ h
        refine ⟨σ', ?_, h1, h2⟩
        unfold F_X8_bed
        rw [gR_0_4, ob_some, tC tw_18, ob_some, C_has tw_18 h.now hnw hi, ob_some, if_neg (by decide), if_neg (show ¬ nI f < 0 from fun q => by have := neg_iff.mp q; omega), if_pos (t4.mpr (by omega)), ob_some, tC tw_18, ob_some, C_about tw_18 h.now hnw (by decide) hi (by omega), ob_some, e, ob_some]
      · obtain ⟨σ', e, h1, h2⟩ := M_tells (A := A) (v := nI (bedV (nowT A.2.2.2) i f)) (r := 1) σ h
        refine ⟨σ', ?_, h1, h2⟩
        unfold F_X9_bed
        rw [M_bed h.now h6 hi, ob_some, if_neg (by decide), in_eq, wide, d0, d7, if_pos hy, ob_some, if_neg (by decide), M_about h.now hnw (by decide) hi (by omega), ob_some, e, ob_some]
    · refine ⟨-1, A, hA, C_same fun σ h => ?_, M_same fun σ h => ?_⟩
      · unfold F_X8_bed
        rw [gR_0_4, ob_some, tC tw_18, ob_some, C_has tw_18 h.now hnw hi, ob_some, if_neg (by decide)]
        by_cases q : y < 0
        · rw [if_pos q]
        · have q' : ¬ y.toInt < 0 := fun z => q (neg_iff.mpr z)
          rw [if_neg q, if_neg (fun z => by have := t4.mp z; omega)]
      · unfold F_X9_bed
        rw [M_bed h.now h6 hi, ob_some, if_neg (by decide), in_eq, wide, d0, d7, if_neg hy, ob_some, if_pos rfl]

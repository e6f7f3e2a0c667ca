/-! ===== cross ===== -/
theorem sim_cross (x y : Int32) : SimP (F_X8_cross 0 x y) (F_X9_cross 134 x y) := by
  intro σ ⟨⟨A, hA, hC, hM⟩, _⟩
  obtain ⟨hnw, hn0⟩ := now_wf hA
  have h6 := hnw.1
  have d0 : (0 : Int64).toInt = 0 := rfl
  have d99 : (99 : Int64).toInt = 99 := rfl
  have c99 : (99 : Int32).toInt = 99 := rfl
  have t4 : (y ≤ (99 : Int32)) ↔ y.toInt ≤ 99 := by rw [Int32.le_iff_toInt_le, c99]
  rcases ixc x (n := nowT A.2.2.2 0) (by omega) with hx | ⟨i, hi, rfl⟩
  · refine ⟨-1, ?_, ?_⟩
    · unfold F_X8_cross
      rw [gR_0_4, ob_some, tC tw_18, ob_some, C_hasno tw_18 hC.now hx, ob_some, if_pos rfl]
    · unfold F_X9_cross
      rw [M_bedno hM.now h6 hx, ob_some, if_pos rfl]
  · by_cases hy : 0 ≤ y.toInt ∧ y.toInt ≤ 99
    · obtain ⟨m, hm, rfl⟩ := nat_of hy.1
      have b := hnw.2.2.1 i hi
      have h4 : m % 4 < 4 := Nat.mod_lt _ (by decide)
      refine ⟨nI (crossT (nowT A.2.2.2) i m), ?_, ?_⟩
      · unfold F_X8_cross
        rw [gR_0_4, ob_some, tC tw_18, ob_some, C_has tw_18 hC.now hnw hi, ob_some, if_neg (by decide), if_neg (show ¬ nI m < 0 from fun q => by have := neg_iff.mp q; omega), if_pos (t4.mpr hy.2), ob_some, tC tw_18, ob_some, C_crossesIn tw_18 hC.now hnw hi (by omega), ob_some]
      · have e3 : (3 : Int32) + nI i = nI (3 + i) := lx rfl
        have e21 : (21 : Int32) + nI i = nI (21 + i) := lx rfl
        have v3 := hM.now (3 + i) (by omega)
        have v21 := hM.now (21 + i) (by omega)
        have v39 := hM.now (39 + m % 4) (by omega)
        rw [Nat.zero_add] at v3 v21 v39
        have eg : F_X9_gapIn 134 (0 : Int32) (nI i) σ = some (nI (gapT (nowT A.2.2.2) i i)) := M_gap (f := 0) hM.now (by decide) hnw hi
        have ec := M_crossBy (kd := nowT A.2.2.2 (3 + i)) (th := nowT A.2.2.2 (21 + i)) (gap := gapT (nowT A.2.2.2) i i) (m := m) v39 b.1 b.2.2.2.1 (gapT_le b.2.1 b.2.2.1) (by omega) (hnw.2.2.2.1 _ h4)
        unfold F_X9_cross
        rw [M_bed hM.now h6 hi, ob_some, if_neg (by decide), in_eq, wide, d0, d99, if_pos hy, ob_some, if_neg (by decide), wR, ob_some, e3, w_rd (by omega), ob_some, ob_some, e21, w_rd (by omega), ob_some, eg, ob_some, v3, v21, ec, ob_some]
        rfl
    · refine ⟨-1, ?_, ?_⟩
      · unfold F_X8_cross
        rw [gR_0_4, ob_some, tC tw_18, ob_some, C_has tw_18 hC.now hnw hi, ob_some, if_neg (by decide)]
        by_cases q : y < 0
        · rw [if_pos q]
        · have q' : ¬ y.toInt < 0 := fun z => q (neg_iff.mpr z)
          rw [if_neg q, if_neg (fun z => by have := t4.mp z; omega)]
      · unfold F_X9_cross
        rw [M_bed hM.now h6 hi, ob_some, if_neg (by decide), in_eq, wide, d0, d99, if_neg hy, ob_some, if_pos rfl]

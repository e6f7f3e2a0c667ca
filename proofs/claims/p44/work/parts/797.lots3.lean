theorem sim_lots (x y : Int32) : Sim (F_X8_lots 0 x y) (F_X9_lots 134 x y) := by
  refine sim_of fun A hA => ?_
  obtain ⟨hnw, hn0⟩ := now_wf hA
  have h6 := hnw.1
  have hdc := hA.2.1
  have c1 : (1 : Int32).toInt = 1 := rfl
  have c20 : (20 : Int32).toInt = 20 := rfl
  have cM : (2147483646 : Int32).toInt = 2147483646 := rfl
  have d1 : (1 : Int64).toInt = 1 := rfl
  have d20 : (20 : Int64).toInt = 20 := rfl
  have dM : (2147483646 : Int64).toInt = 2147483646 := rfl
  have t1 : (x < (1 : Int32)) ↔ x.toInt < 1 := by rw [Int32.lt_iff_toInt_lt, c1]
  have t2 : ((20 : Int32) < x) ↔ 20 < x.toInt := by rw [Int32.lt_iff_toInt_lt, c20]
  have t3 : (y < (1 : Int32)) ↔ y.toInt < 1 := by rw [Int32.lt_iff_toInt_lt, c1]
  have t4 : (y ≤ (2147483646 : Int32)) ↔ y.toInt ≤ 2147483646 := by rw [Int32.le_iff_toInt_le, cM]
  by_cases hx : 1 ≤ x.toInt ∧ x.toInt ≤ 20
  · by_cases hy : 1 ≤ y.toInt ∧ y.toInt ≤ 2147483646
    · obtain ⟨n, hn, rfl⟩ := nat_of (show 0 ≤ x.toInt by omega)
      obtain ⟨s, hs, rfl⟩ := nat_of (show 0 ≤ y.toInt by omega)
      have hC : ∀ σ : Mem, F_X8_lots 0 (nI n) (nI s) σ = (gI 7 8 18 σ).bind fun v20 => if 0 < v20 then (gI 8 7 0 σ).bind fun v23 => if (v23 + nI n) ≤ (40 : Int32) then F_X8_lots_64 0 (nI n) v20 ((0 : Int32), (nI s).toInt64, (0 : Int32), σ) else some ((-2 : Int32), σ) else some ((-4 : Int32), σ) := fun σ => by
        unfold F_X8_lots
        rw [if_neg (fun q => by have := t1.mp q; omega), if_neg (fun q => by have := t2.mp q; omega), if_neg (fun q => by have := t3.mp q; omega), if_pos (t4.mpr hy.2), gR_0_4, ob_some]
      have hM : ∀ σ : Mem, F_X9_lots 134 (nI n) (nI s) σ = (F_X9_isTown 134 σ).bind fun q34 => if q34 = 0 then some ((-4 : Int32), σ) else (gI 9 1 134 σ).bind fun v38 => if (v38 + nI n) ≤ (40 : Int32) then F_X9_lots_59 134 (nI n) ((nI s).toInt64, (0 : Int32), (0 : Int32), σ) else some ((-2 : Int32), σ) := fun σ => by
        unfold F_X9_lots
        rw [in_eq, wide, d1, d20, if_pos hx, ob_some, if_neg (by decide), in_eq, wide, d1, dM, if_pos hy, ob_some, if_neg (by decide)]
      have e40 : ((nI A.2.2.2.2.1 + nI n) ≤ (40 : Int32)) ↔ A.2.2.2.2.1 + n ≤ 40 := by rw [nI_add]; exact nI_leI (b := 40) (by omega) (by decide)
      have e64 : (nI s).toInt64 = lN s := nI_l (by omega)
      by_cases hz : A.2.2.2.1 0 = 0
      · refine ⟨-4, A, hA, C_same fun σ h => ?_, M_same fun σ h => ?_⟩
        · have e : σ.1 18 8 = 0 := by rw [h.now.1, hn0, hz]; rfl
          rw [hC, tI_8 tw_18, ob_some, e, if_neg (by decide)]
        · rw [hM, M_isTown h.now h6, hn0, if_pos hz, ob_some, if_pos rfl]
      · have hp : (0 : Int32) < nI (A.2.2.2.1 0) := nI_lt (a := 0) (b := A.2.2.2.1 0) (by omega) (by omega)
        by_cases h40 : A.2.2.2.2.1 + n ≤ 40
        · have ok := lot_ok (s := s) hA (by omega) (by omega) n h40
          refine ⟨nI (lotR A.2.2.2 s n).1, deA A (lotR A.2.2.2 s n).2.2, ok.1, fun σ h => ?_, fun σ h => ?_⟩
          · obtain ⟨⟨r, σ'⟩, e, rfl, k1, k2⟩ := C_lots (s := s) hA (by omega) (by omega) h40 σ h
            have hb : σ.1 18 8 = nI (A.2.2.2.1 0) := by rw [h.now.1, hn0]
            exact ⟨σ', by rw [hC, tI_8 tw_18, ob_some, hb, if_pos hp, gI_0_7, ob_some, h.dc, if_pos (e40.mpr h40), e64, e], k1, k2⟩
          · obtain ⟨⟨r, σ'⟩, e, rfl, k1, k2⟩ := M_lots (s := s) hA (by omega) (by omega) h40 σ h
            have ht : F_X9_isTown 134 σ = some 1 := by rw [M_isTown h.now h6, hn0, if_neg hz]
            exact ⟨σ', by rw [hM, ht, ob_some, if_neg (by decide), gI_134_1, ob_some, h.dc, if_pos (e40.mpr h40), e64, e], k1, k2⟩
        · refine ⟨-2, A, hA, C_same fun σ h => ?_, M_same fun σ h => ?_⟩
          · have hb : σ.1 18 8 = nI (A.2.2.2.1 0) := by rw [h.now.1, hn0]
            rw [hC, tI_8 tw_18, ob_some, hb, if_pos hp, gI_0_7, ob_some, h.dc, if_neg (fun q => h40 (e40.mp q))]
          · have ht : F_X9_isTown 134 σ = some 1 := by rw [M_isTown h.now h6, hn0, if_neg hz]
            rw [hM, ht, ob_some, if_neg (by decide), gI_134_1, ob_some, h.dc, if_neg (fun q => h40 (e40.mp q))]
    · refine ⟨-1, A, hA, C_same fun σ h => ?_, M_same fun σ h => ?_⟩
      · unfold F_X8_lots
        rw [if_neg (fun q => by have := t1.mp q; omega), if_neg (fun q => by have := t2.mp q; omega)]
        by_cases q : y < (1 : Int32)
        · rw [if_pos q]
        · have q' : ¬ y.toInt < 1 := fun z => q (t3.mpr z)
          rw [if_neg q, if_neg (fun z => by have := t4.mp z; omega)]
      · unfold F_X9_lots
        rw [in_eq, wide, d1, d20, if_pos hx, ob_some, if_neg (by decide), in_eq, wide, d1, dM, if_neg hy, ob_some, if_pos rfl]
  · refine ⟨-1, A, hA, C_same fun σ h => ?_, M_same fun σ h => ?_⟩
    · unfold F_X8_lots
      by_cases q : x < (1 : Int32)
      · rw [if_pos q]
      · have q' : ¬ x.toInt < 1 := fun z => q (t1.mpr z)
        rw [if_neg q, if_pos (t2.mpr (by omega))]
    · unfold F_X9_lots
      rw [in_eq, wide, d1, d20, if_neg hx, ob_some, if_pos rfl]

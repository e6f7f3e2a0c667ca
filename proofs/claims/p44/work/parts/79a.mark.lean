/-! ===== mark ===== -/
abbrev isK' (kd m : Nat) : Prop := kd = m ∨ (kd = 4 ∧ m = 2) ∨ (kd = 5 ∧ m = 1)
theorem C_isOf {kd m : Nat} {σ : Mem} (hk : kd < 6) (h1 : 1 ≤ m) (hm : m < 6) : F_X8_isOfKind (nI kd) (nI m) σ = some (if isK' kd m then 1 else 0) := by
  unfold F_X8_isOfKind F_X8_isOfKind_19 F_X8_isOfKind_29
  rcases (show kd = 0 ∨ kd = 1 ∨ kd = 2 ∨ kd = 3 ∨ kd = 4 ∨ kd = 5 by omega) with rfl | rfl | rfl | rfl | rfl | rfl <;> rcases (show m = 1 ∨ m = 2 ∨ m = 3 ∨ m = 4 ∨ m = 5 by omega) with rfl | rfl | rfl | rfl | rfl <;> rfl
def markV (T : Tn) (i m : Nat) : Int32 :=
  if m = 1 then nI (crN 0 (gapT T i i) (T (21 + i)) (T 1) (T (39 + T 1 % 4))) - nI (crossT T i (T 1))
  else if m = 2 then nI (T (21 + i)) - nI (barN 2 (T (21 + i)))
  else if m = 3 then nI (T 1) - nI (T 1) / (2 : Int32) * (2 : Int32)
  else if m = 4 then nI (crossT T i (T 1)) - nI (crN 2 (gapT T i i) (T (21 + i)) (T 1) (T (39 + T 1 % 4)))
  else nI (crN 1 (gapT T i i) (T (21 + i)) (T 1) (T (39 + T 1 % 4))) - nI (crossT T i (T 1))
theorem M_crossAs {σ : Mem} {i B kd : Nat} {T : Tn} (h : MT σ 0 T) (hw : wfT B T) (hB : B ≤ 100000) (hi : i < T 0) (hk : kd < 6) : F_X9_crossAs 134 (nI i) (nI kd) σ = some (nI (crN kd (gapT T i i) (T (21 + i)) (T 1) (T (39 + T 1 % 4)))) := by
  have b := hw.2.2.1 i hi
  have h6 := hw.1
  have h4 : T 1 % 4 < 4 := Nat.mod_lt _ (by decide)
  have v21 := h (21 + i) (by omega)
  have v1 := h 1 (by decide)
  have v39 := h (39 + T 1 % 4) (by omega)
  rw [Nat.zero_add] at v21 v1 v39
  have e21 : (21 : Int32) + nI i = nI (21 + i) := lx rfl
  have r1 : aI 135 (1 : Int32) σ = some (nI (T 1)) := (w_rd (j := 1) (by decide)).trans (by rw [v1])
  have eg : F_X9_gapIn 134 (0 : Int32) (nI i) σ = some (nI (gapT T i i)) := M_gap (f := 0) h (by decide) hw hi
  unfold F_X9_crossAs
  rw [wR, ob_some, e21, w_rd (by omega), ob_some, eg, ob_some, ob_some, r1, ob_some, v21, M_crossBy v39 hk b.2.2.2.1 (gapT_le b.2.1 b.2.2.1) (Nat.le_trans hw.2.1 hB) (hw.2.2.2.1 _ h4), ob_some]
theorem M_markV {σ : Mem} {i B m kd : Nat} {T : Tn} (h : MT σ 0 T) (hw : wfT B T) (hB : B ≤ 100000) (hi : i < T 0) (h1 : 1 ≤ m) (hm : m < 6) (hk2 : m = 2 → kd = 2 ∨ kd = 4) (hk : kd < 6) : F_X9_mark_61 134 (nI i) (nI m) (nI kd) 1 σ = some (markV T i m, σ) := by
  have b := hw.2.2.1 i hi
  have h6 := hw.1
  have v21 := h (21 + i) (by omega)
  have v1 := h 1 (by decide)
  rw [Nat.zero_add] at v21 v1
  have e21 : (21 : Int32) + nI i = nI (21 + i) := lx rfl
  have r1 : aI 135 (1 : Int32) σ = some (nI (T 1)) := (w_rd (j := 1) (by decide)).trans (by rw [v1])
  have ec : F_X9_crossIn 134 (0 : Int32) (nI i) σ = some (nI (crossT T i (T 1))) := M_crossIn (f := 0) h h.col (by decide) hw hB hi
  have a0 : F_X9_crossAs 134 (nI i) (0 : Int32) σ = _ := M_crossAs (kd := 0) h hw hB hi (by decide)
  have a1 : F_X9_crossAs 134 (nI i) (1 : Int32) σ = _ := M_crossAs (kd := 1) h hw hB hi (by decide)
  have a2 : F_X9_crossAs 134 (nI i) (2 : Int32) σ = _ := M_crossAs (kd := 2) h hw hB hi (by decide)
  unfold F_X9_mark_61
  rw [if_neg (by decide)]
  rcases (show m = 1 ∨ m = 2 ∨ m = 3 ∨ m = 4 ∨ m = 5 by omega) with rfl | rfl | rfl | rfl | rfl
  · rw [if_pos (by decide), a0, ob_some, ec, ob_some]; rfl
  · have eb : barN kd (T (21 + i)) = barN 2 (T (21 + i)) := by rcases hk2 rfl with rfl | rfl <;> rfl
    have r21 : aI 135 (nI (21 + i)) σ = some (nI (T (21 + i))) := (w_rd (by omega)).trans (by rw [v21])
    rw [if_neg (by decide), if_pos (by decide), wR, ob_some, e21, r21, ob_some, ob_some, r21, ob_some, M_bar hk b.2.2.2.1, ob_some, eb]; rfl
  · rw [if_neg (by decide), if_neg (by decide), if_pos (by decide), wR, ob_some, r1, ob_some]; rfl
  · rw [if_neg (by decide), if_neg (by decide), if_neg (by decide), if_pos (by decide), ec, ob_some, a2, ob_some]; rfl
  · rw [if_neg (by decide), if_neg (by decide), if_neg (by decide), if_neg (by decide), a1, ob_some, ec, ob_some]; rfl
theorem M_sel {f : Int32 → Option (Int32 × Mem)} {kd m : Nat} (hk : kd < 6) (h1 : 1 ≤ m) (hm : m < 6) : (if nI m = nI kd then f 1 else if nI m = (1 : Int32) then (if nI kd = (5 : Int32) then f 1 else if nI m = (2 : Int32) then (if nI kd = (4 : Int32) then f 1 else f 0) else f 0) else if nI m = (2 : Int32) then (if nI kd = (4 : Int32) then f 1 else f 0) else f 0) = f (if isK' kd m then 1 else 0) := by
  unfold isK'
  rcases (show kd = 0 ∨ kd = 1 ∨ kd = 2 ∨ kd = 3 ∨ kd = 4 ∨ kd = 5 by omega) with rfl | rfl | rfl | rfl | rfl | rfl <;> rcases (show m = 1 ∨ m = 2 ∨ m = 3 ∨ m = 4 ∨ m = 5 by omega) with rfl | rfl | rfl | rfl | rfl <;> rfl
theorem C_sel {α : Type} {a b c d e : α} {m : Nat} (h1 : 1 ≤ m) (hm : m < 6) : (if nI m = (1 : Int32) then a else if nI m = (2 : Int32) then b else if nI m = (3 : Int32) then c else if nI m = (4 : Int32) then d else e) = if m = 1 then a else if m = 2 then b else if m = 3 then c else if m = 4 then d else e := by
  rcases (show m = 1 ∨ m = 2 ∨ m = 3 ∨ m = 4 ∨ m = 5 by omega) with rfl | rfl | rfl | rfl | rfl <;> rfl
theorem mark_out {T : Tn} {i m : Nat} {σ : Mem} : (if m = 1 then some (nI (crN 0 (gapT T i i) (T (21 + i)) (T 1) (T (39 + T 1 % 4))) - nI (crossT T i (T 1)), σ) else if m = 2 then some (nI (T (21 + i)) - nI (barN 2 (T (21 + i))), σ) else if m = 3 then some (nI (T 1) - nI (T 1) / (2 : Int32) * (2 : Int32), σ) else if m = 4 then some (nI (crossT T i (T 1)) - nI (crN 2 (gapT T i i) (T (21 + i)) (T 1) (T (39 + T 1 % 4))), σ) else some (nI (crN 1 (gapT T i i) (T (21 + i)) (T 1) (T (39 + T 1 % 4))) - nI (crossT T i (T 1)), σ)) = some (markV T i m, σ) := by
  unfold markV
  by_cases m1 : m = 1
  · rw [if_pos m1, if_pos m1]
  rw [if_neg m1, if_neg m1]
  by_cases m2 : m = 2
  · rw [if_pos m2, if_pos m2]
  rw [if_neg m2, if_neg m2]
  by_cases m3 : m = 3
  · rw [if_pos m3, if_pos m3]
  rw [if_neg m3, if_neg m3]
  by_cases m4 : m = 4
  · rw [if_pos m4, if_pos m4]
  rw [if_neg m4, if_neg m4]
theorem sim_mark (x y : Int32) : Sim (F_X8_mark 0 x y) (F_X9_mark 134 x y) := by
  refine sim_of fun A hA => ?_
  obtain ⟨hnw, hn0⟩ := now_wf hA
  have h6 := hnw.1
  have d1 : (1 : Int64).toInt = 1 := rfl
  have d5 : (5 : Int64).toInt = 5 := rfl
  have c6 : (6 : Int32).toInt = 6 := rfl
  have c0 : (0 : Int32).toInt = 0 := rfl
  have t4 : (y < (6 : Int32)) ↔ y.toInt < 6 := by rw [Int32.lt_iff_toInt_lt, c6]
  have t0 : (y ≤ (0 : Int32)) ↔ y.toInt ≤ 0 := by rw [Int32.le_iff_toInt_le, c0]
  rcases ixc x (n := nowT A.2.2.2 0) (by omega) with hx | ⟨i, hi, rfl⟩
  · refine ⟨-1, A, hA, C_same fun σ h => ?_, M_same fun σ h => ?_⟩
    · unfold F_X8_mark
      rw [gR_0_4, ob_some, tC tw_18, ob_some, C_hasno tw_18 h.now hx, ob_some, if_pos rfl]
    · unfold F_X9_mark
      rw [M_bedno h.now h6 hx, ob_some, if_pos rfl]
  · by_cases hy : 1 ≤ y.toInt ∧ y.toInt ≤ 5
    · obtain ⟨m, hm, rfl⟩ := nat_of (show 0 ≤ y.toInt by omega)
      have b := hnw.2.2.1 i hi
      have hm1 : 1 ≤ m := by omega
      have hm6 : m < 6 := by omega
      have e3 : (3 : Int32) + nI i = nI (3 + i) := lx rfl
      have hM : ∀ σ, RM A σ → F_X9_mark 134 (nI i) (nI m) σ = F_X9_mark_61 134 (nI i) (nI m) (nI (nowT A.2.2.2 (3 + i))) (if isK' (nowT A.2.2.2 (3 + i)) m then 1 else 0) σ := fun σ h => by
        have v3 := h.now (3 + i) (by omega)
        rw [Nat.zero_add] at v3
        have r3 : aI 135 (nI (3 + i)) σ = some (nI (nowT A.2.2.2 (3 + i))) := (w_rd (by omega)).trans (by rw [v3])
        unfold F_X9_mark F_X9_mark_46 F_X9_mark_56 F_X9_mark_60
        rw [M_bed h.now h6 hi, ob_some, if_neg (by decide), in_eq, wide, d1, d5, if_pos hy, ob_some, if_neg (by decide), wR, ob_some, e3, r3, ob_some]
        exact M_sel (f := fun z => F_X9_mark_61 134 (nI i) (nI m) (nI (nowT A.2.2.2 (3 + i))) z σ) b.1 hm1 hm6
      by_cases hz : isK' (nowT A.2.2.2 (3 + i)) m
      · refine ⟨markV (nowT A.2.2.2) i m, A, hA, C_same fun σ h => ?_, M_same fun σ h => ?_⟩
        · have hT : nowT A.2.2.2 1 ≤ 100000 := Nat.le_trans hnw.2.1 (by decide)
          have ec : F_X7_crossesIn 18 (nI i) (nI (nowT A.2.2.2 1)) σ = some (nI (crossT (nowT A.2.2.2) i (nowT A.2.2.2 1))) := C_crossesIn tw_18 h.now hnw hi hT
          have a0 : F_X7_crossesAs 18 (nI i) (0 : Int32) (nI (nowT A.2.2.2 (21 + i))) (nI (nowT A.2.2.2 1)) σ = _ := C_crossesAs (kd := 0) tw_18 h.now hnw hi hT (by decide) b.2.2.2.1
          have a1 : F_X7_crossesAs 18 (nI i) (1 : Int32) (nI (nowT A.2.2.2 (21 + i))) (nI (nowT A.2.2.2 1)) σ = _ := C_crossesAs (kd := 1) tw_18 h.now hnw hi hT (by decide) b.2.2.2.1
          have a2 : F_X7_crossesAs 18 (nI i) (2 : Int32) (nI (nowT A.2.2.2 (21 + i))) (nI (nowT A.2.2.2 1)) σ = _ := C_crossesAs (kd := 2) tw_18 h.now hnw hi hT (by decide) b.2.2.2.1
          have ab : F_X8_barOf (2 : Int32) (nI (nowT A.2.2.2 (21 + i))) σ = _ := C_bar (kind := 2) (by decide) b.2.2.2.1
          have hv : gI 7 9 18 σ = some (nI (nowT A.2.2.2 1)) := by rw [tI_9 tw_18, h.now.2.1]
          unfold F_X8_mark
          simp only [gR_0_4, ob_some, tC tw_18, C_has tw_18 h.now hnw hi, C_kind tw_18 h.now hnw hi, C_isOf b.1 hm1 hm6, C_thick tw_18 h.now hnw hi, hv, ec, a0, a1, a2, ab]
          rw [if_neg (by decide), if_neg (fun q => by have := t0.mp q; omega), if_pos (t4.mpr (by omega)), if_pos hz, if_neg (by decide)]
          exact (C_sel hm1 hm6).trans mark_out
        · rw [hM σ h, if_pos hz]
          exact M_markV h.now hnw (by decide) hi hm1 hm6 (fun q => by rcases hz with z | z | z <;> omega) b.1
      · refine ⟨-3, foundA A 3, hA, fun σ h => ?_, fun σ h => ?_⟩
        · obtain ⟨σ', e, h1, h2⟩ := C_refuse (A := A) (f := 3) (by decide) σ h
          have e' : F_X8_refuse 0 (3 : Int32) σ = some (-3, σ') := e
          refine ⟨σ', ?_, h1, h2⟩
          unfold F_X8_mark
          rw [gR_0_4, ob_some, tC tw_18, ob_some, C_has tw_18 h.now hnw hi, ob_some, if_neg (by decide), if_neg (fun q => by have := t0.mp q; omega), if_pos (t4.mpr (by omega)), ob_some, tC tw_18, ob_some, C_kind tw_18 h.now hnw hi, ob_some, C_isOf b.1 hm1 hm6, ob_some, if_neg hz, if_pos rfl, e', ob_some]
        · obtain ⟨σ', e, h1, h2⟩ := M_found (A := A) (f := 3) (by decide) σ h
          have e' : F_X9_found 134 (3 : Int32) σ = some (-3, σ') := e
          refine ⟨σ', ?_, h1, h2⟩
          rw [hM σ h, if_neg hz]
          unfold F_X9_mark_61
          rw [if_pos rfl, e', ob_some]
    · refine ⟨-1, A, hA, C_same fun σ h => ?_, M_same fun σ h => ?_⟩
      · unfold F_X8_mark
        rw [gR_0_4, ob_some, tC tw_18, ob_some, C_has tw_18 h.now hnw hi, ob_some, if_neg (by decide)]
        by_cases q : y ≤ 0
        · rw [if_pos q]
        · have q' : ¬ y.toInt ≤ 0 := fun z => q (t0.mpr z)
          rw [if_neg q, if_neg (fun z => by have := t4.mp z; omega)]
      · unfold F_X9_mark
        rw [M_bed h.now h6 hi, ob_some, if_neg (by decide), in_eq, wide, d1, d5, if_neg hy, ob_some, if_pos rfl]

section MAT
variable {A : Ab} {r n i : Nat} {x y : Int32}
theorem M_at_no (hx : x < 0 ∨ nI 6 ≤ x) : MAns A (F_X9_at 134 x y) (-1) A := M_same fun σ _ => by
  unfold F_X9_at
  rw [row_no hx, ob_some, if_pos rfl]
theorem M_at_none (hr : r < 6) (hs : A.1.1 r = none) : MAns A (F_X9_at 134 (nI r) y) (-3) (foundA A 1) := fun σ h => by
  obtain ⟨σ', e, h1, h2⟩ := M_found (A := A) (f := 1) (by decide) σ h
  have e' : F_X9_found 134 (1 : Int32) σ = some (-3, σ') := e
  refine ⟨σ', ?_, h1, h2⟩
  unfold F_X9_at
  rw [row_yes hr, ob_some, if_neg (by decide), gR_134_4, ob_some, aI_eq sh_138 hr (by decide), ob_some, h.1.no hr hs, if_neg nm1, e', ob_some]
theorem M_at_out (hr : r < 6) (hs : A.1.1 r = some n) (hy : y < 0 ∨ nI n ≤ y) : MAns A (F_X9_at 134 (nI r) y) (-3) (foundA A 2) := fun σ h => by
  obtain ⟨hn, g1, g2⟩ := h.1.row hr hs
  obtain ⟨σ', e, h1, h2⟩ := M_found (A := A) (f := 2) (by decide) σ h
  have e' : F_X9_found 134 (2 : Int32) σ = some (-3, σ') := e
  refine ⟨σ', ?_, h1, h2⟩
  unfold F_X9_at
  rw [row_yes hr, ob_some, if_neg (by decide), gR_134_4, ob_some, aI_eq sh_138 hr (by decide), ob_some, g1, if_pos (nI_pos' (by omega)), ob_some, aI_eq sh_138 hr (by decide), ob_some, g1, in_row (by omega), ob_some, if_pos hy, if_pos rfl, e', ob_some]
theorem M_at_in (hr : r < 6) (hs : A.1.1 r = some n) (hi : i < n) : MAns A (F_X9_at 134 (nI r) (nI i)) 1 (toldA A (A.1.2 r i)) := fun σ h => by
  obtain ⟨hn, g1, g2⟩ := h.1.row hr hs
  obtain ⟨σ', e, h1, h2⟩ := M_tells (A := A) (v := A.1.2 r i) (r := 1) σ h
  refine ⟨σ', ?_, h1, h2⟩
  have hb : ¬ (nI i < 0 ∨ nI n ≤ nI i) := fun q => q.elim (nI_pos (by omega)) (nI_ge hi (by omega))
  unfold F_X9_at
  rw [row_yes hr, ob_some, if_neg (by decide), gR_134_4, ob_some, aI_eq sh_138 hr (by decide), ob_some, g1, if_pos (nI_pos' (by omega)), ob_some, aI_eq sh_138 hr (by decide), ob_some, g1, in_row (by omega), ob_some, if_neg hb, if_neg (by decide), gR_134_3, ob_some, ix40, aI_eq sh_137 (by omega) (by decide), ob_some, g2 i hi, e, ob_some]
end MAT
theorem n11 : ¬ (-1 : Int32) = 1 := by decide
theorem n31 : ¬ (-3 : Int32) = 1 := by decide
theorem lay_ref {A A' : Ab} {x a b v : Int32} (hx : ¬ x = 1) (h : MAns A (F_X9_at 134 a b) x A') : MAns A (F_X9_lay 134 a b v) x A' := fun σ hσ => by
  obtain ⟨σ', e, h1, h2⟩ := h σ hσ
  refine ⟨σ', ?_, h1, h2⟩
  unfold F_X9_lay
  rw [e, ob_some, if_neg hx]
theorem sim_lay (a b v : Int32) : Sim (F_X8_lay 0 a b v) (F_X9_lay 134 a b v) := by
  refine sim_of fun A hA => ?_
  rcases ixc a (n := 6) (by decide) with ha | ⟨r, hr, rfl⟩
  · refine ⟨-1, A, hA, C_same fun σ _ => ?_, lay_ref n11 (M_at_no ha)⟩
    unfold F_X8_lay
    rw [gR_0_0, ob_some, Rp_no sf_1 ha, ob_some, if_neg n10]
  · cases hs : A.1.1 r with
    | none =>
      refine ⟨-3, foundA A 1, hA, fun σ h => ?_, lay_ref n31 (M_at_none hr hs)⟩
      obtain ⟨σ', e, h1, h2⟩ := C_refuse (A := A) (f := 1) (by decide) σ h
      refine ⟨σ', ?_, h1, h2⟩
      unfold F_X8_lay
      rw [gR_0_0, ob_some, Rp_none sf_1 hr (h.1.no hr hs) e, ob_some, if_neg n30]
    | some n =>
      rcases Nat.lt_or_ge 40 n with hbig | hsm
      · exact ⟨-1, A, hA, fun σ h => absurd (h.1.row hr hs).1 (by omega), fun σ h => absurd (h.1.row hr hs).1 (by omega)⟩
      rcases ixc b (n := n) (by omega) with hb | ⟨i, hi, rfl⟩
      · refine ⟨-3, foundA A 2, hA, fun σ h => ?_, lay_ref n31 (M_at_out hr hs hb)⟩
        obtain ⟨hn, g1, g2⟩ := h.1.row hr hs
        obtain ⟨σ', e, h1, h2⟩ := C_refuse (A := A) (f := 2) (by decide) σ h
        refine ⟨σ', ?_, h1, h2⟩
        unfold F_X8_lay
        rw [gR_0_0, ob_some, Rp_out sf_1 hr hn g1 hb e, ob_some, if_neg n30]
      · refine ⟨1, toldA (rowA A r (some n) (fun j => if j = i then v else A.1.2 r j)) (A.1.2 r i), hA, fun σ h => ?_, fun σ h => ?_⟩
        · obtain ⟨hn, g1, g2⟩ := h.1.row hr hs
          have h1 : RC (rowA A r (some n) (fun j => if j = i then v else A.1.2 r j)) (setI σ 3 (r * 40 + i) v) := ⟨h.1.put hs hi hn, h.2.1.kept (fun a j _ _ => by rw [setI_1, if_neg (by omega)]), h.2.2.1.kept (by rw [setI_1, if_neg (by omega)]) (by rw [setI_1, if_neg (by omega)]) (fun f => by rw [setI_1, if_neg (by omega)]) (fun _ => rfl), h.2.2.2.kept (by rw [setI_1, if_neg (by omega)]) (fun a j q => by rw [setI_1, if_neg (by omega)])⟩
          obtain ⟨σ', e, h2, h3⟩ := C_tell (v := A.1.2 r i) _ h1
          refine ⟨σ', ?_, h2, (FC.set (by decide)).tr h3⟩
          unfold F_X8_lay
          rw [gR_0_0, ob_some, Rp_in sf_1 hr hn g1 hi, ob_some, if_pos rfl, ob_some, ck_1, ob_some, S_get sf_1 hr h.1.1 g1 hn hi, ob_some, ob_some, ck_1, ob_some, S_set sf_1 hr h.1.1 g1 hn hi, ob_some, g2 i hi, e, ob_some]
        · obtain ⟨hn, g1, g2⟩ := h.1.row hr hs
          obtain ⟨σ', e, h1, h2⟩ := M_at_in hr hs hi σ h
          have h3 : RM (toldA (rowA A r (some n) (fun j => if j = i then v else A.1.2 r j)) (A.1.2 r i)) (setI σ' 137 (r * 40 + i) v) := ⟨h1.1.put (by decide) hs hi hn, h1.2.1.kept (fun a j q => by rw [setI_1, if_neg (by omega)]), h1.2.2.1.kept (by rw [setI_1, if_neg (by omega)]) (by rw [setI_1, if_neg (by omega)]) (fun f => by rw [setI_1, if_neg (by omega)]) rfl rfl, h1.2.2.2.kept (by rw [setI_1, if_neg (by omega)]) (fun a j q => by rw [setI_1, if_neg (by omega)])⟩
          refine ⟨_, ?_, h3, h2.tr (FM.set (by decide))⟩
          unfold F_X9_lay
          rw [e, ob_some, if_pos rfl, gR_134_3, ob_some, ix40, sI_eq sh_137 (by omega) (by decide), ob_some]
theorem sim_findings (f : Int32) : SimP (F_X8_findings 0 f) (F_X9_findings 134 f) := by
  intro σ ⟨⟨A, hA, hC, hM⟩, _⟩
  have e5 : (5 : Int64).toInt = 5 := rfl
  have e1 : (1 : Int64).toInt = 1 := rfl
  have e01 : (1 : Int32).toInt = 1 := rfl
  have e05 : (5 : Int32).toInt = 5 := rfl
  by_cases h : 1 ≤ f.toInt ∧ f.toInt ≤ 5
  · obtain ⟨k, hk, rfl⟩ : ∃ k, k < 6 ∧ f = nI k := by
      rcases ixc f (n := 6) (by decide) with q | q
      · rw [Int32.lt_iff_toInt_lt, Int32.le_iff_toInt_le, nI_toInt (by decide)] at q
        have e00 : (0 : Int32).toInt = 0 := rfl
        omega
      · exact q
    have hk1 : 1 ≤ k := by
      have := h.1
      rw [nI_toInt (by omega)] at this
      omega
    refine ⟨A.2.2.1.2.2.2.2 k, ?_, ?_⟩
    · unfold F_X8_findings
      rw [if_neg, if_pos, gR_0_17, ob_some, rd_eq (by decide) sh_133 hk (by decide), ob_some, hC.2.2.1.2.2.2.2 k hk]
      · rw [Int32.le_iff_toInt_le, e05]; exact h.2
      · rw [Int32.lt_iff_toInt_lt, e01]; omega
    · unfold F_X9_findings
      rw [in_eq, wide, e1, e5, if_pos h, ob_some, if_neg (by decide), gR_134_9, ob_some, aI_eq sh_142 hk (by decide), ob_some, hM.2.2.1.2.2.2.2 k hk]
  · refine ⟨-1, ?_, ?_⟩
    · unfold F_X8_findings
      by_cases q : f < (1 : Int32)
      · rw [if_pos q]; rfl
      · rw [if_neg q, if_neg (show ¬ f ≤ (5 : Int32) by
          rw [Int32.lt_iff_toInt_lt, e01] at q
          rw [Int32.le_iff_toInt_le, e05]
          omega)]
        rfl
    · unfold F_X9_findings
      rw [in_eq, wide, e1, e5, if_neg h, ob_some, if_pos rfl]

theorem C_text {A : Ab} {r n : Nat} (hr : r < 4) (hn : n ≤ 60) : CAns A (F_X8_text 0 (nI r) (nI n)) (nI n) (textA A r (some n) (fun _ => 32)) := by
  intro σ h
  obtain ⟨σ', e, e1, e2, fr⟩ := S_make (v := 32) sf_4 hr h.2.1.1 hn
  have hF : F_X8_text 0 (nI r) (nI n) σ = some (nI n, σ') := by
    unfold F_X8_text F_X8_makeAnew
    rw [gR_0_1, ob_some, ck_4, ob_some, S_num sf_4 hr, ob_some, if_neg (by decide), gI_4_0, ob_some, h.2.1.1, if_pos (nI_le hn (by decide)), if_pos (nI_pos' (by omega)), ob_some, e, ob_some, ob_some]
  have keep : ∀ a j, (a < 5 ∨ 6 < a) → σ'.1 a j = σ.1 a j := fun a j q => fr.1 a j (Or.inl (by omega)) (Or.inl (by omega))
  exact ⟨σ', hF, ⟨h.1.kept (fun a j _ _ => keep a j (by omega)), h.2.1.make hr hn e1 e2 fr, h.2.2.1.kept (keep _ _ (by decide)) (keep _ _ (by decide)) (fun f => keep _ _ (by decide)) (fun j => by rw [fr.2]), h.2.2.2.kept (keep _ _ (by decide)) (fun a j q => keep a j (by omega))⟩, fun a j q => keep a j (by omega), fun a j q => by rw [fr.2]⟩
theorem M_textL {r n : Nat} {σ : Mem} (hr : r < 4) (h0 : σ.1 140 r = nI n) : ∃ σ', F_X9_text_34 134 (nI r) (nI n) ((0 : Int32), σ) = some (nI n, σ') ∧ σ'.1 140 r = nI n ∧ (∀ i, i < 60 → σ'.1 139 (r * 60 + i) = 32) ∧ (∀ x y, (x ≠ 139 ∨ y < r * 60 ∨ r * 60 + 60 ≤ y) → σ'.1 x y = σ.1 x y) ∧ σ'.2 = σ.2 := by
  have key : ∃ t, F_X9_text_34 134 (nI r) (nI n) ((0 : Int32), σ) = some t ∧ (t.1 = nI n ∧ t.2.1 140 r = nI n ∧ (∀ i, i < 60 → t.2.1 139 (r * 60 + i) = 32) ∧ (∀ x y, (x ≠ 139 ∨ y < r * 60 ∨ r * 60 + 60 ≤ y) → t.2.1 x y = σ.1 x y) ∧ t.2.2 = σ.2) := by
    unfold F_X9_text_34
    refine lp_inv (Q := fun t : Int32 × Mem => t.1 = nI n ∧ t.2.1 140 r = nI n ∧ (∀ i, i < 60 → t.2.1 139 (r * 60 + i) = 32) ∧ (∀ x y, (x ≠ 139 ∨ y < r * 60 ∨ r * 60 + 60 ≤ y) → t.2.1 x y = σ.1 x y) ∧ t.2.2 = σ.2) (fun j (s : Int32 × Mem) => s.1 = nI j ∧ s.2.1 140 r = nI n ∧ (∀ i, i < j → s.2.1 139 (r * 60 + i) = 32) ∧ (∀ x y, (x ≠ 139 ∨ y < r * 60 ∨ r * 60 + 60 ≤ y) → s.2.1 x y = σ.1 x y) ∧ s.2.2 = σ.2) 60 ?_ ?_ _ ⟨rfl, h0, fun i hi => absurd hi (Nat.not_lt_zero i), fun x y _ => rfl, rfl⟩
    · intro j s hj ⟨a1, a2, a3, a4, a5⟩
      have h60 : (60 : Int32) ≤ nI j ↔ 60 ≤ j := nI_leI (a := 60) (by decide) (by omega)
      refine ⟨(nI (j + 1), setI s.2 139 (r * 60 + j) 32), ?_, rfl, ?_, fun i hi => ?_, fun x y q1 => ?_, a5⟩
      · rw [a1, if_neg (fun z => by have := h60.mp z; omega), gR_134_5, ob_some, ix60, sI_eq sh_139 (by omega) (by decide), ob_some, nI_1]
      · rw [setI_1, if_neg (by omega)]; exact a2
      · rw [setI_1]
        by_cases z : i = j
        · subst z; rw [if_pos ⟨rfl, rfl⟩]
        · rw [if_neg (by omega)]; exact a3 i (by omega)
      · show (setI s.2 139 (r * 60 + j) 32).1 x y = _
        rw [setI_1, if_neg (by omega)]; exact a4 x y q1
    · intro s ⟨a1, a2, a3, a4, a5⟩
      have h60 : (60 : Int32) ≤ nI 60 := by decide
      exact ⟨(nI n, s.2), by rw [a1, if_pos h60], rfl, a2, a3, a4, a5⟩
  obtain ⟨t, k1, k2, k3⟩ := key
  exact ⟨t.2, k1.trans (congrArg some (Prod.ext k2 rfl)), k3⟩
theorem M_text {A : Ab} {r n : Nat} (hr : r < 4) (hn : n ≤ 60) : MAns A (F_X9_text 134 (nI r) (nI n)) (nI n) (textA A r (some n) (fun _ => 32)) := by
  intro σ h
  obtain ⟨σ', e, e1, e2, fr, f2⟩ := M_textL (n := n) (σ := setI σ 140 r (nI n)) hr (by rw [setI_1, if_pos ⟨rfl, rfl⟩])
  have h60 : nI n ≤ (60 : Int32) := nI_le (b := 60) hn (by decide)
  have hF : F_X9_text 134 (nI r) (nI n) σ = some (nI n, σ') := by
    unfold F_X9_text
    rw [text_yes hr, ob_some, if_neg (by decide), if_pos h60, if_pos (nI_pos' (by omega)), gR_134_6, ob_some, sI_eq sh_140 hr (by decide), ob_some, e]
  have keep : ∀ a j, (a ≠ 139 ∧ a ≠ 140) → σ'.1 a j = σ.1 a j := fun a j q => by rw [fr a j (Or.inl q.1), setI_1, if_neg (by omega)]
  have f3 : σ'.2 = σ.2 := f2
  exact ⟨σ', hF, ⟨h.1.kept (fun a j q => keep a j (by omega)), h.2.1.make hn e1 (fun i hi => e2 i (by omega)) (fun x q => by rw [fr _ _ (Or.inl (by decide)), setI_1, if_neg (by omega)]) (fun y q => by rw [fr _ _ (Or.inr q), setI_1, if_neg (by omega)]), h.2.2.1.kept (keep _ _ (by decide)) (keep _ _ (by decide)) (fun f => keep _ _ (by decide)) (by rw [f3]) (by rw [f3]), h.2.2.2.kept (keep _ _ (by decide)) (fun a j q => keep a j (by omega))⟩, fun a j q => keep a j (by omega), fun a j q => by rw [f3]⟩
theorem sim_text (a b : Int32) : Sim (F_X8_text 0 a b) (F_X9_text 134 a b) := by
  refine sim_of fun A hA => ?_
  rcases ixc a (n := 4) (by decide) with ha | ⟨r, hr, rfl⟩
  · refine ⟨-1, A, hA, C_same fun σ _ => ?_, M_same fun σ _ => ?_⟩
    · unfold F_X8_text F_X8_makeAnew
      rw [gR_0_1, ob_some, ck_4, ob_some, S_numno sf_4 ha, ob_some, if_pos rfl, ob_some]
    · unfold F_X9_text
      rw [text_no ha, ob_some, if_pos rfl]
  · by_cases hb : b ≤ nI 60
    · by_cases hb0 : b < 0
      · refine ⟨-3, foundA A 5, hA, ?_, ?_⟩
        · intro σ h
          obtain ⟨σ', e, h1, h2⟩ := C_refuse (A := A) (f := 5) (by decide) σ h
          have hn : ¬ (0 : Int32) ≤ b := Int32.not_le.mpr hb0
          refine ⟨σ', ?_, h1, h2⟩
          have e' : F_X8_refuse 0 (5 : Int32) σ = some (-3, σ') := e
          unfold F_X8_text F_X8_makeAnew
          rw [gR_0_1, ob_some, ck_4, ob_some, S_num sf_4 hr, ob_some, if_neg (by decide), gI_4_0, ob_some, h.2.1.1, if_pos hb, if_neg hn, e', ob_some, ob_some]
        · intro σ h
          obtain ⟨σ', e, h1, h2⟩ := M_found (A := A) (f := 5) (by decide) σ h
          have hn : ¬ (0 : Int32) ≤ b := Int32.not_le.mpr hb0
          refine ⟨σ', ?_, h1, h2⟩
          have e' : F_X9_found 134 (5 : Int32) σ = some (-3, σ') := e
          unfold F_X9_text
          rw [text_yes hr, ob_some, if_neg (by decide), if_pos (show b ≤ (60 : Int32) from hb), if_neg hn, e', ob_some]
      · obtain ⟨n, hn, rfl⟩ := nI_of2 (M := nI 60) (n := 60) (by decide) hb0 hb
        exact ⟨nI n, textA A r (some n) (fun _ => 32), hA, C_text hr hn, M_text hr hn⟩
    · refine ⟨-1, A, hA, C_same fun σ h => ?_, M_same fun σ _ => ?_⟩
      · unfold F_X8_text F_X8_makeAnew
        rw [gR_0_1, ob_some, ck_4, ob_some, S_num sf_4 hr, ob_some, if_neg (by decide), gI_4_0, ob_some, h.2.1.1, if_neg hb, ob_some]
      · unfold F_X9_text
        rw [text_yes hr, ob_some, if_neg (by decide), if_neg (show ¬ b ≤ (60 : Int32) from hb)]
theorem sim_put (a b v : Int32) : Sim (F_X8_put 0 a b v) (F_X9_put 134 a b v) := by
  refine sim_of fun A hA => ?_
  rcases ixc a (n := 4) (by decide) with ha | ⟨r, hr, rfl⟩
  · refine ⟨-1, A, hA, C_same fun σ _ => ?_, M_same fun σ _ => ?_⟩
    · unfold F_X8_put
      rw [gR_0_1, ob_some, Rp_no sf_4 ha, ob_some, if_neg n10]
    · unfold F_X9_put
      rw [text_no ha, ob_some, if_pos rfl]
  · cases hs : A.2.1.1 r with
    | none =>
      refine ⟨-3, foundA A 1, hA, fun σ h => ?_, fun σ h => ?_⟩
      · obtain ⟨σ', e, h1, h2⟩ := C_refuse (A := A) (f := 1) (by decide) σ h
        refine ⟨σ', ?_, h1, h2⟩
        unfold F_X8_put
        rw [gR_0_1, ob_some, Rp_none sf_4 hr (h.2.1.no hr hs) e, ob_some, if_neg n30]
      · obtain ⟨σ', e, h1, h2⟩ := M_found (A := A) (f := 1) (by decide) σ h
        have e' : F_X9_found 134 (1 : Int32) σ = some (-3, σ') := e
        refine ⟨σ', ?_, h1, h2⟩
        unfold F_X9_put
        rw [text_yes hr, ob_some, if_neg (by decide), gR_134_6, ob_some, aI_eq sh_140 hr (by decide), ob_some, h.2.1.no hr hs, if_neg nm1, e', ob_some]
    | some n =>
      rcases Nat.lt_or_ge 60 n with hbig | hsm
      · exact ⟨-1, A, hA, fun σ h => absurd (h.2.1.row hr hs).1 (by omega), fun σ h => absurd (h.2.1.row hr hs).1 (by omega)⟩
      rcases ixc b (n := n) (by omega) with hb | ⟨i, hi, rfl⟩
      · refine ⟨-3, foundA A 2, hA, fun σ h => ?_, fun σ h => ?_⟩
        · obtain ⟨hn, g1, g2⟩ := h.2.1.row hr hs
          obtain ⟨σ', e, h1, h2⟩ := C_refuse (A := A) (f := 2) (by decide) σ h
          refine ⟨σ', ?_, h1, h2⟩
          unfold F_X8_put
          rw [gR_0_1, ob_some, Rp_out sf_4 hr hn g1 hb e, ob_some, if_neg n30]
        · obtain ⟨hn, g1, g2⟩ := h.2.1.row hr hs
          obtain ⟨σ', e, h1, h2⟩ := M_found (A := A) (f := 2) (by decide) σ h
          have e' : F_X9_found 134 (2 : Int32) σ = some (-3, σ') := e
          refine ⟨σ', ?_, h1, h2⟩
          unfold F_X9_put
          rw [text_yes hr, ob_some, if_neg (by decide), gR_134_6, ob_some, aI_eq sh_140 hr (by decide), ob_some, g1, if_pos (nI_pos' (by omega)), ob_some, aI_eq sh_140 hr (by decide), ob_some, g1, in_row (by omega), ob_some, if_pos hb, if_pos rfl, e', ob_some]
      · refine ⟨A.2.1.2 r i + 1000, textA A r (some n) (fun j => if j = i then v.toInt8.toInt32 else A.2.1.2 r j), hA, fun σ h => ?_, fun σ h => ?_⟩
        · obtain ⟨hn, g1, g2⟩ := h.2.1.row hr hs
          refine ⟨setI σ 6 (r * 60 + i) v.toInt8.toInt32, ?_, ⟨h.1.kept (fun a j _ _ => by rw [setI_1, if_neg (by omega)]), h.2.1.put hs hi hn, h.2.2.1.kept (by rw [setI_1, if_neg (by omega)]) (by rw [setI_1, if_neg (by omega)]) (fun f => by rw [setI_1, if_neg (by omega)]) (fun _ => rfl), h.2.2.2.kept (by rw [setI_1, if_neg (by omega)]) (fun a j q => by rw [setI_1, if_neg (by omega)])⟩, FC.set (by decide)⟩
          unfold F_X8_put
          rw [gR_0_1, ob_some, Rp_in sf_4 hr hn g1 hi, ob_some, if_pos rfl, ob_some, ck_4, ob_some, S_get sf_4 hr h.2.1.1 g1 hn hi, ob_some, ob_some, ck_4, ob_some, S_set sf_4 hr h.2.1.1 g1 hn hi, ob_some, g2 i hi]
        · obtain ⟨hn, g1, g2⟩ := h.2.1.row hr hs
          have hb : ¬ (nI i < 0 ∨ nI n ≤ nI i) := fun q => q.elim (nI_pos (by omega)) (nI_ge hi (by omega))
          refine ⟨setI σ 139 (r * 60 + i) v.toInt8.toInt32, ?_, ⟨h.1.kept (fun a j q => by rw [setI_1, if_neg (by omega)]), h.2.1.put (by decide) hs hi hn, h.2.2.1.kept (by rw [setI_1, if_neg (by omega)]) (by rw [setI_1, if_neg (by omega)]) (fun f => by rw [setI_1, if_neg (by omega)]) rfl rfl, h.2.2.2.kept (by rw [setI_1, if_neg (by omega)]) (fun a j q => by rw [setI_1, if_neg (by omega)])⟩, FM.set (by decide)⟩
          unfold F_X9_put
          rw [text_yes hr, ob_some, if_neg (by decide), gR_134_6, ob_some, aI_eq sh_140 hr (by decide), ob_some, g1, if_pos (nI_pos' (by omega)), ob_some, aI_eq sh_140 hr (by decide), ob_some, g1, in_row (by omega), ob_some, if_neg hb, if_neg (by decide), gR_134_5, ob_some, ix60, aI_eq sh_139 (by omega) (by decide), ob_some, ob_some, sI_eq sh_139 (by omega) (by decide), ob_some, g2 i hi]

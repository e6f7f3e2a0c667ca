/-! ===== digest: the reference's side ===== -/
def gS (σ : Mem) (a : Int64) : Mem := setL σ 134 16 a
theorem gS_1 (σ : Mem) (a : Int64) : (gS σ a).1 = σ.1 := rfl
theorem gS_2 (σ : Mem) (a : Int64) : (gS σ a).2 134 16 = a := by unfold gS; rw [setL_2, if_pos ⟨rfl, rfl⟩]
theorem gS_set (σ : Mem) (a b : Int64) : setL (gS σ a) 134 16 b = gS σ b := by
  unfold gS setL
  refine Prod.ext rfl ?_
  funext x y
  dsimp only
  by_cases z : x = 134 ∧ y = 16
  · rw [if_pos z, if_pos z]
  · rw [if_neg z, if_neg z, if_neg z]
theorem M_mix {σ : Mem} {a : Int64} {x : Int32} : F_X9_mix 134 x.toInt64 (gS σ a) = some (gS σ (mixL a x)) := by
  unfold F_X9_mix
  rw [gL_134_16, ob_some, pL_134_16, ob_some, gS_2, gS_set]
  rfl
theorem gS_n {σ : Mem} {a : Int64} : FrN σ (gS σ a) := ⟨fun _ _ _ => rfl, fun x y q => if_neg (fun z => q.elim (fun k => k z.1) (fun k => k z.2))⟩
theorem M_szV {σ : Mem} {ms mp many room r : Nat} {rs : Nat → Option Nat} {rv : Nat → Nat → Int32} (h : MSh σ ms mp many room rs rv) (hr : r < many) : σ.1 ms r = sizeV rs r := by
  cases e : rs r with
  | none => rw [h.no hr e, sizeV_n e]
  | some n => rw [(h.row hr e).2.1, sizeV_s e]
theorem M_dRow {σ : Mem} {a : Int64} {r : Nat} {rs : Nat → Option Nat} {rv : Nat → Nat → Int32} (h : MSh σ 138 137 6 40 rs rv) (hr : r < 6) : F_X9_digest_119 134 (nI r) ((0 : Int32), gS σ a) = some (.inl (nI (r + 1), gS σ (foldL (rv r) a (rowN rs r)))) := by
  have hv : ∀ b, aI 138 (nI r) (gS σ b) = some (sizeV rs r) := fun b => by rw [aI_eq sh_138 hr (by decide), gS_1, M_szV h hr]
  cases e : rs r with
  | none =>
    unfold F_X9_digest_119
    apply lp_out
    dsimp only
    rw [gR_134_4, ob_some, hv, ob_some, sizeV_n e, if_pos (by decide), rowN_n e, nI_1]
    rfl
  | some n =>
    obtain ⟨g0, g1, g2⟩ := h.row hr e
    have key : ∃ t, F_X9_digest_119 134 (nI r) ((0 : Int32), gS σ a) = some t ∧ t = .inl (nI (r + 1), gS σ (foldL (rv r) a n)) := by
      unfold F_X9_digest_119
      refine lp_inv (fun j (s : Int32 × Mem) => s.1 = nI j ∧ s.2 = gS σ (foldL (rv r) a j)) n ?_ ?_ _ ⟨rfl, rfl⟩
      · intro j s hj ⟨a1, a2⟩
        refine ⟨(nI (j + 1), gS σ (foldL (rv r) a (j + 1))), ?_, rfl, rfl⟩
        rw [a1, a2, gR_134_4, ob_some, hv, ob_some, sizeV_s e, if_neg (nI_ge hj (by omega)), gR_134_3, ob_some, ix40, aI_eq sh_137 (by omega) (by decide), ob_some, gS_1, g2 j hj, M_mix, ob_some, nI_1]
        rfl
      · intro s ⟨a1, a2⟩
        exact ⟨_, by rw [a1, a2, gR_134_4, ob_some, hv, ob_some, sizeV_s e, if_pos (nI_le (Nat.le_refl _) (by omega)), nI_1], rfl⟩
    obtain ⟨t, e2, rfl⟩ := key
    rw [e2, rowN_s e]
theorem M_dText {σ : Mem} {a : Int64} {r : Nat} {rs : Nat → Option Nat} {rv : Nat → Nat → Int32} (h : MSh σ 140 139 4 60 rs rv) (hr : r < 4) : F_X9_digest_177 134 (nI r) ((0 : Int32), gS σ a) = some (.inl (nI (r + 1), gS σ (foldL (rv r) a (rowN rs r)))) := by
  have hv : ∀ b, aI 140 (nI r) (gS σ b) = some (sizeV rs r) := fun b => by rw [aI_eq sh_140 hr (by decide), gS_1, M_szV h hr]
  cases e : rs r with
  | none =>
    unfold F_X9_digest_177
    apply lp_out
    dsimp only
    rw [gR_134_6, ob_some, hv, ob_some, sizeV_n e, if_pos (by decide), rowN_n e, nI_1]
    rfl
  | some n =>
    obtain ⟨g0, g1, g2⟩ := h.row hr e
    have key : ∃ t, F_X9_digest_177 134 (nI r) ((0 : Int32), gS σ a) = some t ∧ t = .inl (nI (r + 1), gS σ (foldL (rv r) a n)) := by
      unfold F_X9_digest_177
      refine lp_inv (fun j (s : Int32 × Mem) => s.1 = nI j ∧ s.2 = gS σ (foldL (rv r) a j)) n ?_ ?_ _ ⟨rfl, rfl⟩
      · intro j s hj ⟨a1, a2⟩
        refine ⟨(nI (j + 1), gS σ (foldL (rv r) a (j + 1))), ?_, rfl, rfl⟩
        rw [a1, a2, gR_134_6, ob_some, hv, ob_some, sizeV_s e, if_neg (nI_ge hj (by omega)), gR_134_5, ob_some, ix60, aI_eq sh_139 (by omega) (by decide), ob_some, gS_1, g2 j hj, M_mix, ob_some, nI_1]
        rfl
      · intro s ⟨a1, a2⟩
        exact ⟨_, by rw [a1, a2, gR_134_6, ob_some, hv, ob_some, sizeV_s e, if_pos (nI_le (Nat.le_refl _) (by omega)), nI_1], rfl⟩
    obtain ⟨t, e2, rfl⟩ := key
    rw [e2, rowN_s e]
theorem M_digest {tb : Prop} {A : Ab} {σ : Mem} (hA : okDe tb A.2.2.2) (h : RM A σ) : F_X9_digest 134 σ = some (digF A, gS σ (digF A)) := by
  obtain ⟨hnw, hn0⟩ := now_wf hA
  have hnow := h.now
  have h6 := hnw.1
  have hG : ∀ a, RM A (gS σ a) := fun a => (h.side hA gS_n).1
  have kText : ∀ a, F_X9_digest_159 134 ((0 : Int32), gS σ a) = some (shF A.2.1.1 A.2.1.2 a 4, gS σ (shF A.2.1.1 A.2.1.2 a 4)) := by
    intro a
    have key : ∃ t, F_X9_digest_159 134 ((0 : Int32), gS σ a) = some t ∧ t = (shF A.2.1.1 A.2.1.2 a 4, gS σ (shF A.2.1.1 A.2.1.2 a 4)) := by
      unfold F_X9_digest_159
      refine lp_inv (fun j (s : Int32 × Mem) => s.1 = nI j ∧ s.2 = gS σ (shF A.2.1.1 A.2.1.2 a j)) 4 ?_ ?_ _ ⟨rfl, rfl⟩
      · intro j s hj ⟨a1, a2⟩
        refine ⟨(nI (j + 1), gS σ (shF A.2.1.1 A.2.1.2 a (j + 1))), ?_, rfl, rfl⟩
        rw [a1, a2, if_neg (show ¬ (4 : Int32) ≤ nI j from nI_ge (b := 4) hj (by decide)), gR_134_6, ob_some, aI_eq sh_140 hj (by decide), ob_some, gS_1, M_szV h.2.1 hj, M_mix, ob_some, M_dText h.2.1 hj]
        rfl
      · intro s ⟨a1, a2⟩
        exact ⟨_, by rw [a1, a2, if_pos (show (4 : Int32) ≤ nI 4 by decide), gL_134_16, ob_some, gS_2], rfl⟩
    obtain ⟨t, e, rfl⟩ := key
    exact e
  have kRow : ∀ a, F_X9_digest_100 134 ((0 : Int32), gS σ a) = some (shF A.2.1.1 A.2.1.2 (shF A.1.1 A.1.2 a 6) 4, gS σ (shF A.2.1.1 A.2.1.2 (shF A.1.1 A.1.2 a 6) 4)) := by
    intro a
    have key : ∃ t, F_X9_digest_100 134 ((0 : Int32), gS σ a) = some t ∧ t = (shF A.2.1.1 A.2.1.2 (shF A.1.1 A.1.2 a 6) 4, gS σ (shF A.2.1.1 A.2.1.2 (shF A.1.1 A.1.2 a 6) 4)) := by
      unfold F_X9_digest_100
      refine lp_inv (fun j (s : Int32 × Mem) => s.1 = nI j ∧ s.2 = gS σ (shF A.1.1 A.1.2 a j)) 6 ?_ ?_ _ ⟨rfl, rfl⟩
      · intro j s hj ⟨a1, a2⟩
        refine ⟨(nI (j + 1), gS σ (shF A.1.1 A.1.2 a (j + 1))), ?_, rfl, rfl⟩
        rw [a1, a2, if_neg (show ¬ (6 : Int32) ≤ nI j from nI_ge (b := 6) hj (by decide)), gR_134_4, ob_some, aI_eq sh_138 hj (by decide), ob_some, gS_1, M_szV h.1 hj, M_mix, ob_some, M_dRow h.1 hj]
        rfl
      · intro s ⟨a1, a2⟩
        exact ⟨_, by rw [a1, a2, if_pos (show (6 : Int32) ≤ nI 6 by decide), kText]; rfl, rfl⟩
    obtain ⟨t, e, rfl⟩ := key
    exact e
  have kKept : ∀ a, F_X9_digest_76 134 ((0 : Int32), gS σ a) = some (tailF A a, gS σ (tailF A a)) := by
    intro a
    have key : ∃ t, F_X9_digest_76 134 ((0 : Int32), gS σ a) = some t ∧ t = (tailF A a, gS σ (tailF A a)) := by
      unfold F_X9_digest_76
      refine lp_inv (fun j (s : Int32 × Mem) => s.1 = nI j ∧ s.2 = gS σ (foldL (sizeV A.2.2.2.2.2.2.1) a j)) 3 ?_ ?_ _ ⟨rfl, rfl⟩
      · intro j s hj ⟨a1, a2⟩
        have q := h.2.2.2.2.2.2 j hj
        have hz : σ.1 136 j = sizeV A.2.2.2.2.2.2.1 j := by
          cases e : A.2.2.2.2.2.2.1 j with
          | none => rw [e] at q; rw [sizeV_n e]; exact q
          | some n => rw [e] at q; rw [sizeV_s e]; exact q.1
        refine ⟨(nI (j + 1), gS σ (foldL (sizeV A.2.2.2.2.2.2.1) a (j + 1))), ?_, rfl, rfl⟩
        rw [a1, a2, if_neg (show ¬ (3 : Int32) ≤ nI j from nI_ge (b := 3) hj (by decide)), gR_134_2, ob_some, aI_eq sh_136 hj (by decide), ob_some, gS_1, hz, M_mix, ob_some, nI_1]
        rfl
      · intro s ⟨a1, a2⟩
        exact ⟨_, by rw [a1, a2, if_pos (show (3 : Int32) ≤ nI 3 by decide), kRow]; rfl, rfl⟩
    obtain ⟨t, e, rfl⟩ := key
    exact e
  have kBed : ∀ a i, i < nowT A.2.2.2 0 → F_X9_digest_45 134 (nI i) ((0 : Int32), gS σ a) = some (.inl (nI (i + 1), gS σ (foldL (fun f => nI (bedV (nowT A.2.2.2) i f)) a 8))) := by
    intro a i hi
    have key : ∃ t, F_X9_digest_45 134 (nI i) ((0 : Int32), gS σ a) = some t ∧ t = .inl (nI (i + 1), gS σ (foldL (fun f => nI (bedV (nowT A.2.2.2) i f)) a 8)) := by
      unfold F_X9_digest_45
      refine lp_inv (fun j (s : Int32 × Mem) => s.1 = nI j ∧ s.2 = gS σ (foldL (fun f => nI (bedV (nowT A.2.2.2) i f)) a j)) 8 ?_ ?_ _ ⟨rfl, rfl⟩
      · intro j s hj ⟨a1, a2⟩
        refine ⟨(nI (j + 1), gS σ (foldL (fun f => nI (bedV (nowT A.2.2.2) i f)) a (j + 1))), ?_, rfl, rfl⟩
        rw [a1, a2, if_neg (show ¬ (8 : Int32) ≤ nI j from nI_ge (b := 8) hj (by decide)), M_about (hG _).now hnw (by decide) hi hj, ob_some, M_mix, ob_some, nI_1]
        rfl
      · intro s ⟨a1, a2⟩
        exact ⟨_, by rw [a1, a2, if_pos (show (8 : Int32) ≤ nI 8 by decide), nI_1], rfl⟩
    obtain ⟨t, e, rfl⟩ := key
    exact e
  have kBeds : ∀ a, F_X9_digest_33 134 ((0 : Int32), gS σ a) = some (tailF A (bedF (nowT A.2.2.2) a (nowT A.2.2.2 0)), gS σ (tailF A (bedF (nowT A.2.2.2) a (nowT A.2.2.2 0)))) := by
    intro a
    have key : ∃ t, F_X9_digest_33 134 ((0 : Int32), gS σ a) = some t ∧ t = (tailF A (bedF (nowT A.2.2.2) a (nowT A.2.2.2 0)), gS σ (tailF A (bedF (nowT A.2.2.2) a (nowT A.2.2.2 0)))) := by
      unfold F_X9_digest_33
      refine lp_inv (fun j (s : Int32 × Mem) => s.1 = nI j ∧ s.2 = gS σ (bedF (nowT A.2.2.2) a j)) (nowT A.2.2.2 0) ?_ ?_ _ ⟨rfl, rfl⟩
      · intro j s hj ⟨a1, a2⟩
        refine ⟨(nI (j + 1), gS σ (bedF (nowT A.2.2.2) a (j + 1))), ?_, rfl, rfl⟩
        rw [a1, a2, wR, ob_some, M_r0 (hG _).now, ob_some, if_neg (nI_ge hj (by omega)), kBed _ j hj]
        rfl
      · intro s ⟨a1, a2⟩
        exact ⟨_, by rw [a1, a2, wR, ob_some, M_r0 (hG _).now, ob_some, if_pos (nI_le (Nat.le_refl _) (by omega)), kKept]; rfl, rfl⟩
    obtain ⟨t, e, rfl⟩ := key
    exact e
  have key : ∃ t, F_X9_digest_9 134 ((0 : Int32), gS σ 17) = some t ∧ t = (digF A, gS σ (digF A)) := by
    unfold F_X9_digest_9
    refine lp_inv (fun j (s : Int32 × Mem) => s.1 = nI j ∧ s.2 = gS σ (foldL (fun f => nI (cntA A f)) 17 j)) 11 ?_ ?_ _ ⟨rfl, rfl⟩
    · intro j s hj ⟨a1, a2⟩
      refine ⟨(nI (j + 1), gS σ (foldL (fun f => nI (cntA A f)) 17 (j + 1))), ?_, rfl, rfl⟩
      rw [a1, a2, if_neg (show ¬ (11 : Int32) ≤ nI j from nI_ge (b := 11) hj (by decide)), M_countOf hA (hG _) hj, ob_some, M_mix, ob_some, nI_1]
      rfl
    · intro s ⟨a1, a2⟩
      exact ⟨_, by rw [a1, a2, if_pos (show (11 : Int32) ≤ nI 11 by decide), kBeds]; rfl, rfl⟩
  obtain ⟨t, e, rfl⟩ := key
  unfold F_X9_digest
  rw [pL_134_16, ob_some]
  exact e
theorem sim_digest (σ : Mem) (h : Inv σ) : ∃ r σ', F_X8_digest 0 σ = some r ∧ F_X9_digest 134 σ = some (r, σ') ∧ Inv σ' := by
  obtain ⟨⟨A, hA, hC, hM⟩, hD⟩ := h
  obtain ⟨k1, k2⟩ := hM.side hA (gS_n (a := digF A))
  exact ⟨_, _, C_digest hA hC, M_digest hA hM, ⟨A, hA, hC.kept k2, k1⟩, hD.keptM k2⟩

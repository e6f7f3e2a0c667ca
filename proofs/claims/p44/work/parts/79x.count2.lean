def cntA (A : Ab) (f : Nat) : Nat :=
  if f = 0 then nowT A.2.2.2 0 else if f = 1 then nowT A.2.2.2 1 else if f = 2 then A.2.2.2.2.1 else if f = 3 then nowT A.2.2.2 2 else if f = 4 then sumF (fun j => nowT A.2.2.2 (27 + j)) (nowT A.2.2.2 0) else if f = 5 then dueN (nowT A.2.2.2) else if f = 6 then nowT A.2.2.2 (39 + nowT A.2.2.2 1 % 4) else if f = 7 then sumF (qltG (nowT A.2.2.2)) (nowT A.2.2.2 0) else if f = 8 then sumF (stdG A.1.1) 6 else if f = 9 then sumF (stdG A.2.1.1) 4 else sumF (stdG A.2.2.2.2.2.2.1) 3
theorem no_cold {tb : Prop} {D : De} (hD : okDe tb D) (h0 : nowT D 0 = 0) {m : Nat} (hm : m < 4) : nowT D (39 + m) = 0 := by
  have h1 := (now_wf hD).2
  have h2 := hD.2.2.2.2 (by omega)
  show runD D.1 D.2.2.1 D.2.1 (39 + m) = 0
  rw [h2.1]
  exact h2.2.1 m hm
theorem C_count {tb : Prop} {A : Ab} {σ : Mem} {f : Nat} (hA : okDe tb A.2.2.2) (h : RC A σ) (hf : f < 11) : F_X8_count 0 (nI f) σ = some (nI (cntA A f)) := by
  obtain ⟨hnw, hn0⟩ := now_wf hA
  have hnow := h.now
  have hm : nowT A.2.2.2 1 ≤ 100000 := Nat.le_trans hnw.2.1 (by decide)
  unfold F_X8_count
  have c : f = 0 ∨ f = 1 ∨ f = 2 ∨ f = 3 ∨ f = 4 ∨ f = 5 ∨ f = 6 ∨ f = 7 ∨ f = 8 ∨ f = 9 ∨ f = 10 := by omega
  rcases c with rfl | rfl | rfl | rfl | rfl | rfl | rfl | rfl | rfl | rfl | rfl
  · rw [if_pos (by decide), gR_0_4, ob_some, C_isT hnow, ob_some]; rfl
  · rw [if_neg (by decide), if_pos (by decide), gR_0_4, ob_some, tI_9 tw_18, hnow.2.1, ob_some]; rfl
  · rw [if_neg (by decide), if_neg (by decide), if_pos (by decide), gI_0_7, ob_some, h.dc]; rfl
  · rw [if_neg (by decide), if_neg (by decide), if_neg (by decide), if_pos (by decide), gR_0_4, ob_some, tC tw_18, ob_some, C_finesA hnow hnw, ob_some]; rfl
  · rw [if_neg (by decide), if_neg (by decide), if_neg (by decide), if_neg (by decide), if_pos (by decide), gR_0_4, ob_some, tC tw_18, ob_some, C_liesA hnow hnw, ob_some]; rfl
  · rw [if_neg (by decide), if_neg (by decide), if_neg (by decide), if_neg (by decide), if_neg (by decide), if_pos (by decide), gR_0_4, ob_some, tC tw_18, ob_some, C_bits tw_18 hnow hnw, ob_some]; rfl
  · rw [if_neg (by decide), if_neg (by decide), if_neg (by decide), if_neg (by decide), if_neg (by decide), if_neg (by decide), if_pos (by decide), gR_0_4, ob_some, ob_some, tI_9 tw_18, hnow.2.1, ob_some, tC tw_18, ob_some, C_cold tw_18 hnow hm, ob_some]; rfl
  · rw [if_neg (by decide), if_neg (by decide), if_neg (by decide), if_neg (by decide), if_neg (by decide), if_neg (by decide), if_neg (by decide), if_pos (by decide), gR_0_4, ob_some, tC tw_18, ob_some, C_quilts hnow hnw, ob_some]; rfl
  · rw [if_neg (by decide), if_neg (by decide), if_neg (by decide), if_neg (by decide), if_neg (by decide), if_neg (by decide), if_neg (by decide), if_neg (by decide), if_pos (by decide), gR_0_0, ob_some, ck_1, ob_some, C_standing sf_1 h.1, ob_some]; rfl
  · rw [if_neg (by decide), if_neg (by decide), if_neg (by decide), if_neg (by decide), if_neg (by decide), if_neg (by decide), if_neg (by decide), if_neg (by decide), if_neg (by decide), if_pos (by decide), gR_0_1, ob_some, ck_4, ob_some, C_standing sf_4 h.2.1, ob_some]; rfl
  · rw [if_neg (by decide), if_neg (by decide), if_neg (by decide), if_neg (by decide), if_neg (by decide), if_neg (by decide), if_neg (by decide), if_neg (by decide), if_neg (by decide), if_neg (by decide), if_pos (by decide), gR_0_2, ob_some, ck_7, ob_some, C_standing sf_7 h.2.2.2.2.2.2.2, ob_some]; rfl
theorem M_countOf {tb : Prop} {A : Ab} {σ : Mem} {f : Nat} (hA : okDe tb A.2.2.2) (h : RM A σ) (hf : f < 11) : F_X9_countOf 134 (nI f) σ = some (nI (cntA A f)) := by
  obtain ⟨hnw, hn0⟩ := now_wf hA
  have hnow := h.now
  have hm : nowT A.2.2.2 1 ≤ 100000 := Nat.le_trans hnw.2.1 (by decide)
  have r1 : aI 135 (1 : Int32) σ = some (nI (nowT A.2.2.2 1)) := (w_rd (j := 1) (by decide)).trans (by rw [show σ.1 135 1 = _ from hnow 1 (by decide)])
  have r2 : aI 135 (2 : Int32) σ = some (nI (nowT A.2.2.2 2)) := (w_rd (j := 2) (by decide)).trans (by rw [show σ.1 135 2 = _ from hnow 2 (by decide)])
  unfold F_X9_countOf
  have c : f = 0 ∨ f = 1 ∨ f = 2 ∨ f = 3 ∨ f = 4 ∨ f = 5 ∨ f = 6 ∨ f = 7 ∨ f = 8 ∨ f = 9 ∨ f = 10 := by omega
  rcases c with rfl | rfl | rfl | rfl | rfl | rfl | rfl | rfl | rfl | rfl | rfl
  · rw [if_pos (by decide), wR, ob_some, M_r0 hnow, ob_some]; rfl
  · rw [if_neg (by decide), if_pos (by decide), wR, ob_some, r1, ob_some]; rfl
  · rw [if_neg (by decide), if_neg (by decide), if_pos (by decide), gI_134_1, ob_some, h.dc]; rfl
  · rw [if_neg (by decide), if_neg (by decide), if_neg (by decide), if_pos (by decide), wR, ob_some, r2, ob_some]; rfl
  · rw [if_neg (by decide), if_neg (by decide), if_neg (by decide), if_neg (by decide), if_pos (by decide), M_liesA hnow hnw]; rfl
  · rw [if_neg (by decide), if_neg (by decide), if_neg (by decide), if_neg (by decide), if_neg (by decide), if_pos (by decide), M_dueNow hnow hnw, ob_some]; rfl
  · rw [if_neg (by decide), if_neg (by decide), if_neg (by decide), if_neg (by decide), if_neg (by decide), if_neg (by decide), if_pos (by decide), M_isTown hnow hnw.1, ob_some]
    show _ = some (nI (nowT A.2.2.2 (39 + nowT A.2.2.2 1 % 4)))
    by_cases z : nowT A.2.2.2 0 = 0
    · rw [if_pos z, if_pos rfl, no_cold hA z (Nat.mod_lt _ (by decide))]; rfl
    · rw [if_neg z, if_neg (by decide), wR, ob_some, ob_some, r1, ob_some, rem4 hm, iz_39, w_rd (by omega), ob_some, hnow.col _ (Nat.mod_lt _ (by decide))]
  · rw [if_neg (by decide), if_neg (by decide), if_neg (by decide), if_neg (by decide), if_neg (by decide), if_neg (by decide), if_neg (by decide), if_pos (by decide), M_quilts hnow hnw]; rfl
  · rw [if_neg (by decide), if_neg (by decide), if_neg (by decide), if_neg (by decide), if_neg (by decide), if_neg (by decide), if_neg (by decide), if_neg (by decide), if_pos (by decide), M_rowsN (fun r hr => ⟨fun e => h.1.no hr e, fun m e => ⟨by have := (h.1.row hr e).1; omega, (h.1.row hr e).2.1⟩⟩)]; rfl
  · rw [if_neg (by decide), if_neg (by decide), if_neg (by decide), if_neg (by decide), if_neg (by decide), if_neg (by decide), if_neg (by decide), if_neg (by decide), if_neg (by decide), if_pos (by decide), M_textsN (fun r hr => ⟨fun e => h.2.1.no hr e, fun m e => ⟨(h.2.1.row hr e).1, (h.2.1.row hr e).2.1⟩⟩)]; rfl
  · rw [if_neg (by decide), if_neg (by decide), if_neg (by decide), if_neg (by decide), if_neg (by decide), if_neg (by decide), if_neg (by decide), if_neg (by decide), if_neg (by decide), if_neg (by decide), M_keptN (rs := A.2.2.2.2.2.2.1) (fun r hr => by
      have q := h.2.2.2.2.2.2 r hr
      refine ⟨fun e => ?_, fun m e => ?_⟩
      · rw [e] at q; exact q
      · rw [e] at q
        exact ⟨by have := (hA.2.2.2.1 r m e).1; omega, q.1⟩)]; rfl
theorem sim_count (x : Int32) : SimP (F_X8_count 0 x) (F_X9_count 134 x) := by
  intro σ ⟨⟨A, hA, hC, hM⟩, _⟩
  have d0 : (0 : Int64).toInt = 0 := rfl
  have d10 : (10 : Int64).toInt = 10 := rfl
  by_cases hx : 0 ≤ x.toInt ∧ x.toInt ≤ 10
  · obtain ⟨f, hf, rfl⟩ := nat_of hx.1
    refine ⟨nI (cntA A f), C_count hA hC (by omega), ?_⟩
    unfold F_X9_count
    rw [in_eq, wide, d0, d10, if_pos hx, ob_some, if_neg (by decide), M_countOf hA hM (by omega), ob_some]
  · refine ⟨-1, ?_, ?_⟩
    · have ne : ∀ f : Nat, f < 11 → ¬ x = nI f := fun f hf e => by
        rw [e, nI_toInt (by omega)] at hx
        omega
      unfold F_X8_count
      rw [if_neg (show ¬ x = (0 : Int32) from ne 0 (by decide)), if_neg (show ¬ x = (1 : Int32) from ne 1 (by decide)), if_neg (show ¬ x = (2 : Int32) from ne 2 (by decide)), if_neg (show ¬ x = (3 : Int32) from ne 3 (by decide)), if_neg (show ¬ x = (4 : Int32) from ne 4 (by decide)), if_neg (show ¬ x = (5 : Int32) from ne 5 (by decide)), if_neg (show ¬ x = (6 : Int32) from ne 6 (by decide)), if_neg (show ¬ x = (7 : Int32) from ne 7 (by decide)), if_neg (show ¬ x = (8 : Int32) from ne 8 (by decide)), if_neg (show ¬ x = (9 : Int32) from ne 9 (by decide)), if_neg (show ¬ x = (10 : Int32) from ne 10 (by decide))]
    · unfold F_X9_count
      rw [in_eq, wide, d0, d10, if_neg hx, ob_some, if_pos rfl]

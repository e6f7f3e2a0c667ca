/-! ===== copying rows; the class's other deeds ===== -/
def cpM (σ : Mem) (a b n : Nat) : Mem := (fun x y => if x = b then va_cpy (σ.1 a) (σ.1 b) 0 0 n y else σ.1 x y, σ.2)
theorem cp_at (σ : Mem) (a b n x y : Nat) : (cpM σ a b n).1 x y = if x = b then (if y < n then σ.1 a y else σ.1 b y) else σ.1 x y := by
  unfold cpM va_cpy
  dsimp only
  by_cases h : x = b
  · rw [if_pos h, if_pos h]
    by_cases q : y < n
    · rw [if_pos (by omega), if_pos q, show 0 + (y - 0) = y by omega]
    · rw [if_neg (by omega), if_neg q]
  · rw [if_neg h, if_neg h]
theorem cp_2 (σ : Mem) (a b n : Nat) : (cpM σ a b n).2 = σ.2 := rfl
theorem copyAll_eq {a b n : Nat} {σ : Mem} (ha : shp a = .inr (.inl n)) (hb : shp b = .inr (.inl n)) (hn : n ≤ 100000) (h1 : a < nW) (h2 : b < nW) : F_X8_copyAll a b σ = some (cpM σ a b n) := by
  unfold F_X8_copyAll
  rw [aN_eq h1 ha, ob_some, aN_eq h2 hb, ob_some]
  have e : (if nI n < nI n then nI n else nI n) = nI n := by split <;> rfl
  rw [e]
  unfold cpI
  rw [ha, hb]
  dsimp only
  have e0 : (0 : Int32).toInt = 0 := rfl
  rw [if_pos ⟨by rw [e0]; omega, by rw [e0]; omega, by rw [nI_toInt (by omega)]; omega, by rw [nI_toInt (by omega), e0]; omega, by rw [nI_toInt (by omega), e0]; omega, h1, h2⟩, ob_some, nI_clamp (by omega)]
  rfl
section CTE
variable {σ : Mem} {k i B : Nat} {T : Tn}
theorem cp_step {a b n : Nat} {σ : Mem} (ha : shp a = .inr (.inl n)) (hb : shp b = .inr (.inl n)) (hn : n ≤ 100000) (h1 : a < nW) (h2 : b < nW) : ∃ σ', F_X8_copyAll a b σ = some σ' ∧ (∀ y, y < n → σ'.1 b y = σ.1 a y) ∧ (∀ x y, x ≠ b → σ'.1 x y = σ.1 x y) ∧ σ'.2 = σ.2 := by
  refine ⟨_, copyAll_eq ha hb hn h1 h2, fun y hy => ?_, fun x y hx => ?_, rfl⟩
  · rw [cp_at, if_pos rfl, if_pos hy]
  · rw [cp_at, if_neg hx]
theorem C_copy {k2 : Nat} (hk : Tw k) (hk2 : Tw k2) (hd : k + 7 < k2 ∨ k2 + 7 < k) (h6 : T 0 ≤ 6) (h : CT σ k2 T) : ∃ σ', F_X7_copyFrom k k2 σ = some σ' ∧ CT σ' k T ∧ FrK k σ σ' := by
  have l1 := hk.lt
  have l2 := hk2.lt
  obtain ⟨σ1, r1, c1, n1, q1⟩ := cp_step (σ := σ) hk2.2.1 hk.2.1 (by decide) (by omega) (by omega)
  obtain ⟨σ2, r2, c2, n2, q2⟩ := cp_step (σ := σ1) hk2.2.2.1 hk.2.2.1 (by decide) (by omega) (by omega)
  obtain ⟨σ3, r3, c3, n3, q3⟩ := cp_step (σ := σ2) hk2.2.2.2.1 hk.2.2.2.1 (by decide) (by omega) (by omega)
  obtain ⟨σ4, r4, c4, n4, q4⟩ := cp_step (σ := σ3) hk2.2.2.2.2.1 hk.2.2.2.2.1 (by decide) (by omega) (by omega)
  obtain ⟨σ5, r5, c5, n5, q5⟩ := cp_step (σ := σ4) hk2.2.2.2.2.2.1 hk.2.2.2.2.2.1 (by decide) (by omega) (by omega)
  obtain ⟨σ6, r6, c6, n6, q6⟩ := cp_step (σ := σ5) hk2.2.2.2.2.2.2.1 hk.2.2.2.2.2.2.1 (by decide) (by omega) (by omega)
  obtain ⟨σ7, r7, c7, n7, q7⟩ := cp_step (σ := σ6) hk2.2.2.2.2.2.2.2.1 hk.2.2.2.2.2.2.2.1 (by decide) (by omega) (by omega)
  have hF : F_X7_copyFrom k k2 σ = some (setI (setI (setI σ7 k 7 (σ7.1 k2 7)) k 8 (σ7.1 k2 8)) k 9 (σ7.1 k2 9)) := by
    unfold F_X7_copyFrom
    rw [tR_0 hk2, ob_some, tR_0 hk, ob_some, r1, ob_some, tR_1 hk2, ob_some, tR_1 hk, ob_some, r2, ob_some, tR_2 hk2, ob_some, tR_2 hk, ob_some, r3, ob_some, tR_3 hk2, ob_some, tR_3 hk, ob_some, r4, ob_some, tR_4 hk2, ob_some, tR_4 hk, ob_some, r5, ob_some, tR_5 hk2, ob_some, tR_5 hk, ob_some, r6, ob_some, tR_6 hk2, ob_some, tR_6 hk, ob_some, r7, ob_some, tI_7 hk2, ob_some, tP_7 hk, ob_some, tI_8 hk2, ob_some, tP_8 hk, ob_some, tI_9 hk2, ob_some, tP_9 hk, ob_some]
    rw [setI_1, if_neg (by omega), setI_1, if_neg (by omega), setI_1, if_neg (by omega)]
  have out : ∀ x y, (x < k + 1 ∨ k + 7 < x) → σ7.1 x y = σ.1 x y := fun x y q => by
    rw [n7 x y (by omega), n6 x y (by omega), n5 x y (by omega), n4 x y (by omega), n3 x y (by omega), n2 x y (by omega), n1 x y (by omega)]
  refine ⟨_, hF, ?_, fun a b q => ?_, ?_⟩
  · obtain ⟨a0, a1, a2, a3, a4⟩ := h
    refine ⟨?_, ?_, fun q => ?_, fun m hm => ?_, fun j hj => ?_⟩
    · rw [setI_1, if_neg (by omega), setI_1, if_pos ⟨rfl, rfl⟩, out _ _ (by omega)]; exact a0
    · rw [setI_1, if_pos ⟨rfl, rfl⟩, out _ _ (by omega)]; exact a1
    · rw [setI_1, if_neg (by omega), setI_1, if_neg (by omega), setI_1, if_pos ⟨rfl, rfl⟩, out _ _ (by omega)]; exact a2 q
    · rw [setI_1, if_neg (by omega), setI_1, if_neg (by omega), setI_1, if_neg (by omega), n7 _ _ (by omega), n6 _ _ (by omega), n5 _ _ (by omega), n4 _ _ (by omega), n3 _ _ (by omega), n2 _ _ (by omega), c1 m hm]; exact a3 m hm
    · obtain ⟨b2, b3, b4, b5, b6, b7⟩ := a4 j hj
      have hj6 : j < 6 := by omega
      refine ⟨?_, ?_, ?_, ?_, ?_, ?_⟩ <;> rw [setI_1, if_neg (by omega), setI_1, if_neg (by omega), setI_1, if_neg (by omega)]
      · rw [n7 _ _ (by omega), n6 _ _ (by omega), n5 _ _ (by omega), n4 _ _ (by omega), n3 _ _ (by omega), c2 j hj6, n1 _ _ (by omega)]; exact b2
      · rw [n7 _ _ (by omega), n6 _ _ (by omega), n5 _ _ (by omega), n4 _ _ (by omega), c3 j hj6, n2 _ _ (by omega), n1 _ _ (by omega)]; exact b3
      · rw [n7 _ _ (by omega), n6 _ _ (by omega), n5 _ _ (by omega), c4 j hj6, n3 _ _ (by omega), n2 _ _ (by omega), n1 _ _ (by omega)]; exact b4
      · rw [n7 _ _ (by omega), n6 _ _ (by omega), c5 j hj6, n4 _ _ (by omega), n3 _ _ (by omega), n2 _ _ (by omega), n1 _ _ (by omega)]; exact b5
      · rw [n7 _ _ (by omega), c6 j hj6, n5 _ _ (by omega), n4 _ _ (by omega), n3 _ _ (by omega), n2 _ _ (by omega), n1 _ _ (by omega)]; exact b6
      · rw [c7 j hj6, n6 _ _ (by omega), n5 _ _ (by omega), n4 _ _ (by omega), n3 _ _ (by omega), n2 _ _ (by omega), n1 _ _ (by omega)]; exact b7
  · rw [setI_1, if_neg (by omega), setI_1, if_neg (by omega), setI_1, if_neg (by omega), out _ _ (by omega)]
  · show σ7.2 = σ.2
    rw [q7, q6, q5, q4, q3, q2, q1]
theorem C_insp (hk : Tw k) (h : CT σ k T) (hw : wfT B T) (hB : B ≤ 100000) (hi : i < T 0) : ∃ σ', F_X7_inspectBed k (nI i) σ = some (nI (inspS T i), σ') ∧ CT σ' k (inspT T i) ∧ FrK k σ σ' := by
  have b := hw.2.2.1 i hi
  have h6 := hw.1
  unfold F_X7_inspectBed
  rw [C_found hk h hw hi, ob_some]
  unfold inspS inspT
  by_cases q : T 43 ≤ T (27 + i)
  · rw [if_pos q, if_neg (by decide), if_pos q, if_pos q, C_lies hk h hw hi, ob_some, tR_5 hk, ob_some, hk.wr (o := 6) (by decide) (by decide) (by omega), ob_some, tR_4 hk, ob_some, hk.wr (o := 5) (by decide) (by decide) (by omega), ob_some, tR_6 hk, ob_some, ob_some, hk.rd (o := 7) (by decide) (by decide) (by omega), ob_some, hk.wr (o := 7) (by decide) (by decide) (by omega), ob_some]
    have c1 := h.set (o := 6) (v := 0) h6 hi (by decide) (by decide) (b := 27 + i) (by omega)
    have c2 := c1.set (o := 5) (i := i) (v := 9) (by rw [upd_ne (by omega)]; exact h6) (by rw [upd_ne (by omega)]; exact hi) (by decide) (by decide) (b := 21 + i) (by omega)
    have c3 := c2.set (o := 7) (i := i) (v := T (33 + i) + 1) (by rw [upd_ne (by omega), upd_ne (by omega)]; exact h6) (by rw [upd_ne (by omega), upd_ne (by omega)]; exact hi) (by decide) (by decide) (b := 33 + i) (by omega)
    refine ⟨_, rfl, ?_, ((FrK.set (by omega) (by omega)).tr (FrK.set (by omega) (by omega))).tr (FrK.set (by omega) (by omega))⟩
    have e : (setI (setI σ (k + 6) i (0 : Int32)) (k + 5) i (9 : Int32)).1 (k + 7) i + (1 : Int32) = nI (T (33 + i) + 1) := by
      rw [setI_1, if_neg (by omega), setI_1, if_neg (by omega), (h.2.2.2.2 i hi).2.2.2.2.2]
      exact nI_1 _
    rw [e]
    exact c3.fine
  · rw [if_neg q, if_pos rfl, if_neg q, if_neg q]
    exact ⟨σ, rfl, h, FrK.rf⟩
theorem C_inspno {x : Int32} (hk : Tw k) (h : CT σ k T) (hx : x < 0 ∨ nI (T 0) ≤ x) : F_X7_inspectBed k x σ = some (0, σ) := by
  unfold F_X7_inspectBed
  rw [C_foundno hk h hx, ob_some, if_pos rfl]
def swapT (T : Tn) (i j : Nat) : Tn := updT (updT T (15 + i) (T (15 + j))) (15 + j) (T (15 + i))
theorem wf_swap {j : Nat} (hw : wfT B T) (hi : i < T 0) (hj : j < T 0) : wfT B (swapT T i j) := by
  unfold swapT
  have b := hw.2.2.1 i hi
  have b2 := hw.2.2.1 j hj
  exact wf_bed (i := j) (wf_bed hw hi (Or.inl ⟨rfl, b2.2.2.1⟩)) (by rw [upd_ne (by omega)]; exact hj) (Or.inl ⟨rfl, b.2.2.1⟩)
theorem C_swap {j : Nat} (hk : Tw k) (h : CT σ k T) (hw : wfT B T) (hi : i < T 0) (hj : j < T 0) : ∃ σ', F_X7_swapRights k (nI i) (nI j) σ = some σ' ∧ CT σ' k (swapT T i j) ∧ FrK k σ σ' := by
  have h6 := hw.1
  unfold F_X7_swapRights swapT
  rw [tR_3 hk, ob_some, hk.rd (o := 4) (by decide) (by decide) (by omega), ob_some, ob_some, ob_some, hk.rd (o := 4) (by decide) (by decide) (by omega), ob_some, hk.wr (o := 4) (by decide) (by decide) (by omega), ob_some, ob_some, hk.wr (o := 4) (by decide) (by decide) (by omega), ob_some]
  rw [(h.2.2.2.2 i hi).2.2.1, (h.2.2.2.2 j hj).2.2.1]
  have c1 := h.set (o := 4) (v := T (15 + j)) h6 hi (by decide) (by decide) (b := 15 + i) (by omega)
  have c2 := c1.set (o := 4) (i := j) (v := T (15 + i)) (by rw [upd_ne (by omega)]; exact h6) (by rw [upd_ne (by omega)]; exact hj) (by decide) (by decide) (b := 15 + j) (by omega)
  exact ⟨_, rfl, c2, (FrK.set (by omega) (by omega)).tr (FrK.set (by omega) (by omega))⟩
/-- nights for one bed alone -/
def aloneT (T : Tn) (i : Nat) : Nat → Tn
  | 0 => T
  | n + 1 => updT (sleepT (aloneT T i n) i) 1 ((aloneT T i n) 1 + 1)
theorem alone_0 (T : Tn) (i : Nat) : ∀ n, aloneT T i n 0 = T 0
  | 0 => rfl
  | n + 1 => by
    show updT _ 1 _ 0 = _
    rw [upd_ne (by omega), sleep_0, alone_0 T i n]
theorem wf_alone (hw : wfT B T) (hi : i < T 0) : ∀ n, wfT (B + n) (aloneT T i n)
  | 0 => hw
  | n + 1 => by
    have w := wf_alone hw hi n
    have w2 := wf_sleep w (by rw [alone_0]; exact hi)
    exact wf_night (wf_mono (by omega) w2) (by have := w.2.1; omega)
theorem C_alone {n : Nat} (hk : Tw k) (h : CT σ k T) (hw : wfT B T) (hB : B + n ≤ 100000) (hi : i < T 0) : ∃ σ', F_X7_passAlone k (nI i) (nI n) σ = some σ' ∧ CT σ' k (aloneT T i n) ∧ FrK k σ σ' := by
  unfold F_X7_passAlone F_X7_passAlone_2
  refine lp_inv (Q := fun t : Mem => CT t k (aloneT T i n) ∧ FrK k σ t) (fun j (s : Int32 × Mem) => s.1 = nI j ∧ CT s.2 k (aloneT T i j) ∧ FrK k σ s.2) n ?_ ?_ _ ⟨rfl, h, FrK.rf⟩
  · intro j s hj ⟨h1, h2, h3⟩
    obtain ⟨σ', g1, g2, g3⟩ := C_sleep hk h2 (wf_alone hw hi j) (by omega) (i := i) (by rw [alone_0]; exact hi)
    refine ⟨(nI (j + 1), setI σ' k 9 (nI ((aloneT T i j) 1 + 1))), ?_, rfl, g2.night, (h3.tr g3).tr (FrK.set (by omega) (by omega))⟩
    rw [h1, if_neg (nI_ge hj (by omega)), g1, ob_some, tI_9 hk, ob_some, tP_9 hk, ob_some]
    dsimp only
    rw [g2.2.1, sleep_1, nI_1, nI_1]
  · intro s ⟨h1, h2, h3⟩
    exact ⟨s.2, by rw [h1, if_pos (nI_le (Nat.le_refl _) (by omega))], h2, h3⟩
end CTE

theorem minF_6 {P : Nat → Prop} [DecidablePred P] {v : Nat → Nat} : ∀ a, minF P v a ≤ 1000000
  | 0 => Nat.le_refl _
  | a + 1 => by
    have ih := minF_6 (P := P) (v := v) a
    by_cases q : P a
    · rw [minF_yes q]; split <;> omega
    · rw [minF_no q]; exact ih
theorem minF_0 {P : Nat → Prop} [DecidablePred P] {v : Nat → Nat} : minF P v 0 = 1000000 := rfl
theorem maxF_0 {P : Nat → Prop} [DecidablePred P] {v : Nat → Nat} : maxF P v 0 = 0 := rfl
theorem mv_lt {n a : Nat} (hn : n ≤ 6) (ha : a < n + 1) : ¬ nI n ≤ mvI a := by
  have h : ∀ n, n ≤ 6 → ∀ a, a < n + 1 → ¬ nI n ≤ mvI a := by decide
  exact h n hn a ha
theorem mv_neg {a : Nat} (ha : a ≤ 6) : mvI a < 0 ↔ a = 0 := by
  have h : ∀ a, a ≤ 6 → (mvI a < 0 ↔ a = 0) := by decide
  exact h a ha
theorem C_fewS {rec : Nat → Nat → Int32 → Int32 → Mem → Option (Int32 × Mem)} {n D k B : Nat} {U : Tn} {σ : Mem} (hn : n ≤ 4) (hk : k + (D + 1) = n) (h : CT σ (lvP k) U) (hw : wfT B U) (hB : B + D ≤ 900) (rs : ∀ U' σ', CT σ' (lvP (k + 1)) U' → wfT (B + 1) U' → ∃ σ2, rec 98 (lvP (k + 1)) (nI (k + 1)) (nI n) σ' = some (nI (gmF D (k + 1) U'), σ2) ∧ FrD (k + 1) σ' σ2) : ∃ σ', F_X1_fewestFrom rec 98 (lvP k) (nI k) (nI n) σ = some (nI (minF (mayE U) (fun a => gmF D (k + 1) (mvE U a)) (U 0 + 1)), σ') ∧ FrD k σ σ' := by
  have h6 := hw.1
  have tk := lv_tw (k := k) (by omega)
  have tk1 := lv_tw (k := k + 1) (by omega)
  have key : ∃ t, F_X1_fewestFrom_7 rec 98 (lvP k) (nI k) (nI n) ((1000000 : Int32), (-1 : Int32), σ) = some t ∧ (t.1 = nI (minF (mayE U) (fun a => gmF D (k + 1) (mvE U a)) (U 0 + 1)) ∧ FrD k σ t.2) := by
    unfold F_X1_fewestFrom_7
    refine lp_inv (fun a (u : Int32 × Int32 × Mem) => u.2.1 = mvI a ∧ u.1 = nI (minF (mayE U) (fun a => gmF D (k + 1) (mvE U a)) a) ∧ FrD k σ u.2.2) (U 0 + 1) ?_ ?_ _ ⟨mvI_0.symm, (show (1000000 : Int32) = nI (minF (mayE U) (fun a => gmF D (k + 1) (mvE U a)) 0) by rw [minF_0]; rfl), FrD.rf⟩
    · intro a u ha ⟨a1, a2, a3⟩
      have hu := a3.ct h (by omega)
      have m6 := minF_6 (P := mayE U) (v := fun a => gmF D (k + 1) (mvE U a)) a
      have k30 : mayE U a → ∃ s', F_X1_fewestFrom_30 rec 98 (lvP k) (nI k) (nI n) u.1 u.2.1 u.2.2 = some (.inl s') ∧ s'.2.1 = mvI (a + 1) ∧ s'.1 = nI (minF (mayE U) (fun a => gmF D (k + 1) (mvE U a)) (a + 1)) ∧ FrD k σ s'.2.2 := by
        intro hm
        obtain ⟨σ1, e1, c1, f1⟩ := C_copyAt (k := k) (by omega) hu h6
        obtain ⟨q1, σ2, e2, c2, f2⟩ := C_mvE (a := a) tk1 c1 hw (by omega) ha
        rw [tC tk1] at e2
        obtain ⟨σ3, e3, f3⟩ := rs (mvE U a) σ2 c2 (wf_E hw ha)
        have gl := gmF_le D (k + 1) (B + 1) (mvE U a) (by omega) (wf_E hw ha)
        unfold F_X1_fewestFrom_30
        rw [gR_98_0, ob_some, ck_99, ob_some, e1, ob_some]
        dsimp only
        rw [tC tk1, ob_some, a1, e2, nI_1]
        dsimp only
        rw [e3, ob_some, a2, mvI_1]
        refine ⟨_, rfl, rfl, ?_, a3.tr ((f1.tr f2).d (by omega) |>.tr f3.up)⟩
        show (if nI (gmF D (k + 1) (mvE U a)) < nI (minF (mayE U) (fun a => gmF D (k + 1) (mvE U a)) a) then nI (gmF D (k + 1) (mvE U a)) else nI (minF (mayE U) (fun a => gmF D (k + 1) (mvE U a)) a)) = _
        rw [minF_yes (P := mayE U) (v := fun a => gmF D (k + 1) (mvE U a)) hm]
        by_cases z : gmF D (k + 1) (mvE U a) < minF (mayE U) (fun a => gmF D (k + 1) (mvE U a)) a
        · rw [if_pos (nI_lt z (by omega)), if_pos z]
        · rw [if_neg (nI_nlt (by omega) (by omega)), if_neg z]
      rw [tI_8 tk, hu.1, ob_some]
      by_cases z : a = 0
      · obtain ⟨s', e, r⟩ := k30 (Or.inl z)
        rw [a1] at e
        rw [a1, if_neg (mv_lt h6 ha), if_pos ((mv_neg (by omega)).mpr z)]
        exact ⟨s', e, r⟩
      · obtain ⟨i, hi⟩ : ∃ i, a = i + 1 := ⟨a - 1, by omega⟩
        have hi0 : i < U 0 := by omega
        have b := hw.2.2.1 i hi0
        have ei : mvI a = nI i := by rw [hi, mvI_s]
        by_cases y : 0 < U (21 + i)
        · have hm : mayE U a := Or.inr (by rw [hi]; exact y)
          obtain ⟨s', e, r⟩ := k30 hm
          rw [a1] at e
          rw [a1, if_neg (mv_lt h6 ha), if_neg (fun v => z ((mv_neg (by omega)).mp v)), tC tk, ob_some, ei, C_thick tk hu hw hi0, ob_some, if_neg (show ¬ nI (U (21 + i)) ≤ (0 : Int32) from nI_ge (a := 0) y (by omega)), ← ei]
          exact ⟨s', e, r⟩
        · have hm : ¬ mayE U a := fun v => v.elim z (by rw [hi]; exact y)
          rw [a1, if_neg (mv_lt h6 ha), if_neg (fun v => z ((mv_neg (by omega)).mp v)), tC tk, ob_some, ei, C_thick tk hu hw hi0, ob_some, Nat.eq_zero_of_not_pos y, if_pos (by decide), ← ei, mvI_1]
          have e9 : u.1 = nI (minF (mayE U) (fun a => gmF D (k + 1) (mvE U a)) (a + 1)) := a2.trans (congrArg nI (minF_no (P := mayE U) (v := fun a => gmF D (k + 1) (mvE U a)) hm).symm)
          obtain ⟨x, hx⟩ : ∃ x, mvI (a + 1) = x := ⟨_, rfl⟩
          rw [hx]
          exact ⟨(u.1, x, u.2.2), rfl, rfl, e9, a3⟩
    · intro u ⟨a1, a2, a3⟩
      have hu := a3.ct h (by omega)
      exact ⟨(u.1, u.2.2), by rw [tI_8 tk, hu.1, ob_some, a1, mvI_s, if_pos (nI_le (Nat.le_refl _) (by omega))], a2, a3⟩
  obtain ⟨⟨t1, t2⟩, e, k1, k2⟩ := key
  refine ⟨t2, ?_, k2⟩
  unfold F_X1_fewestFrom
  rw [e, show t1 = _ from k1]
theorem C_mosS {rec : Nat → Nat → Int32 → Int32 → Mem → Option (Int32 × Mem)} {n D k B : Nat} {U : Tn} {σ : Mem} (hn : n ≤ 4) (hk : k + (D + 1) = n) (h : CT σ (lvP k) U) (hw : wfT B U) (hB : B + D ≤ 900) (rs : ∀ U' σ', CT σ' (lvP (k + 1)) U' → wfT (B + 1) U' → ∃ σ2, rec 98 (lvP (k + 1)) (nI (k + 1)) (nI n) σ' = some (nI (gmF D (k + 1) U'), σ2) ∧ FrD (k + 1) σ' σ2) : ∃ σ', F_X1_mostFrom rec 98 (lvP k) (nI k) (nI n) σ = some (nI (maxF (mayO U) (fun a => gnO U a + gmF D (k + 1) (mvO U a)) (U 0 + 1)), σ') ∧ FrD k σ σ' := by
  have h6 := hw.1
  have tk := lv_tw (k := k) (by omega)
  have tk1 := lv_tw (k := k + 1) (by omega)
  have hb : ∀ j, j < U 0 + 1 → gnO U j + gmF D (k + 1) (mvO U j) ≤ 99 + 99 * D := fun j hj => by
    have h1 := gn_le hw hj
    have h2 := gmF_le D (k + 1) (B + 1) (mvO U j) (by omega) (wf_O hw hj)
    omega
  have key : ∃ t, F_X1_mostFrom_6 rec 98 (lvP k) (nI k) (nI n) ((0 : Int32), (-1 : Int32), σ) = some t ∧ (t.1 = nI (maxF (mayO U) (fun a => gnO U a + gmF D (k + 1) (mvO U a)) (U 0 + 1)) ∧ FrD k σ t.2) := by
    unfold F_X1_mostFrom_6
    refine lp_inv (fun a (u : Int32 × Int32 × Mem) => u.2.1 = mvI a ∧ u.1 = nI (maxF (mayO U) (fun a => gnO U a + gmF D (k + 1) (mvO U a)) a) ∧ FrD k σ u.2.2) (U 0 + 1) ?_ ?_ _ ⟨mvI_0.symm, (show (0 : Int32) = nI (maxF (mayO U) (fun a => gnO U a + gmF D (k + 1) (mvO U a)) 0) by rw [maxF_0]; rfl), FrD.rf⟩
    · intro a u ha ⟨a1, a2, a3⟩
      have hu := a3.ct h (by omega)
      have m6 := maxF_le (P := mayO U) (v := fun a => gnO U a + gmF D (k + 1) (mvO U a)) (b := 99 + 99 * D) a (fun j hj => hb j (by omega))
      have k29 : mayO U a → ∃ s', F_X1_mostFrom_29 rec 98 (lvP k) (nI k) (nI n) u.1 u.2.1 u.2.2 = some (.inl s') ∧ s'.2.1 = mvI (a + 1) ∧ s'.1 = nI (maxF (mayO U) (fun a => gnO U a + gmF D (k + 1) (mvO U a)) (a + 1)) ∧ FrD k σ s'.2.2 := by
        intro hm
        obtain ⟨σ1, e1, c1, f1⟩ := C_copyAt (k := k) (by omega) hu h6
        obtain ⟨σ2, e2, c2, f2⟩ := C_mvO (a := a) tk1 c1 hw (by omega) ha
        obtain ⟨σ3, e3, f3⟩ := rs (mvO U a) σ2 c2 (wf_O hw ha)
        have gl := hb a ha
        unfold F_X1_mostFrom_29
        rw [gR_98_0, ob_some, ck_99, ob_some, e1, ob_some]
        dsimp only
        rw [tC tk1, ob_some, a1, e2, ob_some, nI_1]
        dsimp only
        rw [e3, ob_some, a2, mvI_1]
        refine ⟨_, rfl, rfl, ?_, a3.tr ((f1.tr f2).d (by omega) |>.tr f3.up)⟩
        show (if nI (maxF (mayO U) (fun a => gnO U a + gmF D (k + 1) (mvO U a)) a) < nI (gnO U a) + nI (gmF D (k + 1) (mvO U a)) then nI (gnO U a) + nI (gmF D (k + 1) (mvO U a)) else nI (maxF (mayO U) (fun a => gnO U a + gmF D (k + 1) (mvO U a)) a)) = _
        rw [maxF_yes (P := mayO U) (v := fun a => gnO U a + gmF D (k + 1) (mvO U a)) hm, nI_add]
        by_cases z : maxF (mayO U) (fun a => gnO U a + gmF D (k + 1) (mvO U a)) a < gnO U a + gmF D (k + 1) (mvO U a)
        · rw [if_pos (nI_lt z (by omega)), if_pos z]
        · rw [if_neg (nI_nlt (by omega) (by omega)), if_neg z]
      rw [tI_8 tk, hu.1, ob_some]
      by_cases z : a = 0
      · obtain ⟨s', e, r⟩ := k29 (Or.inl z)
        rw [a1] at e
        rw [a1, if_neg (mv_lt h6 ha), if_pos ((mv_neg (by omega)).mpr z)]
        exact ⟨s', e, r⟩
      · obtain ⟨i, hi⟩ : ∃ i, a = i + 1 := ⟨a - 1, by omega⟩
        have hi0 : i < U 0 := by omega
        have b := hw.2.2.1 i hi0
        have ei : mvI a = nI i := by rw [hi, mvI_s]
        by_cases y : dueT U i
        · have hm : mayO U a := Or.inr (by rw [hi]; exact y)
          obtain ⟨s', e, r⟩ := k29 hm
          rw [a1] at e
          rw [a1, if_neg (mv_lt h6 ha), if_neg (fun v => z ((mv_neg (by omega)).mp v)), tC tk, ob_some, ei, C_found tk hu hw hi0, ob_some, if_pos y, if_neg (by decide), ← ei]
          exact ⟨s', e, r⟩
        · have hm : ¬ mayO U a := fun v => v.elim z (by rw [hi]; exact y)
          rw [a1, if_neg (mv_lt h6 ha), if_neg (fun v => z ((mv_neg (by omega)).mp v)), tC tk, ob_some, ei, C_found tk hu hw hi0, ob_some, if_neg y, if_pos rfl, ← ei, mvI_1]
          have e9 : u.1 = nI (maxF (mayO U) (fun a => gnO U a + gmF D (k + 1) (mvO U a)) (a + 1)) := a2.trans (congrArg nI (maxF_no (P := mayO U) (v := fun a => gnO U a + gmF D (k + 1) (mvO U a)) hm).symm)
          obtain ⟨x, hx⟩ : ∃ x, mvI (a + 1) = x := ⟨_, rfl⟩
          rw [hx]
          exact ⟨(u.1, x, u.2.2), rfl, rfl, e9, a3⟩
    · intro u ⟨a1, a2, a3⟩
      have hu := a3.ct h (by omega)
      exact ⟨(u.1, u.2.2), by rw [tI_8 tk, hu.1, ob_some, a1, mvI_s, if_pos (nI_le (Nat.le_refl _) (by omega))], a2, a3⟩
  obtain ⟨⟨t1, t2⟩, e, k1, k2⟩ := key
  refine ⟨t2, ?_, k2⟩
  unfold F_X1_mostFrom
  rw [e, show t1 = _ from k1]
theorem C_foundF {n : Nat} (hn : n ≤ 4) : ∀ D dep, D < dep → ∀ k U B σ, k + D = n → CT σ (lvP k) U → wfT B U → B + D ≤ 900 → ∃ σ', F_X1_foundFrom dep 98 (lvP k) (nI k) (nI n) σ = some (nI (gmF D k U), σ') ∧ FrD k σ σ' := by
  intro D
  induction D with
  | zero =>
    intro dep hd k U B σ hk h hw hB
    obtain ⟨m, rfl⟩ : ∃ m, dep = m + 1 := ⟨dep - 1, by omega⟩
    refine ⟨σ, ?_, FrD.rf⟩
    show B_X1_foundFrom (F_X1_foundFrom m) 98 (lvP k) (nI k) (nI n) σ = some (nI 0, σ)
    unfold B_X1_foundFrom
    rw [if_neg (nI_nlt (by omega) (by omega))]
    rfl
  | succ D ih =>
    intro dep hd k U B σ hk h hw hB
    obtain ⟨m, rfl⟩ : ∃ m, dep = m + 1 := ⟨dep - 1, by omega⟩
    have rs : ∀ U' σ', CT σ' (lvP (k + 1)) U' → wfT (B + 1) U' → ∃ σ2, F_X1_foundFrom m 98 (lvP (k + 1)) (nI (k + 1)) (nI n) σ' = some (nI (gmF D (k + 1) U'), σ2) ∧ FrD (k + 1) σ' σ2 := fun U' σ' c w => ih m (by omega) (k + 1) U' (B + 1) σ' (by omega) c w (by omega)
    show ∃ σ', B_X1_foundFrom (F_X1_foundFrom m) 98 (lvP k) (nI k) (nI n) σ = _ ∧ _
    unfold B_X1_foundFrom
    rw [if_pos (nI_lt (by omega) (by omega)), rem2 (by omega)]
    by_cases q : k % 2 = 0
    · obtain ⟨σ', e, f⟩ := C_fewS hn hk h hw (by omega) rs
      rw [q, if_pos (show nI 0 = (0 : Int32) from rfl), gmF_E q, e, ob_some]
      exact ⟨σ', rfl, f⟩
    · obtain ⟨σ', e, f⟩ := C_mosS hn hk h hw (by omega) rs
      rw [if_neg (show ¬ nI (k % 2) = (0 : Int32) from nI_ne0 (by omega) (by omega)), gmF_O q, e, ob_some]
      exact ⟨σ', rfl, f⟩

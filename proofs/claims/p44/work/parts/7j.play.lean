/-! ===== duel: the reference's plays ===== -/
theorem mvI_sub (d : Nat) : nI d - (1 : Int32) = mvI d := by
  unfold mvI
  rw [Int32.sub_eq_add_neg]
theorem thin_col {T : Tn} {i m : Nat} (hi : i < 6) : thinT T i (39 + m) = T (39 + m) := upd_ne (by omega)
theorem pass_col {T : Tn} {m : Nat} (h6 : T 0 ≤ 6) : passT T (39 + m) = T (39 + m) := by
  show updT (passL T (T 0)) 1 _ (39 + m) = _
  rw [upd_ne (by omega), passL_col _ h6]
theorem insp_col {T : Tn} {i m : Nat} (hi : i < 6) : inspT T i (39 + m) = T (39 + m) := by
  unfold inspT
  split
  · rw [upd_ne (by omega), upd_ne (by omega), upd_ne (by omega), upd_ne (by omega)]
  · rfl
theorem mvE_col {U : Tn} {a m : Nat} (h6 : U 0 ≤ 6) (ha : a < U 0 + 1) : mvE U a (39 + m) = U (39 + m) := by
  unfold mvE
  by_cases z : a = 0
  · rw [if_pos z, pass_col h6]
  · rw [if_neg z, pass_col (by show updT U _ _ 0 ≤ 6; rw [upd_ne (by omega)]; exact h6), thin_col (by omega)]
theorem mvO_col {U : Tn} {a m : Nat} (h6 : U 0 ≤ 6) (ha : a < U 0 + 1) : mvO U a (39 + m) = U (39 + m) := by
  unfold mvO
  by_cases z : a = 0
  · rw [if_pos z]
  · rw [if_neg z, insp_col (by omega)]
theorem step_col {k a m : Nat} {s : Pl} (h6 : s.1 0 ≤ 6) (ha : a < s.1 0 + 1) : (stepP k s a).1 (39 + m) = s.1 (39 + m) := by
  by_cases q : k % 2 = 1
  · rw [stepP_O q]; exact mvO_col h6 ha
  · rw [stepP_E q]
    show (if (s.2.2 && decide (mayE s.1 a)) = true then mvE s.1 a else passT s.1) (39 + m) = _
    by_cases z : (s.2.2 && decide (mayE s.1 a)) = true
    · rw [if_pos z]; exact mvE_col h6 ha
    · rw [if_neg z]; exact pass_col h6
def mayI (b : Bool) : Int32 := if b = true then 1 else 0
theorem mayI_t {b : Bool} (h : b = true) : mayI b = 1 := if_pos h
theorem mayI_f {b : Bool} (h : ¬ b = true) : mayI b = 0 := if_neg h
/-- a step of the reference's trial town -/
def PS (σ : Mem) (T : Tn) (s : Pl) : Prop := MT σ 7260 s.1 ∧ COL σ T
theorem M_stepP {σ : Mem} {T : Tn} {B k d : Nat} {s : Pl} {x0 x1 x2 x3 x4 part : Int32} (hP : PS σ T s) (hw : wfT B s.1) (hB : B ≤ 1000) (hcol : ∀ m, m < 4 → s.1 (39 + m) = T (39 + m)) (hd : d < s.1 0 + 1) (hk : k ≤ 4) : ∃ σ', (if (nI k - nI k / (2 : Int32) * (2 : Int32)) = (1 : Int32) then
      if 0 ≤ mvI d then (F_X9_inspects 134 (7260 : Int32) (mvI d) σ).bind fun q22 => F_X9_duel_130 134 x1 x2 x3 x4 part (mayI s.2.2) (nI k) q22.1 (nI s.2.1) q22.2
      else F_X9_duel_130 134 x1 x2 x3 x4 part (mayI s.2.2) (nI k) (0 : Int32) (nI s.2.1) σ
      else if mayI s.2.2 = 0 then F_X9_duel_164 134 x1 x2 x3 x4 (nI s.2.1) part (nI k) (mvI d) σ
      else if mvI d < 0 then F_X9_duel_160 134 x1 x2 x3 x4 (nI s.2.1) part (nI k) (mvI d) σ
      else (gR 9 0 134).bind fun p17 => (aI p17 ((7281 : Int32) + mvI d) σ).bind fun v18 => if v18 ≤ 0 then F_X9_duel_164 134 x1 x2 x3 x4 (nI s.2.1) part (nI k) (mvI d) σ else F_X9_duel_160 134 x1 x2 x3 x4 (nI s.2.1) part (nI k) (mvI d) σ) = some (.inl (nI (stepP k s d).2.1, part, mayI (stepP k s d).2.2, nI (k + 1), σ')) ∧ PS σ' T (stepP k s d) ∧ FrM 7260 σ σ' := by
  have h6 := hw.1
  obtain ⟨hM, hC⟩ := hP
  have hneg := mv_neg (a := d) (by omega)
  rw [rem2 (by omega)]
  have keepC : ∀ σ', FrM 7260 σ σ' → COL σ' T := fun σ' f m hm => by rw [f.1 _ _ (by omega)]; exact hC m hm
  by_cases q : k % 2 = 1
  · rw [q, if_pos (show nI 1 = (1 : Int32) from rfl), stepP_O q]
    unfold F_X9_duel_130
    by_cases z : d = 0
    · have e1 : mvO s.1 d = s.1 := if_pos z
      have e2 : gnO s.1 d = 0 := if_pos z
      rw [if_neg (fun y => absurd (hneg.mpr z) (Int32.not_lt.mpr y)), show nI s.2.1 + (0 : Int32) = nI s.2.1 from Int32.add_zero _, nI_1]
      refine ⟨σ, ?_, ⟨?_, hC⟩, FrM.rf⟩
      · show _ = some (Sum.inl (nI (s.2.1 + gnO s.1 d), part, mayI s.2.2, nI (k + 1), σ))
        rw [e2]
        rfl
      · show MT σ 7260 (mvO s.1 d)
        rw [e1]; exact hM
    · obtain ⟨i, rfl⟩ : ∃ i, d = i + 1 := ⟨d - 1, by omega⟩
      obtain ⟨σ', e, c, f⟩ := M_insp (f := 7260) hM (by decide) hw (show i < s.1 0 by omega)
      have e' : F_X9_inspects 134 (7260 : Int32) (nI i) σ = some (nI (inspS s.1 i), σ') := e
      have e1 : mvO s.1 (i + 1) = inspT s.1 i := if_neg (by omega)
      have e2 : gnO s.1 (i + 1) = inspS s.1 i := if_neg (by omega)
      rw [if_pos (Int32.not_lt.mp (fun y => z (hneg.mp y))), mvI_s, e', ob_some, nI_add, nI_1]
      refine ⟨σ', ?_, ⟨?_, keepC σ' f⟩, f⟩
      · rw [e2]
      · show MT σ' 7260 (mvO s.1 (i + 1))
        rw [e1]; exact c
  · rw [show k % 2 = 0 by omega, if_neg (show ¬ nI 0 = (1 : Int32) by decide), stepP_E q]
    unfold F_X9_duel_160 F_X9_duel_164 F_X9_duel_165 F_X9_duel_192
    have hCs : COL σ s.1 := hC.ext hcol
    have bad : ¬ (s.2.2 && decide (mayE s.1 d)) = true → ∃ σ', ((F_X9_passes 134 (7260 : Int32) σ).bind fun q32 => some (Sum.inl (nI s.2.1, part, (0 : Int32), nI k + (1 : Int32), q32.2)) : Option ((Int32 × Int32 × Int32 × Int32 × Mem) ⊕ ((Int32 × Mem) ⊕ (Int32 × Mem)))) = some (.inl (nI s.2.1, part, mayI (s.2.2 && decide (mayE s.1 d)), nI (k + 1), σ')) ∧ PS σ' T (if (s.2.2 && decide (mayE s.1 d)) = true then mvE s.1 d else passT s.1, s.2.1, s.2.2 && decide (mayE s.1 d)) ∧ FrM 7260 σ σ' := by
      intro hn
      obtain ⟨σ', g1, g2, g3⟩ := M_pass (f := 7260) hM hCs (by decide) (Or.inr (by decide)) hw (by omega)
      have g1' : F_X9_passes 134 (7260 : Int32) σ = some (_, σ') := g1
      rw [g1', ob_some, nI_1, mayI_f hn, if_neg hn]
      exact ⟨σ', rfl, ⟨g2, keepC σ' g3⟩, g3⟩
    by_cases c : s.2.2 = true
    · have c10 : ¬ (1 : Int32) = 0 := by decide
      rw [mayI_t c, if_neg c10]
      by_cases z : d = 0
      · have hy : (s.2.2 && decide (mayE s.1 d)) = true := by rw [c, decide_eq_true (show mayE s.1 d from Or.inl z)]; rfl
        obtain ⟨σ', g1, g2, g3⟩ := M_pass (f := 7260) hM hCs (by decide) (Or.inr (by decide)) hw (by omega)
        have g1' : F_X9_passes 134 (7260 : Int32) σ = some (_, σ') := g1
        have e1 : mvE s.1 d = passT s.1 := by unfold mvE; rw [if_pos z]
        rw [if_pos (hneg.mpr z), if_neg c10, if_pos (hneg.mpr z), g1', ob_some, nI_1, mayI_t hy, if_pos hy, e1]
        exact ⟨σ', rfl, ⟨g2, keepC σ' g3⟩, g3⟩
      · have hnn : ¬ mvI d < 0 := fun y => z (hneg.mp y)
        obtain ⟨i, rfl⟩ : ∃ i, d = i + 1 := ⟨d - 1, by omega⟩
        have hi : i < s.1 0 := by omega
        have b := hw.2.2.1 i hi
        have i7 : (7281 : Int32) + nI i = nI (7260 + (21 + i)) := (lx (a := 7281) rfl).trans (by rw [show 7281 + i = 7260 + (21 + i) by omega])
        have r1 : aI 135 (nI (7260 + (21 + i))) σ = some (nI (s.1 (21 + i))) := by rw [w_rd (by omega), hM (21 + i) (by omega)]
        rw [if_neg hnn, mvI_s, wR, ob_some, i7, r1, ob_some]
        by_cases y : 0 < s.1 (21 + i)
        · have hm : mayE s.1 (i + 1) := Or.inr y
          have hy : (s.2.2 && decide (mayE s.1 (i + 1))) = true := by rw [c, decide_eq_true hm]; rfl
          have ni : ¬ nI i < 0 := nI_pos (by omega)
          have m1 : MT (setI σ 135 (7260 + (21 + i)) (nI (s.1 (21 + i) - 1))) 7260 (thinT s.1 i) := hM.set
          have f1 : FrM 7260 σ (setI σ 135 (7260 + (21 + i)) (nI (s.1 (21 + i) - 1))) := FrM.set (by omega)
          have w1 : wfT B (thinT s.1 i) := wf_bed hw hi (Or.inr (Or.inl ⟨rfl, by omega⟩))
          have hC1 : COL (setI σ 135 (7260 + (21 + i)) (nI (s.1 (21 + i) - 1))) (thinT s.1 i) := (keepC _ f1).ext (fun m hm => (thin_col (by omega)).trans (hcol m hm))
          obtain ⟨σ', g1, g2, g3⟩ := M_pass (f := 7260) m1 hC1 (by decide) (Or.inr (by decide)) w1 (by omega)
          have g1' : F_X9_passes 134 (7260 : Int32) (setI σ 135 (7260 + (21 + i)) (nI (s.1 (21 + i) - 1))) = some (_, σ') := g1
          have e1 : mvE s.1 (i + 1) = passT (thinT s.1 i) := by unfold mvE; rw [if_neg (by omega), Nat.add_sub_cancel]
          rw [if_neg (show ¬ nI (s.1 (21 + i)) ≤ (0 : Int32) from nI_ge (a := 0) y (by omega)), if_neg c10, if_neg ni, ob_some, r1, ob_some, show nI (s.1 (21 + i)) - (1 : Int32) = nI (s.1 (21 + i) - 1) from pk_sub (b := 1) y, w_wr (by omega), ob_some, g1', ob_some, nI_1, mayI_t hy, if_pos hy, e1]
          exact ⟨σ', rfl, ⟨g2, keepC σ' (f1.tr g3)⟩, f1.tr g3⟩
        · have hm : ¬ mayE s.1 (i + 1) := fun v => v.elim (by omega) y
          have hn : ¬ (s.2.2 && decide (mayE s.1 (i + 1))) = true := by rw [c, decide_eq_false hm]; decide
          rw [Nat.eq_zero_of_not_pos y, if_pos (by decide), if_pos rfl]
          exact bad hn
    · have hn : ¬ (s.2.2 && decide (mayE s.1 d)) = true := fun y => by
        rw [Bool.and_eq_true] at y
        exact c y.1
      rw [mayI_f c, if_pos rfl, if_pos rfl]
      exact bad hn

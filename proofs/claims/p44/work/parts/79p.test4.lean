/-! ===== test: the reference's side ===== -/
def F143 (σ σ' : Mem) : Prop := (∀ a b, a ≠ 143 → σ'.1 a b = σ.1 a b) ∧ σ'.2 = σ.2
theorem F143.tr {σ σ' σ'' : Mem} (h : F143 σ σ') (h2 : F143 σ' σ'') : F143 σ σ'' := ⟨fun a b q => (h2.1 a b q).trans (h.1 a b q), h2.2.trans h.2⟩
theorem F143.set {j : Nat} {v : Int32} {σ : Mem} : F143 σ (setI σ 143 j v) := ⟨fun x y q => by rw [setI_1, if_neg (by omega)], rfl⟩
theorem M_part {σ : Mem} {T : Tn} {B i r n m : Nat} {f : Nat → Int32} {x4 : Int32} {ls : Nat} (h : MT σ 0 T) (hw : wfT B T) (hi : i < T 0) (hr : r < 6) (hn : n ≤ 40) (he : n % 2 = 0) (g1 : σ.1 138 r = nI n) (g2 : ∀ j, j < n → σ.1 137 (r * 40 + j) = f j) (hg : ∀ k, k < n / 2 → goodP f k) (hm : m < 8) (hl : ls ≤ 1000000) (hv : ∀ v, v < 32 → σ.1 143 v = nI 0) : ∃ σ', F143 σ σ' ∧ F_X9_test_83 134 (nI i) (nI r) x4 (nI ls) (nI m) ((0 : Int32), (0 : Int32), (0 : Int32), σ) = some (Sum.inl (if ls ≤ moE T i f (n / 2) m then x4 else nI m, nI (if ls ≤ moE T i f (n / 2) m then ls else moE T i f (n / 2) m), nI (numE (FE T i f (n / 2)) 60), nI (m + 1), σ')) := by
  have b := hw.2.2.1 i hi
  have key : ∃ t, F_X9_test_83 134 (nI i) (nI r) x4 (nI ls) (nI m) ((0 : Int32), (0 : Int32), (0 : Int32), σ) = some t ∧ ∃ σ', F143 σ σ' ∧ t = Sum.inl (if ls ≤ moE T i f (n / 2) m then x4 else nI m, nI (if ls ≤ moE T i f (n / 2) m then ls else moE T i f (n / 2) m), nI (numE (FE T i f (n / 2)) 60), nI (m + 1), σ') := by
    unfold F_X9_test_83
    refine lp_inv (fun e (s : Int32 × Int32 × Int32 × Mem) => s.2.2.1 = nI e ∧ s.1 = nI (numE (FE T i f (n / 2)) e) ∧ s.2.1 = nI (mosE (FE T i f (n / 2)) (crE T i m) e) ∧ (∀ v, v < 32 → s.2.2.2.1 143 v = nI (cntE (FE T i f (n / 2)) (crE T i m) e v)) ∧ F143 σ s.2.2.2) 60 ?_ ?_ _ ⟨rfl, rfl, rfl, hv, fun _ _ _ => rfl, rfl⟩
    · intro e s he60 ⟨a1, a2, a3, a4, a5⟩
      have hN : MT s.2.2.2 0 T := h.kept (fun b _ _ => a5.1 _ _ (by decide))
      have k1 : s.2.2.2.1 138 r = nI n := (a5.1 _ _ (by decide)).trans g1
      have k2 : ∀ j, j < n → s.2.2.2.1 137 (r * 40 + j) = f j := fun j hj => (a5.1 _ _ (by decide)).trans (g2 j hj)
      have hkd : e / 10 < 6 := by omega
      have hth : e % 10 ≤ 9 := by omega
      rw [a1, a2, a3, if_neg (show ¬ (60 : Int32) ≤ nI e from nI_ge (b := 60) he60 (by decide)), rm10 (c := e) (by omega), dv10 (c := e) (by omega), M_so hN hw hi hr hn he k1 k2 hg hkd hth, ob_some]
      by_cases q : FE T i f (n / 2) e
      · have hc : crE T i m e ≤ 19 := crN_le (gapT_le b.2.1 b.2.2.1) (hw.2.2.2.1 _ (Nat.mod_lt _ (by decide)))
        have eg : F_X9_gapIn 134 (0 : Int32) (nI i) s.2.2.2 = some (nI (gapT T i i)) := M_gap hN (by decide) hw hi
        have ec : F_X9_crossBy 134 (nI (e / 10)) (nI (e % 10)) (nI (gapT T i i)) (nI m) s.2.2.2 = some (nI (crE T i m e)) := M_crossBy (hN.col (m % 4) (Nat.mod_lt _ (by decide))) hkd hth (gapT_le b.2.1 b.2.2.1) (by omega) (hw.2.2.2.1 _ (Nat.mod_lt _ (by decide)))
        have l1 := cntE_le (P := FE T i f (n / 2)) (c := crE T i m) e (crE T i m e)
        have l2 := mosE_le (P := FE T i f (n / 2)) (c := crE T i m) e
        have cy := cntE_yes (c := crE T i m) q
        have my := mosE_yes (c := crE T i m) q
        have ny := numE_yes q
        have fr := a5.tr (F143.set (j := crE T i m e) (v := nI (cntE (FE T i f (n / 2)) (crE T i m) (e + 1) (crE T i m e))))
        have v2 : (setI s.2.2.2 143 (crE T i m e) (nI (cntE (FE T i f (n / 2)) (crE T i m) (e + 1) (crE T i m e)))).1 143 (crE T i m e) = nI (cntE (FE T i f (n / 2)) (crE T i m) (e + 1) (crE T i m e)) := by rw [setI_1, if_pos ⟨rfl, rfl⟩]
        have vv : ∀ v, v < 32 → (setI s.2.2.2 143 (crE T i m e) (nI (cntE (FE T i f (n / 2)) (crE T i m) (e + 1) (crE T i m e)))).1 143 v = nI (cntE (FE T i f (n / 2)) (crE T i m) (e + 1) v) := fun v hv => by
          rw [setI_1]
          by_cases y : v = crE T i m e
          · rw [if_pos ⟨rfl, y⟩, y]
          · rw [if_neg (fun z => y z.2), cntE_oth (fun z => y z.symm)]
            exact a4 v hv
        rw [if_pos q, if_neg (by decide), eg, ob_some, ec, ob_some, gR_134_14, ob_some, aI_eq sh_143 (by omega) (by decide), ob_some, a4 _ (by omega), nI_1, ← cy, sI_eq sh_143 (by omega) (by decide), ob_some, ob_some, aI_eq sh_143 (by omega) (by decide), ob_some, v2]
        unfold F_X9_test_168
        by_cases z : mosE (FE T i f (n / 2)) (crE T i m) e < cntE (FE T i f (n / 2)) (crE T i m) (e + 1) (crE T i m e)
        · rw [if_neg (nI_ge z (by omega)), ob_some, aI_eq sh_143 (by omega) (by decide), ob_some, v2, nI_1, nI_1]
          exact ⟨_, rfl, rfl, by rw [ny], by rw [my, if_pos z], vv, fr⟩
        · rw [if_pos (nI_le (by omega) (by omega)), nI_1, nI_1]
          exact ⟨_, rfl, rfl, by rw [ny], by rw [my, if_neg z], vv, fr⟩
      · rw [if_neg q, if_pos rfl, nI_1]
        exact ⟨_, rfl, rfl, by rw [numE_no q], by rw [mosE_no q], fun v hv => by rw [cntE_no q]; exact a4 v hv, a5⟩
    · intro s ⟨a1, a2, a3, a4, a5⟩
      refine ⟨Sum.inl (if ls ≤ moE T i f (n / 2) m then x4 else nI m, nI (if ls ≤ moE T i f (n / 2) m then ls else moE T i f (n / 2) m), nI (numE (FE T i f (n / 2)) 60), nI (m + 1), s.2.2.2), ?_, s.2.2.2, a5, rfl⟩
      have lm := moE_le (T := T) (i := i) (p := n / 2) (m := m) (f := f)
      have a3' : s.2.1 = nI (moE T i f (n / 2) m) := a3
      rw [a1, if_pos (show (60 : Int32) ≤ nI 60 by decide), a2, a3']
      unfold F_X9_test_193
      by_cases z : ls ≤ moE T i f (n / 2) m
      · rw [if_pos (nI_le z (by omega)), if_pos (nI_le z (by omega)), if_pos z, if_pos z, nI_1]
        rfl
      · rw [if_neg (nI_ge (by omega) (by omega)), if_neg (nI_ge (by omega) (by omega)), if_neg z, if_neg z, nI_1]
        rfl
  obtain ⟨t, e, σ', fr, rfl⟩ := key
  exact ⟨σ', fr, e⟩
theorem M_part2 {σ : Mem} {T : Tn} {B i r n m : Nat} {f : Nat → Int32} {x4 : Int32} {ls : Nat} (h : MT σ 0 T) (hw : wfT B T) (hi : i < T 0) (hr : r < 6) (hn : n ≤ 40) (he : n % 2 = 0) (g1 : σ.1 138 r = nI n) (g2 : ∀ j, j < n → σ.1 137 (r * 40 + j) = f j) (hg : ∀ k, k < n / 2 → goodP f k) (hm : m < 8) (hl : ls ≤ 1000000) : ∃ σ', F143 σ σ' ∧ F_X9_test_59 134 (nI i) (nI r) x4 (nI ls) (0 : Int32) (nI m) (0 : Int32) ((0 : Int32), σ) = some (Sum.inl (if ls ≤ moE T i f (n / 2) m then x4 else nI m, nI (if ls ≤ moE T i f (n / 2) m then ls else moE T i f (n / 2) m), nI (numE (FE T i f (n / 2)) 60), nI (m + 1), σ')) := by
  have key : ∃ t, F_X9_test_59 134 (nI i) (nI r) x4 (nI ls) (0 : Int32) (nI m) (0 : Int32) ((0 : Int32), σ) = some t ∧ ∃ σ', F143 σ σ' ∧ t = Sum.inl (if ls ≤ moE T i f (n / 2) m then x4 else nI m, nI (if ls ≤ moE T i f (n / 2) m then ls else moE T i f (n / 2) m), nI (numE (FE T i f (n / 2)) 60), nI (m + 1), σ') := by
    unfold F_X9_test_59
    refine lp_inv (fun e (s : Int32 × Mem) => s.1 = nI e ∧ (∀ v, v < e → s.2.1 143 v = nI 0) ∧ F143 σ s.2) 32 ?_ ?_ _ ⟨rfl, fun v hv => absurd hv (by omega), fun _ _ _ => rfl, rfl⟩
    · intro e s he2 ⟨a1, a2, a3⟩
      refine ⟨(nI (e + 1), setI s.2 143 e 0), ?_, rfl, fun v hv => ?_, a3.tr F143.set⟩
      · rw [a1, if_neg (show ¬ (32 : Int32) ≤ nI e from nI_ge (b := 32) he2 (by decide)), gR_134_14, ob_some, sI_eq sh_143 he2 (by decide), ob_some, nI_1]
      · show (setI s.2 143 e 0).1 143 v = _
        rw [setI_1]
        by_cases y : v = e
        · rw [if_pos ⟨rfl, y⟩]; rfl
        · rw [if_neg (fun z => y z.2)]; exact a2 v (by omega)
    · intro s ⟨a1, a2, a3⟩
      have hN : MT s.2 0 T := h.kept (fun b _ _ => a3.1 _ _ (by decide))
      have k1 : s.2.1 138 r = nI n := (a3.1 _ _ (by decide)).trans g1
      have k2 : ∀ j, j < n → s.2.1 137 (r * 40 + j) = f j := fun j hj => (a3.1 _ _ (by decide)).trans (g2 j hj)
      obtain ⟨σ', fr, e⟩ := M_part (x4 := x4) hN hw hi hr hn he k1 k2 hg hm hl a2
      refine ⟨_, ?_, σ', a3.tr fr, rfl⟩
      rw [a1, if_pos (show (32 : Int32) ≤ nI 32 by decide), e]
      rfl
  obtain ⟨t, e, σ', fr, rfl⟩ := key
  exact ⟨σ', fr, e⟩
theorem M_testL {σ : Mem} {T : Tn} {B i r n : Nat} {f : Nat → Int32} (h : MT σ 0 T) (hw : wfT B T) (hi : i < T 0) (hr : r < 6) (hn : n ≤ 40) (he : n % 2 = 0) (g1 : σ.1 138 r = nI n) (g2 : ∀ j, j < n → σ.1 137 (r * 40 + j) = f j) (hg : ∀ k, k < n / 2 → goodP f k) : ∃ σ', F143 σ σ' ∧ (((∀ e, e < 60 → ¬ FE T i f (n / 2) e) ∧ F_X9_test_43 134 (nI i) (nI r) ((-9 : Int32), (1000000 : Int32), (0 : Int32), (0 : Int32), σ) = some (-9, σ')) ∨ ((¬ ∀ e, e < 60 → ¬ FE T i f (n / 2) e) ∧ ∀ z σ2, F_X9_tells 134 (nI (bstE (moE T i f (n / 2)) 8).2) (nI (bstE (moE T i f (n / 2)) 8).1) σ' = some (z, σ2) → F_X9_test_43 134 (nI i) (nI r) ((-9 : Int32), (1000000 : Int32), (0 : Int32), (0 : Int32), σ) = some (z, σ2))) := by
  have key : ∀ (Q : Int32 × Mem → Prop), (∀ σ', F143 σ σ' → ∃ t, (if nI (numE (FE T i f (n / 2)) 60) = 0 then (some (Sum.inr ((-9 : Int32), σ')) : Option ((Int32 × Int32 × Int32 × Int32 × Mem) ⊕ (Int32 × Mem))) else (F_X9_tells 134 (nI (bstE (moE T i f (n / 2)) 8).2) (nI (bstE (moE T i f (n / 2)) 8).1) σ').bind fun q3 => some (.inr ((q3.1, q3.2)))) = some (.inr t) ∧ Q t) → ∃ t, F_X9_test_43 134 (nI i) (nI r) ((-9 : Int32), (1000000 : Int32), (0 : Int32), (0 : Int32), σ) = some t ∧ Q t := by
    intro Q hQ
    unfold F_X9_test_43
    refine lp_inv (fun m (s : Int32 × Int32 × Int32 × Int32 × Mem) => s.2.2.2.1 = nI m ∧ s.1 = (if m = 0 then (-9 : Int32) else nI (bstE (moE T i f (n / 2)) m).1) ∧ s.2.1 = nI (bstE (moE T i f (n / 2)) m).2 ∧ s.2.2.1 = (if m = 0 then (0 : Int32) else nI (numE (FE T i f (n / 2)) 60)) ∧ F143 σ s.2.2.2.2) 8 ?_ ?_ _ ⟨rfl, rfl, rfl, rfl, fun _ _ _ => rfl, rfl⟩
    · intro m s hm ⟨a1, a2, a3, a4, a5⟩
      have hN : MT s.2.2.2.2 0 T := h.kept (fun b _ _ => a5.1 _ _ (by decide))
      have k1 : s.2.2.2.2.1 138 r = nI n := (a5.1 _ _ (by decide)).trans g1
      have k2 : ∀ j, j < n → s.2.2.2.2.1 137 (r * 40 + j) = f j := fun j hj => (a5.1 _ _ (by decide)).trans (g2 j hj)
      have lb := bstE_le (mo := moE T i f (n / 2)) (fun _ => moE_le) m
      have lm := moE_le (T := T) (i := i) (p := n / 2) (m := m) (f := f)
      obtain ⟨σ', fr, e⟩ := M_part2 (x4 := s.1) (m := m) (ls := (bstE (moE T i f (n / 2)) m).2) hN hw hi hr hn he k1 k2 hg hm (by omega)
      rw [a1, if_neg (show ¬ (8 : Int32) ≤ nI m from nI_ge (b := 8) hm (by decide)), a3, e]
      refine ⟨_, rfl, rfl, ?_, ?_, ?_, a5.tr fr⟩
      · show (if (bstE (moE T i f (n / 2)) m).2 ≤ moE T i f (n / 2) m then s.1 else nI m) = if m + 1 = 0 then (-9 : Int32) else nI (bstE (moE T i f (n / 2)) (m + 1)).1
        rw [if_neg (show ¬ m + 1 = 0 by omega), a2]
        by_cases y : moE T i f (n / 2) m < (bstE (moE T i f (n / 2)) m).2
        · rw [if_neg (by omega), bstE_yes y]
        · have hm0 : m ≠ 0 := fun z => by
            rw [z] at y
            have e0 : (bstE (moE T i f (n / 2)) 0).2 = 1000000 := rfl
            rw [e0] at y
            have := moE_le (T := T) (i := i) (p := n / 2) (m := 0) (f := f)
            omega
          rw [if_pos (by omega), if_neg hm0, bstE_no y]
      · show nI (if (bstE (moE T i f (n / 2)) m).2 ≤ moE T i f (n / 2) m then (bstE (moE T i f (n / 2)) m).2 else moE T i f (n / 2) m) = nI (bstE (moE T i f (n / 2)) (m + 1)).2
        by_cases y : moE T i f (n / 2) m < (bstE (moE T i f (n / 2)) m).2
        · rw [if_neg (by omega), bstE_yes y]
        · rw [if_pos (by omega), bstE_no y]
      · show nI (numE (FE T i f (n / 2)) 60) = if m + 1 = 0 then (0 : Int32) else nI (numE (FE T i f (n / 2)) 60)
        rw [if_neg (show ¬ m + 1 = 0 by omega)]
    · intro s ⟨a1, a2, a3, a4, a5⟩
      obtain ⟨t, e, q⟩ := hQ s.2.2.2.2 a5
      refine ⟨t, ?_, q⟩
      have a2' : s.1 = nI (bstE (moE T i f (n / 2)) 8).1 := a2
      have a4' : s.2.2.1 = nI (numE (FE T i f (n / 2)) 60) := a4
      rw [a1, if_pos (show (8 : Int32) ≤ nI 8 by decide), a2', a3, a4', e]
  have n0 := numE_0 (P := FE T i f (n / 2)) 60
  have nl := numE_le (P := FE T i f (n / 2)) 60
  by_cases hz : ∀ e, e < 60 → ¬ FE T i f (n / 2) e
  · have hN := n0.mpr hz
    obtain ⟨t, e, σ', fr, rfl⟩ := key (fun t => ∃ σ', F143 σ σ' ∧ t = (-9, σ')) (fun σ' fr => ⟨_, by rw [hN, if_pos (show nI 0 = (0 : Int32) from rfl)], σ', fr, rfl⟩)
    exact ⟨σ', fr, Or.inl ⟨hz, e⟩⟩
  · have hN : ¬ nI (numE (FE T i f (n / 2)) 60) = (0 : Int32) := nI_ne0 (Nat.pos_of_ne_zero fun z => hz (n0.mp z)) (by omega)
    by_cases hx : ∀ σ', F143 σ σ' → ∃ z σ2, F_X9_tells 134 (nI (bstE (moE T i f (n / 2)) 8).2) (nI (bstE (moE T i f (n / 2)) 8).1) σ' = some (z, σ2)
    · obtain ⟨t, e, σ', fr, q⟩ := key (fun t => ∃ σ', F143 σ σ' ∧ F_X9_tells 134 (nI (bstE (moE T i f (n / 2)) 8).2) (nI (bstE (moE T i f (n / 2)) 8).1) σ' = some t) (fun σ' fr => by
        obtain ⟨z, σ2, e⟩ := hx σ' fr
        exact ⟨(z, σ2), by rw [if_neg hN, e, ob_some], σ', fr, e⟩)
      refine ⟨σ', fr, Or.inr ⟨hz, fun z σ2 e2 => ?_⟩⟩
      rw [e, ← q, e2]
    · exfalso
      apply hx
      intro σ' fr
      unfold F_X9_tells
      rw [pI_134_10, ob_some]
      exact ⟨_, _, rfl⟩

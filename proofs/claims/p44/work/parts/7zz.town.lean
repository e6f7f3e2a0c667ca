/-! ===== fault, town ===== -/
def okP (D : Tn) : Prop := (∀ a, (a = 1 ∨ a = 2 ∨ (27 ≤ a ∧ a < 39)) → D a = 0) ∧ D 0 ≤ 6 ∧ (∀ i, i < D 0 → D (3 + i) < 6 ∧ D (9 + i) ≤ 9 ∧ D (15 + i) ≤ 9 ∧ D (21 + i) ≤ 9) ∧ (∀ m, m < 4 → D (39 + m) ≤ 9) ∧ D 43 ≤ 9
theorem cf3 {v : Nat → Int32} {n p : Nat} (h : cfN v n 0 3 p = 3) : figN v p ≤ 9 ∧ figN v (p + 1) ≤ 9 ∧ figN v (p + 2) ≤ 9 := by
  have p1 : figP v n 0 p := Decidable.byContradiction fun z => by rw [cfN_no z] at h; omega
  rw [cfN_yes p1] at h
  have p2 : figP v n 0 (p + 1) := Decidable.byContradiction fun z => by rw [cfN_no z] at h; omega
  rw [cfN_yes p2] at h
  have p3 : figP v n 0 (p + 1 + 1) := Decidable.byContradiction fun z => by rw [cfN_no z] at h; omega
  exact ⟨(figP_N (by decide) p1).2.1, (figP_N (by decide) p2).2.1, (figP_N (by decide) p3).2.1⟩
theorem cf4 {v : Nat → Int32} {n p : Nat} (h : cfN v n 0 4 p = 4) : ∀ m, m < 4 → figN v (p + m) ≤ 9 := by
  have p1 : figP v n 0 p := Decidable.byContradiction fun z => by rw [cfN_no z] at h; omega
  rw [cfN_yes p1] at h
  obtain ⟨h2, h3, h4⟩ := cf3 (v := v) (n := n) (p := p + 1) (by omega)
  intro m hm
  have c : m = 0 ∨ m = 1 ∨ m = 2 ∨ m = 3 := by omega
  rcases c with rfl | rfl | rfl | rfl
  · exact (figP_N (by decide) p1).2.1
  · exact h2
  · exact h3
  · exact h4
theorem okP_add {v : Nat → Int32} {n q : Nat} {D : Tn} (h : okP D) (hb : D 0 < 6) (hk : kdN (v q) ≠ 6) (hc : cfN v n 0 3 (q + 1) = 3) : okP (addB v D q) := by
  obtain ⟨h1, h2, h3, h4, h5⟩ := h
  obtain ⟨f1, f2, f3⟩ := cf3 hc
  have kl := kdN_le (v q)
  obtain ⟨b, hbb⟩ : ∃ b, D 0 = b := ⟨_, rfl⟩
  rw [hbb] at hb h2 h3
  have e : addB v D q = updT (updT (updT (updT (updT D (3 + b) (kdN (v q))) (9 + b) (figN v (q + 1))) (15 + b) (figN v (q + 2))) (21 + b) (figN v (q + 3))) 0 (b + 1) := by unfold addB; rw [hbb]
  have e0 : addB v D q 0 = b + 1 := by rw [e, upd_eq]
  refine ⟨fun a ha => ?_, by rw [e0]; omega, fun i hi => ?_, fun m hm => ?_, ?_⟩
  · rw [e, upd_ne (by omega), upd_ne (by omega), upd_ne (by omega), upd_ne (by omega), upd_ne (by omega)]; exact h1 a ha
  · rw [e0] at hi
    rw [e]
    by_cases y : i = b
    · subst y
      refine ⟨?_, ?_, ?_, ?_⟩
      · rw [upd_ne (by omega), upd_ne (by omega), upd_ne (by omega), upd_ne (by omega), upd_eq]; omega
      · rw [upd_ne (by omega), upd_ne (by omega), upd_ne (by omega), upd_eq]; exact f1
      · rw [upd_ne (by omega), upd_ne (by omega), upd_eq]; exact f2
      · rw [upd_ne (by omega), upd_eq]; exact f3
    · have c := h3 i (by omega)
      refine ⟨?_, ?_, ?_, ?_⟩
      · rw [upd_ne (by omega), upd_ne (by omega), upd_ne (by omega), upd_ne (by omega), upd_ne (by omega)]; exact c.1
      · rw [upd_ne (by omega), upd_ne (by omega), upd_ne (by omega), upd_ne (by omega), upd_ne (by omega)]; exact c.2.1
      · rw [upd_ne (by omega), upd_ne (by omega), upd_ne (by omega), upd_ne (by omega), upd_ne (by omega)]; exact c.2.2.1
      · rw [upd_ne (by omega), upd_ne (by omega), upd_ne (by omega), upd_ne (by omega), upd_ne (by omega)]; exact c.2.2.2
  · rw [e, upd_ne (by omega), upd_ne (by omega), upd_ne (by omega), upd_ne (by omega), upd_ne (by omega)]; exact h4 m hm
  · rw [e, upd_ne (by omega), upd_ne (by omega), upd_ne (by omega), upd_ne (by omega), upd_ne (by omega)]; exact h5
theorem resB_ok {v : Nat → Int32} {n : Nat} : ∀ f D p D', D 0 + f = 6 → okP D → resB v n f D p = .inr D' → okP D' ∧ 0 < D' 0
  | 0, D, p, D', hf, h, e => by
    rw [resB_0] at e
    by_cases q : n ≤ sk v n p
    · rw [if_pos q] at e
      injection e with e
      rw [← e]; exact ⟨h, by omega⟩
    · rw [if_neg q] at e; cases e
  | f + 1, D, p, D', hf, h, e => by
    rw [resB_s] at e
    by_cases q : n ≤ sk v n p
    · rw [if_pos q] at e
      by_cases z : D 0 = 0
      · rw [if_pos z] at e; cases e
      · rw [if_neg z] at e
        injection e with e
        rw [← e]; exact ⟨h, by omega⟩
    · rw [if_neg q] at e
      by_cases k6 : kdN (v (sk v n p)) = 6
      · rw [if_pos k6] at e; cases e
      · rw [if_neg k6] at e
        by_cases c3 : cfN v n 0 3 (sk v n p + 1) = 3
        · rw [if_pos c3] at e
          have e0 : addB v D (sk v n p) 0 = D 0 + 1 := by unfold addB; rw [upd_eq]
          exact resB_ok f _ _ D' (by omega) (okP_add h (by omega) k6 c3) e
        · rw [if_neg c3] at e; cases e
theorem resT_ok {v : Nat → Int32} {n : Nat} {D : Tn} (e : resT v n = .inr D) : okP D ∧ 0 < D 0 := by
  rw [resT_H] at e
  unfold resH at e
  by_cases hh : sk v n 0 < n ∧ v (sk v n 0) = 110
  · rw [if_pos hh] at e
    by_cases c4 : cfN v n 0 4 (sk v n 0 + 1) = 4
    · rw [if_pos c4] at e
      by_cases fp : figP v n 1 (sk v n 0 + 5)
      · rw [if_pos fp] at e
        obtain ⟨q, hq⟩ : ∃ q, sk v n 0 = q := ⟨_, rfl⟩
        rw [hq] at e c4 fp
        have f4 := cf4 c4
        have f5 := (figP_N (by decide) fp).2.1
        refine resB_ok 6 (headT v q) (q + 6) D rfl ⟨fun a ha => if_neg (by omega), Nat.zero_le _, fun i hi => absurd hi (Nat.not_lt_zero i), fun m hm => ?_, ?_⟩ e
        · have : headT v q (39 + m) = figN v (q + 1 + m) := by
            unfold headT
            rw [if_pos ⟨by omega, by omega⟩, show 39 + m - 39 = m by omega]
          rw [this]; exact f4 m hm
        · have : headT v q 43 = figN v (q + 5) := by
            unfold headT
            rw [if_pos ⟨by decide, by decide⟩]
          rw [this]; exact f5
      · rw [if_neg fp] at e; cases e
    · rw [if_neg c4] at e; cases e
  · rw [if_neg hh] at e; cases e
theorem sum_0 {D : Tn} (h : ∀ a, 27 ≤ a → a < 39 → D a = 0) : ∀ n, n ≤ 6 → sumT D n = 0
  | 0, _ => rfl
  | n + 1, hn => by
    show sumT D n + D (33 + n) = 0
    rw [sum_0 h n (by omega), h _ (by omega) (by omega)]
theorem okP_wf {D : Tn} (h : okP D) : wfT 0 D := by
  obtain ⟨h1, h2, h3, h4, h5⟩ := h
  refine ⟨h2, Nat.le_of_eq (h1 1 (by omega)), fun i hi => ?_, h4, h5, ?_⟩
  · have c := h3 i hi
    exact ⟨c.1, c.2.1, c.2.2.1, c.2.2.2, by rw [h1 _ (by omega)]; omega, Nat.le_of_eq (h1 _ (by omega))⟩
  · rw [h1 2 (by omega), sum_0 (fun a q1 q2 => h1 a (by omega)) _ h2]
theorem CD_CT {σ : Mem} {D : Tn} (h : CD σ D) (hd : Dr σ) (hp : okP D) : CT σ 36 D := by
  obtain ⟨c1, c2, c3, c4⟩ := h
  obtain ⟨p1, p2, _⟩ := hp
  refine ⟨c1, by rw [p1 1 (by omega)]; exact hd.1, fun _ => c2, c3, fun i hi => ?_⟩
  have c := c4 i hi
  exact ⟨c.1, c.2.1, c.2.2.1, c.2.2.2, by rw [p1 _ (by omega)]; exact (hd.2 i (by omega)).1, by rw [p1 _ (by omega)]; exact (hd.2 i (by omega)).2⟩
theorem sim_fault (x : Int32) : Sim (F_X8_fault 0 x) (F_X9_fault 134 x) := by
  refine sim_of fun A hA => ?_
  rcases ixc x (n := 4) (by decide) with hx | ⟨t, ht, rfl⟩
  · refine ⟨-1, A, hA, C_same fun σ h => ?_, M_same fun σ h => ?_⟩
    · unfold F_X8_fault
      rw [gR_0_1, ob_some, Rm_no sf_4 hx, ob_some, if_neg n10]
    · unfold F_X9_fault
      rw [text_no hx, ob_some, if_pos rfl]
  · cases hs : A.2.1.1 t with
    | none =>
      refine ⟨-3, foundA A 1, hA, fun σ h => ?_, fun σ h => ?_⟩
      · obtain ⟨σ', e, h1, h2⟩ := C_refuse (A := A) (f := 1) (by decide) σ h
        refine ⟨σ', ?_, h1, h2⟩
        unfold F_X8_fault
        rw [gR_0_1, ob_some, Rm_none sf_4 ht (h.2.1.no ht hs), e, ob_some, if_neg n30]
      · obtain ⟨σ', e, h1, h2⟩ := M_found (A := A) (f := 1) (by decide) σ h
        have e' : F_X9_found 134 (1 : Int32) σ = some (-3, σ') := e
        refine ⟨σ', ?_, h1, h2⟩
        unfold F_X9_fault
        rw [text_yes ht, ob_some, if_neg (by decide), gR_134_6, ob_some, aI_eq sh_140 ht (by decide), ob_some, h.2.1.no ht hs, if_neg nm1, e', ob_some]
    | some n =>
      refine ⟨ansT (resT (A.2.1.2 t) n), A, hA, fun σ h => ?_, fun σ h => ?_⟩
      · obtain ⟨hn, g1, g2⟩ := h.2.1.row ht hs
        obtain ⟨σ', e, f, _⟩ := C_readTown ht hs σ h
        refine ⟨σ', ?_, (h.side f.o).1, (h.side f.o).2⟩
        unfold F_X8_fault
        rw [gR_0_1, ob_some, Rm_some sf_4 ht hn g1, ob_some, if_pos rfl, gR_0_8, ob_some, ob_some, ck_35, ob_some, e, ob_some]
      · obtain ⟨hn, g1, g2⟩ := h.2.1.row ht hs
        obtain ⟨σ', e, f, _⟩ := M_faultOf ht hs σ h
        refine ⟨σ', ?_, (h.side hA f.n).1, (h.side hA f.n).2⟩
        unfold F_X9_fault
        rw [text_yes ht, ob_some, if_neg (by decide), gR_134_6, ob_some, aI_eq sh_140 ht (by decide), ob_some, g1, if_pos (nI_pos' (by omega)), e, ob_some]
/-- as sim_of, with the draft's nothing -/
theorem sim_ofD {α : Type} {F G : Mem → Option (α × Mem)} (h : ∀ {tb : Prop} (A : Ab), okDe tb A.2.2.2 → ∃ r A', okDe tb A'.2.2.2 ∧ (∀ σ, RC A σ → Dr σ → ∃ σ', F σ = some (r, σ') ∧ RC A' σ' ∧ FC σ σ') ∧ MAns A G r A') : Sim F G := h
def newD (D : Tn) : De := (D, 0, fun _ => 0, fun _ => none, fun _ _ => 0)
theorem new_ok {tb : Prop} {D : Tn} (h : okP D) (h0 : 0 < D 0) : okDe tb (newD D) := ⟨okP_wf h, Nat.zero_le _, fun d hd => absurd hd (Nat.not_lt_zero d), (fun k n e => absurd (show (none : Option Nat) = some n from e) (fun w => by cases w)), fun z => absurd (show D 0 = 0 from z) (by omega)⟩
theorem fill_8 {σ : Mem} : ∃ σ', F_X6_removeAll 7 σ = some σ' ∧ (∀ j, j < 3 → σ'.1 8 j = -1) ∧ (∀ a b, a ≠ 8 → σ'.1 a b = σ.1 a b) ∧ σ'.2 = σ.2 := by
  have key : ∃ t, F_J7_fill_53178_5 8 (-1 : Int32) (nI 3) ((0 : Int32), σ) = some t ∧ ((∀ j, j < 3 → t.1 8 j = -1) ∧ (∀ a b, a ≠ 8 → t.1 a b = σ.1 a b) ∧ t.2 = σ.2) := by
    unfold F_J7_fill_53178_5
    refine lp_inv (fun j (s : Int32 × Mem) => s.1 = nI j ∧ (∀ i, i < j → s.2.1 8 i = -1) ∧ (∀ a b, a ≠ 8 → s.2.1 a b = σ.1 a b) ∧ s.2.2 = σ.2) 3 ?_ ?_ _ ⟨rfl, fun v hv => absurd hv (by omega), fun _ _ _ => rfl, rfl⟩
    · intro j s hj ⟨a1, a2, a3, a4⟩
      refine ⟨(nI (j + 1), setI s.2 8 j (-1)), ?_, rfl, fun i hi => ?_, fun a b q => ?_, a4⟩
      · rw [a1, if_neg (nI_ge hj (by omega)), sJ_eq (by decide) sh_8 hj (by decide), ob_some, nI_1]
      · show (setI s.2 8 j (-1)).1 8 i = _
        rw [setI_1]
        by_cases y : i = j
        · rw [if_pos ⟨rfl, y⟩]
        · rw [if_neg (fun z => y z.2)]; exact a2 i (by omega)
      · show (setI s.2 8 j (-1)).1 a b = _
        rw [setI_1, if_neg (fun z => q z.1)]; exact a3 a b q
    · intro s ⟨a1, a2, a3, a4⟩
      exact ⟨s.2, by rw [a1, if_pos (nI_le (Nat.le_refl _) (by omega))], a2, a3, a4⟩
  obtain ⟨t, e, k1, k2, k3⟩ := key
  refine ⟨t, ?_, k1, k2, k3⟩
  unfold F_X6_removeAll F_J7_fill_53178
  rw [gR_7_1, ob_some, aN_eq (by decide) sh_8, ob_some, e, ob_some]
theorem ansT_9 {o : Nat ⊕ Tn} {n : Nat} (h : ∀ r, o = .inl r → r ≤ n) (hn : n ≤ 100) : ansT o = -9 ↔ ∃ D, o = .inr D := by
  cases o with
  | inl r => exact ⟨fun z => absurd z (nI_n9 (by have := h r rfl; omega)), fun ⟨D, z⟩ => by cases z⟩
  | inr D => exact ⟨fun _ => ⟨D, rfl⟩, fun _ => rfl⟩
theorem resT_le {v : Nat → Int32} {n r : Nat} (e : resT v n = .inl r) : r ≤ n + 10 := by
  obtain ⟨_, s2⟩ := sk_le (v := v) (Nat.zero_le n)
  have cl : ∀ k p, cfN v n 0 k p ≤ k := by
    intro k
    induction k with
    | zero => intro p; exact Nat.le_refl _
    | succ k ih =>
      intro p
      by_cases z : figP v n 0 p
      · rw [cfN_yes z]; have := ih (p + 1); omega
      · rw [cfN_no z]; omega
  rw [resT_H] at e
  unfold resH at e
  by_cases hh : sk v n 0 < n ∧ v (sk v n 0) = 110
  · rw [if_pos hh] at e
    by_cases c4 : cfN v n 0 4 (sk v n 0 + 1) = 4
    · rw [if_pos c4] at e
      by_cases fp : figP v n 1 (sk v n 0 + 5)
      · rw [if_pos fp] at e
        have := resB_lt 6 (headT v (sk v n 0)) (sk v n 0 + 6) r (by have := fp.1; omega) e
        omega
      · rw [if_neg fp] at e; injection e with e; omega
    · rw [if_neg c4] at e
      have := cl 4 (sk v n 0 + 1)
      injection e with e; omega
  · rw [if_neg hh] at e; injection e with e; omega
theorem sim_town (x : Int32) : Sim (F_X8_town 0 x) (F_X9_town 134 x) := by
  refine sim_ofD fun A hA => ?_
  rcases ixc x (n := 4) (by decide) with hx | ⟨t, ht, rfl⟩
  · refine ⟨-1, A, hA, fun σ h _ => C_same (A := A) (fun σ h => ?_) σ h, M_same fun σ h => ?_⟩
    · unfold F_X8_town
      rw [gR_0_1, ob_some, Rm_no sf_4 hx, ob_some, if_neg n10]
    · unfold F_X9_town
      rw [text_no hx, ob_some, if_pos rfl]
  · cases hs : A.2.1.1 t with
    | none =>
      refine ⟨-3, foundA A 1, hA, fun σ h _ => ?_, fun σ h => ?_⟩
      · obtain ⟨σ', e, h1, h2⟩ := C_refuse (A := A) (f := 1) (by decide) σ h
        refine ⟨σ', ?_, h1, h2⟩
        unfold F_X8_town
        rw [gR_0_1, ob_some, Rm_none sf_4 ht (h.2.1.no ht hs), e, ob_some, if_neg n30]
      · obtain ⟨σ', e, h1, h2⟩ := M_found (A := A) (f := 1) (by decide) σ h
        have e' : F_X9_found 134 (1 : Int32) σ = some (-3, σ') := e
        refine ⟨σ', ?_, h1, h2⟩
        unfold F_X9_town
        rw [text_yes ht, ob_some, if_neg (by decide), gR_134_6, ob_some, aI_eq sh_140 ht (by decide), ob_some, h.2.1.no ht hs, if_neg nm1, e', ob_some]
    | some n =>
      rcases Nat.lt_or_ge 60 n with hbig | hsm
      · exact ⟨-1, A, hA, fun σ h _ => absurd (h.2.1.row ht hs).1 (by omega), fun σ h => absurd (h.2.1.row ht hs).1 (by omega)⟩
      have a9 := ansT_9 (o := resT (A.2.1.2 t) n) (n := n + 10) (fun r e => resT_le e) (by omega)
      cases hr : resT (A.2.1.2 t) n with
      | inl r =>
        have n9 : ¬ ansT (resT (A.2.1.2 t) n) = -9 := fun z => by
          obtain ⟨D, z⟩ := a9.mp z
          rw [hr] at z; cases z
        refine ⟨-4, A, hA, fun σ h _ => ?_, fun σ h => ?_⟩
        · obtain ⟨hn, g1, g2⟩ := h.2.1.row ht hs
          obtain ⟨σ', e, f, _⟩ := C_readTown ht hs σ h
          refine ⟨σ', ?_, (h.side f.o).1, (h.side f.o).2⟩
          unfold F_X8_town
          rw [gR_0_1, ob_some, Rm_some sf_4 ht hn g1, ob_some, if_pos rfl, gR_0_8, ob_some, ob_some, ck_35, ob_some, e, ob_some, if_neg n9]
        · obtain ⟨hn, g1, g2⟩ := h.2.1.row ht hs
          obtain ⟨σ', e, f, _⟩ := M_faultOf ht hs σ h
          refine ⟨σ', ?_, (h.side hA f.n).1, (h.side hA f.n).2⟩
          unfold F_X9_town
          rw [text_yes ht, ob_some, if_neg (by decide), gR_134_6, ob_some, aI_eq sh_140 ht (by decide), ob_some, g1, if_pos (nI_pos' (by omega)), e, ob_some, if_neg n9]
      | inr D =>
        obtain ⟨hp, h0⟩ := resT_ok hr
        have hw := okP_wf hp
        have p9 : ansT (resT (A.2.1.2 t) n) = -9 := a9.mpr ⟨D, hr⟩
        refine ⟨nI (D 0), deA A (newD D), new_ok hp h0, fun σ h hD => ?_, fun σ h => ?_⟩
        · obtain ⟨hn, g1, g2⟩ := h.2.1.row ht hs
          obtain ⟨σ1, e1, f1, c1⟩ := C_readTown ht hs σ h
          obtain ⟨h1, fc1⟩ := h.side f1.o
          have ct := CD_CT (c1 D hr) (hD.keptC fc1) hp
          obtain ⟨σ2, e2, c2, f2⟩ := C_copy (k := 10) (k2 := 36) tw_10 tw_36 (by decide) hw.1 ct
          obtain ⟨σ3, e3, c3, f3⟩ := C_copy (k := 18) (k2 := 10) tw_18 tw_10 (by decide) hw.1 c2
          obtain ⟨σ4, e4, k4, f4, z4⟩ := fill_8 (σ := setI σ3 0 7 (0 : Int32))
          have keep : ∀ a b, (a < 8 ∨ a = 9 ∨ 26 ≤ a) → (a ≠ 0 ∨ b ≠ 7) → σ4.1 a b = σ1.1 a b := fun a b q1 q2 => by
            rw [f4 a b (by omega), setI_1, if_neg (by omega), f3.1 a b (by omega), f2.1 a b (by omega)]
          have k2 : σ4.2 = σ1.2 := by
            rw [z4]
            show σ3.2 = _
            rw [f3.2, f2.2]
          have ct18 : CT σ4 18 D := c3.kept (fun a b p q => by rw [f4 a b (by omega), setI_1, if_neg (by omega)])
          have ct10 : CT σ4 10 D := c2.kept (fun a b p q => by rw [f4 a b (by omega), setI_1, if_neg (by omega), f3.1 a b (by omega)])
          have r7 : σ4.1 0 7 = nI 0 := by rw [f4 _ _ (by decide), setI_1, if_pos ⟨rfl, rfl⟩]; rfl
          have r70 : σ4.1 7 0 = nI 40 := (keep _ _ (by decide) (by decide)).trans h1.2.2.2.2.2.2.2.1
          have hRC : RC (deA A (newD D)) σ4 := ⟨h1.1.kept (fun a b p q => keep a b (by omega) (by omega)), h1.2.1.kept (fun a b p q => keep a b (by omega) (by omega)), h1.2.2.1.kept (keep _ _ (by decide) (by decide)) (keep _ _ (by decide) (by decide)) (fun f => keep _ _ (by decide) (by omega)) (fun j => by rw [k2]), ct10, ct18, r7, fun d hd => absurd hd (Nat.not_lt_zero d), r70, fun r hr => k4 r hr⟩
          refine ⟨σ4, ?_, hRC, fc1.tr ⟨fun a b q => keep a b (by omega) (by omega), fun a b q => by rw [k2]⟩⟩
          unfold F_X8_town
          rw [gR_0_1, ob_some, Rm_some sf_4 ht hn g1, ob_some, if_pos rfl, gR_0_8, ob_some, ob_some, ck_35, ob_some, e1, ob_some, if_pos p9, gR_0_3, ob_some, ob_some, gR_35_0, ob_some, tC tw_10, ob_some, e2, ob_some, gR_0_4, ob_some, ob_some, tC tw_18, ob_some, e3, ob_some, pI_0_7, ob_some, gR_0_2, ob_some, ck_7, ob_some, e4, ob_some, ob_some, C_isT ct18, ob_some]
        · obtain ⟨hn, g1, g2⟩ := h.2.1.row ht hs
          obtain ⟨σ1, e1, f1, c1⟩ := M_faultOf ht hs σ h
          obtain ⟨h1, fm1⟩ := h.side hA f1.n
          have m1 := c1 D hr
          obtain ⟨σ2, e2, c2, q2, z2⟩ := M_cp (σ := σ1) (f := 7216) (t := 0) (n := 44) (by omega) (by omega) (by omega)
          have e2' : F_X9_copyAll 134 (7216 : Int32) (0 : Int32) (44 : Int32) σ1 = some σ2 := e2
          have m2 : MT σ2 0 D := fun j hj => (c2 j hj).trans (m1 j hj)
          have key : ∃ u, F_X9_town_54 134 ((0 : Int32), setI σ2 134 1 (0 : Int32)) = some u ∧ (u.1 = nI (D 0) ∧ (∀ k, k < 3 → u.2.1 136 k = -1) ∧ (∀ a b, a ≠ 136 → u.2.1 a b = (setI σ2 134 1 (0 : Int32)).1 a b) ∧ u.2.2 = σ2.2) := by
            unfold F_X9_town_54
            refine lp_inv (fun j (u : Int32 × Mem) => u.1 = nI j ∧ (∀ k, k < j → u.2.1 136 k = -1) ∧ (∀ a b, a ≠ 136 → u.2.1 a b = (setI σ2 134 1 (0 : Int32)).1 a b) ∧ u.2.2 = σ2.2) 3 ?_ ?_ _ ⟨rfl, fun k hk => absurd hk (by omega), fun _ _ _ => rfl, rfl⟩
            · intro j u hj ⟨a1, a2, a3, a4⟩
              refine ⟨(nI (j + 1), setI u.2 136 j (-1)), ?_, rfl, fun k hk => ?_, fun a b q => ?_, a4⟩
              · rw [a1, if_neg (show ¬ (3 : Int32) ≤ nI j from nI_ge (b := 3) hj (by decide)), gR_134_2, ob_some, sI_eq sh_136 hj (by decide), ob_some, nI_1]
              · show (setI u.2 136 j (-1)).1 136 k = _
                rw [setI_1]
                by_cases y : k = j
                · rw [if_pos ⟨rfl, y⟩]
                · rw [if_neg (fun z => y z.2)]; exact a2 k (by omega)
              · show (setI u.2 136 j (-1)).1 a b = _
                rw [setI_1, if_neg (fun z => q z.1)]; exact a3 a b q
            · intro u ⟨a1, a2, a3, a4⟩
              have v0 : u.2.1 135 0 = nI (D 0) := (a3 135 0 (by decide)).trans (by rw [setI_1, if_neg (by decide)]; exact m2 0 (by decide))
              have r0 : aI 135 (0 : Int32) u.2 = some (nI (D 0)) := (w_rd (j := 0) (by decide)).trans (by rw [v0])
              exact ⟨(nI (D 0), u.2), by rw [a1, if_pos (show (3 : Int32) ≤ nI 3 by decide), wR, ob_some, r0, ob_some], rfl, a2, a3, a4⟩
          obtain ⟨⟨u1, u2⟩, e3, k1, k3, k4, k5⟩ := key
          have k1 : u1 = nI (D 0) := k1
          have k4 : ∀ a b, a ≠ 136 → u2.1 a b = (setI σ2 134 1 (0 : Int32)).1 a b := k4
          have keep : ∀ a b, a ≠ 136 → (a ≠ 134 ∨ b ≠ 1) → (a ≠ 135 ∨ 44 ≤ b) → u2.1 a b = σ1.1 a b := fun a b q1 q3 q4 => by
            rw [k4 a b q1, setI_1, if_neg (by omega), q2 a b (by omega)]
          have k2 : u2.2 = σ1.2 := k5.trans z2
          have hRM : RM (deA A (newD D)) u2 := ⟨h1.1.kept (fun a b q => keep a b (by omega) (by omega) (by omega)), h1.2.1.kept (fun a b q => keep a b (by omega) (by omega) (by omega)), h1.2.2.1.kept (keep _ _ (by decide) (by decide) (by decide)) (keep _ _ (by decide) (by decide) (by decide)) (fun f => keep _ _ (by decide) (by omega) (by omega)) (by rw [k2]) (by rw [k2]), m2.kept (fun b p1 p2 => by rw [k4 _ _ (by decide), setI_1, if_neg (by omega)]), fun d hd => absurd hd (Nat.not_lt_zero d), by rw [k4 _ _ (by decide), setI_1, if_pos ⟨rfl, rfl⟩]; rfl, fun k hk => k3 k hk⟩
          refine ⟨u2, ?_, hRM, fm1.tr ⟨fun a b q => keep a b (by omega) (by omega) (by omega), fun a b q => by rw [k2]⟩⟩
          unfold F_X9_town
          rw [text_yes ht, ob_some, if_neg (by decide), gR_134_6, ob_some, aI_eq sh_140 ht (by decide), ob_some, g1, if_pos (nI_pos' (by omega)), e1, ob_some, if_pos p9, e2', ob_some, pI_134_1, ob_some, e3, k1]

/-! ===== brings ===== -/
abbrev gdB (T : Tn) (f : Nat → Int32) (j : Nat) : Prop := f j = -9 ∨ ∃ i, i < T 0 ∧ f j = nI i
noncomputable def aB (f : Nat → Int32) (j : Nat) : Nat := if f j = -9 then 0 else (f j).toInt.toNat + 1
theorem aB_ok {T : Tn} {f : Nat → Int32} {j : Nat} (h6 : T 0 ≤ 6) (h : gdB T f j) : f j = rndV (aB f j) ∧ aB f j < T 0 + 1 := by
  unfold aB
  rcases h with h | ⟨i, hi, h⟩
  · rw [if_pos h, h]; exact ⟨rfl, by omega⟩
  · rw [if_neg (by rw [h]; exact nI_n9 (by omega)), h, nI_toInt (by omega), Int.toNat_natCast]
    exact ⟨(rndV_s i).symm, by omega⟩
def brR (T : Tn) (a : Nat → Nat) : Nat → Tn × Nat
  | 0 => (T, 0)
  | k + 1 => (mvO (passT (brR T a k).1) (a k), (brR T a k).2 + gnO (passT (brR T a k).1) (a k))
theorem wf_brR {B n : Nat} {T : Tn} {a : Nat → Nat} (hw : wfT B T) (ha : ∀ j, j < n → a j < T 0 + 1) : ∀ k, k ≤ n → wfT (B + 2 * k) (brR T a k).1 ∧ (brR T a k).1 0 = T 0
  | 0, _ => ⟨hw, rfl⟩
  | k + 1, hk => by
    obtain ⟨h1, h2⟩ := wf_brR hw ha k (by omega)
    have h0 : passT (brR T a k).1 0 = T 0 := (pass_0 _).trans h2
    exact ⟨wf_mono (by omega) (wf_O (wf_pass h1) (by rw [h0]; exact ha k (by omega))), mvO_0.trans h0⟩
theorem brR_col {B n : Nat} {T : Tn} {a : Nat → Nat} (hw : wfT B T) (ha : ∀ j, j < n → a j < T 0 + 1) : ∀ k, k ≤ n → ∀ j, (brR T a k).1 (39 + j) = T (39 + j)
  | 0, _, _ => rfl
  | k + 1, hk, j => by
    obtain ⟨h1, h2⟩ := wf_brR hw ha k (by omega)
    have ih := brR_col hw ha k (by omega) j
    have h6 := h1.1
    have h0 : passT (brR T a k).1 0 = T 0 := (pass_0 _).trans h2
    show mvO (passT (brR T a k).1) (a k) (39 + j) = _
    rw [mvO_col (by rw [h0, ← h2]; exact h6) (by rw [h0]; exact ha k (by omega)), pass_col h6, ih]
theorem C_mvR {σ : Mem} {k B a : Nat} {U : Tn} (hk : Tw k) (h : CT σ k U) (hw : wfT B U) (hB : B ≤ 1000) (ha : a < U 0 + 1) : ∃ σ', F_X7_inspectBed k (rndV a) σ = some (nI (gnO U a), σ') ∧ CT σ' k (mvO U a) ∧ FrK k σ σ' := by
  by_cases z : a = 0
  · have e1 : mvO U a = U := if_pos z
    have e2 : gnO U a = 0 := if_pos z
    rw [e1, e2, z, rndV_0, C_inspno hk h (Or.inl m9_neg)]
    exact ⟨σ, rfl, h, FrK.rf⟩
  · obtain ⟨i, rfl⟩ : ∃ i, a = i + 1 := ⟨a - 1, by omega⟩
    have := C_mvO (a := i + 1) hk h hw hB ha
    rw [mvI_s] at this
    rw [rndV_s]; exact this
theorem C_fines26 {σ : Mem} {B : Nat} {T : Tn} (h : CT σ 26 T) (hw : wfT B T) : F_X7_fines 26 σ = some (nI (T 2)) := by
  have h6 := hw.1
  have key : ∃ t, F_X7_fines_4 26 σ ((0 : Int32), (0 : Int32)) = some t ∧ t = nI (T 2) := by
    unfold F_X7_fines_4
    refine lp_inv (fun j (s : Int32 × Int32) => s.2 = nI j ∧ s.1 = nI (sumT T j)) (T 0) ?_ ?_ _ ⟨rfl, rfl⟩
    · intro j s hj ⟨a1, a2⟩
      refine ⟨(nI (sumT T (j + 1)), nI (j + 1)), ?_, rfl, rfl⟩
      rw [a1, a2, tI_8 tw_26, h.1, ob_some, if_neg (nI_ge hj (by omega)), tR_6 tw_26, ob_some, tw_26.rd (o := 7) (by decide) (by decide) (by omega), ob_some, (h.2.2.2.2 j hj).2.2.2.2.2, nI_add, nI_1]
      rfl
    · intro s ⟨a1, a2⟩
      exact ⟨s.1, by rw [a1, tI_8 tw_26, h.1, ob_some, if_pos (nI_le (Nat.le_refl _) (by omega))], by rw [a2, hw.2.2.2.2.2]⟩
  obtain ⟨t, e, rfl⟩ := key
  unfold F_X7_fines
  exact e
theorem C_isRound {tb : Prop} {A : Ab} {σ : Mem} {r n : Nat} (hA : okDe tb A.2.2.2) (h : RC A σ) (hr : r < 6) (hs : A.1.1 r = some n) : (∀ (_ : ∀ j, j < n → gdB (nowT A.2.2.2) (A.1.2 r) j), F_X8_isRound 0 (nI r) σ = some 1) ∧ ∀ (_ : ¬ ∀ j, j < n → gdB (nowT A.2.2.2) (A.1.2 r) j), F_X8_isRound 0 (nI r) σ = some 0 := by
  obtain ⟨hnw, hn0⟩ := now_wf hA
  have h6 := hnw.1
  obtain ⟨hn, g1, g2⟩ := h.1.row hr hs
  have key : ∃ t, F_X8_isRound_2 0 (nI r) σ (0 : Int32) = some t ∧ (((∀ j, j < n → gdB (nowT A.2.2.2) (A.1.2 r) j) ∧ t = 1) ∨ ((¬ ∀ j, j < n → gdB (nowT A.2.2.2) (A.1.2 r) j) ∧ t = 0)) := by
    unfold F_X8_isRound_2
    refine lp_inv2 (fun j (s : Int32) => s = nI j ∧ ∀ k, k < j → gdB (nowT A.2.2.2) (A.1.2 r) k) n ?_ ?_ _ ⟨rfl, fun k hk => absurd hk (by omega)⟩
    · intro j s hj ⟨a1, a2⟩
      rw [a1, gR_0_0, ob_some, ck_1, ob_some, S_size sf_1 hr, g1, ob_some, if_neg (nI_ge hj (by omega)), ob_some, ck_1, ob_some, S_get sf_1 hr h.1.1 g1 hn hj, ob_some, g2 j hj]
      have nxt : gdB (nowT A.2.2.2) (A.1.2 r) j → ∀ k, k < j + 1 → gdB (nowT A.2.2.2) (A.1.2 r) k := fun q k hk => by
        by_cases y : k = j
        · rw [y]; exact q
        · exact a2 k (by omega)
      by_cases q : A.1.2 r j = -9
      · rw [if_pos q, nI_1]
        exact Or.inl ⟨_, rfl, rfl, nxt (Or.inl q)⟩
      · rw [if_neg q, gR_0_4, ob_some, tC tw_18, ob_some]
        rcases ixc (A.1.2 r j) (n := nowT A.2.2.2 0) (by omega) with hx | ⟨i, hi, e⟩
        · rw [C_hasno tw_18 h.now hx, ob_some, if_pos rfl]
          refine Or.inr ⟨_, rfl, Or.inr ⟨fun z => ?_, rfl⟩⟩
          rcases z j hj with z | ⟨i, hi, z⟩
          · exact q z
          · rw [z] at hx
            exact nb_in hi (by omega) hx
        · rw [e, C_has tw_18 h.now hnw hi, ob_some, if_neg (by decide), nI_1]
          exact Or.inl ⟨_, rfl, rfl, nxt (Or.inr ⟨i, hi, e⟩)⟩
    · intro s ⟨a1, a2⟩
      exact ⟨1, by rw [a1, gR_0_0, ob_some, ck_1, ob_some, S_size sf_1 hr, g1, ob_some, if_pos (nI_le (Nat.le_refl _) (by omega))], Or.inl ⟨a2, rfl⟩⟩
  obtain ⟨t, e, k⟩ := key
  unfold F_X8_isRound
  rcases k with ⟨k1, k2⟩ | ⟨k1, k2⟩
  · exact ⟨fun _ => by rw [e, k2], fun z => absurd k1 z⟩
  · exact ⟨fun z => absurd z k1, fun _ => by rw [e, k2]⟩
theorem C_bringsL {tb : Prop} {A : Ab} {r n : Nat} (hA : okDe tb A.2.2.2) (hr : r < 6) (hs : A.1.1 r = some n) (hn10 : n ≤ 10) (hg : ∀ j, j < n → gdB (nowT A.2.2.2) (A.1.2 r) j) (σ : Mem) (h : RC A σ) : ∃ σ', (F_X7_copyFrom 26 18 σ).bind (fun q65 => F_X8_brings_91 0 (nI r) ((0 : Int32), (0 : Int32), q65)) = some (nI (brR (nowT A.2.2.2) (aB (A.1.2 r)) n).2, σ') ∧ RC (toldA A (nI ((brR (nowT A.2.2.2) (aB (A.1.2 r)) n).1 2) - nI (nowT A.2.2.2 2))) σ' ∧ FC σ σ' := by
  obtain ⟨hnw, hn0⟩ := now_wf hA
  have h6 := hnw.1
  have ha : ∀ j, j < n → aB (A.1.2 r) j < nowT A.2.2.2 0 + 1 := fun j hj => (aB_ok h6 (hg j hj)).2
  obtain ⟨a, haa⟩ : ∃ a, aB (A.1.2 r) = a := ⟨_, rfl⟩
  have hv : ∀ j, j < n → A.1.2 r j = rndV (a j) := fun j hj => by rw [← haa]; exact (aB_ok h6 (hg j hj)).1
  rw [haa] at ha ⊢
  obtain ⟨σ1, e1, c1, f1⟩ := C_copy tw_26 (k2 := 18) tw_18 (by decide) h6 h.now
  have key : ∃ t, F_X8_brings_91 0 (nI r) ((0 : Int32), (0 : Int32), σ1) = some t ∧ (t.1 = nI (brR (nowT A.2.2.2) a n).2 ∧ RC (toldA A (nI ((brR (nowT A.2.2.2) a n).1 2) - nI (nowT A.2.2.2 2))) t.2 ∧ FC σ t.2) := by
    unfold F_X8_brings_91
    refine lp_inv (fun k (u : Int32 × Int32 × Mem) => u.1 = nI (brR (nowT A.2.2.2) a k).2 ∧ u.2.1 = nI k ∧ CT u.2.2 26 (brR (nowT A.2.2.2) a k).1 ∧ FrK 26 σ u.2.2) n ?_ ?_ _ ⟨rfl, rfl, c1, f1⟩
    · intro k u hk ⟨a1, a2, a3, a4⟩
      obtain ⟨hu, _⟩ := h.aside a4
      obtain ⟨hn, g1, g2⟩ := hu.1.row hr hs
      obtain ⟨w1, w2⟩ := wf_brR hnw ha k (by omega)
      obtain ⟨σ2, e2, c2, f2⟩ := C_pass tw_26 a3 w1 (by omega)
      have wp := wf_pass w1
      have hp0 : passT (brR (nowT A.2.2.2) a k).1 0 = nowT A.2.2.2 0 := (pass_0 _).trans w2
      obtain ⟨hu2, _⟩ := hu.aside f2
      obtain ⟨hn2, g3, g4⟩ := hu2.1.row hr hs
      obtain ⟨σ3, e3, c3, f3⟩ := C_mvR (a := a k) tw_26 c2 wp (by omega) (by rw [hp0]; exact ha k hk)
      refine ⟨(nI (brR (nowT A.2.2.2) a (k + 1)).2, nI (k + 1), σ3), ?_, rfl, rfl, c3, (a4.tr f2).tr f3⟩
      rw [a1, a2, gR_0_0, ob_some, ck_1, ob_some, S_size sf_1 hr, g1, ob_some, if_neg (nI_ge hk (by omega)), gR_0_5, ob_some, tC tw_26, ob_some, e2, ob_some, ob_some, ob_some, ck_1, ob_some, S_get sf_1 hr hu2.1.1 g3 hn2 hk, ob_some, g4 k hk, hv k hk, tC tw_26, ob_some, e3, ob_some, nI_add, nI_1]
      rfl
    · intro u ⟨a1, a2, a3, a4⟩
      obtain ⟨hu, fu⟩ := h.aside a4
      obtain ⟨hn, g1, g2⟩ := hu.1.row hr hs
      obtain ⟨w1, w2⟩ := wf_brR hnw ha n (Nat.le_refl _)
      obtain ⟨v, hv2⟩ : ∃ v, nI ((brR (nowT A.2.2.2) a n).1 2) - nI (nowT A.2.2.2 2) = v := ⟨_, rfl⟩
      obtain ⟨σ3, e3, h4, f4⟩ := C_tell (A := A) (v := v) u.2.2 hu
      have es : F_X8_tell 0 v u.2.2 = some (1, setI u.2.2 0 13 v) := by
        unfold F_X8_tell
        rw [pI_0_13, ob_some]
      have e4 := e3.symm.trans es
      injection e4 with e4
      injection e4 with _ e4
      subst e4
      refine ⟨(u.1, setI u.2.2 0 13 v), ?_, a1, by rw [hv2]; exact h4, fu.tr f4⟩
      rw [a2, gR_0_0, ob_some, ck_1, ob_some, S_size sf_1 hr, g1, ob_some, if_pos (nI_le (Nat.le_refl _) (by omega)), gR_0_5, ob_some, tC tw_26, ob_some, C_fines26 a3 w1, ob_some, gR_0_4, ob_some, tC tw_18, ob_some, C_finesA hu.now hnw, ob_some, hv2, pI_0_13, ob_some]
  obtain ⟨⟨t1, t2⟩, e, k1, k2, k3⟩ := key
  exact ⟨t2, by rw [e1, ob_some, e, show t1 = _ from k1], k2, k3⟩
theorem M_bringsL {tb : Prop} {A : Ab} {r n : Nat} (hA : okDe tb A.2.2.2) (hr : r < 6) (hs : A.1.1 r = some n) (hn10 : n ≤ 10) (hg : ∀ j, j < n → gdB (nowT A.2.2.2) (A.1.2 r) j) (σ : Mem) (h : RM A σ) : ∃ σ', (F_X9_tries 134 σ).bind (fun q6 => F_X9_brings_117 134 (nI r) ((0 : Int32), (0 : Int32), q6)) = some (nI (brR (nowT A.2.2.2) (aB (A.1.2 r)) n).2, σ') ∧ RM (toldA A (nI ((brR (nowT A.2.2.2) (aB (A.1.2 r)) n).1 2) - nI (nowT A.2.2.2 2))) σ' ∧ FM σ σ' := by
  obtain ⟨hnw, hn0⟩ := now_wf hA
  have h6 := hnw.1
  have ha : ∀ j, j < n → aB (A.1.2 r) j < nowT A.2.2.2 0 + 1 := fun j hj => (aB_ok h6 (hg j hj)).2
  obtain ⟨a, haa⟩ : ∃ a, aB (A.1.2 r) = a := ⟨_, rfl⟩
  have hv : ∀ j, j < n → A.1.2 r j = rndV (a j) := fun j hj => by rw [← haa]; exact (aB_ok h6 (hg j hj)).1
  rw [haa] at ha ⊢
  have hnow := h.now
  obtain ⟨σ1, e1, c1, f1⟩ := M_tries hnow
  have key : ∃ t, F_X9_brings_117 134 (nI r) ((0 : Int32), (0 : Int32), σ1) = some t ∧ (t.1 = nI (brR (nowT A.2.2.2) a n).2 ∧ RM (toldA A (nI ((brR (nowT A.2.2.2) a n).1 2) - nI (nowT A.2.2.2 2))) t.2 ∧ FM σ t.2) := by
    unfold F_X9_brings_117
    refine lp_inv (fun k (u : Int32 × Int32 × Mem) => u.1 = nI (brR (nowT A.2.2.2) a k).2 ∧ u.2.1 = nI k ∧ MT u.2.2 7260 (brR (nowT A.2.2.2) a k).1 ∧ FrM 7260 σ u.2.2) n ?_ ?_ _ ⟨rfl, rfl, c1, f1⟩
    · intro k u hk ⟨a1, a2, a3, a4⟩
      obtain ⟨hu, _⟩ := RM.aside hA h a4
      obtain ⟨hn, g1, g2⟩ := hu.1.row hr hs
      obtain ⟨w1, w2⟩ := wf_brR hnw ha k (by omega)
      have col := brR_col hnw ha k (by omega)
      have hCu : COL u.2.2 (brR (nowT A.2.2.2) a k).1 := (hu.now.col).ext (fun j _ => col j)
      obtain ⟨U, hU⟩ : ∃ U, (brR (nowT A.2.2.2) a k).1 = U := ⟨_, rfl⟩
      obtain ⟨S, hS⟩ : ∃ S, (brR (nowT A.2.2.2) a k).2 = S := ⟨_, rfl⟩
      have eN : brR (nowT A.2.2.2) a (k + 1) = (mvO (passT U) (a k), S + gnO (passT U) (a k)) := by
        rw [← hU, ← hS]; rfl
      rw [hU] at w1 w2 a3 hCu
      rw [hS] at a1
      obtain ⟨σ2, p1, p2, p3⟩ := M_pass (f := 7260) a3 hCu (by decide) (Or.inr (by decide)) w1 (by omega)
      have p1' : F_X9_passes 134 (7260 : Int32) u.2.2 = some (_, σ2) := p1
      have wp := wf_pass w1
      have hp0 : passT U 0 = nowT A.2.2.2 0 := (pass_0 _).trans w2
      obtain ⟨hu2, _⟩ := RM.aside hA hu p3
      obtain ⟨hn2, g3, g4⟩ := hu2.1.row hr hs
      have rv : aI 137 (((40 : Int32) * nI r) + nI k) σ2 = some (rndV (a k)) := by rw [ix40, aI_eq sh_137 (by omega) (by decide), g4 k hk, hv k hk]
      rw [a1, a2, eN, gR_134_4, ob_some, aI_eq sh_138 hr (by decide), ob_some, g1, if_neg (nI_ge hk (by omega)), p1', ob_some, gR_134_3, ob_some, rv, ob_some]
      unfold F_X9_brings_174
      by_cases z : a k = 0
      · have z1 : mvO (passT U) (a k) = passT U := if_pos z
        have z2 : gnO (passT U) (a k) = 0 := if_pos z
        have z3 : rndV (a k) = (-9 : Int32) := by rw [z]; rfl
        rw [if_pos z3, z1, z2, show nI S + (0 : Int32) = nI S from Int32.add_zero _, nI_1]
        exact ⟨_, rfl, rfl, rfl, p2, a4.tr p3⟩
      · obtain ⟨i, hi⟩ : ∃ i, a k = i + 1 := ⟨a k - 1, by omega⟩
        have hak := ha k hk
        obtain ⟨σ3, e, c, f⟩ := M_insp (f := 7260) p2 (by decide) wp (show i < passT U 0 by omega)
        have e' : F_X9_inspects 134 (7260 : Int32) (nI i) σ2 = some (nI (inspS (passT U) i), σ3) := e
        have z1 : mvO (passT U) (a k) = inspT (passT U) i := by rw [hi]; exact if_neg (by omega)
        have z2 : gnO (passT U) (a k) = inspS (passT U) i := by rw [hi]; exact if_neg (by omega)
        have z3 : rndV (a k) = nI i := by rw [hi, rndV_s]
        rw [z3] at rv
        rw [z3, if_neg (nI_n9 (by omega)), z1, z2, ob_some, rv, ob_some, e', ob_some, nI_add, nI_1]
        exact ⟨_, rfl, rfl, rfl, c, (a4.tr p3).tr f⟩
    · intro u ⟨a1, a2, a3, a4⟩
      obtain ⟨hu, fu⟩ := RM.aside hA h a4
      obtain ⟨hn, g1, g2⟩ := hu.1.row hr hs
      have v2 := a3 2 (by decide)
      have v0 := hu.now 2 (by decide)
      have r1 : aI 135 (7262 : Int32) u.2.2 = some (nI ((brR (nowT A.2.2.2) a n).1 2)) := (w_rd (j := 7262) (by decide)).trans (by rw [show u.2.2.1 135 7262 = _ from v2])
      have r2 : aI 135 (2 : Int32) u.2.2 = some (nI (nowT A.2.2.2 2)) := (w_rd (j := 2) (by decide)).trans (by rw [show u.2.2.1 135 2 = _ from v0])
      obtain ⟨σ3, e3, h4, f4⟩ := M_tells (A := A) (v := nI ((brR (nowT A.2.2.2) a n).1 2) - nI (nowT A.2.2.2 2)) (r := nI (brR (nowT A.2.2.2) a n).2) u.2.2 hu
      refine ⟨(nI (brR (nowT A.2.2.2) a n).2, σ3), ?_, rfl, h4, fu.tr f4⟩
      rw [a1, a2, gR_134_4, ob_some, aI_eq sh_138 hr (by decide), ob_some, g1, if_pos (nI_le (Nat.le_refl _) (by omega)), wR, ob_some, r1, ob_some, ob_some, r2, ob_some, e3, ob_some]
  obtain ⟨⟨t1, t2⟩, e, k1, k2, k3⟩ := key
  exact ⟨t2, by rw [e1, ob_some, e, show t1 = _ from k1], k2, k3⟩

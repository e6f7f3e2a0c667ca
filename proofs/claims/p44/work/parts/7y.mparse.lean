/-! ===== the reference's reader ===== -/
def RT (σ : Mem) (t : Nat) (v : Nat → Int32) (n : Nat) : Prop := σ.1 140 t = nI n ∧ ∀ i, i < n → σ.1 139 (t * 60 + i) = v i
def FrP (σ σ' : Mem) : Prop := (∀ a b, (a ≠ 134 ∨ b ≠ 13) → (a ≠ 135 ∨ b < 7216 ∨ 7260 ≤ b) → σ'.1 a b = σ.1 a b) ∧ σ'.2 = σ.2
theorem FrP.rf {σ : Mem} : FrP σ σ := ⟨fun _ _ _ _ => rfl, rfl⟩
theorem FrP.tr {σ σ' σ'' : Mem} (h : FrP σ σ') (h2 : FrP σ' σ'') : FrP σ σ'' := ⟨fun a b q z => (h2.1 a b q z).trans (h.1 a b q z), h2.2.trans h.2⟩
theorem FrP.n {σ σ' : Mem} (h : FrP σ σ') : FrN σ σ' := ⟨fun a b q => h.1 a b (by omega) (by omega), fun a b _ => by rw [h.2]⟩
theorem FrP.pos {σ : Mem} {x : Int32} : FrP σ (setI σ 134 13 x) := ⟨fun a b q _ => by rw [setI_1, if_neg (by omega)], rfl⟩
theorem FrP.set {σ : Mem} {j : Nat} {x : Int32} (h : j < 44) : FrP σ (setI σ 135 (7216 + j) x) := ⟨fun a b _ q => by rw [setI_1, if_neg (by omega)], rfl⟩
theorem RT.kept {σ σ' : Mem} {t n : Nat} {v : Nat → Int32} (h : RT σ t v n) (f : FrP σ σ') : RT σ' t v n := ⟨(f.1 _ _ (by omega) (by omega)).trans h.1, fun i hi => (f.1 _ _ (by omega) (by omega)).trans (h.2 i hi)⟩
theorem MT.pos {σ : Mem} {x : Int32} {D : Tn} (h : MT σ 7216 D) : MT (setI σ 134 13 x) 7216 D := h.kept (fun b _ _ => by rw [setI_1, if_neg (by omega)])
theorem M_byteAt {σ : Mem} {t n p : Nat} {v : Nat → Int32} (h : RT σ t v n) (ht : t < 4) (hn : n ≤ 60) (hp : p ≤ n) : F_X9_byteAt 134 (nI t) (nI p) σ = some (if p < n then v p else -1000) := by
  unfold F_X9_byteAt
  rw [gR_134_6, ob_some, aI_eq sh_140 ht (by decide), ob_some, h.1]
  by_cases q : p < n
  · rw [if_neg (nI_ge q (by omega)), gR_134_5, ob_some, ix60, aI_eq sh_139 (by omega) (by decide), ob_some, h.2 p q, if_pos q]
  · rw [if_pos (nI_le (by omega) (by omega)), if_neg q]
theorem M_blanks {t n : Nat} {v : Nat → Int32} (ht : t < 4) (hn : n ≤ 60) : ∀ f p σ, n - p = f → p ≤ n → RT σ t v n → σ.1 134 13 = nI p → ∃ σ', F_X9_blanks 134 (nI t) σ = some σ' ∧ σ'.1 134 13 = nI (sk v n p) ∧ (∀ a b, (a ≠ 134 ∨ b ≠ 13) → σ'.1 a b = σ.1 a b) ∧ σ'.2 = σ.2 := by
  intro f
  induction f with
  | zero =>
    intro p σ hf hp h hpos
    refine ⟨σ, ?_, by rw [sk_out (by omega)]; exact hpos, fun _ _ _ => rfl, rfl⟩
    unfold F_X9_blanks F_X9_blanks_0
    apply lp_out
    rw [gI_134_13, ob_some, hpos, M_byteAt h ht hn hp, ob_some, if_neg (show ¬ p < n by omega), if_neg (by decide)]
  | succ f ih =>
    intro p σ hf hp h hpos
    have hp2 : p < n := by omega
    by_cases q : v p = 32
    · obtain ⟨σ', e, k1, k2, k3⟩ := ih (p + 1) (setI σ 134 13 (nI (p + 1))) (by omega) (by omega) (h.kept FrP.pos) (by rw [setI_1, if_pos ⟨rfl, rfl⟩])
      refine ⟨σ', ?_, by rw [sk_in hp2 q]; exact k1, fun a b z => (k2 a b z).trans (by rw [setI_1, if_neg (by omega)]), k3⟩
      have st : F_X9_blanks_0 134 (nI t) σ = F_X9_blanks_0 134 (nI t) (setI σ 134 13 (nI (p + 1))) := by
        unfold F_X9_blanks_0
        apply lp_in
        rw [gI_134_13, ob_some, hpos, M_byteAt h ht hn hp, ob_some, if_pos hp2, if_pos q, ob_some, nI_1, pI_134_13, ob_some]
      show F_X9_blanks_0 134 (nI t) σ = some σ'
      rw [st]; exact e
    · refine ⟨σ, ?_, by rw [sk_out (fun z => q z.2)]; exact hpos, fun _ _ _ => rfl, rfl⟩
      unfold F_X9_blanks F_X9_blanks_0
      apply lp_out
      rw [gI_134_13, ob_some, hpos, M_byteAt h ht hn hp, ob_some, if_pos hp2, if_neg q]
theorem M_in9 {x : Int32} {l : Nat} {σ : Mem} : F_X9_in x.toInt64 (nI l).toInt64 (9 : Int64) σ = some (if nI l ≤ x ∧ x ≤ nI 9 then 1 else 0) := by
  rw [in_eq, wide, wide]
  by_cases q : nI l ≤ x ∧ x ≤ nI 9
  · rw [if_pos q, if_pos ⟨Int32.le_iff_toInt_le.mp q.1, Int32.le_iff_toInt_le.mp q.2⟩]
  · rw [if_neg q, if_neg (fun z => q ⟨Int32.le_iff_toInt_le.mpr z.1, Int32.le_iff_toInt_le.mpr z.2⟩)]
def updF (v : Nat → Int32) (p off ap : Nat) (D : Tn) : Nat → Tn
  | 0 => D
  | j + 1 => updT (updF v p off ap D j) (off + ap * j) (figN v (p + j))
theorem M_figs {σ : Mem} {t n p l many off ap : Nat} {v : Nat → Int32} {D : Tn} {x2 x3 x4 x5 : Int32} (h : RT σ t v n) (ht : t < 4) (hn : n ≤ 60) (hp : p ≤ n) (hl : l ≤ 1) (hpos : σ.1 134 13 = nI p) (hD : MT σ 7216 D) (ho : ∀ j, j < many → off + ap * j < 44) (hm : many ≤ 4) (e2 : x2 = nI many) (e3 : x3 = nI l) (e4 : x4 = nI (7216 + off)) (e5 : x5 = nI ap) : ∃ σ' b, F_X9_figures 134 (nI t) x2 x3 x4 x5 σ = some (b, σ') ∧ σ'.1 134 13 = nI (p + cfN v n l many p) ∧ p + cfN v n l many p ≤ n ∧ FrP σ σ' ∧ ((b = 1 ∧ cfN v n l many p = many ∧ MT σ' 7216 (updF v p off ap D many)) ∨ (b = 0 ∧ cfN v n l many p ≠ many)) := by
  have key : ∃ u, F_X9_figures_3 134 (nI t) (nI many) (nI l) (nI (7216 + off)) (nI ap) ((0 : Int32), σ) = some u ∧ ∃ b, u.1 = b ∧ u.2.1 134 13 = nI (p + cfN v n l many p) ∧ p + cfN v n l many p ≤ n ∧ FrP σ u.2 ∧ ((b = 1 ∧ cfN v n l many p = many ∧ MT u.2 7216 (updF v p off ap D many)) ∨ (b = 0 ∧ cfN v n l many p ≠ many)) := by
    unfold F_X9_figures_3
    refine lp_inv2 (fun j (u : Int32 × Mem) => u.1 = nI j ∧ u.2.1 134 13 = nI (p + j) ∧ p + j ≤ n ∧ FrP σ u.2 ∧ (∀ m, m < j → figP v n l (p + m)) ∧ MT u.2 7216 (updF v p off ap D j)) many ?_ ?_ _ ⟨rfl, hpos, hp, FrP.rf, fun m hm => absurd hm (by omega), hD⟩
    · intro j u hj ⟨a1, a2, a3, a4, a5, a6⟩
      have hu := h.kept a4
      rw [a1, if_neg (nI_ge hj (by omega)), gI_134_13, ob_some, a2, M_byteAt hu ht hn a3, ob_some]
      by_cases q : figP v n l (p + j)
      · obtain ⟨f1, f2, f3⟩ := figP_N (by omega) q
        have hoj := ho j hj
        have ix : nI (7216 + off) + (nI ap * nI j) = nI (7216 + (off + ap * j)) := by rw [pk_mul, nI_add, Nat.add_assoc]
        have m1 : MT (setI u.2 135 (7216 + (off + ap * j)) (nI (figN v (p + j)))) 7216 (updF v p off ap D (j + 1)) := a6.set
        have pz : (setI u.2 135 (7216 + (off + ap * j)) (nI (figN v (p + j)))).1 134 13 = nI (p + j) := by rw [setI_1, if_neg (by omega)]; exact a2
        refine Or.inl ⟨(nI (j + 1), setI (setI u.2 135 (7216 + (off + ap * j)) (nI (figN v (p + j)))) 134 13 (nI (p + j + 1))), ?_, rfl, ?_, ?_, ?_, fun m hm => ?_, ?_⟩
        · rw [if_pos q.1, M_in9, if_pos ⟨q.2.1, q.2.2⟩, ob_some, if_neg (by decide), wR, ob_some, ix, f1, w_wr (by omega), ob_some, gI_134_13, ob_some, pz, nI_1, pI_134_13, ob_some, nI_1]
        · show (setI (setI u.2 135 (7216 + (off + ap * j)) (nI (figN v (p + j)))) 134 13 (nI (p + j + 1))).1 134 13 = _
          rw [setI_1, if_pos ⟨rfl, rfl⟩]; rfl
        · have := q.1; omega
        · exact (a4.tr (FrP.set hoj)).tr FrP.pos
        · by_cases y : m = j
          · rw [y]; exact q
          · exact a5 m (by omega)
        · exact m1.pos
      · have ec := cfN_at many j p hj a5 q
        have hz : ∀ x : Int32, x = (if p + j < n then v (p + j) else -1000) → ¬ (nI l ≤ x - 48 ∧ x - 48 ≤ nI 9) := fun x hx z => by
          by_cases y : p + j < n
          · rw [if_pos y] at hx
            rw [hx] at z
            exact q ⟨y, z.1, z.2⟩
          · rw [if_neg y] at hx
            rw [hx] at z
            have hb := z.1
            have : l = 0 ∨ l = 1 := by omega
            rcases this with rfl | rfl
            · exact absurd hb (by decide)
            · exact absurd hb (by decide)
        obtain ⟨x, hx⟩ : ∃ x, (if p + j < n then v (p + j) else -1000) = x := ⟨_, rfl⟩
        rw [hx, M_in9, if_neg (hz x hx.symm), ob_some, if_pos rfl]
        exact Or.inr ⟨_, rfl, 0, rfl, by rw [ec]; exact a2, by rw [ec]; exact a3, a4, Or.inr ⟨rfl, by omega⟩⟩
    · intro u ⟨a1, a2, a3, a4, a5, a6⟩
      have ec := cfN_all many p a5
      exact ⟨(1, u.2), by rw [a1, if_pos (nI_le (Nat.le_refl _) (by omega))], 1, rfl, by rw [ec]; exact a2, by rw [ec]; exact a3, a4, Or.inl ⟨rfl, ec, a6⟩⟩
  obtain ⟨⟨u1, u2⟩, e, b, k1, k2, k3, k4, k5⟩ := key
  refine ⟨u2, b, ?_, k2, k3, k4, k5⟩
  unfold F_X9_figures
  rw [e2, e3, e4, e5, e, show u1 = b from k1]
theorem M_kindOf {x : Int32} {σ : Mem} : F_X9_kindOf x σ = some (if kdN x = 6 then -1 else nI (kdN x)) := by
  unfold F_X9_kindOf kdN
  by_cases h0 : x = 98
  · rw [if_pos h0, if_pos h0]; rfl
  rw [if_neg h0, if_neg h0]
  by_cases h1 : x = 115
  · rw [if_pos h1, if_pos h1]; rfl
  rw [if_neg h1, if_neg h1]
  by_cases h2 : x = 113
  · rw [if_pos h2, if_pos h2]; rfl
  rw [if_neg h2, if_neg h2]
  by_cases h3 : x = 99
  · rw [if_pos h3, if_pos h3]; rfl
  rw [if_neg h3, if_neg h3]
  by_cases h4 : x = 116
  · rw [if_pos h4, if_pos h4]; rfl
  rw [if_neg h4, if_neg h4]
  by_cases h5 : x = 119
  · rw [if_pos h5, if_pos h5]; rfl
  rw [if_neg h5, if_neg h5]
  rfl

/-! ===== copy, the reference's, and both ===== -/
theorem M_put {σ : Mem} {v : Nat → Int32} {b j c : Nat} (hb : b < 6) (hj : j + c ≤ 40) (hv : ∀ k, k < c → σ.1 141 k = v k) : ∃ q, F_X9_copy_128 134 (nI b) (nI j) (nI c) ((0 : Int32), σ) = some q ∧ (q.1 = 1 ∧ (∀ k, k < c → q.2.1 137 (b * 40 + j + k) = v k) ∧ (∀ x y, (x ≠ 137 ∨ y < b * 40 + j ∨ b * 40 + j + c ≤ y) → q.2.1 x y = σ.1 x y) ∧ q.2.2 = σ.2) := by
  unfold F_X9_copy_128
  refine lp_inv (Q := fun q : Int32 × Mem => q.1 = 1 ∧ (∀ k, k < c → q.2.1 137 (b * 40 + j + k) = v k) ∧ (∀ x y, (x ≠ 137 ∨ y < b * 40 + j ∨ b * 40 + j + c ≤ y) → q.2.1 x y = σ.1 x y) ∧ q.2.2 = σ.2) (fun n (s : Int32 × Mem) => s.1 = nI n ∧ (∀ k, k < n → s.2.1 137 (b * 40 + j + k) = v k) ∧ (∀ x y, (x ≠ 137 ∨ y < b * 40 + j ∨ b * 40 + j + c ≤ y) → s.2.1 x y = σ.1 x y) ∧ s.2.2 = σ.2) c ?_ ?_ _ ⟨rfl, fun k hk => absurd hk (Nat.not_lt_zero k), fun x y q => rfl, rfl⟩
  · intro n s hn ⟨a1, a2, a3, a4⟩
    refine ⟨(nI (n + 1), setI s.2 137 (b * 40 + j + n) (v n)), ?_, rfl, fun k hk => ?_, fun x y q => ?_, a4⟩
    · rw [a1, if_neg (nI_ge hn (by omega)), gR_134_3, ob_some, gR_134_7, ob_some, aI_eq sh_141 (by omega) (by decide), ob_some, a3 _ _ (by omega), hv n hn, ix40, nI_add, sI_eq sh_137 (by omega) (by decide), ob_some, nI_1]
    · rw [setI_1]
      by_cases z : k = n
      · subst z; rw [if_pos ⟨rfl, rfl⟩]
      · rw [if_neg (by omega)]; exact a2 k (by omega)
    · show (setI s.2 137 (b * 40 + j + n) (v n)).1 x y = _
      rw [setI_1, if_neg (by omega)]; exact a3 x y q
  · intro s ⟨a1, a2, a3, a4⟩
    exact ⟨(1, s.2), by rw [a1, if_pos (nI_le (Nat.le_refl _) (by omega))], rfl, a2, a3, a4⟩
theorem M_cop1 {σ : Mem} {v : Nat → Int32} {a b i j c : Nat} (ha : a < 6) (hb : b < 6) (hi : i + c ≤ 40) (hj : j + c ≤ 40) (hv : ∀ k, k < c → σ.1 137 (a * 40 + i + k) = v k) : ∃ q, F_X9_copy_91 134 (nI a) (nI i) (nI b) (nI j) (nI c) ((0 : Int32), σ) = some q ∧ (q.1 = 1 ∧ (∀ k, k < c → q.2.1 137 (b * 40 + j + k) = v k) ∧ (∀ x y, x ≠ 141 → (x ≠ 137 ∨ y < b * 40 + j ∨ b * 40 + j + c ≤ y) → q.2.1 x y = σ.1 x y) ∧ q.2.2 = σ.2) := by
  unfold F_X9_copy_91
  refine lp_inv (Q := fun q : Int32 × Mem => q.1 = 1 ∧ (∀ k, k < c → q.2.1 137 (b * 40 + j + k) = v k) ∧ (∀ x y, x ≠ 141 → (x ≠ 137 ∨ y < b * 40 + j ∨ b * 40 + j + c ≤ y) → q.2.1 x y = σ.1 x y) ∧ q.2.2 = σ.2) (fun n (s : Int32 × Mem) => s.1 = nI n ∧ (∀ k, k < n → s.2.1 141 k = v k) ∧ (∀ x y, x ≠ 141 → s.2.1 x y = σ.1 x y) ∧ s.2.2 = σ.2) c ?_ ?_ _ ⟨rfl, fun k hk => absurd hk (Nat.not_lt_zero k), fun x y q => rfl, rfl⟩
  · intro n s hn ⟨a1, a2, a3, a4⟩
    refine ⟨(nI (n + 1), setI s.2 141 n (v n)), ?_, rfl, fun k hk => ?_, fun x y q => ?_, a4⟩
    · rw [a1, if_neg (nI_ge hn (by omega)), gR_134_7, ob_some, gR_134_3, ob_some, ix40, nI_add, aI_eq sh_137 (by omega) (by decide), ob_some, a3 _ _ (by omega), hv n hn, sI_eq sh_141 (by omega) (by decide), ob_some, nI_1]
    · rw [setI_1]
      by_cases z : k = n
      · subst z; rw [if_pos ⟨rfl, rfl⟩]
      · rw [if_neg (by omega)]; exact a2 k (by omega)
    · show (setI s.2 141 n (v n)).1 x y = _
      rw [setI_1, if_neg (by omega)]; exact a3 x y q
  · intro s ⟨a1, a2, a3, a4⟩
    obtain ⟨q, e, b1, b2, b3, b4⟩ := M_put (σ := s.2) hb hj a2
    exact ⟨q, by rw [a1, if_pos (nI_le (Nat.le_refl _) (by omega)), e]; rfl, b1, b2, fun x y q1 q2 => (b3 x y q2).trans (a3 x y q1), b4.trans a4⟩
theorem M_cop {A : Ab} {a b i j c na nb : Nat} (ha : a < 6) (hb : b < 6) (h1 : A.1.1 a = some na) (h2 : A.1.1 b = some nb) (hi : i + c ≤ na) (hj : j + c ≤ nb) (σ : Mem) (h : RM A σ) : ∃ σ', F_X9_copy_91 134 (nI a) (nI i) (nI b) (nI j) (nI c) ((0 : Int32), σ) = some (1, σ') ∧ RM (rowA A b (some nb) (copF A a b i j c)) σ' ∧ FM σ σ' := by
  obtain ⟨n1, g1, g2⟩ := h.1.row ha h1
  obtain ⟨n2, g3, g4⟩ := h.1.row hb h2
  obtain ⟨⟨r, σ'⟩, e, rfl, k1, k2, k3⟩ := M_cop1 (σ := σ) (v := fun k => A.1.2 a (i + k)) (a := a) (b := b) (i := i) (j := j) (c := c) ha hb (by omega) (by omega) (fun k hk => by rw [Nat.add_assoc]; exact g2 _ (by omega))
  have keep : ∀ x y, x ≠ 141 → x ≠ 137 → σ'.1 x y = σ.1 x y := fun x y p q => k2 x y p (Or.inl q)
  have k3 : σ'.2 = σ.2 := k3
  refine ⟨σ', e, ⟨?_, h.2.1.kept (fun x y q => keep x y (by omega) (by omega)), h.2.2.1.kept (keep _ _ (by decide) (by decide)) (keep _ _ (by decide) (by decide)) (fun f => keep _ _ (by decide) (by decide)) (by rw [k3]) (by rw [k3]), h.2.2.2.kept (keep _ _ (by decide) (by decide)) (fun x y q => keep x y (by omega) (by omega))⟩, fun x y q => keep x y (by omega) (by omega), fun x y q => by rw [k3]⟩
  refine h.1.make (f := copF A a b i j c) n2 ((keep _ _ (by decide) (by decide)).trans g3) (fun y hy => ?_) (fun x q => keep _ _ (by decide) (by decide)) (fun y q => k2 _ _ (by decide) (by omega))
  unfold copF
  by_cases q : j ≤ y ∧ y < j + c
  · rw [if_pos q]
    have := k1 (y - j) (by omega)
    rw [show b * 40 + j + (y - j) = b * 40 + y by omega] at this
    exact this
  · rw [if_neg q]
    exact (k2 _ _ (by decide) (by omega)).trans (g4 y hy)

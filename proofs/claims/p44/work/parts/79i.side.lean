/-! ===== what lies beside is nobody's ===== -/
def FrO (σ σ' : Mem) : Prop := (∀ a b, (a < 26 ∨ a = 34 ∨ (a = 36 ∧ b = 9) ∨ a = 42 ∨ a = 43 ∨ 133 ≤ a) → σ'.1 a b = σ.1 a b) ∧ σ'.2 = σ.2
theorem FrO.rf {σ : Mem} : FrO σ σ := ⟨fun _ _ _ => rfl, rfl⟩
theorem FrO.tr {σ σ' σ'' : Mem} (h : FrO σ σ') (h2 : FrO σ' σ'') : FrO σ σ'' := ⟨fun a b q => (h2.1 a b q).trans (h.1 a b q), h2.2.trans h.2⟩
theorem FrO.set {a j : Nat} {v : Int32} {σ : Mem} (h1 : 26 ≤ a) (h2 : a ≠ 34) (h3 : a < 133) (h4 : a < 36 ∨ 43 < a := by decide) : FrO σ (setI σ a j v) := ⟨fun x y q => by rw [setI_1, if_neg (by omega)], rfl⟩
theorem FrK.o {k : Nat} {σ σ' : Mem} (h : FrK k σ σ') (h1 : 26 ≤ k) (h2 : k + 7 < 34 ∨ 34 < k) (h3 : k + 7 < 133) (h4 : k + 7 < 36 ∨ 43 < k) : FrO σ σ' := ⟨fun a b q => h.1 a b (by omega), h.2⟩
theorem RC.side {A : Ab} {σ σ' : Mem} (h : RC A σ) (f : FrO σ σ') : RC A σ' ∧ FC σ σ' :=
  ⟨⟨h.1.kept (fun a b p q => f.1 a b (by omega)), h.2.1.kept (fun a b p q => f.1 a b (by omega)), h.2.2.1.kept (f.1 _ _ (by decide)) (f.1 _ _ (by decide)) (fun j => f.1 _ _ (by omega)) (fun j => by rw [f.2]), h.2.2.2.kept (f.1 _ _ (by decide)) (fun a b q => f.1 a b (by omega))⟩, fun a b q => f.1 a b (by omega), fun a b q => by rw [f.2]⟩
/-- the reference's: trial, draft, held numbers, parts, values -/
def FrN (σ σ' : Mem) : Prop := (∀ a b, (a < 134 ∨ (a = 134 ∧ b ≠ 13) ∨ (a = 135 ∧ b < 7216) ∨ (136 ≤ a ∧ a ≤ 140) ∨ a = 142) → σ'.1 a b = σ.1 a b) ∧ ∀ a b, (a ≠ 134 ∨ b ≠ 16) → σ'.2 a b = σ.2 a b
theorem FrN.rf {σ : Mem} : FrN σ σ := ⟨fun _ _ _ => rfl, fun _ _ _ => rfl⟩
theorem FrN.tr {σ σ' σ'' : Mem} (h : FrN σ σ') (h2 : FrN σ' σ'') : FrN σ σ'' := ⟨fun a b q => (h2.1 a b q).trans (h.1 a b q), fun a b q => (h2.2 a b q).trans (h.2 a b q)⟩
theorem FrN.set {a j : Nat} {v : Int32} {σ : Mem} (h1 : (a = 134 ∧ j = 13) ∨ (a = 135 ∧ 7216 ≤ j) ∨ a = 141 ∨ 143 ≤ a) : FrN σ (setI σ a j v) := ⟨fun x y q => by rw [setI_1, if_neg (by omega)], fun _ _ _ => rfl⟩
theorem FrM.n {f : Nat} {σ σ' : Mem} (h : FrM f σ σ') (hf : 7216 ≤ f) : FrN σ σ' := ⟨fun a b q => h.1 a b (by omega), fun a b _ => by rw [h.2]⟩
theorem RM.side {tb : Prop} {A : Ab} {σ σ' : Mem} (hA : okDe tb A.2.2.2) (h : RM A σ) (f : FrN σ σ') : RM A σ' ∧ FM σ σ' := by
  obtain ⟨u1, u2, u3, u4⟩ := h.2.2.2
  have hdc := hA.2.1
  refine ⟨⟨h.1.kept (fun a b q => f.1 a b (by omega)), h.2.1.kept (fun a b q => f.1 a b (by omega)), h.2.2.1.kept (f.1 _ _ (by decide)) (f.1 _ _ (by decide)) (fun j => f.1 _ _ (by omega)) (f.2 _ _ (by decide)) (f.2 _ _ (by decide)), u1.kept (fun b p1 p2 => f.1 _ _ (by omega)), fun d hd => (u2 d hd).kept (fun b p1 p2 => f.1 _ _ (by omega)), (f.1 _ _ (by decide)).trans u3, fun k hk => ?_⟩, fun a b q => f.1 a b (by omega), fun a b q => f.2 a b (by omega)⟩
  have h2 := u4 k hk
  cases e : A.2.2.2.2.2.2.1 k with
  | none => rw [e] at h2; exact (f.1 _ _ (by omega)).trans h2
  | some n =>
    rw [e] at h2
    have hn := (hA.2.2.2.1 k n e).1
    exact ⟨(f.1 _ _ (by omega)).trans h2.1, h2.2.1.kept (fun b p1 p2 => f.1 _ _ (by omega)), fun d hd => (h2.2.2 d hd).kept (fun b p1 p2 => f.1 _ _ (by omega))⟩
/-! ===== pairs of nights and crossings ===== -/
abbrev goodP (f : Nat → Int32) (k : Nat) : Prop := (0 ≤ (f (2 * k)).toInt ∧ (f (2 * k)).toInt ≤ 99) ∧ 0 ≤ (f (2 * k + 1)).toInt ∧ (f (2 * k + 1)).toInt ≤ 30
def mP (f : Nat → Int32) (k : Nat) : Nat := (f (2 * k)).toInt.toNat
def cP (f : Nat → Int32) (k : Nat) : Nat := (f (2 * k + 1)).toInt.toNat
theorem goodP_m {f : Nat → Int32} {k : Nat} (h : goodP f k) : f (2 * k) = nI (mP f k) ∧ mP f k ≤ 99 := by
  obtain ⟨i, h1, h2⟩ := nat_of h.1.1
  have e : mP f k = i := by unfold mP; omega
  rw [e]
  exact ⟨h2, by have := h.1.2; omega⟩
theorem goodP_c {f : Nat → Int32} {k : Nat} (h : goodP f k) : f (2 * k + 1) = nI (cP f k) ∧ cP f k ≤ 30 := by
  obtain ⟨i, h1, h2⟩ := nat_of h.2.1
  have e : cP f k = i := by unfold cP; omega
  rw [e]
  exact ⟨h2, by have := h.2.2; omega⟩
/-- the pairs as the class holds them -/
def PC (σ : Mem) (f : Nat → Int32) (p : Nat) : Prop := σ.1 93 4 = nI p ∧ ∀ k, k < p → goodP f k ∧ σ.1 94 k = nI (mP f k) ∧ σ.1 95 k = nI (cP f k)
theorem PC.kept {σ σ' : Mem} {f : Nat → Int32} {p : Nat} (h : PC σ f p) (ho : ∀ a b, (a = 94 ∨ a = 95 ∨ (a = 93 ∧ b = 4)) → σ'.1 a b = σ.1 a b) : PC σ' f p := ⟨(ho _ _ (by decide)).trans h.1, fun k hk => ⟨(h.2 k hk).1, (ho _ _ (by omega)).trans (h.2 k hk).2.1, (ho _ _ (by omega)).trans (h.2 k hk).2.2⟩⟩
theorem hi99 {x : Int32} : ((99 : Int32) < x) ↔ ¬ x.toInt ≤ 99 := by
  rw [Int32.lt_iff_toInt_lt, show (99 : Int32).toInt = 99 from rfl]; omega
theorem hi30 {x : Int32} : (x ≤ (30 : Int32)) ↔ x.toInt ≤ 30 := by
  rw [Int32.le_iff_toInt_le, show (30 : Int32).toInt = 30 from rfl]
theorem C_take {σ : Mem} {r n : Nat} {f : Nat → Int32} (hr : r < 6) (hn : n ≤ 40) (h0 : σ.1 1 0 = nI 40) (h1 : σ.1 2 r = nI n) (h2 : ∀ j, j < n → σ.1 3 (r * 40 + j) = f j) : ∃ σ', FrO σ σ' ∧ (((∀ k, k < n / 2 → goodP f k) ∧ F_X0_take 93 1 (nI r) σ = some (1, σ') ∧ PC σ' f (n / 2)) ∨ ((¬ ∀ k, k < n / 2 → goodP f k) ∧ F_X0_take 93 1 (nI r) σ = some (0, σ'))) := by
  have e0 : nI n / (2 : Int32) = nI (n / 2) := pk_div (d := 2) (by omega) (by decide) (by decide)
  have key : ∃ t, F_X0_take_13 93 1 (nI r) ((0 : Int32), setI σ 93 4 (nI (n / 2))) = some t ∧ (FrO σ t.2 ∧ (((∀ k, k < n / 2 → goodP f k) ∧ t.1 = 1 ∧ PC t.2 f (n / 2)) ∨ ((¬ ∀ k, k < n / 2 → goodP f k) ∧ t.1 = 0))) := by
    unfold F_X0_take_13
    refine lp_inv2 (fun j (s : Int32 × Mem) => s.1 = nI j ∧ FrO σ s.2 ∧ s.2.1 93 4 = nI (n / 2) ∧ ∀ k, k < j → goodP f k ∧ s.2.1 94 k = nI (mP f k) ∧ s.2.1 95 k = nI (cP f k)) (n / 2) ?_ ?_ _ ⟨rfl, FrO.set (by decide) (by decide) (by decide), by rw [setI_1, if_pos ⟨rfl, rfl⟩], fun k hk => absurd hk (by omega)⟩
    · intro j s hj ⟨a1, a2, a3, a4⟩
      have i1 : (2 : Int32) * nI j = nI (2 * j) := pk_mul 2 j
      have i2 : ((2 : Int32) * nI j) + (1 : Int32) = nI (2 * j + 1) := by rw [i1, nI_1]
      have k0 : s.2.1 1 0 = nI 40 := (a2.1 _ _ (by decide)).trans h0
      have k1 : s.2.1 (1 + 1) r = nI n := (a2.1 _ _ (by omega)).trans h1
      have g1 : F_X6_get 1 (nI r) ((2 : Int32) * nI j) s.2 = some (f (2 * j)) := by
        rw [i1, S_get sf_1 hr k0 k1 hn (by omega), a2.1 _ _ (by omega), h2 _ (by omega)]
      have g2 : F_X6_get 1 (nI r) (((2 : Int32) * nI j) + (1 : Int32)) s.2 = some (f (2 * j + 1)) := by
        rw [i2, S_get sf_1 hr k0 k1 hn (by omega), a2.1 _ _ (by omega), h2 _ (by omega)]
      have w1 : F_X8_write 94 (nI j) (f (2 * j)) s.2 = some (setI s.2 94 j (f (2 * j))) := wr_eq (by decide) sh_94 (by omega) (by decide)
      have w2 : F_X8_write 95 (nI j) (f (2 * j + 1)) (setI s.2 94 j (f (2 * j))) = some (setI (setI s.2 94 j (f (2 * j))) 95 j (f (2 * j + 1))) := wr_eq (by decide) sh_95 (by omega) (by decide)
      have fr : FrO σ (setI (setI s.2 94 j (f (2 * j))) 95 j (f (2 * j + 1))) := (a2.tr (FrO.set (by decide) (by decide) (by decide))).tr (FrO.set (by decide) (by decide) (by decide))
      have hz : ¬ nI (n / 2) ≤ nI j := nI_ge hj (by omega)
      by_cases q : goodP f j
      · refine Or.inl ⟨(nI (j + 1), setI (setI s.2 94 j (f (2 * j))) 95 j (f (2 * j + 1))), ?_, rfl, fr, ?_, fun k hk => ?_⟩
        · rw [gI_93_4, ob_some, a3, a1, if_neg hz, ck_1, ob_some, g1, ob_some, ob_some, g2, ob_some, gR_93_0, ob_some, w1, ob_some, gR_93_1, ob_some, w2, ob_some, if_neg (fun z => by have := neg_iff.mp z; omega), if_neg (fun z => hi99.mp z q.1.2), if_neg (fun z => by have := neg_iff.mp z; omega), if_pos (hi30.mpr q.2.2), nI_1]
        · show (setI (setI s.2 94 j (f (2 * j))) 95 j (f (2 * j + 1))).1 93 4 = _
          rw [setI_1, if_neg (by omega), setI_1, if_neg (by omega)]; exact a3
        · show goodP f k ∧ (setI (setI s.2 94 j (f (2 * j))) 95 j (f (2 * j + 1))).1 94 k = _ ∧ (setI (setI s.2 94 j (f (2 * j))) 95 j (f (2 * j + 1))).1 95 k = _
          rw [setI_1, if_neg (by omega), setI_1, setI_1, setI_1]
          by_cases y : k = j
          · subst y
            rw [if_pos ⟨rfl, rfl⟩, if_pos ⟨rfl, rfl⟩]
            exact ⟨q, (goodP_m q).1, (goodP_c q).1⟩
          · rw [if_neg (by omega), if_neg (by omega), if_neg (by omega)]
            exact a4 k (by omega)
      · refine Or.inr ⟨((0 : Int32), setI (setI s.2 94 j (f (2 * j))) 95 j (f (2 * j + 1))), ?_, fr, Or.inr ⟨fun z => q (z j hj), rfl⟩⟩
        rw [gI_93_4, ob_some, a3, a1, if_neg hz, ck_1, ob_some, g1, ob_some, ob_some, g2, ob_some, gR_93_0, ob_some, w1, ob_some, gR_93_1, ob_some, w2, ob_some]
        by_cases q1 : f (2 * j) < 0
        · rw [if_pos q1]
        rw [if_neg q1]
        have q1' : ¬ (f (2 * j)).toInt < 0 := fun z => q1 (neg_iff.mpr z)
        by_cases q2 : (99 : Int32) < f (2 * j)
        · rw [if_pos q2]
        rw [if_neg q2]
        have q2' : (f (2 * j)).toInt ≤ 99 := Decidable.byContradiction fun z => q2 (hi99.mpr z)
        by_cases q3 : f (2 * j + 1) < 0
        · rw [if_pos q3]
        have q3' : ¬ (f (2 * j + 1)).toInt < 0 := fun z => q3 (neg_iff.mpr z)
        rw [if_neg q3, if_neg (fun z => q ⟨⟨by omega, q2'⟩, by omega, hi30.mp z⟩)]
    · intro s ⟨a1, a2, a3, a4⟩
      exact ⟨((1 : Int32), s.2), by rw [gI_93_4, ob_some, a3, a1, if_pos (nI_le (Nat.le_refl _) (by omega))], a2, Or.inl ⟨fun k hk => (a4 k hk).1, rfl, a3, a4⟩⟩
  obtain ⟨⟨t1, t2⟩, e, k1, k2⟩ := key
  have eF : F_X0_take 93 1 (nI r) σ = some (t1, t2) := by
    unfold F_X0_take
    rw [ck_1, ob_some, S_size sf_1 hr, h1, ob_some, e0, pI_93_4, ob_some, e]
  refine ⟨t2, k1, ?_⟩
  rcases k2 with ⟨p1, p2, p3⟩ | ⟨p1, p2⟩
  · exact Or.inl ⟨p1, by rw [eF, show t1 = 1 from p2], p3⟩
  · exact Or.inr ⟨p1, by rw [eF, show t1 = 0 from p2]⟩

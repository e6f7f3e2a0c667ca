/-! ===== marry: both sides ===== -/
theorem RC.putR {A : Ab} {σ σ' : Mem} {r n : Nat} {f : Nat → Int32} (h : RC A σ) (hr : r < 6) (hn : n ≤ 40) (e1 : σ'.1 2 r = nI n) (e2 : ∀ i, i < n → σ'.1 3 (r * 40 + i) = f i) (fr : FrS 1 r 40 σ σ') : RC (rowA A r (some n) f) σ' ∧ FC σ σ' := by
  have keep : ∀ a j, (a < 2 ∨ 3 < a) → σ'.1 a j = σ.1 a j := fun a j q => fr.1 a j (Or.inl (by omega)) (Or.inl (by omega))
  exact ⟨⟨h.1.make hr hn e1 e2 fr, h.2.1.kept (fun a j _ _ => keep a j (by omega)), h.2.2.1.kept (keep _ _ (by decide)) (keep _ _ (by decide)) (fun f => keep _ _ (by decide)) (fun j => by rw [fr.2]), h.2.2.2.kept (keep _ _ (by decide)) (fun a j q => keep a j (by omega))⟩, fun a j q => keep a j (by omega), fun a j q => by rw [fr.2]⟩
theorem RM.putR {A : Ab} {σ σ' : Mem} {r n : Nat} {f : Nat → Int32} (h : RM A σ) (hr : r < 6) (hn : n ≤ 40) (e1 : σ'.1 138 r = nI n) (e2 : ∀ i, i < n → σ'.1 137 (r * 40 + i) = f i) (fr : ∀ x y, (x ≠ 138 ∨ y ≠ r) → (x ≠ 137 ∨ y < r * 40 ∨ r * 40 + 40 ≤ y) → σ'.1 x y = σ.1 x y) (f2 : σ'.2 = σ.2) : RM (rowA A r (some n) f) σ' ∧ FM σ σ' := by
  have keep : ∀ a j, (a < 137 ∨ 138 < a) → σ'.1 a j = σ.1 a j := fun a j q => fr a j (Or.inl (by omega)) (Or.inl (by omega))
  exact ⟨⟨h.1.make hn e1 e2 (fun x q => fr _ _ (Or.inr q) (Or.inl (by decide))) (fun y q => fr _ _ (Or.inl (by decide)) (Or.inr q)), h.2.1.kept (fun a j q => keep a j (by omega)), h.2.2.1.kept (keep _ _ (by decide)) (keep _ _ (by decide)) (fun f => keep _ _ (by decide)) (by rw [f2]) (by rw [f2]), h.2.2.2.kept (keep _ _ (by decide)) (fun a j q => keep a j (by omega))⟩, fun a j q => keep a j (by omega), fun a j q => by rw [f2]⟩
theorem M_crossWith {σ : Mem} {T : Tn} {B i j : Nat} (h : MT σ 0 T) (hw : wfT B T) (hB : B ≤ 100000) (hi : i < T 0) (hj : j < T 0) : F_X9_crossWith 134 (nI i) (nI j) σ = some (nI (costT T i j)) := by
  have h6 := hw.1
  have bi := hw.2.2.1 i hi
  have bj := hw.2.2.1 j hj
  have g1 := gapT_le (T := T) (i := i) (j := j) bi.2.1 bj.2.2.1
  have hm : T 1 ≤ 100000 := Nat.le_trans hw.2.1 hB
  have v1 := h 1 (by decide)
  have v3 := h (3 + i) (by omega)
  have v21 := h (21 + i) (by omega)
  have v9 := h (9 + i) (by omega)
  have v15 := h (15 + j) (by omega)
  rw [Nat.zero_add] at v1 v3 v9 v15 v21
  have r1 : aI 135 (1 : Int32) σ = some (nI (T 1)) := (w_rd (j := 1) (by decide)).trans (by rw [v1])
  have eo : F_X9_off (nI (T (9 + i))) (nI (T (15 + j))) σ = some (nI (gapT T i j)) := off_eq bi.2.1 bj.2.2.1
  have ec : F_X9_crossBy 134 (nI (T (3 + i))) (nI (T (21 + i))) (nI (gapT T i j)) (nI (T 1)) σ = some (nI (costT T i j)) := M_crossBy (h.col _ (Nat.mod_lt _ (by decide))) bi.1 bi.2.2.2.1 g1 hm (hw.2.2.2.1 _ (Nat.mod_lt _ (by decide)))
  unfold F_X9_crossWith
  rw [wR, ob_some, show (3 : Int32) + nI i = nI (3 + i) from lx rfl, w_rd (by omega), ob_some, v3, ob_some, show (21 : Int32) + nI i = nI (21 + i) from lx rfl, w_rd (by omega), ob_some, v21, ob_some, show (9 : Int32) + nI i = nI (9 + i) from lx rfl, w_rd (by omega), ob_some, v9, ob_some, show (15 : Int32) + nI j = nI (15 + j) from lx rfl, w_rd (by omega), ob_some, v15, eo, ob_some, ob_some, r1, ob_some, ec, ob_some]
theorem nz_N {n : Nat} (h0 : 0 < n) (h : n < 2 ^ 31) : nz (nI n) = some () := if_neg (nI_ne0 h0 h)
theorem pow66 {n : Nat} (h6 : n ≤ 6) : n ^ n ≤ 46656 := by
  have h : ∀ n, n ≤ 6 → n ^ n ≤ 46656 := by decide
  exact h n h6
theorem M_code {σ : Mem} {T : Tn} {B n C : Nat} {s : Nat × Nat} {x1 x2 : Int32} (h : MT σ 0 T) (hw : wfT B T) (hB : B ≤ 100000) (hn : n = T 0) (h0 : 0 < n) (hC : C < n ^ n) (hs : s.2 ≤ 1000000) : F_X9_marry_83 134 x1 x2 (nI s.1) (nI s.2) (nI C) σ (nI C, (0 : Int32), (0 : Int32), nI n - (1 : Int32)) = some (.inl (nI (stp n (costT T) s C).1, nI (stp n (costT T) s C).2, nI (C + 1))) := by
  have h6 : n ≤ 6 := by rw [hn]; exact hw.1
  have p66 := pow66 h6
  have hc : ∀ i j, i < n → j < n → costT T i j ≤ 19 := by rw [hn]; exact cost_le hw
  have r0 : aI 135 (0 : Int32) σ = some (nI n) := by rw [hn]; exact M_r0 h
  have g64 := gN_64 h0 h6 n C
  have hgl := gs_le h0 hc n C (Nat.le_refl _)
  have key : ∃ t, F_X9_marry_83 134 x1 x2 (nI s.1) (nI s.2) (nI C) σ (nI C, (0 : Int32), (0 : Int32), nI n - (1 : Int32)) = some t ∧ t = .inl (nI (stp n (costT T) s C).1, nI (stp n (costT T) s C).2, nI (C + 1)) := by
    unfold F_X9_marry_83
    refine lp_inv (fun j (u : Int32 × Int32 × Int32 × Int32) => u.1 = nI (C / n ^ j) ∧ (u.2.1 ||| nI (gN n (n - j) (C / n ^ j))) = nI (gN n n C) ∧ (∃ x, u.2.2.1 = nI x ∧ x + gs n (costT T) (n - j) (C / n ^ j) = gs n (costT T) n C) ∧ u.2.2.2 = nI (n - j) + (-1 : Int32)) n ?_ ?_ _ ⟨?_, ?_, ⟨0, rfl, ?_⟩, ?_⟩
    · intro j u hj ⟨a1, a2, ⟨x, a3, a4⟩, a5⟩
      obtain ⟨m, hm⟩ : ∃ m, n - j = m + 1 := ⟨n - j - 1, by omega⟩
      rw [hm] at a2 a4 a5
      have a5' : u.2.2.2 = nI m := a5.trans (nI_m1 m)
      have hD : C / n ^ j / n = C / n ^ (j + 1) := by rw [Nat.div_div_eq_div_mul, ← Nat.pow_succ]
      have hl : C / n ^ j ≤ C := Nat.div_le_self _ _
      have hq : C / n ^ j % n < n := Nat.mod_lt _ h0
      have a2 : (u.2.1 ||| nI (ins (gN n m (C / n ^ j / n)) (C / n ^ j % n))) = nI (gN n n C) := a2
      have a4 : x + (gs n (costT T) m (C / n ^ j / n) + costT T m (C / n ^ j % n)) = gs n (costT T) n C := a4
      have hI := (ins_get (gN n m (C / n ^ j / n)) (gN_64 h0 h6 _ _) (C / n ^ j % n) (by omega)).1
      rw [hD] at a2 a4 hI
      have ecw := M_crossWith (i := m) (j := C / n ^ j % n) h hw hB (by omega) (by omega)
      refine ⟨(nI (C / n ^ (j + 1)), u.2.1 ||| ((1 : Int32) <<< (nI (C / n ^ j % n) &&& 31)), nI (x + costT T m (C / n ^ j % n)), nI m + (-1 : Int32)), ?_, rfl, ?_, ⟨_, rfl, ?_⟩, ?_⟩
      · rw [a1, a3, a5', if_neg (nI_pos (by omega)), wR, ob_some, r0, ob_some, nz_N h0 (by omega), ob_some, pk_rem (by omega) h0 (by omega)]
        dsimp only
        rw [ob_some, r0, ob_some, nz_N h0 (by omega), ob_some, pk_rem (by omega) h0 (by omega), ecw, ob_some, ob_some, r0, ob_some, nz_N h0 (by omega), ob_some, pk_div (by omega) h0 (by omega), nI_add, hD]
      · show ((u.2.1 ||| _) ||| nI (gN n (n - (j + 1)) (C / n ^ (j + 1)))) = _
        rw [show n - (j + 1) = m by omega, Int32.or_assoc, Int32.or_comm ((1 : Int32) <<< (nI (C / n ^ j % n) &&& 31)), hI, a2]
      · rw [show n - (j + 1) = m by omega]; omega
      · show nI m + (-1 : Int32) = nI (n - (j + 1)) + (-1)
        rw [show n - (j + 1) = m by omega]
    · intro u ⟨a1, a2, ⟨x, a3, a4⟩, a5⟩
      rw [Nat.sub_self] at a2 a4 a5
      have a2' : u.2.1 = nI (gN n n C) := by
        rw [← a2]
        show u.2.1 = (u.2.1 ||| (0 : Int32))
        rw [Int32.or_zero]
      have a4' : x = gs n (costT T) n C := a4
      have a5' : u.2.2.2 = -1 := a5
      have hf := full_iff n h6 (gN n n C) (gN_lt h0 h6 n C)
      refine ⟨_, ?_, rfl⟩
      unfold F_X9_marry_167 F_X9_marry_168 F_X9_marry_181
      rw [a5', if_pos (by decide), wR, ob_some, r0, ob_some, a2', a3, a4']
      by_cases q1 : popN (gN n n C) = n
      · rw [if_pos (hf.mpr q1)]
        by_cases q2 : gs n (costT T) n C < s.2
        · rw [if_neg (nI_ge q2 (by omega)), if_neg (by decide), if_neg (by decide), stp_yes ⟨q1, q2⟩, nI_1]
          rfl
        · rw [if_pos (nI_le (by omega) (by omega)), if_pos rfl, if_pos rfl, stp_no (fun z => q2 z.2), nI_1]
          rfl
      · rw [if_neg (fun z => q1 (hf.mp z)), if_pos rfl, if_pos rfl, stp_no (fun z => q1 z.1), nI_1]
        rfl
    · rw [Nat.pow_zero, Nat.div_one]
    · rw [Nat.pow_zero, Nat.div_one, Nat.sub_zero]
      show ((0 : Int32) ||| _) = _
      rw [Int32.zero_or]
    · rw [Nat.pow_zero, Nat.div_one, Nat.sub_zero, Nat.zero_add]
    · show nI n - (1 : Int32) = nI (n - 0) + (-1 : Int32)
      rw [Nat.sub_zero, show nI n = nI (n - 1 + 1) by rw [show n - 1 + 1 = n by omega], nI_m1, ← nI_1]
      exact Int32.add_sub_cancel _ _
  obtain ⟨t, e, rfl⟩ := key
  exact e

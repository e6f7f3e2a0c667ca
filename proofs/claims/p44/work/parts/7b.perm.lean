/-! ===== marry: codes, what they give, the best of some ===== -/
def ins (s d : Nat) : Nat := if bN s d = 1 then s else s + 2 ^ d
theorem ins_get : ∀ s, s < 64 → ∀ d, d < 6 → (nI s ||| ((1 : Int32) <<< (nI d &&& 31))) = nI (ins s d) ∧ popN (ins s d) = (if bN s d = 1 then popN s else popN s + 1) ∧ ins s d < 64 := by decide
theorem ins_lt : ∀ n, n ≤ 6 → ∀ s, s < 2 ^ n → ∀ d, d < n → ins s d < 2 ^ n := by decide
theorem full_iff : ∀ n, n ≤ 6 → ∀ s, s < 2 ^ n → (nI s = ((1 : Int32) <<< (nI n &&& 31)) - 1 ↔ popN s = n) := by decide
def gN (n : Nat) : Nat → Nat → Nat
  | 0, _ => 0
  | L + 1, C => ins (gN n L (C / n)) (C % n)
def gs (n : Nat) (c : Nat → Nat → Nat) : Nat → Nat → Nat
  | 0, _ => 0
  | L + 1, C => gs n c L (C / n) + c L (C % n)
def dg (n : Nat) : Nat → Nat → Nat → Nat
  | 0, _, _ => 0
  | L + 1, C, k => if k = L then C % n else dg n L (C / n) k
theorem dv_pow {n C D : Nat} : C / n / n ^ D = C / n ^ (D + 1) := by rw [Nat.div_div_eq_div_mul, Nat.mul_comm, ← Nat.pow_succ]
theorem gN_lt {n : Nat} (h0 : 0 < n) (h6 : n ≤ 6) : ∀ L C, gN n L C < 2 ^ n
  | 0, _ => Nat.two_pow_pos n
  | L + 1, C => ins_lt n h6 _ (gN_lt h0 h6 L (C / n)) _ (Nat.mod_lt _ h0)
theorem gN_64 {n : Nat} (h0 : 0 < n) (h6 : n ≤ 6) (L C : Nat) : gN n L C < 64 := by
  have h := gN_lt h0 h6 L C
  have h2 : 2 ^ n ≤ 2 ^ 6 := Nat.pow_le_pow_right (by decide) h6
  omega
theorem gN_step {n L C : Nat} (h0 : 0 < n) (h6 : n ≤ 6) : popN (gN n (L + 1) C) = (if bN (gN n L (C / n)) (C % n) = 1 then popN (gN n L (C / n)) else popN (gN n L (C / n)) + 1) := (ins_get _ (gN_64 h0 h6 L (C / n)) _ (by have := Nat.mod_lt C h0; omega)).2.1
theorem gN_pop {n : Nat} (h0 : 0 < n) (h6 : n ≤ 6) (L : Nat) : ∀ D C, popN (gN n (L + D) C) ≤ popN (gN n L (C / n ^ D)) + D
  | 0, C => by rw [Nat.pow_zero, Nat.div_one]; exact Nat.le_refl _
  | D + 1, C => by
    have ih := gN_pop h0 h6 L D (C / n)
    rw [dv_pow] at ih
    have h := gN_step (L := L + D) (C := C) h0 h6
    rw [show L + (D + 1) = L + D + 1 by omega, h]
    split <;> omega
theorem gs_mono {n : Nat} {c : Nat → Nat → Nat} (L : Nat) : ∀ D C, gs n c L (C / n ^ D) ≤ gs n c (L + D) C
  | 0, C => by rw [Nat.pow_zero, Nat.div_one]; exact Nat.le_refl _
  | D + 1, C => by
    have ih := gs_mono (c := c) (n := n) L D (C / n)
    rw [dv_pow] at ih
    show _ ≤ gs n c (L + D) (C / n) + c (L + D) (C % n)
    omega
theorem gs_le {n : Nat} {c : Nat → Nat → Nat} (h0 : 0 < n) (hc : ∀ i j, i < n → j < n → c i j ≤ 19) : ∀ L C, L ≤ n → gs n c L C ≤ 19 * L
  | 0, _, _ => Nat.le_refl _
  | L + 1, C, hL => by
    have ih := gs_le h0 hc L (C / n) (by omega)
    have h := hc L (C % n) (by omega) (Nat.mod_lt _ h0)
    show gs n c L (C / n) + c L (C % n) ≤ _
    omega
theorem dg_lt {n : Nat} (h0 : 0 < n) : ∀ L C k, dg n L C k < n
  | 0, _, _ => h0
  | L + 1, C, k => by
    show (if k = L then C % n else dg n L (C / n) k) < n
    split
    · exact Nat.mod_lt _ h0
    · exact dg_lt h0 L _ k
theorem dg_up {n : Nat} (L : Nat) : ∀ D C k, k < L → dg n (L + D) C k = dg n L (C / n ^ D) k
  | 0, C, k, _ => by rw [Nat.pow_zero, Nat.div_one]; rfl
  | D + 1, C, k, hk => by
    have ih := dg_up (n := n) L D (C / n) k hk
    rw [dv_pow] at ih
    show (if k = L + D then C % n else dg n (L + D) (C / n) k) = _
    rw [if_neg (by omega), ih]
/-- one code after another: the first of the least -/
def okC (n : Nat) (c : Nat → Nat → Nat) (s : Nat × Nat) (C : Nat) : Prop := popN (gN n n C) = n ∧ gs n c n C < s.2
def stp (n : Nat) (c : Nat → Nat → Nat) (s : Nat × Nat) (C : Nat) : Nat × Nat := if popN (gN n n C) = n ∧ gs n c n C < s.2 then (C, gs n c n C) else s
theorem stp_yes {n : Nat} {c : Nat → Nat → Nat} {s : Nat × Nat} {C : Nat} (h : okC n c s C) : stp n c s C = (C, gs n c n C) := if_pos h
theorem stp_no {n : Nat} {c : Nat → Nat → Nat} {s : Nat × Nat} {C : Nat} (h : ¬ okC n c s C) : stp n c s C = s := if_neg h
def fo (n : Nat) (c : Nat → Nat → Nat) (s : Nat × Nat) (a : Nat) : Nat → Nat × Nat
  | 0 => s
  | k + 1 => stp n c (fo n c s a k) (a + k)
theorem fo_split {n : Nat} {c : Nat → Nat → Nat} {s : Nat × Nat} {a k : Nat} : ∀ m, fo n c s a (k + m) = fo n c (fo n c s a k) (a + k) m
  | 0 => rfl
  | m + 1 => by
    show stp n c (fo n c s a (k + m)) (a + (k + m)) = stp n c (fo n c (fo n c s a k) (a + k) m) (a + k + m)
    rw [fo_split m, Nat.add_assoc]
theorem fo_same {n : Nat} {c : Nat → Nat → Nat} {s : Nat × Nat} {a : Nat} : ∀ k, (∀ C, a ≤ C → C < a + k → ¬ okC n c s C) → fo n c s a k = s
  | 0, _ => rfl
  | k + 1, h => by
    have ih := fo_same (n := n) (c := c) (s := s) (a := a) k (fun C h1 h2 => h C h1 (by omega))
    show stp n c (fo n c s a k) (a + k) = s
    rw [ih, stp_no (h (a + k) (by omega) (by omega))]
theorem fo_min {n : Nat} {c : Nat → Nat → Nat} {s : Nat × Nat} {a : Nat} : ∀ k, (fo n c s a k).2 ≤ s.2 ∧ ∀ C, a ≤ C → C < a + k → popN (gN n n C) = n → (fo n c s a k).2 ≤ gs n c n C
  | 0 => ⟨Nat.le_refl _, fun C h1 h2 => absurd h2 (by omega)⟩
  | k + 1 => by
    obtain ⟨i1, i2⟩ := fo_min (n := n) (c := c) (s := s) (a := a) k
    by_cases q : okC n c (fo n c s a k) (a + k)
    · have e : fo n c s a (k + 1) = (a + k, gs n c n (a + k)) := stp_yes q
      have hq : gs n c n (a + k) < (fo n c s a k).2 := q.2
      rw [e]
      refine ⟨by show gs n c n (a + k) ≤ _; omega, fun C h1 h2 h3 => ?_⟩
      show gs n c n (a + k) ≤ _
      by_cases y : C = a + k
      · rw [y]; exact Nat.le_refl _
      · have := i2 C h1 (by omega) h3; omega
    · have e : fo n c s a (k + 1) = fo n c s a k := stp_no q
      rw [e]
      refine ⟨i1, fun C h1 h2 h3 => ?_⟩
      by_cases y : C = a + k
      · rw [y] at h3 ⊢
        rcases Nat.lt_or_ge (gs n c n (a + k)) (fo n c s a k).2 with z | z
        · exact absurd ⟨h3, z⟩ q
        · exact z
      · exact i2 C h1 (by omega) h3
/-- all to whom they are married now -/
def idC (n : Nat) : Nat := if n = 1 then 0 else if n = 2 then 1 else if n = 3 then 5 else if n = 4 then 27 else if n = 5 then 194 else 1865
theorem idC_ok : ∀ n, n ≤ 6 → 0 < n → popN (gN n n (idC n)) = n ∧ idC n < n ^ n := by decide
theorem fo_end {n : Nat} {c : Nat → Nat → Nat} (h0 : 0 < n) (h6 : n ≤ 6) (hc : ∀ i j, i < n → j < n → c i j ≤ 19) : (fo n c (0, 1000000) 0 (n ^ n)).2 ≤ 114 := by
  obtain ⟨k1, k2⟩ := idC_ok n h6 h0
  have h := (fo_min (n := n) (c := c) (s := (0, 1000000)) (a := 0) (n ^ n)).2 (idC n) (Nat.zero_le _) (by omega) k1
  have h2 := gs_le h0 hc n (idC n) (Nat.le_refl _)
  omega
/-- a block of codes with one beginning -/
theorem blk_div {n D P C : Nat} (h0 : 0 < n) (h1 : P * n ^ D ≤ C) (h2 : C < P * n ^ D + n ^ D) : C / n ^ D = P := by
  have hp : 0 < n ^ D := Nat.pow_pos h0
  exact Nat.div_eq_of_lt_le h1 (by rw [Nat.succ_mul]; exact h2)
theorem blk_cut {n : Nat} {c : Nat → Nat → Nat} {s : Nat × Nat} {i D P : Nat} (h0 : 0 < n) (hn : i + D = n) (hs : s.2 ≤ gs n c i P) : fo n c s (P * n ^ D) (n ^ D) = s := by
  refine fo_same _ (fun C h1 h2 h3 => ?_)
  have e := blk_div h0 h1 h2
  have h := gs_mono (c := c) (n := n) i D C
  rw [e, hn] at h
  have := h3.2
  omega
theorem blk_twice {n : Nat} {c : Nat → Nat → Nat} {s : Nat × Nat} {i D P : Nat} (h0 : 0 < n) (h6 : n ≤ 6) (hn : i + D = n) (hs : popN (gN n i P) < i) : fo n c s (P * n ^ D) (n ^ D) = s := by
  refine fo_same _ (fun C h1 h2 h3 => ?_)
  have e := blk_div h0 h1 h2
  have h := gN_pop h0 h6 i D C
  rw [e, hn] at h
  have := h3.1
  omega
theorem blk_one {n : Nat} {c : Nat → Nat → Nat} {s : Nat × Nat} {P : Nat} (hp : popN (gN n n P) = n) (hs : gs n c n P < s.2) : fo n c s (P * n ^ 0) (n ^ 0) = (P, gs n c n P) := by
  rw [Nat.pow_zero, Nat.mul_one]
  exact stp_yes ⟨hp, hs⟩
theorem blk_next {n : Nat} {c : Nat → Nat → Nat} {s : Nat × Nat} {D P w : Nat} : fo n c s (P * n ^ (D + 1)) ((w + 1) * n ^ D) = fo n c (fo n c s (P * n ^ (D + 1)) (w * n ^ D)) ((P * n + w) * n ^ D) (n ^ D) := by
  rw [Nat.succ_mul, fo_split, Nat.add_mul, Nat.pow_succ, Nat.mul_assoc P n, Nat.mul_comm n]

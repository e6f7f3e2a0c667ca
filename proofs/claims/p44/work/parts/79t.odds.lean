theorem C_power {σ : Mem} {a k : Nat} (ha : a ≤ 12) (hk : k ≤ 6) : F_X8_power (nI a) (nI k) σ = some (lN (a ^ k)) := by
  have key : ∃ t, F_X8_power_5 (nI a) (nI k) σ ((1 : Int64), (0 : Int32)) = some t ∧ t = lN (a ^ k) := by
    unfold F_X8_power_5
    refine lp_inv (fun j (s : Int64 × Int32) => s.2 = nI j ∧ s.1 = lN (a ^ j)) k ?_ ?_ _ ⟨rfl, rfl⟩
    · intro j s hj ⟨a1, a2⟩
      exact ⟨(lN (a ^ (j + 1)), nI (j + 1)), by rw [a1, a2, if_neg (nI_ge hj (by omega)), nI_l (by omega), lN_mul, nI_1, Nat.pow_succ], rfl, rfl⟩
    · intro s ⟨a1, a2⟩
      exact ⟨s.1, by rw [a1, if_pos (nI_le (Nat.le_refl _) (by omega))], a2⟩
  obtain ⟨t, e, rfl⟩ := key
  unfold F_X8_power
  exact e
/-- how many ways a report has -/
def wayN (p o R : Nat) : Nat := p ^ popN R * (12 - p) ^ popN (o - R)
theorem way_le {p o R : Nat} (hp : p ≤ 12) : wayN p o R ≤ 12 ^ 12 := by
  have h1 : p ^ popN R ≤ 12 ^ 6 := Nat.le_trans (Nat.pow_le_pow_left hp _) (Nat.pow_le_pow_right (by decide) (pop_le R))
  have h2 : (12 - p) ^ popN (o - R) ≤ 12 ^ 6 := Nat.le_trans (Nat.pow_le_pow_left (by omega) _) (Nat.pow_le_pow_right (by decide) (pop_le _))
  exact Nat.le_trans (Nat.mul_le_mul h1 h2) (by decide)
theorem C_ways {σ : Mem} {p o R : Nat} (hp : p ≤ 12) (ho : o < 64) (hR : R < 64) (hs : subN R o = true) : F_X8_waysOfReport (nI R) (nI o) (nI p) σ = some (lN (wayN p o R)) := by
  unfold F_X8_waysOfReport
  rw [bc_pop hR, ob_some, C_power hp (pop_le R), ob_some, (sub_get o ho R hR hs).1, bc_pop (by omega), ob_some, show (12 : Int32) - nI p = nI (12 - p) from pk_sub (a := 12) hp, C_power (by omega) (pop_le _), ob_some, lN_mul]
  unfold wayN
  rfl
def facN (p o R j : Nat) : Nat := if bN o j = 0 then 1 else if bN R j = 0 then 12 - p else p
def prodN (p o R : Nat) : Nat → Nat
  | 0 => 1
  | n + 1 => prodN p o R n * facN p o R n
theorem sub_bits {o R : Nat} (hs : subN R o = true) : ∀ j, j < 6 → bN R j ≤ bN o j := by
  unfold subN at hs
  simp only [Bool.and_eq_true, decide_eq_true_eq] at hs
  obtain ⟨⟨⟨⟨⟨a0, a1⟩, a2⟩, a3⟩, a4⟩, a5⟩ := hs
  intro j hj
  unfold bN
  have c : j = 0 ∨ j = 1 ∨ j = 2 ∨ j = 3 ∨ j = 4 ∨ j = 5 := by clear a0 a1 a2 a3 a4 a5; omega
  rcases c with c | c | c | c | c | c
  · rw [c, Nat.pow_zero, Nat.div_one, Nat.div_one]; exact a0
  · rw [c]; exact a1
  · rw [c]; exact a2
  · rw [c]; exact a3
  · rw [c]; exact a4
  · rw [c]; exact a5
theorem sum_le {o R : Nat} (hs : ∀ j, j < 6 → bN R j ≤ bN o j) : ∀ n, n ≤ 6 → sumB R n ≤ sumB o n
  | 0, _ => Nat.le_refl _
  | n + 1, hn => Nat.add_le_add (sum_le hs n (by omega)) (hs n (by omega))
theorem prod_eq {p o R : Nat} (hs : ∀ j, j < 6 → bN R j ≤ bN o j) : ∀ n, n ≤ 6 → prodN p o R n = p ^ sumB R n * (12 - p) ^ (sumB o n - sumB R n)
  | 0, _ => rfl
  | n + 1, hn => by
    have ih := prod_eq (p := p) hs n (by omega)
    have h1 := hs n (by omega)
    have h2 := bN_le o n
    have h3 := sum_le hs n (by omega)
    show prodN p o R n * facN p o R n = p ^ (sumB R n + bN R n) * (12 - p) ^ (sumB o n + bN o n - (sumB R n + bN R n))
    rw [ih]
    unfold facN
    by_cases q : bN o n = 0
    · rw [if_pos q, q, show bN R n = 0 by omega, Nat.mul_one, Nat.add_zero, Nat.add_zero]
    · rw [if_neg q, show bN o n = 1 by omega]
      by_cases z : bN R n = 0
      · rw [if_pos z, z, Nat.add_zero, show sumB o n + 1 - sumB R n = (sumB o n - sumB R n) + 1 by omega, Nat.pow_succ, Nat.mul_assoc]
      · rw [if_neg z, show bN R n = 1 by omega, show sumB o n + 1 - (sumB R n + 1) = sumB o n - sumB R n by omega, Nat.pow_succ, Nat.mul_right_comm]
theorem prod_ways {p o R : Nat} (ho : o < 64) (hR : R < 64) (hs : subN R o = true) : prodN p o R 6 = wayN p o R := by
  have h := (sub_get o ho R hR hs).2.1
  rw [prod_eq (sub_bits hs) 6 (by decide), sumB_6, sumB_6]
  unfold wayN
  rw [show popN o - popN R = popN (o - R) by omega]
theorem bN_top {o n j : Nat} (h : o < 2 ^ n) (hj : n ≤ j) : bN o j = 0 := by
  unfold bN
  have h2 : 2 ^ n ≤ 2 ^ j := Nat.pow_le_pow_right (by decide) hj
  rw [Nat.div_eq_of_lt (by omega)]
theorem prod_top {p o R n : Nat} (h : o < 2 ^ n) : ∀ k, prodN p o R (n + k) = prodN p o R n
  | 0 => rfl
  | k + 1 => by
    show prodN p o R (n + k) * facN p o R (n + k) = _
    rw [prod_top h k]
    unfold facN
    rw [if_pos (bN_top h (by omega)), Nat.mul_one]
theorem M_ways {σ : Mem} {T : Tn} {p o R : Nat} (h : MT σ 0 T) (h6 : T 0 ≤ 6) (hp : p ≤ 12) (ho : o < 2 ^ T 0) (hR : R < 64) (hs : subN R o = true) : F_X9_waysOf 134 (nI o) (nI R) (nI p) σ = some (lN (wayN p o R)) := by
  have o64 : o < 64 := by
    have h2 : 2 ^ T 0 ≤ 2 ^ 6 := Nat.pow_le_pow_right (by decide) h6
    omega
  have v0 : σ.1 135 0 = nI (T 0) := h 0 (by decide)
  have r0 : aI 135 (0 : Int32) σ = some (nI (T 0)) := (w_rd (j := 0) (by decide)).trans (by rw [v0])
  have key : ∃ t, F_X9_waysOf_6 134 (nI o) (nI R) (nI p) σ ((1 : Int64), (0 : Int32)) = some t ∧ t = lN (wayN p o R) := by
    unfold F_X9_waysOf_6
    refine lp_inv (fun j (s : Int64 × Int32) => s.2 = nI j ∧ s.1 = lN (prodN p o R j)) (T 0) ?_ ?_ _ ⟨rfl, rfl⟩
    · intro j s hj ⟨a1, a2⟩
      refine ⟨(lN (prodN p o R (j + 1)), nI (j + 1)), ?_, rfl, rfl⟩
      have b1 := bN_le o j
      have b2 := bN_le R j
      have e12 : ((12 : Int32) - nI p).toInt64 = lN (12 - p) := by rw [show (12 : Int32) - nI p = nI (12 - p) from pk_sub (a := 12) hp, nI_l (by omega)]
      rw [a1, a2, wR, ob_some, r0, ob_some, if_neg (nI_ge hj (by omega)), M_has o64 (by omega), ob_some]
      unfold F_X9_waysOf_51
      show _ = some (Sum.inl (lN (prodN p o R j * facN p o R j), nI (j + 1)))
      unfold facN
      by_cases q : bN o j = 0
      · rw [if_pos q, q, if_pos (show nI 0 = (0 : Int32) from rfl), show (1 : Int64) = lN 1 from rfl, lN_mul, nI_1]
      · rw [if_neg q, if_neg (nI_ne0 (by omega) (by omega)), M_has hR (by omega), ob_some]
        by_cases z : bN R j = 0
        · rw [if_pos z, z, if_pos (show nI 0 = (0 : Int32) from rfl), e12, lN_mul, nI_1]
        · rw [if_neg z, if_neg (nI_ne0 (by omega) (by omega)), nI_l (by omega), lN_mul, nI_1]
    · intro s ⟨a1, a2⟩
      refine ⟨s.1, by rw [a1, wR, ob_some, r0, ob_some, if_pos (nI_le (Nat.le_refl _) (by omega))], ?_⟩
      rw [a2, ← prod_ways o64 hR hs, show (6 : Nat) = T 0 + (6 - T 0) by omega, prod_top ho]
  obtain ⟨t, e, rfl⟩ := key
  unfold F_X9_waysOf
  exact e
theorem nI_m1 (k : Nat) : nI (k + 1) + (-1 : Int32) = nI k := by
  rw [← nI_1, Int32.add_assoc, show (1 : Int32) + (-1) = 0 from rfl, Int32.add_zero]
theorem M_all {σ : Mem} {o : Nat} (ho : o < 64) : F_X9_allWays 134 (nI o) σ = some (lN (12 ^ popN o)) := by
  have hp := pop_le o
  have key : ∃ t, F_X9_allWays_8 σ ((1 : Int64), nI (popN o)) = some t ∧ t = lN (12 ^ popN o) := by
    unfold F_X9_allWays_8
    refine lp_inv (fun j (s : Int64 × Int32) => s.2 = nI (popN o - j) ∧ s.1 = lN (12 ^ j)) (popN o) ?_ ?_ _ ⟨rfl, rfl⟩
    · intro j s hj ⟨a1, a2⟩
      refine ⟨(lN (12 ^ (j + 1)), nI (popN o - (j + 1))), ?_, rfl, rfl⟩
      rw [a1, a2, show popN o - j = (popN o - (j + 1)) + 1 by omega, if_neg (show ¬ nI (popN o - (j + 1) + 1) ≤ 0 from nI_ge (a := 0) (by omega) (by omega)), show (12 : Int64) = lN 12 from rfl, lN_mul, nI_m1, Nat.pow_succ]
    · intro s ⟨a1, a2⟩
      exact ⟨s.1, by rw [a1, Nat.sub_self, if_pos (by decide)], a2⟩
  obtain ⟨t, e, rfl⟩ := key
  unfold F_X9_allWays
  rw [M_ones ho, ob_some]
  exact e
/-- odds: the ways of all reports of at least v -/
def oddS (p o v : Nat) : Nat → Nat
  | 0 => 0
  | R + 1 => if subN R o = true ∧ v ≤ popN R then oddS p o v R + wayN p o R else oddS p o v R
theorem oddS_le {p o v W : Nat} (hW : ∀ R, wayN p o R ≤ W) : ∀ R, oddS p o v R ≤ R * W
  | 0 => Nat.zero_le _
  | R + 1 => by
    have ih := oddS_le (p := p) (o := o) (v := v) hW R
    have h := hW R
    show (if subN R o = true ∧ v ≤ popN R then oddS p o v R + wayN p o R else oddS p o v R) ≤ _
    rw [Nat.succ_mul]
    split <;> omega

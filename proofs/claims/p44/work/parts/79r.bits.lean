/-! ===== chances: bits of six ===== -/
def bN (o j : Nat) : Nat := o / 2 ^ j % 2
def popN (o : Nat) : Nat := o % 2 + o / 2 % 2 + o / 4 % 2 + o / 8 % 2 + o / 16 % 2 + o / 32 % 2
def subN (R o : Nat) : Bool := (R % 2 ≤ o % 2) && (R / 2 % 2 ≤ o / 2 % 2) && (R / 4 % 2 ≤ o / 4 % 2) && (R / 8 % 2 ≤ o / 8 % 2) && (R / 16 % 2 ≤ o / 16 % 2) && (R / 32 % 2 ≤ o / 32 % 2)
theorem sub_iff : ∀ o, o < 64 → ∀ R, R < 64 → (nI R &&& (nI o ^^^ (-1)) = 0 ↔ subN R o = true) := by decide
theorem sub_get : ∀ o, o < 64 → ∀ R, R < 64 → subN R o = true → (nI o &&& (nI R ^^^ (-1)) = nI (o - R) ∧ popN (o - R) + popN R = popN o ∧ nI R &&& nI o = nI R) := by decide
theorem or_bit : ∀ n, n < 6 → ∀ o, o < 2 ^ n → (nI o ||| ((1 : Int32) <<< (nI n &&& 31))) = nI (o + 2 ^ n) := by decide
theorem get_bN : ∀ o, o < 64 → ∀ j, j < 6 → ((nI o >>> (nI j &&& 31)) &&& 1) = nI (bN o j) := by decide
theorem bc_pop {σ : Mem} {o : Nat} (h : o < 64) : F_J6_bitCount_0f7a4 (nI o) σ = some (nI (popN o)) := by
  unfold F_J6_bitCount_0f7a4
  have key : ∀ o, o < 64 → (let x0 := nI o
  let w1 := (x0 - ((x0.toUInt32 >>> ((1 : Int32).toUInt32 &&& Int32.toUInt32 31)).toInt32 &&& (1431655765 : Int32)))
  let w2 := ((w1 &&& (858993459 : Int32)) + ((w1.toUInt32 >>> ((2 : Int32).toUInt32 &&& Int32.toUInt32 31)).toInt32 &&& (858993459 : Int32)))
  let w3 := ((w2 + (w2.toUInt32 >>> ((4 : Int32).toUInt32 &&& Int32.toUInt32 31)).toInt32) &&& (252645135 : Int32))
  let w4 := (w3 + (w3.toUInt32 >>> ((8 : Int32).toUInt32 &&& Int32.toUInt32 31)).toInt32)
  let w5 := (w4 + (w4.toUInt32 >>> ((16 : Int32).toUInt32 &&& Int32.toUInt32 31)).toInt32)
  (w5 &&& (63 : Int32))) = nI (popN o) := by decide
  exact congrArg some (key o h)
theorem pop_le (o : Nat) : popN o ≤ 6 := by unfold popN; omega
theorem bN_le (o j : Nat) : bN o j ≤ 1 := by unfold bN; omega
def sumB (o : Nat) : Nat → Nat
  | 0 => 0
  | n + 1 => sumB o n + bN o n
theorem sumB_6 (o : Nat) : sumB o 6 = popN o := by
  show 0 + o / 2 ^ 0 % 2 + o / 2 ^ 1 % 2 + o / 2 ^ 2 % 2 + o / 2 ^ 3 % 2 + o / 2 ^ 4 % 2 + o / 2 ^ 5 % 2 = popN o
  unfold popN
  omega
theorem M_ones {σ : Mem} {o : Nat} (h : o < 64) : F_X9_ones (nI o) σ = some (nI (popN o)) := by
  have key : ∃ t, F_X9_ones_4 (nI o) σ ((0 : Int32), (0 : Int32)) = some t ∧ t = nI (popN o) := by
    unfold F_X9_ones_4
    refine lp_inv (fun j (s : Int32 × Int32) => s.2 = nI j ∧ s.1 = nI (sumB o j)) 6 ?_ ?_ _ ⟨rfl, rfl⟩
    · intro j s hj ⟨a1, a2⟩
      refine ⟨(nI (sumB o (j + 1)), nI (j + 1)), ?_, rfl, rfl⟩
      rw [a1, a2, if_neg (show ¬ (6 : Int32) ≤ nI j from nI_ge (b := 6) hj (by decide)), get_bN o h j hj, nI_add, nI_1]
      rfl
    · intro s ⟨a1, a2⟩
      exact ⟨s.1, by rw [a1, if_pos (show (6 : Int32) ≤ nI 6 by decide)], by rw [a2, sumB_6]⟩
  obtain ⟨t, e, rfl⟩ := key
  unfold F_X9_ones
  exact e
theorem M_has {σ : Mem} {o j : Nat} (h : o < 64) (hj : j < 6) : F_X9_has (nI o) (nI j) σ = some (nI (bN o j)) := by
  have b := bN_le o j
  unfold F_X9_has
  rw [get_bN o h j hj]
  by_cases q : bN o j = 1
  · rw [q, if_pos (show nI 1 = (1 : Int32) from rfl)]; rfl
  · rw [show bN o j = 0 by omega, if_neg (show ¬ nI 0 = (1 : Int32) by decide)]; rfl
/-- the bits of what holds, as a number -/
def bitN (P : Nat → Prop) [DecidablePred P] : Nat → Nat
  | 0 => 0
  | n + 1 => if P n then bitN P n + 2 ^ n else bitN P n
theorem bitN_lt {P : Nat → Prop} [DecidablePred P] : ∀ n, bitN P n < 2 ^ n
  | 0 => by show 0 < 2 ^ 0; decide
  | n + 1 => by
    have ih := bitN_lt (P := P) n
    show (if P n then bitN P n + 2 ^ n else bitN P n) < _
    rw [Nat.pow_succ]
    split <;> omega
theorem bit_N {P : Nat → Prop} [DecidablePred P] : ∀ n, n ≤ 6 → bitI P n = nI (bitN P n)
  | 0, _ => rfl
  | n + 1, hn => by
    have ih := bit_N (P := P) n (by omega)
    have hl := bitN_lt (P := P) n
    show (bitI P n ||| (if P n then ((1 : Int32) <<< (nI n &&& 31)) else 0)) = nI (if P n then bitN P n + 2 ^ n else bitN P n)
    rw [ih]
    by_cases q : P n
    · rw [if_pos q, if_pos q, or_bit n (by omega) _ hl]
    · rw [if_neg q, if_neg q, Int32.or_zero]
theorem bitN_64 {P : Nat → Prop} [DecidablePred P] {n : Nat} (hn : n ≤ 6) : bitN P n < 64 := by
  have := bitN_lt (P := P) n
  have h2 : 2 ^ n ≤ 2 ^ 6 := Nat.pow_le_pow_right (by decide) hn
  omega
theorem bitN_get {P : Nat → Prop} [DecidablePred P] {n j : Nat} (hn : n ≤ 6) (hj : j < 6) : bN (bitN P n) j = if j < n ∧ P j then 1 else 0 := by
  have h1 := bit_get (P := P) (th := j) (by omega) n (by omega)
  rw [bit_N n hn, get_bN _ (bitN_64 hn) j hj] at h1
  have b := bN_le (bitN P n) j
  by_cases q : j < n ∧ P j
  · rw [if_pos q] at h1 ⊢
    exact (nI_eq (a := bN (bitN P n) j) (b := 1) (by omega) (by decide)).mp h1
  · rw [if_neg q] at h1 ⊢
    exact (nI_eq (a := bN (bitN P n) j) (b := 0) (by omega) (by decide)).mp h1
/-- the beds that would be found -/
abbrev dueN (T : Tn) : Nat := bitN (fun j => dueT T j) (T 0)
theorem C_bits {σ : Mem} {k B : Nat} {T : Tn} (hk : Tw k) (h : CT σ k T) (hw : wfT B T) : F_X7_wouldBeFoundBits k σ = some (nI (dueN T)) := by
  have h6 := hw.1
  have key : ∃ t, F_X7_wouldBeFoundBits_4 k σ ((0 : Int32), (0 : Int32)) = some t ∧ t = nI (dueN T) := by
    unfold F_X7_wouldBeFoundBits_4
    refine lp_inv (fun j (s : Int32 × Int32) => s.2 = nI j ∧ s.1 = bitI (fun j => dueT T j) j) (T 0) ?_ ?_ _ ⟨rfl, rfl⟩
    · intro j s hj ⟨a1, a2⟩
      refine ⟨(bitI (fun j => dueT T j) (j + 1), nI (j + 1)), ?_, rfl, rfl⟩
      rw [a1, a2, tI_8 hk, ob_some, h.1, if_neg (nI_ge hj (by omega)), C_found hk h hw hj, ob_some]
      unfold F_X7_wouldBeFoundBits_28
      by_cases q : dueT T j
      · rw [if_pos q, if_neg (by decide), nI_1]
        show _ = some (Sum.inl (_ ||| (if dueT T j then _ else _), _))
        rw [if_pos q]
      · rw [if_neg q, if_pos rfl, nI_1]
        show _ = some (Sum.inl (_ ||| (if dueT T j then _ else _), _))
        rw [if_neg q]
    · intro s ⟨a1, a2⟩
      exact ⟨s.1, by rw [a1, tI_8 hk, ob_some, h.1, if_pos (nI_le (Nat.le_refl _) (by omega))], by rw [a2, bit_N _ h6]⟩
  obtain ⟨t, e, rfl⟩ := key
  unfold F_X7_wouldBeFoundBits
  exact e
theorem M_dueNow {σ : Mem} {B : Nat} {T : Tn} (h : MT σ 0 T) (hw : wfT B T) : F_X9_dueNow 134 σ = some (nI (dueN T)) := by
  have h6 := hw.1
  have v0 : σ.1 135 0 = nI (T 0) := h 0 (by decide)
  have r0 : aI 135 (0 : Int32) σ = some (nI (T 0)) := (w_rd (j := 0) (by decide)).trans (by rw [v0])
  have key : ∃ t, F_X9_dueNow_4 134 σ ((0 : Int32), (0 : Int32)) = some t ∧ t = nI (dueN T) := by
    unfold F_X9_dueNow_4
    refine lp_inv (fun j (s : Int32 × Int32) => s.2 = nI j ∧ s.1 = bitI (fun j => dueT T j) j) (T 0) ?_ ?_ _ ⟨rfl, rfl⟩
    · intro j s hj ⟨a1, a2⟩
      refine ⟨(bitI (fun j => dueT T j) (j + 1), nI (j + 1)), ?_, rfl, rfl⟩
      have dd : F_X9_isDue 134 (0 : Int32) (nI j) σ = some (if dueT T j then 1 else 0) := M_due h (by decide) hw hj
      rw [a1, a2, wR, ob_some, r0, ob_some, if_neg (nI_ge hj (by omega)), dd, ob_some]
      unfold F_X9_dueNow_31
      by_cases q : dueT T j
      · rw [if_pos q, if_neg (by decide), nI_1]
        show _ = some (Sum.inl (_ ||| (if dueT T j then _ else _), _))
        rw [if_pos q]
      · rw [if_neg q, if_pos rfl, nI_1]
        show _ = some (Sum.inl (_ ||| (if dueT T j then _ else _), _))
        rw [if_neg q]
    · intro s ⟨a1, a2⟩
      exact ⟨s.1, by rw [a1, wR, ob_some, r0, ob_some, if_pos (nI_le (Nat.le_refl _) (by omega))], by rw [a2, bit_N _ h6]⟩
  obtain ⟨t, e, rfl⟩ := key
  unfold F_X9_dueNow
  exact e

/-! ===== the class's shelves ===== -/
def Sf (b many room : Nat) : Prop := gR 6 1 b = some (b + 1) ∧ gR 6 2 b = some (b + 2) ∧ (∀ σ : Mem, gI 6 0 b σ = some (σ.1 b 0)) ∧ chk 6 b = some () ∧ shp (b + 1) = .inr (.inl many) ∧ shp (b + 2) = .inr (.inl (many * room)) ∧ b + 2 < nW ∧ many ≤ 6 ∧ room ≤ 60 ∧ 0 < many ∧ 0 < room
theorem sf_1 : Sf 1 6 40 := ⟨rfl, rfl, fun _ => rfl, rfl, rfl, rfl, by decide, by decide, by decide, by decide, by decide⟩
theorem sf_4 : Sf 4 4 60 := ⟨rfl, rfl, fun _ => rfl, rfl, rfl, rfl, by decide, by decide, by decide, by decide, by decide⟩
theorem sf_7 : Sf 7 3 40 := ⟨rfl, rfl, fun _ => rfl, rfl, rfl, rfl, by decide, by decide, by decide, by decide, by decide⟩
theorem m1_lt {n : Nat} : (-1 : Int32) < 0 := by decide
/-- a row's size is -1, or a number up to its room -/
def Sz (room : Nat) (x : Int32) (o : Option Nat) : Prop := match o with
  | none => x = -1
  | some n => x = nI n ∧ n ≤ room
theorem ixr {r m i : Nat} : (nI r * nI m) + nI i = nI (r * m + i) := by rw [pk_mul, nI_add]
theorem ix_lt {r many room i : Nat} (hr : r < many) (hi : i < room) : r * room + i < many * room := by
  have : (r + 1) * room ≤ many * room := Nat.mul_le_mul_right room hr
  rw [Nat.succ_mul] at this
  omega
section SHF
variable {b many room r n i : Nat} {σ : Mem} {x : Int32}
theorem S_numno (h : Sf b many room) (hx : x < 0 ∨ nI many ≤ x) : F_X6_isNumber b x σ = some 0 := by
  unfold F_X6_isNumber
  by_cases q : x < 0
  · rw [if_pos q]
  · rw [if_neg q, h.1, ob_some, aN_eq (by have := h.2.2.2.2.2.2.1; omega) h.2.2.2.2.1, ob_some, if_pos (hx.resolve_left q)]
theorem S_num (h : Sf b many room) (hr : r < many) : F_X6_isNumber b (nI r) σ = some 1 := by
  have h7 := h.2.2.2.2.2.2.2.1
  unfold F_X6_isNumber
  rw [if_neg (nI_pos (by omega)), h.1, ob_some, aN_eq (by have := h.2.2.2.2.2.2.1; omega) h.2.2.2.2.1, ob_some, if_neg (nI_ge hr (by omega))]
theorem S_size (h : Sf b many room) (hr : r < many) : F_X6_size b (nI r) σ = some (σ.1 (b + 1) r) := by
  have h7 := h.2.2.2.2.2.2.2.1
  unfold F_X6_size
  rw [if_neg (nI_pos (by omega)), h.1, ob_some, aN_eq (by have := h.2.2.2.2.2.2.1; omega) h.2.2.2.2.1, ob_some, if_neg (nI_ge hr (by omega)), ob_some, aJ_eq (by have := h.2.2.2.2.2.2.1; omega) h.2.2.2.2.1 hr (by omega), ob_some]
theorem S_stands (h : Sf b many room) (hr : r < many) : F_X6_stands b (nI r) σ = some (if σ.1 (b + 1) r < 0 then 0 else 1) := by
  unfold F_X6_stands
  rw [S_size h hr, ob_some]
  split <;> rfl
theorem S_get (h : Sf b many room) (hr : r < many) (hrm : σ.1 b 0 = nI room) (hs : σ.1 (b + 1) r = nI n) (hn : n ≤ room) (hi : i < n) : F_X6_get b (nI r) (nI i) σ = some (σ.1 (b + 2) (r * room + i)) := by
  obtain ⟨g1, g2, g3, g4, g5, g6, g7, g8, g9, g10, g11⟩ := h
  have h1 := ix_lt hr (show i < room by omega)
  have h2 : many * room ≤ 6 * 60 := Nat.mul_le_mul g8 g9
  unfold F_X6_get
  rw [if_neg (nI_pos (by omega)), S_size ⟨g1, g2, g3, g4, g5, g6, g7, g8, g9, g10, g11⟩ hr, ob_some, hs, if_neg (nI_ge hi (by omega)), g2, ob_some, g3, ob_some, hrm, ixr, rd_eq g7 g6 h1 (by omega), ob_some]
theorem S_set {v : Int32} (h : Sf b many room) (hr : r < many) (hrm : σ.1 b 0 = nI room) (hs : σ.1 (b + 1) r = nI n) (hn : n ≤ room) (hi : i < n) : F_X6_set b (nI r) (nI i) v σ = some (setI σ (b + 2) (r * room + i) v) := by
  obtain ⟨g1, g2, g3, g4, g5, g6, g7, g8, g9, g10, g11⟩ := h
  have h1 := ix_lt hr (show i < room by omega)
  have h2 : many * room ≤ 6 * 60 := Nat.mul_le_mul g8 g9
  unfold F_X6_set
  rw [if_neg (nI_pos (by omega)), S_size ⟨g1, g2, g3, g4, g5, g6, g7, g8, g9, g10, g11⟩ hr, ob_some, hs, if_neg (nI_ge hi (by omega)), g2, ob_some, g3, ob_some, hrm, ixr, wr_eq g7 g6 h1 (by omega), ob_some]
/-- some places of a row: whether they are there -/
theorem S_holds1 (h : Sf b many room) (hr : r < many) (hs : σ.1 (b + 1) r = nI n) (hn : n ≤ room) : F_X6_holds b (nI r) x 1 σ = some (if x < 0 ∨ nI n ≤ x then 0 else 1) := by
  have h9 := h.2.2.2.2.2.2.2.2.1
  unfold F_X6_holds
  by_cases q : x < 0
  · rw [if_pos q, if_pos (Or.inl q)]
  · rw [if_neg q, if_neg (by decide), S_size h hr, ob_some, hs]
    have e2 : (nI n - (1 : Int32)).toInt = (n : Int) - 1 := pk_sub_toInt (a := n) (b := 1) (by omega) (by decide)
    have e3 : (nI n - (1 : Int32)) < x ↔ nI n ≤ x := by
      rw [Int32.lt_iff_toInt_lt, Int32.le_iff_toInt_le, e2, nI_toInt (by omega)]
      omega
    by_cases z : nI n ≤ x
    · rw [if_pos (e3.mpr z), if_pos (show x < 0 ∨ nI n ≤ x from Or.inr z)]
    · rw [if_neg (fun y => z (e3.mp y)), if_neg (show ¬ (x < 0 ∨ nI n ≤ x) from fun y => y.elim q z)]
theorem S_remove (h : Sf b many room) (hr : r < many) : F_X6_remove b (nI r) σ = some (setI σ (b + 1) r (-1)) := by
  unfold F_X6_remove
  rw [h.1, ob_some, wr_eq (by have := h.2.2.2.2.2.2.1; omega) h.2.2.2.2.1 hr (by have := h.2.2.2.2.2.2.2.1; omega), ob_some]
/-- what making a row leaves -/
def FrS (b r room : Nat) (σ σ' : Mem) : Prop := (∀ x y, (x ≠ b + 1 ∨ y ≠ r) → (x ≠ b + 2 ∨ y < r * room ∨ r * room + room ≤ y) → σ'.1 x y = σ.1 x y) ∧ σ'.2 = σ.2
theorem S_make {v : Int32} (h : Sf b many room) (hr : r < many) (hrm : σ.1 b 0 = nI room) (hn : n ≤ room) : ∃ σ', F_X6_make b (nI r) (nI n) v σ = some σ' ∧ σ'.1 (b + 1) r = nI n ∧ (∀ i, i < n → σ'.1 (b + 2) (r * room + i) = v) ∧ FrS b r room σ σ' := by
  have h8 := h.2.2.2.2.2.2.2.1
  have h9 := h.2.2.2.2.2.2.2.2.1
  unfold F_X6_make
  rw [h.1, ob_some, h.2.2.1, ob_some, hrm]
  have e : (if nI room < nI n then nI room else nI n) = nI n := if_neg (nI_nlt hn (by omega))
  rw [e, wr_eq (by have := h.2.2.2.2.2.2.1; omega) h.2.2.2.2.1 hr (by omega), ob_some]
  unfold F_X6_make_19
  refine lp_inv (Q := fun t : Mem => t.1 (b + 1) r = nI n ∧ (∀ i, i < n → t.1 (b + 2) (r * room + i) = v) ∧ FrS b r room σ t) (fun j (s : Int32 × Mem) => s.1 = nI j ∧ s.2.1 (b + 1) r = nI n ∧ s.2.1 b 0 = nI room ∧ (∀ i, i < j → s.2.1 (b + 2) (r * room + i) = v) ∧ FrS b r room σ s.2) n ?_ ?_ _ ⟨rfl, ?_, ?_, fun i hi => absurd hi (Nat.not_lt_zero i), fun x y q _ => ?_, rfl⟩
  · intro j s hj ⟨a1, a2, a3, a4, a5⟩
    refine ⟨(nI (j + 1), setI s.2 (b + 2) (r * room + j) v), ?_, rfl, ?_, ?_, fun i hi => ?_, fun x y q1 q2 => ?_, ?_⟩
    · rw [a1, if_neg (nI_ge hj (by omega)), h.2.2.1, ob_some, a3, if_neg (nI_ge (show j < room by omega) (by omega)), S_set h hr a3 a2 hn hj, ob_some, nI_1]
    · rw [setI_1, if_neg (by omega)]; exact a2
    · rw [setI_1, if_neg (by omega)]; exact a3
    · rw [setI_1]
      by_cases z : i = j
      · subst z; rw [if_pos ⟨rfl, rfl⟩]
      · rw [if_neg (by omega)]; exact a4 i (by omega)
    · show (setI s.2 (b + 2) (r * room + j) v).1 x y = _
      rw [setI_1, if_neg (by omega)]; exact a5.1 x y q1 q2
    · exact a5.2
  · intro s ⟨a1, a2, a3, a4, a5⟩
    exact ⟨s.2, by rw [a1, if_pos (nI_le (Nat.le_refl _) (by omega))], a2, a4, a5⟩
  · rw [setI_1, if_pos ⟨rfl, rfl⟩]
  · rw [setI_1, if_neg (by omega)]; exact hrm
  · rw [setI_1, if_neg (by omega)]
end SHF

/-! ===== copy ===== -/
theorem sub_pos {n : Nat} {y : Int32} (hn : n ≤ 1000) (hy : 0 ≤ y.toInt) : (nI n - y).toInt = (n : Int) - y.toInt := by
  have h2 := Int32.toInt_lt y
  rw [Int32.toInt_sub, nI_toInt (by omega)]
  exact Int.bmod_eq_of_le (by omega) (by omega)
theorem add64 {x y : Int32} : (x.toInt64 + y.toInt64).toInt = x.toInt + y.toInt := by
  have h1 := Int32.toInt_lt x
  have h2 := Int32.toInt_lt y
  have h3 := Int32.le_toInt x
  have h4 := Int32.le_toInt y
  rw [Int64.toInt_add, wide, wide]
  exact Int.bmod_eq_of_le (by omega) (by omega)
theorem neg_iff {x : Int32} : x < 0 ↔ x.toInt < 0 := by rw [Int32.lt_iff_toInt_lt]; rfl
theorem S_holds {σ : Mem} {b many room r n : Nat} {x y : Int32} (h : Sf b many room) (hr : r < many) (hs : σ.1 (b + 1) r = nI n) (hn : n ≤ room) (hy : 0 ≤ y.toInt) : F_X6_holds b (nI r) x y σ = some (if 0 ≤ x.toInt ∧ x.toInt + y.toInt ≤ n then 1 else 0) := by
  have h9 := h.2.2.2.2.2.2.2.2.1
  unfold F_X6_holds
  by_cases q : x < 0
  · have q' := neg_iff.mp q
    rw [if_pos q, if_neg (by omega)]
  · have q' : ¬ x.toInt < 0 := fun z => q (neg_iff.mpr z)
    rw [if_neg q, if_neg (show ¬ y < 0 from fun z => by have := neg_iff.mp z; omega), S_size h hr, ob_some, hs]
    have e2 := sub_pos (n := n) (y := y) (by omega) hy
    by_cases z : (nI n - y) < x
    · rw [if_pos z]
      rw [Int32.lt_iff_toInt_lt, e2] at z
      rw [if_neg (by omega)]
    · rw [if_neg z]
      rw [Int32.lt_iff_toInt_lt, e2] at z
      rw [if_pos (by omega)]
theorem M_fits {σ : Mem} {n : Nat} {x y : Int32} (hn : n ≤ 1000) (hy : 0 ≤ y.toInt) : F_X9_fits x y (nI n) σ = some (if 0 ≤ x.toInt ∧ x.toInt + y.toInt ≤ n then 1 else 0) := by
  unfold F_X9_fits
  by_cases q : x < 0
  · have q' := neg_iff.mp q
    rw [if_pos q, if_neg (by omega)]
  · have q' : ¬ x.toInt < 0 := fun z => q (neg_iff.mpr z)
    rw [if_neg q]
    have e : (0 < (lg_cmp (x.toInt64 + y.toInt64) (nI n).toInt64)) ↔ (n : Int) < x.toInt + y.toInt := by
      rw [cmp_gt0, Int64.lt_iff_toInt_lt, add64, wide, nI_toInt (by omega)]
    by_cases z : (n : Int) < x.toInt + y.toInt
    · rw [if_pos (e.mpr z), if_neg (by omega)]
    · rw [if_neg (fun w => z (e.mp w)), if_pos (by omega)]
theorem nat_of {x : Int32} (h : 0 ≤ x.toInt) : ∃ i : Nat, (i : Int) = x.toInt ∧ x = nI i := by
  refine ⟨x.toInt.toNat, by omega, ?_⟩
  have h2 := Int32.toInt_lt x
  apply Int32.toInt_inj.mp
  rw [nI_toInt (by omega)]
  omega
theorem cp_eq {a b la lb sp dp n : Nat} {σ : Mem} (ha : shp a = .inr (.inl la)) (hb : shp b = .inr (.inl lb)) (h1 : sp + n ≤ la) (h2 : dp + n ≤ lb) (hl : la ≤ 100000 ∧ lb ≤ 100000) (h3 : a < nW) (h4 : b < nW) : cpI a (nI sp) b (nI dp) (nI n) σ = some (fun x y => if x = b then va_cpy (σ.1 a) (σ.1 b) sp dp n y else σ.1 x y, σ.2) := by
  unfold cpI
  rw [ha, hb]
  dsimp only
  rw [if_pos (by rw [nI_toInt (by omega), nI_toInt (by omega), nI_toInt (by omega)]; omega)]
  have e : ∀ m : Nat, m < 2 ^ 31 → (nI m).toNatClampNeg = m := fun m hm => by
    show (nI m).toInt.toNat = m
    rw [nI_toInt hm]; rfl
  rw [e sp (by omega), e dp (by omega), e n (by omega)]
theorem cp_ex {a b la lb sp dp n : Nat} {σ : Mem} (ha : shp a = .inr (.inl la)) (hb : shp b = .inr (.inl lb)) (h1 : sp + n ≤ la) (h2 : dp + n ≤ lb) (hl : la ≤ 100000 ∧ lb ≤ 100000) (h3 : a < nW) (h4 : b < nW) : ∃ σ', cpI a (nI sp) b (nI dp) (nI n) σ = some σ' ∧ (∀ y, dp ≤ y → y < dp + n → σ'.1 b y = σ.1 a (sp + (y - dp))) ∧ (∀ x y, (x ≠ b ∨ y < dp ∨ dp + n ≤ y) → σ'.1 x y = σ.1 x y) ∧ σ'.2 = σ.2 := by
  refine ⟨_, cp_eq ha hb h1 h2 hl h3 h4, fun y q1 q2 => ?_, fun x y q => ?_, rfl⟩
  · show (if b = b then va_cpy (σ.1 a) (σ.1 b) sp dp n y else _) = _
    rw [if_pos rfl, pk_cpy_in q1 q2]
  · show (if x = b then va_cpy (σ.1 a) (σ.1 b) sp dp n y else σ.1 x y) = _
    by_cases z : x = b
    · rw [if_pos z, z, pk_cpy_out (q.resolve_left (fun w => w z))]
    · rw [if_neg z]
/-- row b with c numbers of row a from i on, from j on -/
def copF (A : Ab) (a b i j c : Nat) : Nat → Int32 := fun y => if j ≤ y ∧ y < j + c then A.1.2 a (i + (y - j)) else A.1.2 b y
theorem rw_bnd {r i n : Nat} (hr : r < 6) (hn : i + n ≤ 40) : r * 40 + i + n ≤ 240 := by omega
theorem C_cop {A : Ab} {a b i j c na nb : Nat} (ha : a < 6) (hb : b < 6) (h1 : A.1.1 a = some na) (h2 : A.1.1 b = some nb) (hi : i + c ≤ na) (hj : j + c ≤ nb) (σ : Mem) (h : RC A σ) : ∃ σ', F_X6_move 1 (nI a) (nI i) (nI b) (nI j) (nI c) σ = some σ' ∧ RC (rowA A b (some nb) (copF A a b i j c)) σ' ∧ FC σ σ' := by
  obtain ⟨n1, g1, g2⟩ := h.1.row ha h1
  obtain ⟨n2, g3, g4⟩ := h.1.row hb h2
  have e40 : ∀ r x : Nat, (nI r * nI 40) + nI x = nI (r * 40 + x) := fun r x => by rw [pk_mul, nI_add]
  obtain ⟨σ', e, k1, k2, k3⟩ := cp_ex (σ := σ) (a := 3) (b := 3) (sp := a * 40 + i) (dp := b * 40 + j) (n := c) sh_3 sh_3 (by omega) (by omega) (by decide) (by decide) (by decide)
  have en : nI 240 - nI c = nI (240 - c) := pk_sub (by omega)
  have keep : ∀ x y, x ≠ 3 → σ'.1 x y = σ.1 x y := fun x y q => k2 x y (Or.inl q)
  refine ⟨σ', ?_, ⟨?_, h.2.1.kept (fun x y p q => keep x y (by omega)), h.2.2.1.kept (keep _ _ (by decide)) (keep _ _ (by decide)) (fun f => keep _ _ (by decide)) (fun f => by rw [k3]), h.2.2.2.kept (keep _ _ (by decide)) (fun x y q => keep x y (by omega))⟩, fun x y q => keep x y (by omega), fun x y q => by rw [k3]⟩
  · unfold F_X6_move
    rw [gR_1_2, ob_some, gI_1_0, ob_some, h.1.1, e40, ob_some, e40]
    unfold F_X8_shift
    rw [aN_eq (by decide) sh_3, ob_some, if_neg (nI_pos (by omega)), if_neg (nI_pos (by omega)), en, if_neg (nI_nlt (by omega) (by omega)), if_neg (nI_pos (by omega)), if_neg (nI_nlt (by omega) (by omega)), e, ob_some, ob_some]
  · refine h.1.make (f := copF A a b i j c) hb n2 ((keep _ _ (by decide)).trans g3) (fun y hy => ?_) ⟨fun x y q1 q2 => k2 x y (by omega), k3⟩
    unfold copF
    by_cases q : j ≤ y ∧ y < j + c
    · rw [if_pos q]
      have := k1 (b * 40 + y) (by omega) (by omega)
      refine this.trans ?_
      rw [show a * 40 + i + (b * 40 + y - (b * 40 + j)) = a * 40 + (i + (y - j)) by omega]
      exact g2 _ (by omega)
    · rw [if_neg q, k2 _ _ (by omega)]
      exact g4 y hy

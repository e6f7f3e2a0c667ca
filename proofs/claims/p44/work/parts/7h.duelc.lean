/-! ===== duel: the class's side ===== -/
def lvP (k : Nat) : Nat := if k = 0 then 18 else 93 + 8 * k
theorem lv_tw {k : Nat} (h : k ≤ 4) : Tw (lvP k) := by
  have c : k = 0 ∨ k = 1 ∨ k = 2 ∨ k = 3 ∨ k = 4 := by omega
  rcases c with rfl | rfl | rfl | rfl | rfl
  · exact tw_18
  · exact tw_101
  · exact tw_109
  · exact tw_117
  · exact tw_125
def FrD (k : Nat) (σ σ' : Mem) : Prop := (∀ a b, (a < 101 + 8 * k ∨ 133 ≤ a) → σ'.1 a b = σ.1 a b) ∧ σ'.2 = σ.2
theorem FrD.rf {k : Nat} {σ : Mem} : FrD k σ σ := ⟨fun _ _ _ => rfl, rfl⟩
theorem FrD.tr {k : Nat} {σ σ' σ'' : Mem} (h : FrD k σ σ') (h2 : FrD k σ' σ'') : FrD k σ σ'' := ⟨fun a b q => (h2.1 a b q).trans (h.1 a b q), h2.2.trans h.2⟩
theorem FrD.up {k : Nat} {σ σ' : Mem} (h : FrD (k + 1) σ σ') : FrD k σ σ' := ⟨fun a b q => h.1 a b (by omega), h.2⟩
theorem FrK.d {k : Nat} {σ σ' : Mem} (h : FrK (lvP (k + 1)) σ σ') (hk : k < 4) : FrD k σ σ' := ⟨fun a b q => h.1 a b (by unfold lvP; rw [if_neg (by omega)]; omega), h.2⟩
theorem FrD.ct {k : Nat} {σ σ' : Mem} {U : Tn} (f : FrD k σ σ') (h : CT σ (lvP k) U) (hk : k ≤ 4) : CT σ' (lvP k) U := h.kept (fun a b p q => f.1 a b (by
  unfold lvP at p q
  by_cases z : k = 0
  · rw [if_pos z] at q; omega
  · rw [if_neg z] at q; omega))
theorem aR_100 {k : Nat} (h : k < 4) : aR 100 (nI k) = some (lvP (k + 1)) := by
  have c : k = 0 ∨ k = 1 ∨ k = 2 ∨ k = 3 := by omega
  rcases c with rfl | rfl | rfl | rfl <;> rfl
theorem C_copyAt {σ : Mem} {k : Nat} {U : Tn} (hk : k < 4) (h : CT σ (lvP k) U) (h6 : U 0 ≤ 6) : ∃ σ', F_X2_copyAt 99 (nI k) (lvP k) σ = some (some (lvP (k + 1)), σ') ∧ CT σ' (lvP (k + 1)) U ∧ FrK (lvP (k + 1)) σ σ' := by
  obtain ⟨σ', e, c, f⟩ := C_copy (lv_tw (k := k + 1) (by omega)) (lv_tw (k := k) (by omega)) (by unfold lvP; rw [if_neg (by omega)]; split <;> omega) h6 h
  refine ⟨σ', ?_, c, f⟩
  have eN : aN 100 = some (nI 4) := rfl
  unfold F_X2_copyAt
  rw [if_neg (nI_pos (by omega)), gR_99_0, ob_some, eN, ob_some, if_neg (nI_ge hk (by omega)), ob_some, aR_100 hk, ob_some, tC (lv_tw (k := k + 1) (by omega)), ob_some, e, ob_some]
theorem C_thinno {σ : Mem} {k : Nat} {x v : Int32} (hk : Tw k) (hx : x < 0) : F_X7_thinBed k x v σ = some σ := by
  have hs := hk.ar (o := 5) (by decide) (by decide)
  have hl := hk.lt
  unfold F_X7_thinBed
  rw [tR_4 hk, ob_some, ob_some, rd_no (by omega) hs (Or.inl hx), ob_some, wr_no (by omega) hs (Or.inl hx), ob_some]
theorem m1_neg : (-1 : Int32) < 0 := by decide
/-- a bed's number from a move's: -1 for none -/
def mvI (a : Nat) : Int32 := nI a + (-1 : Int32)
theorem mvI_0 : mvI 0 = -1 := rfl
theorem mvI_s (i : Nat) : mvI (i + 1) = nI i := nI_m1 i
theorem mvI_1 (a : Nat) : mvI a + (1 : Int32) = mvI (a + 1) := by
  rw [mvI_s]
  unfold mvI
  rw [Int32.add_assoc, show (-1 : Int32) + 1 = 0 from rfl, Int32.add_zero]
theorem C_mvE {σ : Mem} {k B a : Nat} {U : Tn} (hk : Tw k) (h : CT σ k U) (hw : wfT B U) (hB : B ≤ 1000) (ha : a < U 0 + 1) : ∃ q σ', (∀ (β : Type) (g : Int32 × Mem → Option β), ((F_X7_thinBed k (mvI a) (1 : Int32) σ).bind fun q18 => (chk 7 k).bind fun _ => (F_X7_passNight k q18).bind g) = g (q, σ')) ∧ CT σ' k (mvE U a) ∧ FrK k σ σ' := by
  unfold mvE
  by_cases z : a = 0
  · rw [if_pos z]
    obtain ⟨σ', e, c, f⟩ := C_pass hk h hw (by omega)
    exact ⟨_, σ', fun β g => by rw [z, mvI_0, C_thinno hk m1_neg, ob_some, tC hk, ob_some, e, ob_some], c, f⟩
  · obtain ⟨i, rfl⟩ : ∃ i, a = i + 1 := ⟨a - 1, by omega⟩
    have hi : i < U 0 := by omega
    have b := hw.2.2.1 i hi
    have e1 : F_X7_thinBed k (nI i) (1 : Int32) σ = some (setI σ (k + 5) i (nI (U (21 + i) - 1))) := C_thin (v := 1) hk h hw hi (by decide)
    have c1 : CT (setI σ (k + 5) i (nI (U (21 + i) - 1))) k (thinT U i) := h.set (o := 5) hw.1 hi (by decide) (by decide) (by omega)
    have f1 : FrK k σ (setI σ (k + 5) i (nI (U (21 + i) - 1))) := FrK.set (by omega) (by omega)
    have w1 : wfT B (thinT U i) := wf_bed hw hi (Or.inr (Or.inl ⟨rfl, by omega⟩))
    obtain ⟨σ', e, c, f⟩ := C_pass hk c1 w1 (by omega)
    rw [if_neg z, Nat.add_sub_cancel]
    exact ⟨_, σ', fun β g => by rw [mvI_s, e1, ob_some, tC hk, ob_some, e, ob_some], c, f1.tr f⟩
theorem C_mvO {σ : Mem} {k B a : Nat} {U : Tn} (hk : Tw k) (h : CT σ k U) (hw : wfT B U) (hB : B ≤ 1000) (ha : a < U 0 + 1) : ∃ σ', F_X7_inspectBed k (mvI a) σ = some (nI (gnO U a), σ') ∧ CT σ' k (mvO U a) ∧ FrK k σ σ' := by
  unfold mvO gnO
  by_cases z : a = 0
  · rw [if_pos z, if_pos z, z, mvI_0, C_inspno hk h (Or.inl m1_neg)]
    exact ⟨σ, rfl, h, FrK.rf⟩
  · obtain ⟨i, rfl⟩ : ∃ i, a = i + 1 := ⟨a - 1, by omega⟩
    obtain ⟨σ', e, c, f⟩ := C_insp hk h hw (by omega) (show i < U 0 by omega)
    rw [if_neg z, if_neg z, mvI_s, e, Nat.add_sub_cancel]
    exact ⟨σ', rfl, c, f⟩

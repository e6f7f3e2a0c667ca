/-! ===== round: the class's side ===== -/
def lvR (k : Nat) : Nat := 48 + 8 * k
theorem lvR_tw {k : Nat} (h : k ≤ 4) : Tw (lvR k) := by
  have c : k = 0 ∨ k = 1 ∨ k = 2 ∨ k = 3 ∨ k = 4 := by omega
  rcases c with rfl | rfl | rfl | rfl | rfl
  · exact tw_48
  · exact tw_56
  · exact tw_64
  · exact tw_72
  · exact tw_80
theorem aR_47 {k : Nat} (h : k ≤ 4) : aR 47 (nI k) = some (lvR k) := by
  have c : k = 0 ∨ k = 1 ∨ k = 2 ∨ k = 3 ∨ k = 4 := by omega
  rcases c with rfl | rfl | rfl | rfl | rfl <;> rfl
theorem C_copyR {σ : Mem} {k p : Nat} {U : Tn} (hk : k ≤ 4) (hp : Tw p) (hd : lvR k + 7 < p ∨ p + 7 < lvR k) (h : CT σ p U) (h6 : U 0 ≤ 6) : ∃ σ', F_X2_copyAt 46 (nI k) p σ = some (some (lvR k), σ') ∧ CT σ' (lvR k) U ∧ FrK (lvR k) σ σ' := by
  obtain ⟨σ', e, c, f⟩ := C_copy (lvR_tw hk) hp hd h6 h
  refine ⟨σ', ?_, c, f⟩
  have eN : aN 47 = some (nI 5) := rfl
  unfold F_X2_copyAt
  rw [if_neg (nI_pos (by omega)), gR_46_0, ob_some, eN, ob_some, if_neg (nI_ge (by omega) (by omega)), ob_some, aR_47 hk, ob_some, tC (lvR_tw hk), ob_some, e, ob_some]
def FrR (k : Nat) (σ σ' : Mem) : Prop := (∀ a b, (a < 45 ∨ (48 ≤ a ∧ a < 48 + 8 * k) ∨ 90 ≤ a) → σ'.1 a b = σ.1 a b) ∧ σ'.2 = σ.2
theorem FrR.rf {k : Nat} {σ : Mem} : FrR k σ σ := ⟨fun _ _ _ => rfl, rfl⟩
theorem FrR.tr {k : Nat} {σ σ' σ'' : Mem} (h : FrR k σ σ') (h2 : FrR k σ' σ'') : FrR k σ σ'' := ⟨fun a b q => (h2.1 a b q).trans (h.1 a b q), h2.2.trans h.2⟩
theorem FrR.up {k : Nat} {σ σ' : Mem} (h : FrR (k + 1) σ σ') : FrR k σ σ' := ⟨fun a b q => h.1 a b (by omega), h.2⟩
theorem FrK.r {j k : Nat} {σ σ' : Mem} (h : FrK (lvR j) σ σ') (hk : k ≤ j) (hj : j ≤ 4) : FrR k σ σ' := ⟨fun a b q => h.1 a b (by unfold lvR; omega), h.2⟩
theorem FrR.set {k a j : Nat} {v : Int32} {σ : Mem} (h : a = 45 ∨ a = 88 ∨ a = 89) (hk : k ≤ 5) : FrR k σ (setI σ a j v) := ⟨fun x y q => by rw [setI_1, if_neg (by omega)], rfl⟩
theorem FrR.o {k : Nat} {σ σ' : Mem} (h : FrR k σ σ') : FrO σ σ' := ⟨fun a b q => h.1 a b (by omega), h.2⟩
def WR (σ : Mem) (m n : Nat) (s : Nat × Nat) (i P : Nat) : Prop := s.2 ≤ 1000 ∧ σ.1 45 3 = mvI s.2 ∧ (s.2 = 0 ∨ ∀ k, k < n → σ.1 88 k = rndV (dg m n s.1 k)) ∧ ∀ k, k < i → σ.1 89 k = rndV (dg m i P k)
theorem WR.kept {σ σ' : Mem} {m n i P : Nat} {s : Nat × Nat} (h : WR σ m n s i P) (ho : ∀ a b, (a = 45 ∨ a = 88 ∨ a = 89) → σ'.1 a b = σ.1 a b) : WR σ' m n s i P := ⟨h.1, (ho _ _ (Or.inl rfl)).trans h.2.1, h.2.2.1.imp id (fun q k hk => (ho _ _ (by omega)).trans (q k hk)), fun k hk => (ho _ _ (by omega)).trans (h.2.2.2 k hk)⟩
theorem mv_le {a b : Nat} (ha : a ≤ 1000) (hb : b ≤ 1000) : nI a ≤ mvI b ↔ a + 1 ≤ b := by
  cases b with
  | zero => exact ⟨fun z => absurd z (fun y => by
      have h1 := Int32.lt_of_le_of_lt y m1_neg
      exact nI_pos (by omega) h1), fun z => absurd z (by omega)⟩
  | succ b =>
    rw [mvI_s]
    exact ⟨fun z => Decidable.byContradiction fun y => nI_ge (a := b) (b := a) (by omega) (by omega) z, fun z => nI_le (by omega) (by omega)⟩
theorem C_takeM {σ : Mem} {m n P sum : Nat} {s : Nat × Nat} {T : Tn} (hn : n ≤ 4) (hs : (runR m T n P).2 = sum) (hb : sum ≤ 400) (h : WR σ m n s n P) : ∃ σ', F_X5_takeIfMore 45 (nI sum) σ = some σ' ∧ WR σ' m n (stq m T n s P) n P ∧ FrR 5 σ σ' := by
  obtain ⟨w1, w2, w3, w4⟩ := h
  unfold F_X5_takeIfMore
  rw [gI_45_3, ob_some, w2]
  by_cases q : s.2 < sum + 1
  · rw [if_neg (fun z => by have := (mv_le (by omega) w1).mp z; omega), pI_45_3, ob_some, gR_45_2, ob_some, gR_45_1, ob_some, stq_yes (by rw [hs]; exact q), hs]
    obtain ⟨σ', e, c1, c2, c3⟩ := cp_step (σ := setI σ 45 3 (nI sum)) sh_89 sh_88 (by decide) (by decide) (by decide)
    rw [e, ob_some]
    refine ⟨σ', rfl, ⟨by show sum + 1 ≤ 1000; omega, ?_, Or.inr (fun k hk => ?_), fun k hk => ?_⟩, fun a b q2 => ?_, ?_⟩
    · show σ'.1 45 3 = mvI (sum + 1)
      rw [c2 _ _ (by omega), setI_1, if_pos ⟨rfl, rfl⟩, mvI_s]
    · rw [c1 k (by omega), setI_1, if_neg (by omega)]; exact w4 k hk
    · rw [c2 _ _ (by omega), setI_1, if_neg (by omega)]; exact w4 k hk
    · rw [c2 _ _ (by omega), setI_1, if_neg (by omega)]
    · rw [c3]; rfl
  · rw [if_pos ((mv_le (by omega) w1).mpr (by omega)), stq_no (by rw [hs]; exact q)]
    exact ⟨σ, rfl, ⟨w1, w2, w3, w4⟩, FrR.rf⟩
theorem C_go47 {rec : Nat → Option Nat → Int32 → Int32 → Int32 → Mem → Option Mem} {u : Mem} {T U : Tn} {B m n i D P sum a : Nat} {s : Nat × Nat} (hn : n ≤ 4) (hi : i + (D + 1) = n) (h0 : 0 < m) (ha : a < U 0 + 1) (hm : m = U 0 + 1) (hRU : passT (runR m T i P).1 = U) (hRs : (runR m T i P).2 = sum) (h : CT u (lvR i) U) (hw : wfT B U) (hB : B ≤ 900) (hW : WR u m n s i P) (rs : ∀ U' sum' σ', runR m T (i + 1) (P * m + a) = (U', sum') → CT σ' (lvR (i + 1)) U' → WR σ' m n s (i + 1) (P * m + a) → ∃ σ2, rec 45 (some (lvR (i + 1))) (nI (i + 1)) (nI n) (nI sum') σ' = some σ2 ∧ WR σ2 m n (fq m T n s ((P * m + a) * m ^ D) (m ^ D)) (i + 1) (P * m + a) ∧ FrR (i + 1) σ' σ2) : ∃ σ2, F_X5_inspectEach_26 rec 45 (lvR i) (nI i) (nI n) (nI sum) (mvI a) u = some (.inl (mvI (a + 1), σ2)) ∧ WR σ2 m n (fq m T n s ((P * m + a) * m ^ D) (m ^ D)) i P ∧ FrR (i + 1) u σ2 := by
  have tk1 := lvR_tw (k := i + 1) (by omega)
  obtain ⟨σ1, e1, c1, f1⟩ := C_copyR (k := i + 1) (by omega) (lvR_tw (k := i) (by omega)) (by unfold lvR; omega) h hw.1
  obtain ⟨e3, e4⟩ := dm_eq (P := P) h0 (show a < m by omega)
  have fr1 : FrR (i + 1) u σ1 := f1.r (Nat.le_refl _) (by omega)
  have k1 : ∀ x b, (x = 45 ∨ x = 88 ∨ x = 89) → σ1.1 x b = u.1 x b := fun x b q => f1.1 x b (by unfold lvR; omega)
  have W1 := hW.kept k1
  -- the trail
  have fr2 : FrR (i + 1) σ1 (setI σ1 89 i (rndV a)) := FrR.set (by decide) (by omega)
  have c2 : CT (setI σ1 89 i (rndV a)) (lvR (i + 1)) U := c1.kept (fun x b p q => by rw [setI_1, if_neg (by unfold lvR at p q; omega)])
  have W2 : WR (setI σ1 89 i (rndV a)) m n s (i + 1) (P * m + a) := by
    refine ⟨W1.1, by rw [setI_1, if_neg (by omega)]; exact W1.2.1, W1.2.2.1.imp id (fun q k hk => by rw [setI_1, if_neg (by omega)]; exact q k hk), fun k hk => ?_⟩
    show (setI σ1 89 i (rndV a)).1 89 k = rndV (if k = i then (P * m + a) % m else dg m i ((P * m + a) / m) k)
    rw [setI_1, e3, e4]
    by_cases y : k = i
    · rw [if_pos ⟨rfl, y⟩, if_pos y]
    · rw [if_neg (fun v => y v.2), if_neg y]; exact W1.2.2.2 k (by omega)
  obtain ⟨σ3, e5, c3, f3⟩ := C_mvO (a := a) tk1 c2 hw (by omega) ha
  have fr3 : FrR (i + 1) (setI σ1 89 i (rndV a)) σ3 := f3.r (Nat.le_refl _) (by omega)
  have W3 := W2.kept (σ' := σ3) (fun x b q => f3.1 x b (by unfold lvR; omega))
  have hRn : runR m T (i + 1) (P * m + a) = (mvO U a, sum + gnO U a) := by
    rw [runR_next h0 (by omega), hRU, hRs]
  obtain ⟨σ4, e6, W4, f4⟩ := rs (mvO U a) (sum + gnO U a) σ3 hRn c3 W3
  refine ⟨σ4, ?_, ⟨W4.1, W4.2.1, W4.2.2.1, fun k hk => ?_⟩, ((fr1.tr fr2).tr fr3).tr f4⟩
  · have ew : (if 0 ≤ mvI a then F_X8_write 89 (nI i) (mvI a) σ1 else F_X8_write 89 (nI i) (-9 : Int32) σ1) = some (setI σ1 89 i (rndV a)) := by
      by_cases z : a = 0
      · rw [z, mvI_0, if_neg nm1, rndV_0, wr_eq (by decide) sh_89 (by omega) (by decide)]
      · obtain ⟨j, rfl⟩ : ∃ j, a = j + 1 := ⟨a - 1, by omega⟩
        have := hw.1
        rw [mvI_s, if_pos (nI_pos' (by omega)), rndV_s, wr_eq (by decide) sh_89 (by omega) (by decide)]
    unfold F_X5_inspectEach_26
    rw [gR_45_0, ob_some, ck_46, ob_some, nI_1, e1, ob_some]
    dsimp only
    rw [gR_45_2, ob_some, tC tk1]
    by_cases z : 0 ≤ mvI a
    · rw [if_pos z] at ew ⊢
      rw [ew, ob_some, ob_some, e5, ob_some, nI_add, e6, ob_some, mvI_1]
    · rw [if_neg z] at ew ⊢
      rw [ew, ob_some, ob_some, e5, ob_some, nI_add, e6, ob_some, mvI_1]
  · have r4 := W4.2.2.2 k (by omega)
    have r4 : σ4.1 89 k = rndV (if k = i then (P * m + a) % m else dg m i ((P * m + a) / m) k) := r4
    rw [if_neg (by omega), e3] at r4
    exact r4

/-! ===== mid ===== -/
abbrev getI (m : Int32) (j : Nat) : Prop := ((m >>> (nI j &&& 31)) &&& (1 : Int32)) = 1
def mxI (T : Tn) (m : Int32) : Nat → Nat
  | 0 => 0
  | j + 1 => if getI m j then (if mxI T m j < T (27 + j) then T (27 + j) else mxI T m j) else mxI T m j
theorem mxI_yes {T : Tn} {m : Int32} {j : Nat} (h : getI m j) : mxI T m (j + 1) = if mxI T m j < T (27 + j) then T (27 + j) else mxI T m j := if_pos h
theorem mxI_no {T : Tn} {m : Int32} {j : Nat} (h : ¬ getI m j) : mxI T m (j + 1) = mxI T m j := if_neg h
theorem mxI_le {B : Nat} {T : Tn} {m : Int32} (hw : wfT B T) : ∀ j, j ≤ T 0 → mxI T m j ≤ 99
  | 0, _ => by show 0 ≤ 99; omega
  | j + 1, hj => by
    have ih := mxI_le (m := m) hw j (by omega)
    have b := (hw.2.2.1 j (by omega)).2.2.2.2.1
    by_cases q : getI m j
    · rw [mxI_yes q]
      split <;> omega
    · rw [mxI_no q]; exact ih
theorem C_most {σ : Mem} {B : Nat} {T : Tn} {m : Int32} (h : CT σ 18 T) (hw : wfT B T) : F_X7_mostLying 18 m σ = some (nI (mxI T m (T 0))) := by
  have h6 := hw.1
  have key : ∃ t, F_X7_mostLying_4 18 m σ ((0 : Int32), (0 : Int32)) = some t ∧ t = nI (mxI T m (T 0)) := by
    unfold F_X7_mostLying_4
    refine lp_inv (fun j (s : Int32 × Int32) => s.2 = nI j ∧ s.1 = nI (mxI T m j)) (T 0) ?_ ?_ _ ⟨rfl, rfl⟩
    · intro j s hj ⟨a1, a2⟩
      refine ⟨(nI (mxI T m (j + 1)), nI (j + 1)), ?_, rfl, rfl⟩
      have b := (hw.2.2.1 j hj).2.2.2.2.1
      have l := mxI_le (m := m) hw j (by omega)
      rw [a1, a2, C_isT h, ob_some, if_neg (nI_ge hj (by omega))]
      by_cases q : getI m j
      · rw [if_pos q, C_lies tw_18 h hw hj, ob_some, mxI_yes q, nI_1]
        by_cases z : mxI T m j < T (27 + j)
        · rw [if_pos (nI_lt z (by omega)), if_pos z]
        · rw [if_neg (nI_nlt (by omega) (by omega)), if_neg z]
      · rw [if_neg q, mxI_no q, nI_1]
    · intro s ⟨a1, a2⟩
      exact ⟨s.1, by rw [a1, C_isT h, ob_some, if_pos (nI_le (Nat.le_refl _) (by omega))], a2⟩
  obtain ⟨t, e, rfl⟩ := key
  unfold F_X7_mostLying
  exact e
def midS (T : Tn) (p o : Nat) : Nat → Nat
  | 0 => 0
  | R + 1 => if subN R o = true then midS T p o R + mxI T (nI R) (T 0) * wayN p o R else midS T p o R
theorem midS_yes {T : Tn} {p o R : Nat} (h : subN R o = true) : midS T p o (R + 1) = midS T p o R + mxI T (nI R) (T 0) * wayN p o R := if_pos h
theorem midS_no {T : Tn} {p o R : Nat} (h : ¬ subN R o = true) : midS T p o (R + 1) = midS T p o R := if_neg h
theorem midS_le {T : Tn} {B p o W : Nat} (hw : wfT B T) (hW : ∀ R, wayN p o R ≤ W) : ∀ R, midS T p o R ≤ R * (99 * W)
  | 0 => Nat.zero_le _
  | R + 1 => by
    have ih := midS_le (p := p) (o := o) hw hW R
    have h1 := mxI_le (m := nI R) hw (T 0) (Nat.le_refl _)
    have h2 := Nat.mul_le_mul h1 (hW R)
    rw [Nat.succ_mul]
    by_cases q : subN R o = true
    · rw [midS_yes q]; omega
    · rw [midS_no q]; omega
theorem mid_lt62 {T : Tn} {B p o : Nat} (hw : wfT B T) (hp : p ≤ 12) : midS T p o 64 < 2 ^ 62 := by
  have h := midS_le (p := p) (o := o) hw (fun R => way_le hp) 64
  exact Nat.lt_of_le_of_lt h (by decide)
theorem C_midL {A : Ab} {T : Tn} {B p o : Nat} (hp : p ≤ 12) (ho : o < 64) (hw : wfT B T) (hT : nowT A.2.2.2 = T) (σ : Mem) (h : RC A σ) : ∃ σ', F_X8_mid_38 0 (nI p) (nI o) σ ((0 : Int64), (0 : Int32)) = some (1, σ') ∧ RC (toldL A (lN (midS T p o 64 / Nat.gcd (midS T p o 64) (12 ^ popN o))) (lN (12 ^ popN o / Nat.gcd (midS T p o 64) (12 ^ popN o)))) σ' ∧ FC σ σ' := by
  have hnow := h.now
  rw [hT] at hnow
  have hpo := pow_lt62 (popN o) (pop_le o)
  obtain ⟨σ', e, h1, h2⟩ := C_chance (A := A) (mid_lt62 (o := o) hw hp) hpo.1 hpo.2 σ h
  have key : ∃ t, F_X8_mid_38 0 (nI p) (nI o) σ ((0 : Int64), (0 : Int32)) = some t ∧ t = (1, σ') := by
    unfold F_X8_mid_38
    refine lp_inv (Q := fun t : Int32 × Mem => t = (1, σ')) (fun R (s : Int64 × Int32) => s.2 = nI R ∧ s.1 = lN (midS T p o R)) 64 ?_ ?_ _ ⟨rfl, rfl⟩
    · intro R s hR ⟨a1, a2⟩
      refine ⟨(lN (midS T p o (R + 1)), nI (R + 1)), ?_, rfl, rfl⟩
      have l := mxI_le (m := nI R) hw (T 0) (Nat.le_refl _)
      rw [a1, a2, if_neg (show ¬ (64 : Int32) ≤ nI R from nI_ge (b := 64) hR (by decide))]
      by_cases q : subN R o = true
      · rw [if_pos ((sub_iff o ho R hR).mpr q), gR_0_4, ob_some, tC tw_18, ob_some, C_most hnow hw, ob_some, C_ways hp ho hR q, ob_some, nI_l (by omega), lN_mul, lN_add, nI_1, midS_yes q]
      · rw [if_neg (fun z => q ((sub_iff o ho R hR).mp z)), nI_1, midS_no q]
    · intro s ⟨a1, a2⟩
      refine ⟨_, ?_, rfl⟩
      rw [a1, if_pos (show (64 : Int32) ≤ nI 64 by decide), bc_pop ho, ob_some, show (12 : Int32) = nI 12 from rfl, C_power (by decide) (pop_le o), ob_some, a2, e, ob_some]
  obtain ⟨t, e2, rfl⟩ := key
  exact ⟨σ', e2, h1, h2⟩
theorem M_midI {σ : Mem} {T : Tn} {B p o R S : Nat} (h : MT σ 0 T) (hw : wfT B T) (hp : p ≤ 12) (ho : o < 2 ^ T 0) (o64 : o < 64) (hR : R < 64) : F_X9_mid_47 134 (nI p) (nI o) (lN S) (nI R) σ ((0 : Int32), (0 : Int32)) = some (.inl (lN (if subN R o = true then S + mxI T (nI R) (T 0) * wayN p o R else S), nI (R + 1))) := by
  have h6 := hw.1
  have v0 : σ.1 135 0 = nI (T 0) := h 0 (by decide)
  have r0 : aI 135 (0 : Int32) σ = some (nI (T 0)) := (w_rd (j := 0) (by decide)).trans (by rw [v0])
  have key : ∃ t, F_X9_mid_47 134 (nI p) (nI o) (lN S) (nI R) σ ((0 : Int32), (0 : Int32)) = some t ∧ t = .inl (lN (if subN R o = true then S + mxI T (nI R) (T 0) * wayN p o R else S), nI (R + 1)) := by
    unfold F_X9_mid_47
    refine lp_inv (fun j (s : Int32 × Int32) => s.2 = nI j ∧ s.1 = nI (mxI T (nI R &&& nI o) j)) (T 0) ?_ ?_ _ ⟨rfl, rfl⟩
    · intro j s hj ⟨a1, a2⟩
      refine ⟨(nI (mxI T (nI R &&& nI o) (j + 1)), nI (j + 1)), ?_, rfl, rfl⟩
      have b := (hw.2.2.1 j hj).2.2.2.2.1
      have l := mxI_le (m := nI R &&& nI o) hw j (by omega)
      have rv : aI 135 ((27 : Int32) + nI j) σ = some (nI (T (27 + j))) := by
        have v := h (27 + j) (by omega)
        rw [Nat.zero_add] at v
        rw [show (27 : Int32) + nI j = nI (27 + j) from lx rfl, w_rd (by omega), v]
      unfold F_X9_mid_98 F_X9_has
      rw [a1, a2, wR, ob_some, r0, ob_some, if_neg (nI_ge hj (by omega))]
      by_cases q : getI (nI R &&& nI o) j
      · rw [if_pos q, ob_some, if_neg (by decide), ob_some, rv, ob_some, mxI_yes q, nI_1]
        by_cases z : mxI T (nI R &&& nI o) j < T (27 + j)
        · rw [if_neg (nI_ge z (by omega)), if_pos z, ob_some, rv, ob_some]
        · rw [if_pos (nI_le (by omega) (by omega)), if_neg z]
      · rw [if_neg q, ob_some, if_pos rfl, mxI_no q, nI_1]
    · intro s ⟨a1, a2⟩
      have l := mxI_le (m := nI R &&& nI o) hw (T 0) (Nat.le_refl _)
      refine ⟨_, ?_, rfl⟩
      unfold F_X9_mid_134
      rw [a1, a2, wR, ob_some, r0, ob_some, if_pos (nI_le (Nat.le_refl _) (by omega))]
      by_cases q : subN R o = true
      · have em := (sub_get o o64 R hR q).2.2
        rw [em] at l ⊢
        rw [if_pos ((sub_iff o o64 R hR).mpr q), M_ways h h6 hp ho hR q, ob_some, nI_l (by omega), lN_mul, lN_add, if_pos q, nI_1]
        rfl
      · rw [if_neg (fun z => q ((sub_iff o o64 R hR).mp z)), if_neg q, show lN S + (0 : Int64) = lN S from lN_add S 0, nI_1]
        rfl
  obtain ⟨t, e, rfl⟩ := key
  exact e
theorem M_midL {A : Ab} {T : Tn} {B p o : Nat} (hp : p ≤ 12) (ho : o < 2 ^ T 0) (hw : wfT B T) (hT : nowT A.2.2.2 = T) (σ : Mem) (h : RM A σ) : ∃ σ', F_X9_mid_34 134 (nI p) (nI o) σ ((0 : Int64), (0 : Int32)) = some (1, σ') ∧ RM (toldL A (lN (midS T p o 64 / Nat.gcd (midS T p o 64) (12 ^ popN o))) (lN (12 ^ popN o / Nat.gcd (midS T p o 64) (12 ^ popN o)))) σ' ∧ FM σ σ' := by
  have h6 := hw.1
  have o64 : o < 64 := by
    have h2 : 2 ^ T 0 ≤ 2 ^ 6 := Nat.pow_le_pow_right (by decide) h6
    omega
  have hnow := h.now
  rw [hT] at hnow
  have hpo := pow_lt62 (popN o) (pop_le o)
  obtain ⟨σ', e, h1, h2⟩ := M_parts (A := A) (mid_lt62 (o := o) hw hp) hpo.1 hpo.2 σ h
  have key : ∃ t, F_X9_mid_34 134 (nI p) (nI o) σ ((0 : Int64), (0 : Int32)) = some t ∧ t = (1, σ') := by
    unfold F_X9_mid_34
    refine lp_inv (Q := fun t : Int32 × Mem => t = (1, σ')) (fun R (s : Int64 × Int32) => s.2 = nI R ∧ s.1 = lN (midS T p o R)) 64 ?_ ?_ _ ⟨rfl, rfl⟩
    · intro R s hR ⟨a1, a2⟩
      refine ⟨(lN (midS T p o (R + 1)), nI (R + 1)), ?_, rfl, rfl⟩
      rw [a1, a2, if_neg (show ¬ (64 : Int32) ≤ nI R from nI_ge (b := 64) hR (by decide)), M_midI hnow hw hp ho o64 hR]
      rfl
    · intro s ⟨a1, a2⟩
      refine ⟨_, ?_, rfl⟩
      rw [a1, if_pos (show (64 : Int32) ≤ nI 64 by decide), M_all o64, ob_some, a2, e, ob_some]
  obtain ⟨t, e2, rfl⟩ := key
  exact ⟨σ', e2, h1, h2⟩
theorem sim_mid (y : Int32) : Sim (F_X8_mid 0 y) (F_X9_mid 134 y) := by
  refine sim_of fun A hA => ?_
  obtain ⟨hnw, hn0⟩ := now_wf hA
  have h6 := hnw.1
  have d0 : (0 : Int64).toInt = 0 := rfl
  have d12 : (12 : Int64).toInt = 12 := rfl
  have t12 : (y ≤ (12 : Int32)) ↔ y.toInt ≤ 12 := by rw [Int32.le_iff_toInt_le]; rfl
  by_cases hy : 0 ≤ y.toInt ∧ y.toInt ≤ 12
  · obtain ⟨p, hp, rfl⟩ := nat_of hy.1
    have ny : ¬ nI p < 0 := fun q => by have := neg_iff.mp q; omega
    by_cases hz : nowT A.2.2.2 0 = 0
    · refine ⟨-4, A, hA, C_same fun σ h => ?_, M_same fun σ h => ?_⟩
      · unfold F_X8_mid
        rw [if_neg ny, if_pos (t12.mpr hy.2), gR_0_4, ob_some, C_isT h.now, ob_some, hz, if_pos (show nI 0 = (0 : Int32) from rfl)]
      · unfold F_X9_mid
        rw [in_eq, wide, d0, d12, if_pos hy, ob_some, if_neg (by decide), M_isTown h.now h6, if_pos hz, ob_some, if_pos rfl]
    · have o64 := bitN_64 (P := fun j => dueT (nowT A.2.2.2) j) h6
      obtain ⟨X, Y, kC, kM⟩ : ∃ X Y, (∀ σ, RC A σ → ∃ σ', F_X8_mid_38 0 (nI p) (nI (dueN (nowT A.2.2.2))) σ ((0 : Int64), (0 : Int32)) = some (1, σ') ∧ RC (toldL A X Y) σ' ∧ FC σ σ') ∧ ∀ σ, RM A σ → ∃ σ', F_X9_mid_34 134 (nI p) (nI (dueN (nowT A.2.2.2))) σ ((0 : Int64), (0 : Int32)) = some (1, σ') ∧ RM (toldL A X Y) σ' ∧ FM σ σ' := ⟨_, _, C_midL (T := nowT A.2.2.2) (by omega) o64 hnw rfl, M_midL (T := nowT A.2.2.2) (by omega) (bitN_lt _) hnw rfl⟩
      refine ⟨1, toldL A X Y, hA, fun σ h => ?_, fun σ h => ?_⟩
      · obtain ⟨σ', e, h1, h2⟩ := kC σ h
        refine ⟨σ', ?_, h1, h2⟩
        unfold F_X8_mid
        rw [if_neg ny, if_pos (t12.mpr hy.2), gR_0_4, ob_some, C_isT h.now, ob_some, if_neg (nI_ne0 (by omega) (by omega)), ob_some, tC tw_18, ob_some, C_bits tw_18 h.now hnw, ob_some, e]
      · obtain ⟨σ', e, h1, h2⟩ := kM σ h
        refine ⟨σ', ?_, h1, h2⟩
        unfold F_X9_mid
        rw [in_eq, wide, d0, d12, if_pos hy, ob_some, if_neg (by decide), M_isTown h.now h6, if_neg hz, ob_some, if_neg (by decide), M_dueNow h.now hnw, ob_some, e]
  · refine ⟨-1, A, hA, C_same fun σ h => ?_, M_same fun σ h => ?_⟩
    · unfold F_X8_mid
      by_cases q : y < 0
      · rw [if_pos q]
      · have q' : ¬ y.toInt < 0 := fun z => q (neg_iff.mpr z)
        rw [if_neg q, if_neg (fun z => by have := t12.mp z; omega)]
    · unfold F_X9_mid
      rw [in_eq, wide, d0, d12, if_neg hy, ob_some, if_pos rfl]

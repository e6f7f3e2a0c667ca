/-! ===== rather ===== -/
abbrev wnt (T : Tn) (i j : Nat) : Prop := gapT T i j < gapT T i i ∧ gapT T j i < gapT T j j
def ratS (T : Tn) (i j : Nat) (s : Nat × Int32) : Nat × Int32 := if wnt T i j then (s.1 + 1, if s.1 = 0 then nI (10 * i + j) else s.2) else s
def ratJ (T : Tn) (i : Nat) (s : Nat × Int32) : Nat → Nat × Int32
  | 0 => s
  | d + 1 => ratS T i (i + 1 + d) (ratJ T i s d)
def ratI (T : Tn) : Nat → Nat × Int32
  | 0 => (0, -9)
  | i + 1 => ratJ T i (ratI T i) (T 0 - (i + 1))
/-- what a count and its first pair are together -/
def ratK (b : Nat) (s : Nat × Int32) : Prop := s.1 ≤ b ∧ (s.1 = 0 ↔ s.2 = -9)
theorem ratK_S {T : Tn} {i j b : Nat} {s : Nat × Int32} (hi : i < 6) (hj : j < 6) (h : ratK b s) : ratK (b + 1) (ratS T i j s) := by
  unfold ratS
  by_cases q : wnt T i j
  · rw [if_pos q]
    refine ⟨by show s.1 + 1 ≤ _; have := h.1; omega, fun z => absurd (show s.1 + 1 = 0 from z) (by omega), fun z => ?_⟩
    have z : (if s.1 = 0 then nI (10 * i + j) else s.2) = -9 := z
    by_cases y : s.1 = 0
    · rw [if_pos y] at z
      exact absurd z (nI_n9 (by omega))
    · rw [if_neg y] at z
      exact absurd (h.2.mpr z) y
  · rw [if_neg q]
    exact ⟨by have := h.1; omega, h.2⟩
theorem ratK_J {T : Tn} {i b : Nat} {s : Nat × Int32} (h6 : T 0 ≤ 6) (h : ratK b s) : ∀ d, i + 1 + d ≤ T 0 → ratK (b + d) (ratJ T i s d)
  | 0, _ => h
  | d + 1, hd => ratK_S (by omega) (by omega) (ratK_J h6 h d (by omega))
theorem ratK_I {T : Tn} (h6 : T 0 ≤ 6) : ∀ i, i ≤ T 0 → ratK (6 * i) (ratI T i)
  | 0, _ => ⟨Nat.le_refl _, fun _ => rfl, fun _ => rfl⟩
  | i + 1, hi => by
    have h := ratK_J (i := i) h6 (ratK_I h6 i (by omega)) (T 0 - (i + 1)) (by omega)
    exact ⟨by have := h.1; show (ratJ T i (ratI T i) (T 0 - (i + 1))).1 ≤ _; omega, h.2⟩
theorem C_ratS {σ : Mem} {T : Tn} {B i b : Nat} {s : Nat × Int32} (h : CT σ 18 T) (hw : wfT B T) (hi : i < T 0) (hs : ratK b s) (hb : b ≤ 100) : F_X8_rather_36 0 (nI i) σ (nI s.1, s.2, nI (i + 1)) = some (.inl (nI (ratJ T i s (T 0 - (i + 1))).1, (ratJ T i s (T 0 - (i + 1))).2, nI (i + 1))) := by
  have h6 := hw.1
  have key : ∃ t, F_X8_rather_36 0 (nI i) σ (nI s.1, s.2, nI (i + 1)) = some t ∧ t = .inl (nI (ratJ T i s (T 0 - (i + 1))).1, (ratJ T i s (T 0 - (i + 1))).2, nI (i + 1)) := by
    unfold F_X8_rather_36
    refine lp_inv (fun d (u : Int32 × Int32 × Int32) => u.2.2 = nI (i + 1 + d) ∧ u.1 = nI (ratJ T i s d).1 ∧ u.2.1 = (ratJ T i s d).2) (T 0 - (i + 1)) ?_ ?_ _ ⟨rfl, rfl, rfl⟩
    · intro d u hd ⟨a1, a2, a3⟩
      refine ⟨(nI (ratJ T i s (d + 1)).1, (ratJ T i s (d + 1)).2, nI (i + 1 + (d + 1))), ?_, rfl, rfl, rfl⟩
      have hK := ratK_J (i := i) h6 hs d (by omega)
      have hj : i + 1 + d < T 0 := by omega
      have bi := hw.2.2.1 i hi
      have bj := hw.2.2.1 (i + 1 + d) hj
      have g1 := gapT_le (T := T) (i := i) (j := i + 1 + d) bi.2.1 bj.2.2.1
      have g2 := gapT_le (T := T) (i := i) (j := i) bi.2.1 bi.2.2.1
      have g3 := gapT_le (T := T) (i := i + 1 + d) (j := i) bj.2.1 bi.2.2.1
      have g4 := gapT_le (T := T) (i := i + 1 + d) (j := i + 1 + d) bj.2.1 bj.2.2.1
      have e10 : ((10 : Int32) * nI i) + nI (i + 1 + d) = nI (10 * i + (i + 1 + d)) := by rw [show (10 : Int32) = nI 10 from rfl, pk_mul, nI_add]
      have eN : ratJ T i s (d + 1) = ratS T i (i + 1 + d) (ratJ T i s d) := rfl
      rw [a1, a2, a3, gR_0_4, ob_some, C_isT h, ob_some, if_neg (nI_ge hj (by omega)), ob_some, tC tw_18, ob_some, C_gap tw_18 h hw hi hj, ob_some, ob_some, tC tw_18, ob_some, C_gap tw_18 h hw hi hi, ob_some, eN]
      unfold ratS
      by_cases q1 : gapT T i (i + 1 + d) < gapT T i i
      · rw [if_neg (nI_ge q1 (by omega)), ob_some, tC tw_18, ob_some, C_gap tw_18 h hw hj hi, ob_some, ob_some, tC tw_18, ob_some, C_gap tw_18 h hw hj hj, ob_some]
        by_cases q2 : gapT T (i + 1 + d) i < gapT T (i + 1 + d) (i + 1 + d)
        · rw [if_neg (nI_ge q2 (by omega)), if_pos (show wnt T i (i + 1 + d) from ⟨q1, q2⟩), e10]
          unfold F_X8_rather_109
          by_cases z : (ratJ T i s d).1 = 0
          · rw [z, if_pos (show nI 0 = (0 : Int32) from rfl), nI_1, nI_1]
            rfl
          · rw [if_neg (nI_ne0 (by omega) (by have := hK.1; omega)), if_neg z, nI_1, nI_1]
            rfl
        · rw [if_pos (nI_le (by omega) (by omega)), if_neg (fun z => q2 z.2), nI_1]
          rfl
      · rw [if_pos (nI_le (by omega) (by omega)), if_neg (fun z => q1 z.1), nI_1]
        rfl
    · intro u ⟨a1, a2, a3⟩
      refine ⟨_, ?_, rfl⟩
      rw [a1, a2, a3, gR_0_4, ob_some, C_isT h, ob_some, if_pos (nI_le (by omega) (by omega)), nI_1]
  obtain ⟨t, e, rfl⟩ := key
  exact e
theorem M_wants {σ : Mem} {T : Tn} {B i j : Nat} (h : MT σ 0 T) (hw : wfT B T) (hi : i < T 0) (hj : j < T 0) : F_X9_wantsRight 134 (nI i) (nI j) σ = some (if gapT T i j < gapT T i i then 1 else 0) := by
  have h6 := hw.1
  have bi := hw.2.2.1 i hi
  have bj := hw.2.2.1 j hj
  have g1 := gapT_le (T := T) (i := i) (j := j) bi.2.1 bj.2.2.1
  have g2 := gapT_le (T := T) (i := i) (j := i) bi.2.1 bi.2.2.1
  have v9 := h (9 + i) (by omega)
  have v15 := h (15 + j) (by omega)
  rw [Nat.zero_add] at v9 v15
  have eg : F_X9_gapIn 134 (0 : Int32) (nI i) σ = some (nI (gapT T i i)) := M_gap h (by decide) hw hi
  have eo : F_X9_off (nI (T (9 + i))) (nI (T (15 + j))) σ = some (nI (gapT T i j)) := off_eq bi.2.1 bj.2.2.1
  unfold F_X9_wantsRight
  rw [wR, ob_some, show (9 : Int32) + nI i = nI (9 + i) from lx rfl, w_rd (by omega), ob_some, ob_some, show (15 : Int32) + nI j = nI (15 + j) from lx rfl, w_rd (by omega), ob_some, v9, v15, eo, ob_some, eg, ob_some]
  by_cases q : gapT T i j < gapT T i i
  · rw [if_neg (nI_ge q (by omega)), if_pos q]
  · rw [if_pos (nI_le (by omega) (by omega)), if_neg q]
theorem M_ratS {σ : Mem} {T : Tn} {B i b : Nat} {s : Nat × Int32} (h : MT σ 0 T) (hw : wfT B T) (hi : i < T 0) (hs : ratK b s) (hb : b ≤ 100) : F_X9_rather_32 134 (nI i) σ (nI s.1, s.2, nI (i + 1)) = some (.inl (nI (ratJ T i s (T 0 - (i + 1))).1, (ratJ T i s (T 0 - (i + 1))).2, nI (i + 1))) := by
  have h6 := hw.1
  have key : ∃ t, F_X9_rather_32 134 (nI i) σ (nI s.1, s.2, nI (i + 1)) = some t ∧ t = .inl (nI (ratJ T i s (T 0 - (i + 1))).1, (ratJ T i s (T 0 - (i + 1))).2, nI (i + 1)) := by
    unfold F_X9_rather_32
    refine lp_inv (fun d (u : Int32 × Int32 × Int32) => u.2.2 = nI (i + 1 + d) ∧ u.1 = nI (ratJ T i s d).1 ∧ u.2.1 = (ratJ T i s d).2) (T 0 - (i + 1)) ?_ ?_ _ ⟨rfl, rfl, rfl⟩
    · intro d u hd ⟨a1, a2, a3⟩
      refine ⟨(nI (ratJ T i s (d + 1)).1, (ratJ T i s (d + 1)).2, nI (i + 1 + (d + 1))), ?_, rfl, rfl, rfl⟩
      have hK := ratK_J (i := i) h6 hs d (by omega)
      have hj : i + 1 + d < T 0 := by omega
      have e10 : ((10 : Int32) * nI i) + nI (i + 1 + d) = nI (10 * i + (i + 1 + d)) := by rw [show (10 : Int32) = nI 10 from rfl, pk_mul, nI_add]
      have eN : ratJ T i s (d + 1) = ratS T i (i + 1 + d) (ratJ T i s d) := rfl
      have zz : nI (ratJ T i s d).1 + (0 : Int32) = nI (ratJ T i s d).1 := Int32.add_zero _
      unfold F_X9_rather_67 F_X9_rather_68 F_X9_rather_91 F_X9_rather_92 F_X9_rather_104
      rw [a1, a2, a3, wR, ob_some, M_r0 h, ob_some, if_neg (nI_ge hj (by omega)), M_wants h hw hi hj, ob_some, eN]
      unfold ratS
      by_cases q1 : gapT T i (i + 1 + d) < gapT T i i
      · rw [if_pos q1, if_neg (by decide), M_wants h hw hj hi, ob_some]
        by_cases q2 : gapT T (i + 1 + d) i < gapT T (i + 1 + d) (i + 1 + d)
        · rw [if_pos q2, if_neg (by decide), if_pos (show wnt T i (i + 1 + d) from ⟨q1, q2⟩), if_neg (by decide), e10]
          by_cases z : (ratJ T i s d).1 = 0
          · rw [if_pos (hK.2.mp z), if_neg (by decide), z, nI_1, nI_1]
            rfl
          · rw [if_neg (fun y => z (hK.2.mpr y)), if_neg (by decide), if_neg z, nI_1, nI_1]
            rfl
        · rw [if_neg q2, if_pos rfl, if_pos rfl, if_pos rfl, if_neg (fun z => q2 z.2), nI_1, zz]
          rfl
      · rw [if_neg q1, if_pos rfl, if_pos rfl, if_pos rfl, if_neg (fun z => q1 z.1), nI_1, zz]
        rfl
    · intro u ⟨a1, a2, a3⟩
      refine ⟨_, ?_, rfl⟩
      rw [a1, a2, a3, wR, ob_some, M_r0 h, ob_some, if_pos (nI_le (by omega) (by omega)), nI_1]
  obtain ⟨t, e, rfl⟩ := key
  exact e
theorem sim_rather : Sim (F_X8_rather 0) (F_X9_rather 134) := by
  refine sim_of fun A hA => ?_
  obtain ⟨hnw, hn0⟩ := now_wf hA
  have h6 := hnw.1
  by_cases hz : nowT A.2.2.2 0 = 0
  · refine ⟨-4, A, hA, C_same fun σ h => ?_, M_same fun σ h => ?_⟩
    · unfold F_X8_rather
      rw [gR_0_4, ob_some, C_isT h.now, ob_some, hz, if_pos (show nI 0 = (0 : Int32) from rfl)]
    · unfold F_X9_rather
      rw [M_isTown h.now h6, if_pos hz, ob_some, if_pos rfl]
  · generalize hT : nowT A.2.2.2 = T at *
    obtain ⟨R, hR⟩ : ∃ R, ratI T (T 0) = R := ⟨_, rfl⟩
    refine ⟨nI R.1, toldA A R.2, hA, fun σ h => ?_, fun σ h => ?_⟩
    · have hnow := h.now
      rw [hT] at hnow
      obtain ⟨σ3, e3, h4, f4⟩ := C_tell (A := A) (v := R.2) σ h
      have es : F_X8_tell 0 R.2 σ = some (1, setI σ 0 13 R.2) := by
        unfold F_X8_tell
        rw [pI_0_13, ob_some]
      have e4 := e3.symm.trans es
      injection e4 with e4
      injection e4 with _ e4
      subst e4
      refine ⟨_, ?_, h4, f4⟩
      have key : ∃ t, F_X8_rather_20 0 σ ((0 : Int32), (-9 : Int32), (0 : Int32)) = some t ∧ t = (nI R.1, setI σ 0 13 R.2) := by
        unfold F_X8_rather_20
        refine lp_inv (Q := fun t : Int32 × Mem => t = (nI R.1, setI σ 0 13 R.2)) (fun i (u : Int32 × Int32 × Int32) => u.2.2 = nI i ∧ u.1 = nI (ratI T i).1 ∧ u.2.1 = (ratI T i).2) (T 0) ?_ ?_ _ ⟨rfl, rfl, rfl⟩
        · intro i u hi ⟨a1, a2, a3⟩
          refine ⟨(nI (ratI T (i + 1)).1, (ratI T (i + 1)).2, nI (i + 1)), ?_, rfl, rfl, rfl⟩
          rw [a1, a2, a3, gR_0_4, ob_some, C_isT hnow, ob_some, if_neg (nI_ge hi (by omega)), nI_1, C_ratS hnow hnw hi (ratK_I h6 i (by omega)) (by omega)]
          rfl
        · intro u ⟨a1, a2, a3⟩
          rw [hR] at a2 a3
          exact ⟨_, by rw [a1, a2, a3, gR_0_4, ob_some, C_isT hnow, ob_some, if_pos (nI_le (Nat.le_refl _) (by omega)), pI_0_13, ob_some], rfl⟩
      obtain ⟨t, e, rfl⟩ := key
      unfold F_X8_rather
      rw [gR_0_4, ob_some, C_isT hnow, ob_some, if_neg (nI_ne0 (by omega) (by omega)), e]
    · have hnow := h.now
      rw [hT] at hnow
      obtain ⟨σ3, e3, h4, f4⟩ := M_tells (A := A) (v := R.2) (r := nI R.1) σ h
      refine ⟨_, ?_, h4, f4⟩
      have key : ∃ t, F_X9_rather_17 134 σ ((0 : Int32), (-9 : Int32), (0 : Int32)) = some t ∧ t = (nI R.1, σ3) := by
        unfold F_X9_rather_17
        refine lp_inv (Q := fun t : Int32 × Mem => t = (nI R.1, σ3)) (fun i (u : Int32 × Int32 × Int32) => u.2.2 = nI i ∧ u.1 = nI (ratI T i).1 ∧ u.2.1 = (ratI T i).2) (T 0) ?_ ?_ _ ⟨rfl, rfl, rfl⟩
        · intro i u hi ⟨a1, a2, a3⟩
          refine ⟨(nI (ratI T (i + 1)).1, (ratI T (i + 1)).2, nI (i + 1)), ?_, rfl, rfl, rfl⟩
          rw [a1, a2, a3, wR, ob_some, M_r0 hnow, ob_some, if_neg (nI_ge hi (by omega)), nI_1, M_ratS hnow hnw hi (ratK_I h6 i (by omega)) (by omega)]
          rfl
        · intro u ⟨a1, a2, a3⟩
          rw [hR] at a2 a3
          exact ⟨_, by rw [a1, a2, a3, wR, ob_some, M_r0 hnow, ob_some, if_pos (nI_le (Nat.le_refl _) (by omega)), e3, ob_some], rfl⟩
      obtain ⟨t, e, rfl⟩ := key
      unfold F_X9_rather
      rw [M_isTown hnow h6, if_neg hz, ob_some, if_neg (by decide), e]

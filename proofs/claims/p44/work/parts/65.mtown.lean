/-! ===== the reference's town ===== -/
theorem ix_3 {f i : Nat} : (nI f + (3 : Int32)) + nI i = nI (f + (3 + i)) := by
  rw [show (3 : Int32) = nI 3 from rfl, nI_add, nI_add, Nat.add_assoc]
theorem ix_9 {f i : Nat} : (nI f + (9 : Int32)) + nI i = nI (f + (9 + i)) := by
  rw [show (9 : Int32) = nI 9 from rfl, nI_add, nI_add, Nat.add_assoc]
theorem ix_15 {f i : Nat} : (nI f + (15 : Int32)) + nI i = nI (f + (15 + i)) := by
  rw [show (15 : Int32) = nI 15 from rfl, nI_add, nI_add, Nat.add_assoc]
theorem ix_21 {f i : Nat} : (nI f + (21 : Int32)) + nI i = nI (f + (21 + i)) := by
  rw [show (21 : Int32) = nI 21 from rfl, nI_add, nI_add, Nat.add_assoc]
theorem ix_27 {f i : Nat} : (nI f + (27 : Int32)) + nI i = nI (f + (27 + i)) := by
  rw [show (27 : Int32) = nI 27 from rfl, nI_add, nI_add, Nat.add_assoc]
theorem ix_33 {f i : Nat} : (nI f + (33 : Int32)) + nI i = nI (f + (33 + i)) := by
  rw [show (33 : Int32) = nI 33 from rfl, nI_add, nI_add, Nat.add_assoc]
theorem iy_0 {f : Nat} : nI f + (0 : Int32) = nI (f + 0) := by
  rw [show (0 : Int32) = nI 0 from rfl, nI_add]
theorem iy_1 {f : Nat} : nI f + (1 : Int32) = nI (f + 1) := by
  rw [show (1 : Int32) = nI 1 from rfl, nI_add]
theorem iy_2 {f : Nat} : nI f + (2 : Int32) = nI (f + 2) := by
  rw [show (2 : Int32) = nI 2 from rfl, nI_add]
theorem iy_43 {f : Nat} : nI f + (43 : Int32) = nI (f + 43) := by
  rw [show (43 : Int32) = nI 43 from rfl, nI_add]
theorem iz_39 {m : Nat} : (39 : Int32) + nI m = nI (39 + m) := by
  rw [show (39 : Int32) = nI 39 from rfl, nI_add]
theorem wR : gR 9 0 134 = some 135 := rfl
theorem w_rd {j : Nat} {σ : Mem} (h : j < 7304) : aI 135 (nI j) σ = some (σ.1 135 j) := aI_eq sh_135 h (by decide)
theorem w_wr {j : Nat} {v : Int32} {σ : Mem} (h : j < 7304) : sI 135 (nI j) v σ = some (setI σ 135 j v) := sI_eq sh_135 h (by decide)
/-- the colds that all of the reference's towns go by -/
def COL (σ : Mem) (T : Tn) : Prop := ∀ m, m < 4 → σ.1 135 (39 + m) = nI (T (39 + m))
def FrM (f : Nat) (σ σ' : Mem) : Prop := (∀ a b, (a ≠ 135 ∨ b < f ∨ f + 44 ≤ b) → σ'.1 a b = σ.1 a b) ∧ σ'.2 = σ.2
theorem FrM.rf {f : Nat} {σ : Mem} : FrM f σ σ := ⟨fun _ _ _ => rfl, rfl⟩
theorem FrM.tr {f : Nat} {σ σ' σ'' : Mem} (h : FrM f σ σ') (h2 : FrM f σ' σ'') : FrM f σ σ'' := ⟨fun a b q => (h2.1 a b q).trans (h.1 a b q), h2.2.trans h.2⟩
theorem FrM.set {f j : Nat} {v : Int32} {σ : Mem} (h1 : j < 44) : FrM f σ (setI σ 135 (f + j) v) := ⟨fun x y q => by rw [setI_1, if_neg (by omega)], rfl⟩
theorem MT.set {σ : Mem} {f j v : Nat} {T : Tn} (h : MT σ f T) : MT (setI σ 135 (f + j) (nI v)) f (updT T j v) := by
  intro a ha
  rw [setI_1]
  unfold updT
  by_cases q : a = j
  · rw [if_pos ⟨rfl, by omega⟩, if_pos q]
  · rw [if_neg (by omega), if_neg q]
    exact h a ha
theorem MT.kept {σ σ' : Mem} {f : Nat} {T : Tn} (h : MT σ f T) (ho : ∀ b, f ≤ b → b < f + 44 → σ'.1 135 b = σ.1 135 b) : MT σ' f T := fun j hj => (ho _ (by omega) (by omega)).trans (h j hj)
theorem MT.ext {σ : Mem} {f : Nat} {T T' : Tn} (h : MT σ f T) (e : ∀ j, j < 44 → T' j = T j) : MT σ f T' := fun j hj => by rw [e j hj]; exact h j hj
theorem COL.set {σ : Mem} {f j : Nat} {v : Int32} {T : Tn} (h : COL σ T) (hf : f = 0 ∨ 44 ≤ f) (hj : j < 39) : COL (setI σ 135 (f + j) v) T := fun m hm => by
  rw [setI_1, if_neg (by omega)]
  exact h m hm
theorem COL.ext {σ : Mem} {T T' : Tn} (h : COL σ T) (e : ∀ m, m < 4 → T' (39 + m) = T (39 + m)) : COL σ T' := fun m hm => by rw [e m hm]; exact h m hm
theorem sleep_col {T : Tn} {i m : Nat} (hi : i < 6) : sleepT T i (39 + m) = T (39 + m) := by
  unfold sleepT
  split
  · rw [upd_ne (by omega), upd_ne (by omega)]
  · rw [upd_ne (by omega)]
theorem passL_col {T : Tn} {m : Nat} : ∀ n, n ≤ 6 → passL T n (39 + m) = T (39 + m)
  | 0, _ => rfl
  | n + 1, h => (sleep_col (by omega)).trans (passL_col n (by omega))
section MTR
variable {σ : Mem} {f i B : Nat} {T : Tn}
theorem M_gap (h : MT σ f T) (hf : f + 44 ≤ 7304) (hw : wfT B T) (hi : i < T 0) : F_X9_gapIn 134 (nI f) (nI i) σ = some (nI (gapT T i i)) := by
  have b := hw.2.2.1 i hi
  have h6 := hw.1
  unfold F_X9_gapIn
  rw [wR, ob_some, ix_9, w_rd (by omega), ob_some, ob_some, ix_15, w_rd (by omega), ob_some, h _ (by omega), h _ (by omega), off_eq b.2.1 b.2.2.1, ob_some]
  rfl
theorem M_crossBy {kd th gap m c : Nat} (hc : σ.1 135 (39 + m % 4) = nI c) (h1 : kd < 6) (h2 : th ≤ 9) (h3 : gap ≤ 9) (h4 : m ≤ 100000) (h5 : c ≤ 9) : F_X9_crossBy 134 (nI kd) (nI th) (nI gap) (nI m) σ = some (nI (crN kd gap th m c)) := by
  have hb := barN_le (kind := kd) h2
  have hm4 : m % 4 < 4 := Nat.mod_lt _ (by decide)
  unfold F_X9_crossBy
  rw [wR, ob_some, rem4 h4, iz_39, w_rd (by omega), ob_some, hc, M_bar h1 h2, ob_some, nI_add]
  by_cases q : barN kd th ≤ gap + c
  · rw [if_pos ((over_le0 (by omega) (by omega)).mpr q), pk_sub q, M_crossBy_tail h1 h4 (by omega)]
    rfl
  · rw [if_neg (fun z => q ((over_le0 (by omega) (by omega)).mp z)), show (0 : Int32) = nI (gap + c - barN kd th) by rw [show gap + c - barN kd th = 0 by omega]; rfl, M_crossBy_tail h1 h4 (by omega)]
    rfl
theorem M_crossIn (h : MT σ f T) (hC : COL σ T) (hf : f + 44 ≤ 7304) (hw : wfT B T) (hB : B ≤ 100000) (hi : i < T 0) : F_X9_crossIn 134 (nI f) (nI i) σ = some (nI (crossT T i (T 1))) := by
  have b := hw.2.2.1 i hi
  have h6 := hw.1
  have h4 : T 1 % 4 < 4 := Nat.mod_lt _ (by decide)
  have hm : T 1 ≤ 100000 := Nat.le_trans hw.2.1 hB
  unfold F_X9_crossIn
  rw [wR, ob_some, ix_3, w_rd (by omega), ob_some, ob_some, ix_21, w_rd (by omega), ob_some, M_gap h hf hw hi, ob_some, ob_some, iy_1, w_rd (by omega), ob_some, h _ (by omega), h _ (by omega), h 1 (by decide), M_crossBy (hC _ h4) b.1 b.2.2.2.1 (gapT_le b.2.1 b.2.2.1) hm (hw.2.2.2.1 _ h4), ob_some]
  rfl
theorem M_due (h : MT σ f T) (hf : f + 44 ≤ 7304) (hw : wfT B T) (hi : i < T 0) : F_X9_isDue 134 (nI f) (nI i) σ = some (if T 43 ≤ T (27 + i) then 1 else 0) := by
  have b := hw.2.2.1 i hi
  have b2 := hw.2.2.2.2.1
  have h6 := hw.1
  unfold F_X9_isDue
  rw [wR, ob_some, ix_27, w_rd (by omega), ob_some, ob_some, iy_43, w_rd (by omega), ob_some, h _ (by omega), h 43 (by decide)]
  by_cases q : T 43 ≤ T (27 + i)
  · rw [if_neg (nI_nlt q (by omega)), if_pos q]
  · rw [if_pos (nI_lt (by omega) (by omega)), if_neg q]
theorem M_insp (h : MT σ f T) (hf : f + 44 ≤ 7304) (hw : wfT B T) (hi : i < T 0) : ∃ σ', F_X9_inspects 134 (nI f) (nI i) σ = some (nI (inspS T i), σ') ∧ MT σ' f (inspT T i) ∧ FrM f σ σ' := by
  have b := hw.2.2.1 i hi
  have h6 := hw.1
  unfold F_X9_inspects
  rw [M_due h hf hw hi, ob_some]
  unfold inspS inspT
  by_cases q : T 43 ≤ T (27 + i)
  · rw [if_pos q, if_neg (by decide), if_pos q, if_pos q, wR, ob_some, ix_27, w_rd (by omega), ob_some, ob_some, w_wr (by omega), ob_some, ob_some, ix_21, w_wr (by omega), ob_some, ob_some, ix_33, w_rd (by omega), ob_some, w_wr (by omega), ob_some, ob_some, iy_2, w_rd (by omega), ob_some, w_wr (by omega), ob_some, h _ (by omega)]
    have m1 : MT (setI σ 135 (f + (27 + i)) (nI 0)) f (updT T (27 + i) 0) := h.set
    have m2 : MT (setI (setI σ 135 (f + (27 + i)) (nI 0)) 135 (f + (21 + i)) (nI 9)) f (updT (updT T (27 + i) 0) (21 + i) 9) := m1.set
    have e1 : (setI (setI σ 135 (f + (27 + i)) (0 : Int32)) 135 (f + (21 + i)) (9 : Int32)).1 135 (f + (33 + i)) + (1 : Int32) = nI (T (33 + i) + 1) := by
      rw [setI_1, if_neg (by omega), setI_1, if_neg (by omega), h _ (by omega)]
      exact nI_1 _
    rw [e1]
    have m3 := m2.set (j := 33 + i) (v := T (33 + i) + 1)
    have e2 : (setI (setI (setI σ 135 (f + (27 + i)) (0 : Int32)) 135 (f + (21 + i)) (9 : Int32)) 135 (f + (33 + i)) (nI (T (33 + i) + 1))).1 135 (f + 2) + (1 : Int32) = nI (T 2 + 1) := by
      rw [setI_1, if_neg (by omega), setI_1, if_neg (by omega), setI_1, if_neg (by omega), h _ (by omega)]
      exact nI_1 _
    rw [e2]
    exact ⟨_, rfl, m3.set, (((FrM.set (by omega)).tr (FrM.set (by omega))).tr (FrM.set (by omega))).tr (FrM.set (by decide))⟩
  · rw [if_neg q, if_pos rfl, if_neg q, if_neg q]
    exact ⟨σ, rfl, h, FrM.rf⟩
/-- one bed's night, as the reference writes it -/
theorem M_sleep (h : MT σ f T) (hC : COL σ T) (hf : f + 44 ≤ 7304) (hf0 : f = 0 ∨ 44 ≤ f) (hw : wfT B T) (hi : i < T 0) {x : Int32} : ∃ σ', (if (nI (T (27 + i)) + nI (crossT T i (T 1))) ≤ (99 : Int32) then F_X9_passes_64 134 (nI f) x (nI i) (nI (crossT T i (T 1))) (nI (T (27 + i)) + nI (crossT T i (T 1))) (nI (f + (27 + i))) 135 σ else F_X9_passes_64 134 (nI f) x (nI i) (nI (crossT T i (T 1))) (99 : Int32) (nI (f + (27 + i))) 135 σ) = some (.inl (x + nI (crossT T i (T 1)), nI i + (1 : Int32), σ')) ∧ MT σ' f (sleepT T i) ∧ COL σ' T ∧ FrM f σ σ' := by
  have b := hw.2.2.1 i hi
  have h6 := hw.1
  have hc := crossT_le hw hi (m := T 1)
  have e3 : (nI (crossT T i (T 1)) < (3 : Int32)) ↔ crossT T i (T 1) < 3 := nI_ltI (b := 3) (by omega) (by decide)
  have e0 : (nI (T (21 + i)) ≤ (0 : Int32)) ↔ T (21 + i) ≤ 0 := nI_leI (b := 0) (by omega) (by decide)
  have e9 : (nI (T (27 + i) + crossT T i (T 1)) ≤ (99 : Int32)) ↔ T (27 + i) + crossT T i (T 1) ≤ 99 := nI_leI (b := 99) (by omega) (by decide)
  have key : ∀ v, v = min 99 (T (27 + i) + crossT T i (T 1)) → ∃ σ', F_X9_passes_64 134 (nI f) x (nI i) (nI (crossT T i (T 1))) (nI v) (nI (f + (27 + i))) 135 σ = some (.inl (x + nI (crossT T i (T 1)), nI i + (1 : Int32), σ')) ∧ MT σ' f (sleepT T i) ∧ COL σ' T ∧ FrM f σ σ' := by
    intro v hv
    have m1 : MT (setI σ 135 (f + (27 + i)) (nI v)) f (updT T (27 + i) v) := h.set
    have k1 : COL (setI σ 135 (f + (27 + i)) (nI v)) T := hC.set hf0 (by omega)
    have e21 : (setI σ 135 (f + (27 + i)) (nI v)).1 135 (f + (21 + i)) = nI (T (21 + i)) := by rw [setI_1, if_neg (by omega), h _ (by omega)]
    unfold F_X9_passes_64
    rw [w_wr (by omega), ob_some, wR, ob_some, ix_21, w_rd (by omega), ob_some, e21]
    unfold sleepT
    rw [← hv]
    by_cases q : crossT T i (T 1) < 3
    · rw [if_pos (e3.mpr q), if_neg (by omega)]
      unfold F_X9_passes_101 F_X9_passes_102
      rw [w_wr (by omega), ob_some, show nI (T (21 + i)) - (0 : Int32) = nI (T (21 + i)) from Int32.sub_zero _]
      refine ⟨_, rfl, MT.ext m1.set (fun j hj => ?_), k1.set hf0 (by omega), (FrM.set (by omega)).tr (FrM.set (by omega))⟩
      by_cases z : j = 21 + i
      · subst z; rw [upd_eq, upd_ne (by omega)]
      · rw [upd_ne z]
    · rw [if_neg (fun z => q (e3.mp z)), ob_some, w_rd (by omega), ob_some, e21, if_pos (show 3 ≤ crossT T i (T 1) by omega)]
      by_cases z : T (21 + i) ≤ 0
      · rw [if_pos (e0.mpr z)]
        unfold F_X9_passes_101 F_X9_passes_102
        rw [w_wr (by omega), ob_some, show nI (T (21 + i)) - (0 : Int32) = nI (T (21 + i) - 1) by rw [show T (21 + i) - 1 = T (21 + i) by omega]; exact Int32.sub_zero _]
        exact ⟨_, rfl, m1.set, k1.set hf0 (by omega), (FrM.set (by omega)).tr (FrM.set (by omega))⟩
      · rw [if_neg (fun y => z (e0.mp y))]
        unfold F_X9_passes_102
        rw [w_wr (by omega), ob_some, show nI (T (21 + i)) - (1 : Int32) = nI (T (21 + i) - 1) from pk_sub (b := 1) (by omega)]
        exact ⟨_, rfl, m1.set, k1.set hf0 (by omega), (FrM.set (by omega)).tr (FrM.set (by omega))⟩
  rw [nI_add]
  by_cases q : T (27 + i) + crossT T i (T 1) ≤ 99
  · rw [if_pos (e9.mpr q)]
    exact key _ (by omega)
  · rw [if_neg (fun z => q (e9.mp z))]
    exact key 99 (by omega)
theorem M_pass (h : MT σ f T) (hC : COL σ T) (hf : f + 44 ≤ 7304) (hf0 : f = 0 ∨ 44 ≤ f) (hw : wfT B T) (hB : B ≤ 100000) : ∃ σ', F_X9_passes 134 (nI f) σ = some (nI (passS T (T 0)), σ') ∧ MT σ' f (passT T) ∧ FrM f σ σ' := by
  have h6 := hw.1
  have key : ∃ t, F_X9_passes 134 (nI f) σ = some t ∧ (t.1 = nI (passS T (T 0)) ∧ MT t.2 f (passT T) ∧ FrM f σ t.2) := by
    unfold F_X9_passes F_X9_passes_4
    refine lp_inv (Q := fun t : Int32 × Mem => t.1 = nI (passS T (T 0)) ∧ MT t.2 f (passT T) ∧ FrM f σ t.2) (fun j (s : Int32 × Int32 × Mem) => s.1 = nI (passS T j) ∧ s.2.1 = nI j ∧ MT s.2.2 f (passL T j) ∧ COL s.2.2 T ∧ FrM f σ s.2.2) (T 0) ?_ ?_ _ ⟨rfl, rfl, h, hC, FrM.rf⟩
    · intro j s hj ⟨h1, h2, h3, h4, h5⟩
      have hw2 := wf_passL hw j (by omega)
      have hj2 : j < passL T j 0 := by rw [passL_0]; exact hj
      have hC2 : COL s.2.2 (passL T j) := h4.ext (fun m _ => passL_col j (by omega))
      obtain ⟨σ', g1, g2, g3, g4⟩ := M_sleep h3 hC2 hf hf0 hw2 hj2 (x := s.1)
      refine ⟨(nI (passS T (j + 1)), nI (j + 1), σ'), ?_, rfl, rfl, g2, g3.ext (fun m _ => (passL_col j (by omega)).symm), h5.tr g4⟩
      rw [wR, ob_some, iy_0, w_rd (by omega), ob_some, h3 0 (by decide), passL_0, h2, if_neg (nI_ge hj (by omega)), M_crossIn h3 hC2 hf hw2 hB hj2, ob_some, ob_some, ix_27, w_rd (by omega), ob_some, ob_some, h3 _ (by omega), g1, h1, nI_add, nI_1]
      rfl
    · intro s ⟨h1, h2, h3, h4, h5⟩
      refine ⟨(s.1, setI s.2.2 135 (f + 1) (nI (T 1 + 1))), ?_, h1, h3.set, h5.tr (FrM.set (by decide))⟩
      rw [wR, ob_some, iy_0, w_rd (by omega), ob_some, h3 0 (by decide), passL_0, h2, if_pos (nI_le (Nat.le_refl _) (by omega)), ob_some, iy_1, w_rd (by omega), ob_some, w_wr (by omega), ob_some, h3 1 (by decide), passL_1, nI_1]
  obtain ⟨t, h1, h2, h3, h4⟩ := key
  exact ⟨t.2, by rw [← h2]; exact h1, h3, h4⟩
end MTR

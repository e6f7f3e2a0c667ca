/-! ===== a loop by an invariant ===== -/
theorem lp_inv {S T : Type} {f : S → Option (S ⊕ T)} {Q : T → Prop} (I : Nat → S → Prop) (n : Nat) (hs : ∀ j s, j < n → I j s → ∃ s', f s = some (.inl s') ∧ I (j + 1) s') (he : ∀ s, I n s → ∃ t, f s = some (.inr t) ∧ Q t) : ∀ s, I 0 s → ∃ t, lp f s = some t ∧ Q t := by
  have key : ∀ m, m ≤ n → ∀ s, I (n - m) s → ∃ t, lp f s = some t ∧ Q t := by
    intro m
    induction m with
    | zero =>
      intro _ s h
      obtain ⟨t, h1, h2⟩ := he s h
      exact ⟨t, lp_out h1, h2⟩
    | succ m ih =>
      intro hm s h
      obtain ⟨s', h1, h2⟩ := hs _ s (by omega) h
      rw [show n - (m + 1) + 1 = n - m by omega] at h2
      obtain ⟨t, h3, h4⟩ := ih (by omega) s' h2
      exact ⟨t, by rw [lp_in h1]; exact h3, h4⟩
  intro s h
  exact key n (Nat.le_refl n) s (by rw [Nat.sub_self]; exact h)
/-- nothing but the town at k has changed -/
def FrK (k : Nat) (σ σ' : Mem) : Prop := (∀ a b, (a < k ∨ k + 7 < a) → σ'.1 a b = σ.1 a b) ∧ σ'.2 = σ.2
theorem FrK.rf {k : Nat} {σ : Mem} : FrK k σ σ := ⟨fun _ _ _ => rfl, rfl⟩
theorem FrK.tr {k : Nat} {σ σ' σ'' : Mem} (h : FrK k σ σ') (h2 : FrK k σ' σ'') : FrK k σ σ'' := ⟨fun a b q => (h2.1 a b q).trans (h.1 a b q), h2.2.trans h.2⟩
theorem FrK.set {k a j : Nat} {v : Int32} {σ : Mem} (h1 : k ≤ a) (h2 : a ≤ k + 7) : FrK k σ (setI σ a j v) := ⟨fun x y q => by rw [setI_1, if_neg (by omega)], rfl⟩
/-! ===== well-formed towns stay so ===== -/
theorem sumT_ext {T T' : Tn} : ∀ n, (∀ j, j < n → T' (33 + j) = T (33 + j)) → sumT T' n = sumT T n
  | 0, _ => rfl
  | n + 1, h => by
    show sumT T' n + _ = sumT T n + _
    rw [sumT_ext n (fun j hj => h j (by omega)), h n (by omega)]
theorem upd_ne {T : Tn} {j v a : Nat} (h : a ≠ j) : updT T j v a = T a := if_neg h
theorem upd_eq {T : Tn} {j v : Nat} : updT T j v j = v := if_pos rfl
theorem wf_bed {B b v i : Nat} {T : Tn} (hw : wfT B T) (hi : i < T 0) (hb : (b = 15 + i ∧ v ≤ 9) ∨ (b = 21 + i ∧ v ≤ 9) ∨ (b = 27 + i ∧ v ≤ 99)) : wfT B (updT T b v) := by
  obtain ⟨h0, h1, h2, h3, h4, h5⟩ := hw
  have e0 : updT T b v 0 = T 0 := upd_ne (by omega)
  refine ⟨by rw [e0]; exact h0, by rw [upd_ne (by omega)]; exact h1, fun j hj => ?_, fun m hm => by rw [upd_ne (by omega)]; exact h3 m hm, by rw [upd_ne (by omega)]; exact h4, ?_⟩
  · rw [e0] at hj
    obtain ⟨c1, c2, c3, c4, c5, c6⟩ := h2 j hj
    refine ⟨by rw [upd_ne (by omega)]; exact c1, by rw [upd_ne (by omega)]; exact c2, ?_, ?_, ?_, by rw [upd_ne (by omega)]; exact c6⟩
    · unfold updT; split <;> omega
    · unfold updT; split <;> omega
    · unfold updT; split <;> omega
  · rw [e0, upd_ne (by omega), h5]
    exact (sumT_ext _ (fun j hj => upd_ne (by omega))).symm
theorem wf_mono {B B' : Nat} {T : Tn} (h : B ≤ B') (hw : wfT B T) : wfT B' T := ⟨hw.1, Nat.le_trans hw.2.1 h, fun i hi => by
  obtain ⟨c1, c2, c3, c4, c5, c6⟩ := hw.2.2.1 i hi
  exact ⟨c1, c2, c3, c4, c5, Nat.le_trans c6 h⟩, hw.2.2.2⟩
theorem sleep_0 {T : Tn} {i : Nat} : sleepT T i 0 = T 0 := by
  unfold sleepT
  split
  · rw [upd_ne (by omega), upd_ne (by omega)]
  · rw [upd_ne (by omega)]
theorem sleep_1 {T : Tn} {i : Nat} : sleepT T i 1 = T 1 := by
  unfold sleepT
  split
  · rw [upd_ne (by omega), upd_ne (by omega)]
  · rw [upd_ne (by omega)]
theorem wf_sleep {B i : Nat} {T : Tn} (hw : wfT B T) (hi : i < T 0) : wfT B (sleepT T i) := by
  have b := hw.2.2.1 i hi
  have w1 : wfT B (updT T (27 + i) (min 99 (T (27 + i) + crossT T i (T 1)))) := wf_bed hw hi (Or.inr (Or.inr ⟨rfl, Nat.min_le_left _ _⟩))
  unfold sleepT
  split
  · exact wf_bed (i := i) w1 (by rw [upd_ne (by omega)]; exact hi) (Or.inr (Or.inl ⟨rfl, by omega⟩))
  · exact w1
theorem passL_0 (T : Tn) : ∀ n, passL T n 0 = T 0
  | 0 => rfl
  | n + 1 => sleep_0.trans (passL_0 T n)
theorem passL_1 (T : Tn) : ∀ n, passL T n 1 = T 1
  | 0 => rfl
  | n + 1 => sleep_1.trans (passL_1 T n)
theorem wf_passL {B : Nat} {T : Tn} (hw : wfT B T) : ∀ n, n ≤ T 0 → wfT B (passL T n)
  | 0, _ => hw
  | n + 1, h => wf_sleep (wf_passL hw n (by omega)) (by rw [passL_0]; omega)
theorem wf_night {B v : Nat} {T : Tn} (hw : wfT B T) (hv : v ≤ B) : wfT B (updT T 1 v) := by
  obtain ⟨h0, h1, h2, h3, h4, h5⟩ := hw
  have e0 : updT T 1 v 0 = T 0 := rfl
  refine ⟨h0, by rw [upd_eq]; exact hv, fun j hj => ?_, fun m hm => by rw [upd_ne (by omega)]; exact h3 m hm, h4, ?_⟩
  · rw [e0] at hj
    obtain ⟨c1, c2, c3, c4, c5, c6⟩ := h2 j hj
    refine ⟨?_, ?_, ?_, ?_, ?_, ?_⟩ <;> (rw [upd_ne (by omega)]; assumption)
  · rw [e0, upd_ne (by omega), h5]
    exact (sumT_ext _ (fun j hj => upd_ne (by omega))).symm
theorem pass_0 (T : Tn) : passT T 0 = T 0 := passL_0 T _
theorem wf_pass {B : Nat} {T : Tn} (hw : wfT B T) : wfT (B + 1) (passT T) := wf_night (wf_mono (by omega) (wf_passL hw _ (Nat.le_refl _))) (by have := hw.2.1; omega)
theorem sumT_upd {T : Tn} {v : Nat} : ∀ (n i : Nat), i < n → sumT (updT T (33 + i) v) n + T (33 + i) = sumT T n + v
  | 0, _, h => by omega
  | n + 1, i, h => by
    show sumT (updT T (33 + i) v) n + updT T (33 + i) v (33 + n) + T (33 + i) = sumT T n + T (33 + n) + v
    by_cases q : i = n
    · subst q
      rw [upd_eq, sumT_ext i (fun j hj => upd_ne (by omega))]
      omega
    · rw [upd_ne (by omega)]
      have := sumT_upd (T := T) (v := v) n i (by omega)
      omega
theorem insp_0 {T : Tn} {i : Nat} : inspT T i 0 = T 0 := by
  unfold inspT
  split
  · rw [upd_ne (by omega), upd_ne (by omega), upd_ne (by omega), upd_ne (by omega)]
  · rfl
theorem wf_insp {B i : Nat} {T : Tn} (hw : wfT B T) (hi : i < T 0) : wfT (B + 1) (inspT T i) := by
  unfold inspT
  split
  · have b := hw.2.2.1 i hi
    have w1 : wfT B (updT T (27 + i) 0) := wf_bed hw hi (Or.inr (Or.inr ⟨rfl, by omega⟩))
    have w2 : wfT B (updT (updT T (27 + i) 0) (21 + i) 9) := wf_bed (i := i) w1 (by rw [upd_ne (by omega)]; exact hi) (Or.inr (Or.inl ⟨rfl, by omega⟩))
    generalize hU : updT (updT T (27 + i) 0) (21 + i) 9 = U at w2
    have e33 : U (33 + i) = T (33 + i) := by rw [← hU, upd_ne (by omega), upd_ne (by omega)]
    have e2 : U 2 = T 2 := by rw [← hU, upd_ne (by omega), upd_ne (by omega)]
    have eU0 : U 0 = T 0 := by rw [← hU, upd_ne (by omega), upd_ne (by omega)]
    obtain ⟨h0, h1, h2, h3, h4, h5⟩ := w2
    have e0 : updT (updT U (33 + i) (T (33 + i) + 1)) 2 (T 2 + 1) 0 = U 0 := by rw [upd_ne (by omega), upd_ne (by omega)]
    refine ⟨by rw [e0]; exact h0, by rw [upd_ne (by omega), upd_ne (by omega)]; omega, fun j hj => ?_, fun m hm => by rw [upd_ne (by omega), upd_ne (by omega)]; exact h3 m hm, by rw [upd_ne (by omega), upd_ne (by omega)]; exact h4, ?_⟩
    · rw [e0] at hj
      obtain ⟨c1, c2, c3, c4, c5, c6⟩ := h2 j hj
      refine ⟨?_, ?_, ?_, ?_, ?_, ?_⟩
      · rw [upd_ne (by omega), upd_ne (by omega)]; exact c1
      · rw [upd_ne (by omega), upd_ne (by omega)]; exact c2
      · rw [upd_ne (by omega), upd_ne (by omega)]; exact c3
      · rw [upd_ne (by omega), upd_ne (by omega)]; exact c4
      · rw [upd_ne (by omega), upd_ne (by omega)]; exact c5
      · rw [upd_ne (by omega)]; unfold updT; split <;> omega
    · rw [e0, upd_eq]
      have s1 : sumT (updT (updT U (33 + i) (T (33 + i) + 1)) 2 (T 2 + 1)) (U 0) = sumT (updT U (33 + i) (T (33 + i) + 1)) (U 0) := sumT_ext _ (fun j hj => upd_ne (by omega))
      rw [s1]
      have s2 := sumT_upd (T := U) (v := T (33 + i) + 1) (U 0) i (by omega)
      omega
  · exact wf_mono (by omega) hw
/-! ===== the class's town: what happens ===== -/
section CTD
variable {σ : Mem} {k i B : Nat} {T : Tn}
theorem C_thin {v : Nat} (hk : Tw k) (h : CT σ k T) (hw : wfT B T) (hi : i < T 0) (hv : v ≤ 10) : F_X7_thinBed k (nI i) (nI v) σ = some (setI σ (k + 5) i (nI (T (21 + i) - v))) := by
  have b := hw.2.2.1 i hi
  have h6 := hw.1
  unfold F_X7_thinBed
  rw [tR_4 hk, ob_some, ob_some, hk.rd (o := 5) (by decide) (by decide) (by omega), ob_some, (h.2.2.2.2 i hi).2.2.2.1]
  have e : (if (0 : Int32) < (nI (T (21 + i)) - nI v) then (nI (T (21 + i)) - nI v) else (0 : Int32)) = nI (T (21 + i) - v) := by
    by_cases q : v < T (21 + i)
    · rw [if_pos ((over_lt0 (by omega) (by omega)).mpr q), pk_sub (by omega)]
    · rw [if_neg (fun z => q ((over_lt0 (by omega) (by omega)).mp z)), show T (21 + i) - v = 0 by omega]
      rfl
  rw [e, hk.wr (o := 5) (by decide) (by decide) (by omega), ob_some]
theorem crossT_le (hw : wfT B T) (hi : i < T 0) {m : Nat} : crossT T i m ≤ 19 := by
  have b := hw.2.2.1 i hi
  exact crN_le (gapT_le b.2.1 b.2.2.1) (hw.2.2.2.1 _ (Nat.mod_lt _ (by decide)))
theorem C_sleep (hk : Tw k) (h : CT σ k T) (hw : wfT B T) (hB : B ≤ 100000) (hi : i < T 0) : ∃ σ', F_X7_sleepIn k (nI i) σ = some (nI (crossT T i (T 1)), σ') ∧ CT σ' k (sleepT T i) ∧ FrK k σ σ' := by
  have b := hw.2.2.1 i hi
  have h6 := hw.1
  have h4 : T 1 % 4 < 4 := Nat.mod_lt _ (by decide)
  have hm : T 1 ≤ 100000 := Nat.le_trans hw.2.1 hB
  have hc := crossT_le hw hi (m := T 1)
  have w1 : wfT B (updT T (27 + i) (min 99 (T (27 + i) + crossT T i (T 1)))) := wf_bed hw hi (Or.inr (Or.inr ⟨rfl, Nat.min_le_left _ _⟩))
  have c1 := h.set (o := 6) (v := min 99 (T (27 + i) + crossT T i (T 1))) h6 hi (by decide) (by decide) (b := 27 + i) (by omega)
  have e : (if (nI (T (27 + i)) + nI (crossT T i (T 1))) < (99 : Int32) then (nI (T (27 + i)) + nI (crossT T i (T 1))) else (99 : Int32)) = nI (min 99 (T (27 + i) + crossT T i (T 1))) := by
    rw [nI_add]
    have e9 : (nI (T (27 + i) + crossT T i (T 1)) < (99 : Int32)) ↔ T (27 + i) + crossT T i (T 1) < 99 := nI_ltI (b := 99) (by omega) (by decide)
    by_cases q : T (27 + i) + crossT T i (T 1) < 99
    · rw [if_pos (e9.mpr q), Nat.min_eq_right (by omega)]
    · rw [if_neg (fun z => q (e9.mp z)), Nat.min_eq_left (by omega)]
      rfl
  have e3 : (nI (crossT T i (T 1)) < (3 : Int32)) ↔ crossT T i (T 1) < 3 := nI_ltI (b := 3) (by omega) (by decide)
  unfold F_X7_sleepIn
  rw [C_kind hk h hw hi, ob_some, C_gap hk h hw hi hi, ob_some, C_thick hk h hw hi, ob_some, tI_9 hk, ob_some, ob_some, h.2.1, C_cold hk h hm, ob_some, C_crossing b.1 (gapT_le b.2.1 b.2.2.1) b.2.2.2.1 hm (hw.2.2.2.1 _ h4), ob_some, tR_5 hk, ob_some, C_lies hk h hw hi, ob_some]
  change ∃ σ', ((F_X8_write (k + 6) (nI i) (if (nI (T (27 + i)) + nI (crossT T i (T 1))) < (99 : Int32) then (nI (T (27 + i)) + nI (crossT T i (T 1))) else (99 : Int32)) σ).bind fun q19 => if nI (crossT T i (T 1)) < (3 : Int32) then some (nI (crossT T i (T 1)), q19) else (F_X7_thinBed k (nI i) (1 : Int32) q19).bind fun q22 => some (nI (crossT T i (T 1)), q22)) = some (nI (crossT T i (T 1)), σ') ∧ _
  rw [e, hk.wr (o := 6) (by decide) (by decide) (by omega), ob_some]
  unfold sleepT
  by_cases q : 3 ≤ crossT T i (T 1)
  · rw [if_neg (fun z => by have := e3.mp z; omega), if_pos q]
    have e1 : (1 : Int32) = nI 1 := rfl
    rw [e1, C_thin hk c1 w1 (by rw [upd_ne (by omega)]; exact hi) (by decide), ob_some, upd_ne (by omega)]
    refine ⟨_, rfl, ?_, (FrK.set (by omega) (by omega)).tr (FrK.set (by omega) (by omega))⟩
    exact c1.set (o := 5) (by rw [upd_ne (by omega)]; exact h6) (by rw [upd_ne (by omega)]; exact hi) (by decide) (by decide) (by omega)
  · rw [if_pos (e3.mpr (by omega)), if_neg q]
    exact ⟨_, rfl, c1, FrK.set (by omega) (by omega)⟩
theorem C_pass (hk : Tw k) (h : CT σ k T) (hw : wfT B T) (hB : B ≤ 100000) : ∃ σ', F_X7_passNight k σ = some (nI (passS T (T 0)), σ') ∧ CT σ' k (passT T) ∧ FrK k σ σ' := by
  have h6 := hw.1
  have key : ∃ t, F_X7_passNight k σ = some t ∧ (t.1 = nI (passS T (T 0)) ∧ CT t.2 k (passT T) ∧ FrK k σ t.2) := by
    unfold F_X7_passNight F_X7_passNight_4
    refine lp_inv (Q := fun t : Int32 × Mem => t.1 = nI (passS T (T 0)) ∧ CT t.2 k (passT T) ∧ FrK k σ t.2) (fun j (s : Int32 × Int32 × Mem) => s.1 = nI (passS T j) ∧ s.2.1 = nI j ∧ CT s.2.2 k (passL T j) ∧ FrK k σ s.2.2) (T 0) ?_ ?_ _ ⟨rfl, rfl, h, FrK.rf⟩
    · intro j s hj ⟨h1, h2, h3, h4⟩
      have hw2 := wf_passL hw j (by omega)
      obtain ⟨σ', g1, g2, g3⟩ := C_sleep hk h3 hw2 hB (i := j) (by rw [passL_0]; exact hj)
      refine ⟨(nI (passS T (j + 1)), nI (j + 1), σ'), ?_, rfl, rfl, g2, h4.tr g3⟩
      rw [tI_8 hk, ob_some, h3.1, passL_0, h2, if_neg (nI_ge hj (by omega)), g1, ob_some, h1, nI_add, nI_1]
      rfl
    · intro s ⟨h1, h2, h3, h4⟩
      refine ⟨(s.1, setI s.2.2 k 9 (nI (T 1 + 1))), ?_, h1, ?_, h4.tr (FrK.set (by omega) (by omega))⟩
      · rw [tI_8 hk, ob_some, h3.1, passL_0, h2, if_pos (nI_le (Nat.le_refl _) (by omega)), tI_9 hk, ob_some, tP_9 hk, ob_some, h3.2.1, passL_1, nI_1]
      · exact h3.night
  obtain ⟨t, h1, h2, h3, h4⟩ := key
  exact ⟨t.2, by rw [← h2]; exact h1, h3, h4⟩
end CTD

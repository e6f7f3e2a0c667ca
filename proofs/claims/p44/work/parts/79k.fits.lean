/-! ===== what fits: thicks, kinds ===== -/
abbrev fitK (T : Tn) (i kd th : Nat) (f : Nat → Int32) (k : Nat) : Prop := crN kd (gapT T i i) th (mP f k) (T (39 + mP f k % 4)) = cP f k
abbrev fitP (T : Tn) (i kd th : Nat) (f : Nat → Int32) (p : Nat) : Prop := ∀ k, k < p → fitK T i kd th f k
theorem C_fits {σ : Mem} {T : Tn} {B i kd th p : Nat} {f : Nat → Int32} (h : CT σ 18 T) (hw : wfT B T) (hi : i < T 0) (hP : PC σ f p) (hp : p ≤ 20) (h1 : kd < 6) (h2 : th ≤ 9) : F_X0_fits 93 18 (nI i) (nI kd) (nI th) σ = some (if fitP T i kd th f p then 1 else 0) := by
  have b := hw.2.2.1 i hi
  have key : ∃ t, F_X0_fits_3 93 18 (nI i) (nI kd) (nI th) σ (0 : Int32) = some t ∧ t = (if fitP T i kd th f p then 1 else 0) := by
    unfold F_X0_fits_3
    refine lp_inv2 (fun j (s : Int32) => s = nI j ∧ ∀ k, k < j → fitK T i kd th f k) p ?_ ?_ _ ⟨rfl, fun k hk => absurd hk (by omega)⟩
    · intro j s hj ⟨a1, a2⟩
      obtain ⟨hg, h94, h95⟩ := hP.2 j hj
      obtain ⟨gm, gm2⟩ := goodP_m hg
      obtain ⟨gc, gc2⟩ := goodP_c hg
      have r1 : F_X8_read 94 (nI j) σ = some (nI (mP f j)) := by rw [rd_eq (by decide) sh_94 (by omega) (by decide), h94]
      have r2 : F_X8_read 95 (nI j) σ = some (nI (cP f j)) := by rw [rd_eq (by decide) sh_95 (by omega) (by decide), h95]
      have hc : crN kd (gapT T i i) th (mP f j) (T (39 + mP f j % 4)) ≤ 19 := crN_le (gapT_le b.2.1 b.2.2.1) (hw.2.2.2.1 _ (Nat.mod_lt _ (by decide)))
      have iq := nI_eq (a := crN kd (gapT T i i) th (mP f j) (T (39 + mP f j % 4))) (b := cP f j) (by omega) (by omega)
      have e : ∀ (α : Type) (u v : α), (if nI (crN kd (gapT T i i) th (mP f j) (T (39 + mP f j % 4))) = nI (cP f j) then u else v) = if fitK T i kd th f j then u else v := fun α u v => by
        by_cases z : fitK T i kd th f j
        · rw [if_pos z, if_pos (iq.mpr z)]
        · rw [if_neg z, if_neg (fun y => z (iq.mp y))]
      rw [a1, gI_93_4, ob_some, hP.1, if_neg (nI_ge hj (by omega)), gR_93_0, ob_some, r1, ob_some, tC tw_18, ob_some, C_crossesAs tw_18 h hw hi (by omega) h1 h2, ob_some, gR_93_1, ob_some, r2, ob_some, e]
      by_cases z : fitK T i kd th f j
      · rw [if_pos z, nI_1]
        refine Or.inl ⟨_, rfl, rfl, fun k hk => ?_⟩
        by_cases y : k = j
        · rw [y]; exact z
        · exact a2 k (by omega)
      · rw [if_neg z]
        refine Or.inr ⟨_, rfl, ?_⟩
        rw [if_neg (fun y : fitP T i kd th f p => z (y j hj))]
    · intro s ⟨a1, a2⟩
      refine ⟨1, ?_, ?_⟩
      · rw [a1, gI_93_4, ob_some, hP.1, if_pos (nI_le (Nat.le_refl _) (by omega))]
      · rw [if_pos a2]
  obtain ⟨t, e, rfl⟩ := key
  unfold F_X0_fits
  exact e
theorem M_so {σ : Mem} {T : Tn} {B i kd th r n : Nat} {f : Nat → Int32} (h : MT σ 0 T) (hw : wfT B T) (hi : i < T 0) (hr : r < 6) (hn : n ≤ 40) (he : n % 2 = 0) (g1 : σ.1 138 r = nI n) (g2 : ∀ j, j < n → σ.1 137 (r * 40 + j) = f j) (hg : ∀ k, k < n / 2 → goodP f k) (h1 : kd < 6) (h2 : th ≤ 9) : F_X9_crossedSo 134 (nI r) (nI i) (nI kd) (nI th) σ = some (if fitP T i kd th f (n / 2) then 1 else 0) := by
  have b := hw.2.2.1 i hi
  have key : ∃ t, F_X9_crossedSo_6 134 (nI r) (nI i) (nI kd) (nI th) σ ((1 : Int32), (0 : Int32)) = some t ∧ t = (if fitP T i kd th f (n / 2) then 1 else 0) := by
    unfold F_X9_crossedSo_6
    refine lp_inv (fun j (s : Int32 × Int32) => s.2 = nI (2 * j) ∧ s.1 = if fitP T i kd th f j then 1 else 0) (n / 2) ?_ ?_ _ ⟨rfl, by rw [if_pos (fun k hk => absurd hk (by omega))]⟩
    · intro j s hj ⟨a1, a2⟩
      obtain ⟨gm, gm2⟩ := goodP_m (hg j hj)
      obtain ⟨gc, gc2⟩ := goodP_c (hg j hj)
      have ec : F_X9_crossBy 134 (nI kd) (nI th) (nI (gapT T i i)) (nI (mP f j)) σ = some (nI (crN kd (gapT T i i) th (mP f j) (T (39 + mP f j % 4)))) :=
        M_crossBy (h.col (mP f j % 4) (Nat.mod_lt _ (by decide))) h1 h2 (gapT_le b.2.1 b.2.2.1) (by omega) (hw.2.2.2.1 _ (Nat.mod_lt _ (by decide)))
      have eg : F_X9_gapIn 134 (0 : Int32) (nI i) σ = some (nI (gapT T i i)) := M_gap h (by decide) hw hi
      have hc : crN kd (gapT T i i) th (mP f j) (T (39 + mP f j % 4)) ≤ 19 := crN_le (gapT_le b.2.1 b.2.2.1) (hw.2.2.2.1 _ (Nat.mod_lt _ (by decide)))
      have iq := nI_eq (a := crN kd (gapT T i i) th (mP f j) (T (39 + mP f j % 4))) (b := cP f j) (by omega) (by omega)
      have e2 : nI (2 * j) + (2 : Int32) = nI (2 * (j + 1)) := nI_add (2 * j) 2
      have bd : ¬ fitP T i kd th f (j + 1) → (0 : Int32) = if fitP T i kd th f (j + 1) then 1 else 0 := fun z => (if_neg z).symm
      rw [a1, a2, gR_134_4, ob_some, aI_eq sh_138 hr (by decide), ob_some, g1, if_neg (nI_ge (by omega) (by omega))]
      by_cases q : fitP T i kd th f j
      · rw [if_pos q, if_neg (by decide), eg, ob_some, gR_134_3, ob_some, ix40, aI_eq sh_137 (by omega) (by decide), ob_some, g2 _ (by omega), gm, ec, ob_some, ob_some, nI_1, aI_eq sh_137 (by omega) (by decide), ob_some, show r * 40 + 2 * j + 1 = r * 40 + (2 * j + 1) by omega, g2 _ (by omega), gc, e2]
        by_cases z : fitK T i kd th f j
        · rw [if_pos (iq.mpr z)]
          refine ⟨_, rfl, rfl, ?_⟩
          rw [if_pos]
          intro k hk
          by_cases y : k = j
          · rw [y]; exact z
          · exact q k (by omega)
        · rw [if_neg (fun y => z (iq.mp y))]
          unfold F_X9_crossedSo_68
          rw [e2]
          exact ⟨_, rfl, rfl, bd (fun y => z (y j (by omega)))⟩
      · rw [if_neg q, if_pos rfl]
        unfold F_X9_crossedSo_68
        rw [e2]
        exact ⟨_, rfl, rfl, bd (fun y => q (fun k hk => y k (by omega)))⟩
    · intro s ⟨a1, a2⟩
      refine ⟨s.1, ?_, a2⟩
      have eb : bz s.1 = some () := by
        rw [a2]
        by_cases q : fitP T i kd th f (n / 2)
        · rw [if_pos q]; exact bz1
        · rw [if_neg q]; exact bz0
      rw [a1, gR_134_4, ob_some, aI_eq sh_138 hr (by decide), ob_some, g1, if_pos (nI_le (by omega) (by omega)), eb, ob_some]
  obtain ⟨t, e, rfl⟩ := key
  unfold F_X9_crossedSo
  exact e
/-- bits of what holds -/
def bitI (P : Nat → Prop) [DecidablePred P] : Nat → Int32
  | 0 => 0
  | n + 1 => bitI P n ||| (if P n then ((1 : Int32) <<< (nI n &&& 31)) else 0)
theorem C_thicksF {σ : Mem} {T : Tn} {B i kd p : Nat} {f : Nat → Int32} (h : CT σ 18 T) (hw : wfT B T) (hi : i < T 0) (hP : PC σ f p) (hp : p ≤ 20) (h1 : kd < 6) : F_X0_thicksFitting 93 18 (nI i) (nI kd) σ = some (bitI (fun th => fitP T i kd th f p) 10) := by
  have key : ∃ t, F_X0_thicksFitting_6 93 18 (nI i) (nI kd) σ ((0 : Int32), (0 : Int32)) = some t ∧ t = bitI (fun th => fitP T i kd th f p) 10 := by
    unfold F_X0_thicksFitting_6
    refine lp_inv (fun j (s : Int32 × Int32) => s.2 = nI j ∧ s.1 = bitI (fun th => fitP T i kd th f p) j) 10 ?_ ?_ _ ⟨rfl, rfl⟩
    · intro j s hj ⟨a1, a2⟩
      refine ⟨(bitI (fun th => fitP T i kd th f p) (j + 1), nI (j + 1)), ?_, rfl, rfl⟩
      have hz : ¬ (9 : Int32) < nI j := fun z => by
        have := (nI_ltI (a := 9) (b := j) (by decide) (by omega)).mp z
        omega
      rw [a1, a2, if_neg hz, C_fits h hw hi hP hp h1 (by omega), ob_some]
      unfold F_X0_thicksFitting_35
      by_cases q : fitP T i kd j f p
      · rw [if_pos q, if_neg (by decide), nI_1]
        show _ = some (Sum.inl (_ ||| (if fitP T i kd j f p then _ else _), _))
        rw [if_pos q]
      · rw [if_neg q, if_pos rfl, nI_1]
        show _ = some (Sum.inl (_ ||| (if fitP T i kd j f p then _ else _), _))
        rw [if_neg q]
    · intro s ⟨a1, a2⟩
      exact ⟨s.1, by rw [a1, if_pos (show (9 : Int32) < nI 10 by decide)], a2⟩
  obtain ⟨t, e, rfl⟩ := key
  unfold F_X0_thicksFitting
  exact e
theorem C_kindsF {σ : Mem} {T : Tn} {B i th p : Nat} {f : Nat → Int32} (h : CT σ 18 T) (hw : wfT B T) (hi : i < T 0) (hP : PC σ f p) (hp : p ≤ 20) (h2 : th ≤ 9) : F_X0_kindsFitting 93 18 (nI i) (nI th) σ = some (bitI (fun kd => fitP T i kd th f p) 6) := by
  have key : ∃ t, F_X0_kindsFitting_6 93 18 (nI i) (nI th) σ ((0 : Int32), (0 : Int32)) = some t ∧ t = bitI (fun kd => fitP T i kd th f p) 6 := by
    unfold F_X0_kindsFitting_6
    refine lp_inv (fun j (s : Int32 × Int32) => s.2 = nI j ∧ s.1 = bitI (fun kd => fitP T i kd th f p) j) 6 ?_ ?_ _ ⟨rfl, rfl⟩
    · intro j s hj ⟨a1, a2⟩
      refine ⟨(bitI (fun kd => fitP T i kd th f p) (j + 1), nI (j + 1)), ?_, rfl, rfl⟩
      rw [a1, a2, if_neg (show ¬ (6 : Int32) ≤ nI j from nI_ge (b := 6) hj (by decide)), C_fits h hw hi hP hp (by omega) h2, ob_some]
      unfold F_X0_kindsFitting_35
      by_cases q : fitP T i j th f p
      · rw [if_pos q, if_neg (by decide), nI_1]
        show _ = some (Sum.inl (_ ||| (if fitP T i j th f p then _ else _), _))
        rw [if_pos q]
      · rw [if_neg q, if_pos rfl, nI_1]
        show _ = some (Sum.inl (_ ||| (if fitP T i j th f p then _ else _), _))
        rw [if_neg q]
    · intro s ⟨a1, a2⟩
      exact ⟨s.1, by rw [a1, if_pos (show (6 : Int32) ≤ nI 6 by decide)], a2⟩
  obtain ⟨t, e, rfl⟩ := key
  unfold F_X0_kindsFitting
  exact e

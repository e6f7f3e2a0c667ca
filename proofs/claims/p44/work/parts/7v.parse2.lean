def CD (σ : Mem) (D : Tn) : Prop := σ.1 36 8 = nI (D 0) ∧ σ.1 36 7 = nI (D 43) ∧ (∀ m, m < 4 → σ.1 37 m = nI (D (39 + m))) ∧ ∀ i, i < D 0 → σ.1 38 i = nI (D (3 + i)) ∧ σ.1 39 i = nI (D (9 + i)) ∧ σ.1 40 i = nI (D (15 + i)) ∧ σ.1 41 i = nI (D (21 + i))
def FrT (σ σ' : Mem) : Prop := (∀ a b, (a < 35 ∨ 45 ≤ a ∨ (a = 36 ∧ b = 9) ∨ a = 42 ∨ a = 43) → σ'.1 a b = σ.1 a b) ∧ σ'.2 = σ.2
theorem FrT.rf {σ : Mem} : FrT σ σ := ⟨fun _ _ _ => rfl, rfl⟩
theorem FrT.tr {σ σ' σ'' : Mem} (h : FrT σ σ') (h2 : FrT σ' σ'') : FrT σ σ'' := ⟨fun a b q => (h2.1 a b q).trans (h.1 a b q), h2.2.trans h.2⟩
theorem FrT.o {σ σ' : Mem} (h : FrT σ σ') : FrO σ σ' := ⟨fun a b q => h.1 a b (by omega), h.2⟩
theorem Pg.t {σ σ' : Mem} (h : Pg σ σ') : FrT σ σ' := ⟨fun a b q => h.1 a b (by omega), h.2⟩
theorem CD.pg {σ σ' : Mem} {D : Tn} (h : CD σ D) (f : Pg σ σ') : CD σ' D := ⟨(f.1 _ _ (by decide)).trans h.1, (f.1 _ _ (by decide)).trans h.2.1, fun m hm => (f.1 _ _ (by omega)).trans (h.2.2.1 m hm), fun i hi => ⟨(f.1 _ _ (by omega)).trans (h.2.2.2 i hi).1, (f.1 _ _ (by omega)).trans (h.2.2.2 i hi).2.1, (f.1 _ _ (by omega)).trans (h.2.2.2 i hi).2.2.1, (f.1 _ _ (by omega)).trans (h.2.2.2 i hi).2.2.2⟩⟩
theorem kdN_k : ∀ s, s < 6 → kdN (klv s) = s := by decide
theorem kdN_6 {x : Int32} (h : ∀ s, s < 6 → ¬ x = klv s) : kdN x = 6 := by
  unfold kdN
  rw [if_neg (show ¬ x = 98 from h 0 (by decide)), if_neg (show ¬ x = 115 from h 1 (by decide)), if_neg (show ¬ x = 113 from h 2 (by decide)), if_neg (show ¬ x = 99 from h 3 (by decide)), if_neg (show ¬ x = 116 from h 4 (by decide)), if_neg (show ¬ x = 119 from h 5 (by decide))]
theorem kdN_le (x : Int32) : kdN x ≤ 6 := by
  unfold kdN
  repeat (split; omega)
  omega
theorem aK_eq {s : Nat} (h : s < 6) : aK (nI s) = some (klv s) := by
  unfold aK
  rw [if_pos ⟨by rw [nI_toInt (by omega)]; omega, by rw [nI_toInt (by omega)]; omega⟩, nI_clamp (by omega)]
theorem C_kindHere {σ : Mem} {v : Nat → Int32} {n p : Nat} (h : RD σ v n p) (hn : n ≤ 60) (hp : p ≤ n) : F_X4_kindHere 35 σ = some (if kdN (if p < n then v p else 0) = 6 then -1 else nI (kdN (if p < n then v p else 0))) := by
  obtain ⟨x, hx⟩ : ∃ x, (if p < n then v p else 0) = x := ⟨_, rfl⟩
  have hh := C_here h hn hp
  rw [hx] at hh ⊢
  have key : ∃ t, F_X4_kindHere_2 35 σ (0 : Int32) = some t ∧ t = (if kdN x = 6 then -1 else nI (kdN x)) := by
    unfold F_X4_kindHere_2
    refine lp_inv2 (fun j (s : Int32) => s = nI j ∧ ∀ k, k < j → ¬ x = klv k) 6 ?_ ?_ _ ⟨rfl, fun k hk => absurd hk (by omega)⟩
    · intro j s hj ⟨a1, a2⟩
      have ek : F_X8_readK (nI j) σ = some (klv j) := by
        unfold F_X8_readK
        rw [if_neg (nI_pos (by omega)), if_neg (show ¬ (6 : Int32) ≤ nI j from nI_ge (b := 6) hj (by decide)), aK_eq hj, ob_some]
      rw [a1, if_neg (show ¬ (6 : Int32) ≤ nI j from nI_ge (b := 6) hj (by decide)), hh, ob_some, ek, ob_some]
      by_cases q : x = klv j
      · have e : kdN x = j := by rw [q]; exact kdN_k j hj
        rw [if_pos q]
        exact Or.inr ⟨_, rfl, by rw [e, if_neg (by omega)]⟩
      · rw [if_neg q, nI_1]
        refine Or.inl ⟨_, rfl, rfl, fun k hk => ?_⟩
        by_cases y : k = j
        · rw [y]; exact q
        · exact a2 k (by omega)
    · intro s ⟨a1, a2⟩
      exact ⟨-1, by rw [a1, if_pos (show (6 : Int32) ≤ nI 6 by decide)], by rw [kdN_6 a2, if_pos rfl]⟩
  obtain ⟨t, e, rfl⟩ := key
  unfold F_X4_kindHere
  exact e
theorem nI_m1' {n : Nat} (h : n < 2 ^ 31) : ¬ nI n = (-1 : Int32) := fun z => by
  have := congrArg Int32.toInt z
  rw [nI_toInt h, show (-1 : Int32).toInt = -1 from rfl] at this
  omega
theorem C_addBed {σ : Mem} {v : Nat → Int32} {n p q : Nat} {D : Tn} (h : CD σ D) (hR : RD σ v n p) (hb : D 0 < 6) : ∃ σ', F_X7_addBed 36 (nI (kdN (v q))) (nI (figN v (q + 1))) (nI (figN v (q + 2))) (nI (figN v (q + 3))) σ = some σ' ∧ CD σ' (addB v D q) ∧ RD σ' v n p ∧ FrT σ σ' := by
  obtain ⟨c1, c2, c3, c4⟩ := h
  obtain ⟨b, hbb⟩ : ∃ b, D 0 = b := ⟨_, rfl⟩
  rw [hbb] at c1 hb
  have e0 : addB v D q 0 = b + 1 := by unfold addB; rw [upd_eq, hbb]
  have e3 : ∀ i, i < b + 1 → addB v D q (3 + i) = if i = b then kdN (v q) else D (3 + i) := fun i hi => by
    unfold addB
    rw [hbb, upd_ne (by omega), upd_ne (by omega), upd_ne (by omega), upd_ne (by omega)]
    by_cases y : i = b
    · rw [y, upd_eq, if_pos rfl]
    · rw [upd_ne (by omega), if_neg y]
  have e9 : ∀ i, i < b + 1 → addB v D q (9 + i) = if i = b then figN v (q + 1) else D (9 + i) := fun i hi => by
    unfold addB
    rw [hbb, upd_ne (by omega), upd_ne (by omega), upd_ne (by omega)]
    by_cases y : i = b
    · rw [y, upd_eq, if_pos rfl]
    · rw [upd_ne (by omega), upd_ne (by omega), if_neg y]
  have e15 : ∀ i, i < b + 1 → addB v D q (15 + i) = if i = b then figN v (q + 2) else D (15 + i) := fun i hi => by
    unfold addB
    rw [hbb, upd_ne (by omega), upd_ne (by omega)]
    by_cases y : i = b
    · rw [y, upd_eq, if_pos rfl]
    · rw [upd_ne (by omega), upd_ne (by omega), upd_ne (by omega), if_neg y]
  have e21 : ∀ i, i < b + 1 → addB v D q (21 + i) = if i = b then figN v (q + 3) else D (21 + i) := fun i hi => by
    unfold addB
    rw [hbb, upd_ne (by omega)]
    by_cases y : i = b
    · rw [y, upd_eq, if_pos rfl]
    · rw [upd_ne (by omega), upd_ne (by omega), upd_ne (by omega), upd_ne (by omega), if_neg y]
  have e39 : ∀ m, addB v D q (39 + m) = D (39 + m) := fun m => by
    unfold addB
    rw [upd_ne (by omega), upd_ne (by omega), upd_ne (by omega), upd_ne (by omega), upd_ne (by omega)]
  have e43 : addB v D q 43 = D 43 := e39 4
  refine ⟨setI (setI (setI (setI (setI σ 38 b (nI (kdN (v q)))) 39 b (nI (figN v (q + 1)))) 40 b (nI (figN v (q + 2)))) 41 b (nI (figN v (q + 3)))) 36 8 (nI (b + 1)), ?_, ⟨?_, ?_, fun m hm => ?_, fun i hi => ?_⟩, ⟨?_, ?_, fun i hi => ?_⟩, fun x y z => ?_, rfl⟩
  · unfold F_X7_addBed
    rw [tR_1 tw_36, ob_some, tI_8 tw_36, c1, ob_some, tw_36.wr (o := 2) (by decide) (by decide) hb, ob_some, tR_2 tw_36, ob_some, tI_8 tw_36, setI_1, if_neg (by omega), c1, ob_some, tw_36.wr (o := 3) (by decide) (by decide) hb, ob_some, tR_3 tw_36, ob_some, tI_8 tw_36, setI_1, if_neg (by omega), setI_1, if_neg (by omega), c1, ob_some, tw_36.wr (o := 4) (by decide) (by decide) hb, ob_some, tR_4 tw_36, ob_some, tI_8 tw_36, setI_1, if_neg (by omega), setI_1, if_neg (by omega), setI_1, if_neg (by omega), c1, ob_some, tw_36.wr (o := 5) (by decide) (by decide) hb, ob_some, tI_8 tw_36, setI_1, if_neg (by omega), setI_1, if_neg (by omega), setI_1, if_neg (by omega), setI_1, if_neg (by omega), c1, ob_some, nI_1, tP_8 tw_36, ob_some]
  · rw [setI_1, if_pos ⟨rfl, rfl⟩, e0]
  · rw [setI_1, if_neg (by decide), setI_1, if_neg (by omega), setI_1, if_neg (by omega), setI_1, if_neg (by omega), setI_1, if_neg (by omega), e43]; exact c2
  · rw [setI_1, if_neg (by omega), setI_1, if_neg (by omega), setI_1, if_neg (by omega), setI_1, if_neg (by omega), setI_1, if_neg (by omega), e39]; exact c3 m hm
  · rw [e0] at hi
    rw [e3 i hi, e9 i hi, e15 i hi, e21 i hi]
    by_cases y : i = b
    · subst y
      rw [if_pos rfl, if_pos rfl, if_pos rfl, if_pos rfl]
      refine ⟨?_, ?_, ?_, ?_⟩
      · rw [setI_1, if_neg (by omega), setI_1, if_neg (by omega), setI_1, if_neg (by omega), setI_1, if_neg (by omega), setI_1, if_pos ⟨rfl, rfl⟩]
      · rw [setI_1, if_neg (by omega), setI_1, if_neg (by omega), setI_1, if_neg (by omega), setI_1, if_pos ⟨rfl, rfl⟩]
      · rw [setI_1, if_neg (by omega), setI_1, if_neg (by omega), setI_1, if_pos ⟨rfl, rfl⟩]
      · rw [setI_1, if_neg (by omega), setI_1, if_pos ⟨rfl, rfl⟩]
    · rw [if_neg y, if_neg y, if_neg y, if_neg y]
      have c := c4 i (by omega)
      refine ⟨?_, ?_, ?_, ?_⟩
      · rw [setI_1, if_neg (by omega), setI_1, if_neg (by omega), setI_1, if_neg (by omega), setI_1, if_neg (by omega), setI_1, if_neg (by omega)]; exact c.1
      · rw [setI_1, if_neg (by omega), setI_1, if_neg (by omega), setI_1, if_neg (by omega), setI_1, if_neg (by omega), setI_1, if_neg (by omega)]; exact c.2.1
      · rw [setI_1, if_neg (by omega), setI_1, if_neg (by omega), setI_1, if_neg (by omega), setI_1, if_neg (by omega), setI_1, if_neg (by omega)]; exact c.2.2.1
      · rw [setI_1, if_neg (by omega), setI_1, if_neg (by omega), setI_1, if_neg (by omega), setI_1, if_neg (by omega), setI_1, if_neg (by omega)]; exact c.2.2.2
  · rw [setI_1, if_neg (by omega), setI_1, if_neg (by omega), setI_1, if_neg (by omega), setI_1, if_neg (by omega), setI_1, if_neg (by omega)]; exact hR.1
  · rw [setI_1, if_neg (by omega), setI_1, if_neg (by omega), setI_1, if_neg (by omega), setI_1, if_neg (by omega), setI_1, if_neg (by omega)]; exact hR.2.1
  · rw [setI_1, if_neg (by omega), setI_1, if_neg (by omega), setI_1, if_neg (by omega), setI_1, if_neg (by omega), setI_1, if_neg (by omega)]; exact hR.2.2 i hi
  · rw [setI_1, if_neg (by omega), setI_1, if_neg (by omega), setI_1, if_neg (by omega), setI_1, if_neg (by omega), setI_1, if_neg (by omega)]
theorem C_takesBed {σ : Mem} {v : Nat → Int32} {n q : Nat} {D : Tn} (h : CD σ D) (hR : RD σ v n q) (hn : n ≤ 60) (hq : q < n) (hk : kdN (v q) ≠ 6) (hb : D 0 < 6) : (cfN v n 0 3 (q + 1) = 3 → ∃ σ', F_X4_takesBed 35 σ = some (1, σ') ∧ RD σ' v n (q + 4) ∧ CD σ' (addB v D q) ∧ FrT σ σ') ∧ (cfN v n 0 3 (q + 1) ≠ 3 → ∃ σ', F_X4_takesBed 35 σ = some (0, σ') ∧ RD σ' v n (q + 1 + cfN v n 0 3 (q + 1)) ∧ FrT σ σ') := by
  have kl := kdN_le (v q)
  have eK : F_X4_kindHere 35 σ = some (nI (kdN (v q))) := by rw [C_kindHere hR hn (by omega), if_pos hq, if_neg hk]
  obtain ⟨r1, g1⟩ := hR.go (q := q + 1)
  have b6 : (nI (D 0) < (6 : Int32)) := nI_lt (b := 6) hb (by decide)
  have pre : F_X4_takesBed 35 σ = (F_X4_takeFigure 35 (0 : Int32) (setI σ 35 3 (nI (q + 1)))).bind fun q22 => if q22.1 = (-1 : Int32) then F_X4_takesBed_54 35 (nI (kdN (v q))) q22.1 (-1 : Int32) q22.2 else (F_X4_takeFigure 35 (0 : Int32) q22.2).bind fun q25 => F_X4_takesBed_54 35 (nI (kdN (v q))) q22.1 q25.1 q25.2 := by
    unfold F_X4_takesBed
    rw [eK, ob_some, if_neg (nI_m1' (by omega)), gR_35_0, ob_some, tI_8 tw_36, h.1, ob_some, if_pos b6, gI_35_3, hR.2.1, ob_some, nI_1, pI_35_3, ob_some]
  have m1e : (-1 : Int32) = -1 := rfl
  by_cases p1 : figP v n 0 (q + 1)
  · obtain ⟨f1, _, _⟩ := figP_N (by decide) p1
    have t1 := (C_fig r1 hn (by omega) (by decide) (x := (0 : Int32)) rfl).1 p1
    obtain ⟨r2, g2⟩ := r1.go (q := q + 1 + 1)
    have n1 := (figP_N (by decide) p1).2.1
    by_cases p2 : figP v n 0 (q + 1 + 1)
    · have t2 := (C_fig r2 hn (by have := p1.1; omega) (by decide) (x := (0 : Int32)) rfl).1 p2
      obtain ⟨r3, g3⟩ := r2.go (q := q + 1 + 1 + 1)
      have n2 := (figP_N (by decide) p2).2.1
      by_cases p3 : figP v n 0 (q + 1 + 1 + 1)
      · have t3 := (C_fig r3 hn (by have := p2.1; omega) (by decide) (x := (0 : Int32)) rfl).1 p3
        obtain ⟨r4, g4⟩ := r3.go (q := q + 1 + 1 + 1 + 1)
        have n3 := (figP_N (by decide) p3).2.1
        have ec : cfN v n 0 3 (q + 1) = 3 := by rw [cfN_yes p1, cfN_yes p2, cfN_yes p3]; rfl
        refine ⟨fun _ => ?_, fun z => absurd ec z⟩
        obtain ⟨σ', e, k1, k2, k3⟩ := C_addBed (q := q) (h.pg (((g1.tr g2).tr g3).tr g4)) r4 hb
        refine ⟨σ', ?_, k2, k1, ((((g1.tr g2).tr g3).tr g4).t).tr k3⟩
        rw [pre, t1, ob_some, if_neg (nI_m1' (by omega)), t2, ob_some]
        unfold F_X4_takesBed_54 F_X4_takesBed_69
        rw [if_neg (nI_m1' (by omega)), t3, ob_some, if_neg (nI_m1' (by omega)), gR_35_0, ob_some, tC tw_36, ob_some]
        exact (congrArg (fun o => Option.bind o fun q8 => some ((1 : Int32), q8)) e)
      · have t3 := (C_fig r3 hn (by have := p2.1; omega) (by decide) (x := (0 : Int32)) rfl).2 p3
        have ec : cfN v n 0 3 (q + 1) = 2 := by rw [cfN_yes p1, cfN_yes p2, cfN_no p3]
        refine ⟨fun z => absurd z (by omega), fun _ => ⟨_, ?_, by rw [ec]; exact r3, ((g1.tr g2).tr g3).t⟩⟩
        rw [pre, t1, ob_some, if_neg (nI_m1' (by omega)), t2, ob_some]
        unfold F_X4_takesBed_54 F_X4_takesBed_69
        rw [if_neg (nI_m1' (by omega)), t3, ob_some, if_pos m1e]
    · have t2 := (C_fig r2 hn (by have := p1.1; omega) (by decide) (x := (0 : Int32)) rfl).2 p2
      have ec : cfN v n 0 3 (q + 1) = 1 := by rw [cfN_yes p1, cfN_no p2]
      refine ⟨fun z => absurd z (by omega), fun _ => ⟨_, ?_, by rw [ec]; exact r2, (g1.tr g2).t⟩⟩
      rw [pre, t1, ob_some, if_neg (nI_m1' (by omega)), t2, ob_some]
      unfold F_X4_takesBed_54 F_X4_takesBed_69
      rw [if_pos m1e, if_pos m1e]
  · have t1 := (C_fig r1 hn (by omega) (by decide) (x := (0 : Int32)) rfl).2 p1
    have ec : cfN v n 0 3 (q + 1) = 0 := cfN_no p1
    refine ⟨fun z => absurd z (by omega), fun _ => ⟨_, ?_, by rw [ec]; exact r1, g1.t⟩⟩
    rw [pre, t1, ob_some, if_pos m1e]
    unfold F_X4_takesBed_54 F_X4_takesBed_69
    rw [if_pos m1e, if_pos m1e]

def resH (v : Nat → Int32) (n q : Nat) : Nat ⊕ Tn :=
  if q < n ∧ v q = 110 then
    (if cfN v n 0 4 (q + 1) = 4 then
      (if figP v n 1 (q + 5) then resB v n 6 (headT v q) (q + 6) else .inl (q + 5))
    else .inl (q + 1 + cfN v n 0 4 (q + 1)))
  else .inl q
theorem resT_H {v : Nat → Int32} {n : Nat} : resT v n = resH v n (sk v n 0) := rfl
theorem C_head {σ : Mem} {v : Nat → Int32} {n q : Nat} (hR : RD σ v n q) (hn : n ≤ 60) (hq : q ≤ n) : ∃ σ' b r, F_X4_takesHead 35 σ = some (b, σ') ∧ RD σ' v n r ∧ r ≤ n ∧ FrT σ σ' ∧ σ'.1 36 8 = σ.1 36 8 ∧ ((b = 0 ∧ resH v n q = .inl r) ∨ (b = 1 ∧ resH v n q = resB v n 6 (headT v q) (q + 6) ∧ r = q + 6 ∧ σ'.1 36 7 = nI (figN v (q + 5)) ∧ ∀ m, m < 4 → σ'.1 37 m = nI (figN v (q + 1 + m)))) := by
  unfold resH F_X4_takesHead
  rw [C_here hR hn hq, ob_some]
  by_cases hh : q < n ∧ v q = 110
  · rw [if_pos hh.1, if_pos hh.2, if_pos hh, gI_35_3, ob_some, hR.2.1, nI_1, pI_35_3, ob_some]
    obtain ⟨r1, g1⟩ := hR.go (q := q + 1)
    have key : ∃ t, F_X4_takesHead_23 35 ((0 : Int32), setI σ 35 3 (nI (q + 1))) = some t ∧ ∃ b r, t.1 = b ∧ RD t.2 v n r ∧ r ≤ n ∧ FrT σ t.2 ∧ t.2.1 36 8 = σ.1 36 8 ∧ ((b = 0 ∧ (if cfN v n 0 4 (q + 1) = 4 then (if figP v n 1 (q + 5) then resB v n 6 (headT v q) (q + 6) else .inl (q + 5)) else .inl (q + 1 + cfN v n 0 4 (q + 1))) = (.inl r : Nat ⊕ Tn)) ∨ (b = 1 ∧ (if cfN v n 0 4 (q + 1) = 4 then (if figP v n 1 (q + 5) then resB v n 6 (headT v q) (q + 6) else .inl (q + 5)) else .inl (q + 1 + cfN v n 0 4 (q + 1))) = resB v n 6 (headT v q) (q + 6) ∧ r = q + 6 ∧ t.2.1 36 7 = nI (figN v (q + 5)) ∧ ∀ m, m < 4 → t.2.1 37 m = nI (figN v (q + 1 + m)))) := by
      unfold F_X4_takesHead_23
      refine lp_inv2 (fun j (u : Int32 × Mem) => u.1 = nI j ∧ RD u.2 v n (q + 1 + j) ∧ q + 1 + j ≤ n ∧ FrT σ u.2 ∧ u.2.1 36 8 = σ.1 36 8 ∧ (∀ m, m < j → figP v n 0 (q + 1 + m)) ∧ ∀ m, m < j → u.2.1 37 m = nI (figN v (q + 1 + m))) 4 ?_ ?_ _ ⟨rfl, r1, by have := hh.1; omega, g1.t, by rw [setI_1, if_neg (by decide)], fun m hm => absurd hm (by omega), fun m hm => absurd hm (by omega)⟩
      · intro j u hj ⟨a1, a2, a3, a4, a5, a6, a7⟩
        obtain ⟨fy, fn⟩ := C_fig a2 hn a3 (by decide) (x := (0 : Int32)) rfl
        by_cases p : figP v n 0 (q + 1 + j)
        · obtain ⟨n1, n2, _⟩ := figP_N (by decide) p
          obtain ⟨r2, g2⟩ := a2.go (q := q + 1 + j + 1)
          refine Or.inl ⟨(nI (j + 1), setI (setI u.2 35 3 (nI (q + 1 + j + 1))) 37 j (nI (figN v (q + 1 + j)))), ?_, rfl, ⟨?_, ?_, fun i hi => ?_⟩, ?_, ?_, ?_, fun m hm => ?_, fun m hm => ?_⟩
          · rw [a1, if_neg (show ¬ (4 : Int32) ≤ nI j from nI_ge (b := 4) hj (by decide)), fy p, ob_some, if_neg (nI_m1' (by omega)), gR_35_0, ob_some, tR_0 tw_36, ob_some, wr_eq (by decide) sh_37 hj (by decide), ob_some, nI_1]
          · show (setI (setI u.2 35 3 (nI (q + 1 + j + 1))) 37 j (nI (figN v (q + 1 + j)))).1 35 2 = _
            rw [setI_1, if_neg (by omega)]; exact r2.1
          · show (setI (setI u.2 35 3 (nI (q + 1 + j + 1))) 37 j (nI (figN v (q + 1 + j)))).1 35 3 = _
            rw [setI_1, if_neg (by omega)]; exact r2.2.1
          · show (setI (setI u.2 35 3 (nI (q + 1 + j + 1))) 37 j (nI (figN v (q + 1 + j)))).1 44 i = _
            rw [setI_1, if_neg (by omega)]; exact r2.2.2 i hi
          · have := p.1; omega
          · exact (a4.tr g2.t).tr ⟨fun a b z => by rw [setI_1, if_neg (by omega)], rfl⟩
          · show (setI (setI u.2 35 3 (nI (q + 1 + j + 1))) 37 j (nI (figN v (q + 1 + j)))).1 36 8 = _
            rw [setI_1, if_neg (by omega), setI_1, if_neg (by omega)]; exact a5
          · by_cases y : m = j
            · rw [y]; exact p
            · exact a6 m (by omega)
          · show (setI (setI u.2 35 3 (nI (q + 1 + j + 1))) 37 j (nI (figN v (q + 1 + j)))).1 37 m = _
            rw [setI_1]
            by_cases y : m = j
            · rw [if_pos ⟨rfl, y⟩, y]
            · rw [if_neg (fun z => y z.2), setI_1, if_neg (by omega)]; exact a7 m (by omega)
        · have ec := cfN_at 4 j (q + 1) hj a6 p
          refine Or.inr ⟨(0, u.2), ?_, 0, q + 1 + j, rfl, a2, a3, a4, a5, Or.inl ⟨rfl, ?_⟩⟩
          · rw [a1, if_neg (show ¬ (4 : Int32) ≤ nI j from nI_ge (b := 4) hj (by decide)), fn p, ob_some, if_pos rfl]
          · rw [ec, if_neg (by omega)]
      · intro u ⟨a1, a2, a3, a4, a5, a6, a7⟩
        have ec := cfN_all 4 (q + 1) a6
        obtain ⟨fy, fn⟩ := C_fig a2 hn a3 (by decide) (l := 1) (x := (1 : Int32)) rfl
        have e5 : q + 1 + 4 = q + 5 := by omega
        rw [e5] at a2 fy fn
        by_cases p : figP v n 1 (q + 5)
        · obtain ⟨n1, n2, _⟩ := figP_N (by decide) p
          obtain ⟨r2, g2⟩ := a2.go (q := q + 5 + 1)
          refine ⟨(1, setI (setI u.2 35 3 (nI (q + 5 + 1))) 36 7 (nI (figN v (q + 5)))), ?_, 1, q + 6, rfl, ⟨?_, ?_, fun i hi => ?_⟩, by have := p.1; omega, ?_, ?_, Or.inr ⟨rfl, ?_, rfl, ?_, fun m hm => ?_⟩⟩
          · rw [a1, if_pos (show (4 : Int32) ≤ nI 4 by decide), fy p, ob_some, gR_35_0, ob_some, tP_7 tw_36, ob_some, if_neg (nI_m1' (by omega))]
          · show (setI (setI u.2 35 3 (nI (q + 5 + 1))) 36 7 (nI (figN v (q + 5)))).1 35 2 = _
            rw [setI_1, if_neg (by omega)]; exact r2.1
          · show (setI (setI u.2 35 3 (nI (q + 5 + 1))) 36 7 (nI (figN v (q + 5)))).1 35 3 = _
            rw [setI_1, if_neg (by omega)]; exact r2.2.1
          · show (setI (setI u.2 35 3 (nI (q + 5 + 1))) 36 7 (nI (figN v (q + 5)))).1 44 i = _
            rw [setI_1, if_neg (by omega)]; exact r2.2.2 i hi
          · exact (a4.tr g2.t).tr ⟨fun a b z => by rw [setI_1, if_neg (by omega)], rfl⟩
          · show (setI (setI u.2 35 3 (nI (q + 5 + 1))) 36 7 (nI (figN v (q + 5)))).1 36 8 = _
            rw [setI_1, if_neg (by omega), setI_1, if_neg (by omega)]; exact a5
          · rw [if_pos ec, if_pos p]
          · show (setI (setI u.2 35 3 (nI (q + 5 + 1))) 36 7 (nI (figN v (q + 5)))).1 36 7 = _
            rw [setI_1, if_pos ⟨rfl, rfl⟩]
          · show (setI (setI u.2 35 3 (nI (q + 5 + 1))) 36 7 (nI (figN v (q + 5)))).1 37 m = _
            rw [setI_1, if_neg (by omega), setI_1, if_neg (by omega)]; exact a7 m hm
        · refine ⟨(0, setI u.2 36 7 (-1)), ?_, 0, q + 5, rfl, ⟨?_, ?_, fun i hi => ?_⟩, by omega, ?_, ?_, Or.inl ⟨rfl, ?_⟩⟩
          · rw [a1, if_pos (show (4 : Int32) ≤ nI 4 by decide), fn p, ob_some, gR_35_0, ob_some, tP_7 tw_36, ob_some, if_pos rfl]
          · show (setI u.2 36 7 (-1)).1 35 2 = _
            rw [setI_1, if_neg (by omega)]; exact a2.1
          · show (setI u.2 36 7 (-1)).1 35 3 = _
            rw [setI_1, if_neg (by omega)]; exact a2.2.1
          · show (setI u.2 36 7 (-1)).1 44 i = _
            rw [setI_1, if_neg (by omega)]; exact a2.2.2 i hi
          · exact a4.tr ⟨fun a b z => by rw [setI_1, if_neg (by omega)], rfl⟩
          · show (setI u.2 36 7 (-1)).1 36 8 = _
            rw [setI_1, if_neg (by omega)]; exact a5
          · rw [if_pos ec, if_neg p]
    obtain ⟨⟨t1, t2⟩, e, b, r, k1, k2, k3, k4, k5, k6⟩ := key
    exact ⟨t2, b, r, by rw [e, show t1 = b from k1], k2, k3, k4, k5, k6⟩
  · rw [if_neg hh]
    refine ⟨σ, 0, q, ?_, hR, hq, FrT.rf, rfl, Or.inl ⟨rfl, rfl⟩⟩
    by_cases z : q < n
    · rw [if_pos z, if_neg (fun y => hh ⟨z, y⟩)]
    · rw [if_neg z, if_neg (by decide)]
theorem C_readTown {A : Ab} {t n : Nat} (ht : t < 4) (hs : A.2.1.1 t = some n) (σ : Mem) (h : RC A σ) : ∃ σ', F_X4_readTown 35 4 (nI t) σ = some (ansT (resT (A.2.1.2 t) n), σ') ∧ FrT σ σ' ∧ ∀ D, resT (A.2.1.2 t) n = .inr D → CD σ' D := by
  obtain ⟨hn, g1, g2⟩ := h.2.1.row ht hs
  obtain ⟨v, hv⟩ : ∃ v, A.2.1.2 t = v := ⟨_, rfl⟩
  rw [hv] at g2 ⊢
  have key : ∃ u, F_X4_readTown_11 35 4 (nI t) ((0 : Int32), setI σ 35 2 (nI n)) = some u ∧ (u.1 = ansT (resT v n) ∧ FrT σ u.2 ∧ ∀ D, resT v n = .inr D → CD u.2 D) := by
    unfold F_X4_readTown_11
    refine lp_inv (fun j (u : Int32 × Mem) => u.1 = nI j ∧ u.2.1 35 2 = nI n ∧ (∀ i, i < j → u.2.1 44 i = v i) ∧ FrT σ u.2) n ?_ ?_ _ ⟨rfl, by rw [setI_1, if_pos ⟨rfl, rfl⟩], fun i hi => absurd hi (by omega), fun a b z => by rw [setI_1, if_neg (by omega)], rfl⟩
    · intro j u hj ⟨a1, a2, a3, a4⟩
      obtain ⟨hu, _⟩ := h.side a4.o
      obtain ⟨hn2, g3, g4⟩ := hu.2.1.row ht hs
      rw [hv] at g4
      refine ⟨(nI (j + 1), setI u.2 44 j (v j)), ?_, rfl, ?_, fun i hi => ?_, a4.tr ⟨fun a b z => by rw [setI_1, if_neg (by omega)], rfl⟩⟩
      · rw [a1, gI_35_2, ob_some, a2, if_neg (nI_ge hj (by omega)), gR_35_1, ob_some, ck_4, ob_some, S_get sf_4 ht hu.2.1.1 g3 hn2 hj, ob_some, g4 j hj, wr_eq (by decide) sh_44 (by omega) (by decide), ob_some, nI_1]
      · show (setI u.2 44 j (v j)).1 35 2 = _
        rw [setI_1, if_neg (by omega)]; exact a2
      · show (setI u.2 44 j (v j)).1 44 i = _
        rw [setI_1]
        by_cases y : i = j
        · rw [if_pos ⟨rfl, y⟩, y]
        · rw [if_neg (fun z => y z.2)]; exact a3 i (by omega)
    · intro u ⟨a1, a2, a3, a4⟩
      obtain ⟨w, hw⟩ : ∃ w, setI (setI u.2 35 3 (0 : Int32)) 36 8 (0 : Int32) = w := ⟨_, rfl⟩
      have rw0 : RD w v n 0 := by
        rw [← hw]
        refine ⟨?_, ?_, fun i hi => ?_⟩
        · rw [setI_1, if_neg (by decide), setI_1, if_neg (by decide)]; exact a2
        · rw [setI_1, if_neg (by decide), setI_1, if_pos ⟨rfl, rfl⟩]; rfl
        · rw [setI_1, if_neg (by omega), setI_1, if_neg (by omega)]; exact a3 i hi
      have fw : FrT σ w := by
        rw [← hw]
        exact a4.tr ⟨fun a b z => by rw [setI_1, if_neg (by omega), setI_1, if_neg (by omega)], rfl⟩
      have bw : w.1 36 8 = nI 0 := by rw [← hw, setI_1, if_pos ⟨rfl, rfl⟩]; rfl
      obtain ⟨w1, e1, r1, p1⟩ := C_skip (v := v) hn n 0 w (Nat.sub_zero n) (Nat.zero_le _) rw0
      obtain ⟨_, s2⟩ := sk_le (v := v) (Nat.zero_le n)
      obtain ⟨w2, b, r, e2, r2, l2, f2, b2, k⟩ := C_head r1 hn s2
      have pre : (pI 4 3 35 (0 : Int32) u.2).bind (fun m5 => (gR 4 0 35).bind fun p7 => (chk 7 p7).bind fun _ => (F_X7_clearBeds p7 m5).bind fun q9 => (F_X4_skipBlanks 35 q9).bind fun q11 => (F_X4_takesHead 35 q11).bind fun q13 => if q13.1 = 0 then (gI 4 3 35 q13.2).bind fun v17 => (some (.inr ((v17, q13.2))) : Option ((Int32 × Mem) ⊕ (Int32 × Mem))) else (F_X4_readTown_69 35 ((0 : Int32), q13.2)).map fun z => .inr z) = if b = 0 then some (.inr (nI r, w2)) else (F_X4_readTown_69 35 ((0 : Int32), w2)).map fun z => .inr z := by
        have ecl : F_X7_clearBeds 36 (setI u.2 35 3 (0 : Int32)) = some w := by
          unfold F_X7_clearBeds
          rw [tP_8 tw_36, ob_some, hw]
        rw [pI_35_3, ob_some, gR_35_0, ob_some, tC tw_36, ob_some, ecl, ob_some, e1, ob_some, e2, ob_some]
        by_cases z : b = 0
        · rw [if_pos z, if_pos z, gI_35_3, ob_some, r2.2.1]
        · rw [if_neg z, if_neg z]
      have bw2 : w2.1 36 8 = nI 0 := b2.trans ((p1.1 _ _ (by decide)).trans bw)
      rw [a1, gI_35_2, ob_some, a2, if_pos (nI_le (Nat.le_refl _) (by omega)), pre, resT_H]
      rcases k with ⟨k1, k2⟩ | ⟨k1, k2, k3, k4, k5⟩
      · rw [if_pos k1, k2]
        exact ⟨_, rfl, rfl, (fw.tr p1.t).tr f2, fun D z => by cases z⟩
      · have hz : ¬ b = 0 := by rw [k1]; decide
        rw [k3] at r2 l2
        have h0 : headT v (sk v n 0) 0 = 0 := rfl
        have hd : ∀ m, m < 5 → headT v (sk v n 0) (39 + m) = figN v (sk v n 0 + 1 + m) := fun m hm => by
          unfold headT
          rw [if_pos ⟨by omega, by omega⟩, show 39 + m - 39 = m by omega]
        have hCD : CD w2 (headT v (sk v n 0)) := by
          refine ⟨by rw [h0]; exact bw2, ?_, fun m hm => ?_, fun i hi => absurd hi (by rw [h0]; omega)⟩
          · rw [k4, show headT v (sk v n 0) 43 = figN v (sk v n 0 + 1 + 4) from hd 4 (by decide)]
          · rw [hd m (by omega)]; exact k5 m hm
        obtain ⟨w3, e3, f3, c3⟩ := C_beds hn 6 (headT v (sk v n 0)) (sk v n 0 + 6) w2 rfl l2 hCD r2
        have e3' : F_X4_readTown_69 35 ((0 : Int32), w2) = some (ansT (resB v n 6 (headT v (sk v n 0)) (sk v n 0 + 6)), w3) := e3
        rw [if_neg hz, e3', k2]
        exact ⟨_, rfl, rfl, ((fw.tr p1.t).tr f2).tr f3, c3⟩
  obtain ⟨⟨u1, u2⟩, e, k1, k2, k3⟩ := key
  refine ⟨u2, ?_, k2, k3⟩
  unfold F_X4_readTown
  rw [ck_4, ob_some, S_size sf_4 ht, g1, ob_some, pI_35_2, ob_some, e, show u1 = _ from k1]

theorem M_takesB {σ : Mem} {t n q : Nat} {v : Nat → Int32} {D : Tn} (h : RT σ t v n) (ht : t < 4) (hn : n ≤ 60) (hq : q ≤ n) (hpos : σ.1 134 13 = nI q) (hD : MT σ 7216 D) (hb : D 0 ≤ 6) : ((¬ q < n ∨ kdN (v q) = 6 ∨ D 0 = 6) → F_X9_takesBed 134 (nI t) σ = some (0, σ)) ∧ (q < n → kdN (v q) ≠ 6 → D 0 < 6 → ∃ σ', (cfN v n 0 3 (q + 1) = 3 → F_X9_takesBed 134 (nI t) σ = some (1, σ') ∧ MT σ' 7216 (addB v D q)) ∧ (cfN v n 0 3 (q + 1) ≠ 3 → F_X9_takesBed 134 (nI t) σ = some (0, σ')) ∧ σ'.1 134 13 = nI (q + 1 + cfN v n 0 3 (q + 1)) ∧ q + 1 + cfN v n 0 3 (q + 1) ≤ n ∧ FrP σ σ') := by
  have r0 : aI 135 (7216 : Int32) σ = some (nI (D 0)) := (w_rd (j := 7216) (by decide)).trans (by rw [show σ.1 135 7216 = _ from hD 0 (by decide)])
  have kl := kdN_le (v q)
  constructor
  · intro hx
    unfold F_X9_takesBed
    rw [gI_134_13, ob_some, hpos, M_byteAt h ht hn hq, ob_some, M_kindOf, ob_some, wR, ob_some, r0, ob_some]
    by_cases z : q < n
    · rw [if_pos z]
      by_cases k6 : kdN (v q) = 6
      · rw [if_pos k6, if_pos (by decide)]
      · have b6 : D 0 = 6 := (hx.resolve_left (fun y => y z)).resolve_left k6
        rw [if_neg k6, if_neg (nI_pos (by omega)), b6, if_pos (show nI 6 = (6 : Int32) from rfl)]
    · rw [if_neg z, if_pos (show kdN (-1000) = 6 by decide), if_pos (by decide)]
  · intro z k6 b6
    obtain ⟨b, hbb⟩ : ∃ b, D 0 = b := ⟨_, rfl⟩
    rw [hbb] at r0 b6
    have n6 : ¬ nI b = (6 : Int32) := fun y => by
      have := (nI_eq (a := b) (b := 6) (by omega) (by decide)).mp y
      omega
    have i3 : (7219 : Int32) + nI b = nI (7216 + (3 + b)) := (lx (a := 7219) rfl).trans (by rw [show 7219 + b = 7216 + (3 + b) by omega])
    have i9 : (7225 : Int32) + nI b = nI (7216 + (9 + b)) := (lx (a := 7225) rfl).trans (by rw [show 7225 + b = 7216 + (9 + b) by omega])
    have m1 : MT (setI (setI σ 134 13 (nI (q + 1))) 135 (7216 + (3 + b)) (nI (kdN (v q)))) 7216 (updT D (3 + b) (kdN (v q))) := hD.pos.set
    have f1 : FrP σ (setI (setI σ 134 13 (nI (q + 1))) 135 (7216 + (3 + b)) (nI (kdN (v q)))) := FrP.pos.tr (FrP.set (by omega))
    have p1 : (setI (setI σ 134 13 (nI (q + 1))) 135 (7216 + (3 + b)) (nI (kdN (v q)))).1 134 13 = nI (q + 1) := by rw [setI_1, if_neg (by omega), setI_1, if_pos ⟨rfl, rfl⟩]
    obtain ⟨σ2, c, e, p2, l2, f2, k⟩ := M_figs (l := 0) (many := 3) (off := 9 + b) (ap := 6) (x2 := (3 : Int32)) (x3 := (0 : Int32)) (x4 := (7225 : Int32) + nI b) (x5 := (6 : Int32)) (h.kept f1) ht hn (show q + 1 ≤ n by omega) (by decide) p1 m1 (fun j hj => by omega) (by decide) rfl rfl i9 rfl
    have pre : F_X9_takesBed 134 (nI t) σ = if c = 0 then some (0, σ2) else (gR 9 0 134).bind fun p25 => (aI p25 (7216 : Int32) σ2).bind fun v26 => (sI p25 (7216 : Int32) (v26 + (1 : Int32)) σ2).bind fun m28 => some ((1 : Int32), m28) := by
      unfold F_X9_takesBed
      rw [gI_134_13, ob_some, hpos, M_byteAt h ht hn hq, ob_some, M_kindOf, ob_some, wR, ob_some, r0, ob_some, if_pos z, if_neg k6, if_neg (nI_pos (by omega)), if_neg n6, ob_some, nI_1, pI_134_13, ob_some, ob_some, i3, w_wr (by omega), ob_some, e, ob_some]
    rcases k with ⟨k1, k2, k3⟩ | ⟨k1, k2⟩
    · have c0 : ¬ c = 0 := by rw [k1]; decide
      have eU : updT (updF v (q + 1) (9 + b) 6 (updT D (3 + b) (kdN (v q))) 3) 0 (b + 1) = addB v D q := by
        unfold addB
        rw [hbb]
        show updT (updT (updT (updT (updT D (3 + b) (kdN (v q))) (9 + b + 6 * 0) (figN v (q + 1 + 0))) (9 + b + 6 * 1) (figN v (q + 1 + 1))) (9 + b + 6 * 2) (figN v (q + 1 + 2))) 0 (b + 1) = _
        rw [show 9 + b + 6 * 0 = 9 + b by omega, show 9 + b + 6 * 1 = 15 + b by omega, show 9 + b + 6 * 2 = 21 + b by omega]
      have v0 : σ2.1 135 7216 = nI b := by
        have := k3 0 (by decide)
        have e0 : updF v (q + 1) (9 + b) 6 (updT D (3 + b) (kdN (v q))) 3 0 = b := by
          show updT (updT (updT (updT D (3 + b) (kdN (v q))) (9 + b + 6 * 0) _) (9 + b + 6 * 1) _) (9 + b + 6 * 2) _ 0 = b
          rw [upd_ne (by omega), upd_ne (by omega), upd_ne (by omega), upd_ne (by omega), hbb]
        rw [e0] at this
        exact this
      have m4 : MT (setI σ2 135 (7216 + 0) (nI (b + 1))) 7216 (addB v D q) := by
        rw [← eU]; exact k3.set
      refine ⟨setI σ2 135 (7216 + 0) (nI (b + 1)), fun _ => ⟨?_, m4⟩, fun y => absurd k2 y, ?_, l2, (f1.tr f2).tr (FrP.set (by decide))⟩
      · have rr : aI 135 (7216 : Int32) σ2 = some (nI b) := (w_rd (j := 7216) (by decide)).trans (by rw [v0])
        have ww : sI 135 (7216 : Int32) (nI (b + 1)) σ2 = some (setI σ2 135 (7216 + 0) (nI (b + 1))) := w_wr (j := 7216) (by decide)
        rw [pre, if_neg c0, wR, ob_some, rr, ob_some, nI_1, ww, ob_some]
      · rw [setI_1, if_neg (by omega)]; exact p2
    · refine ⟨σ2, fun y => absurd y k2, fun _ => by rw [pre, if_pos k1], p2, l2, f1.tr f2⟩
theorem M_beds {t n : Nat} {v : Nat → Int32} (ht : t < 4) (hn : n ≤ 60) : ∀ f D p σ, D 0 + f = 6 → p ≤ n → RT σ t v n → MT σ 7216 D → σ.1 134 13 = nI (sk v n p) → ∃ σ', F_X9_faultOf_53 134 (nI t) σ = some (ansT (resB v n f D p), σ') ∧ FrP σ σ' ∧ ∀ D', resB v n f D p = .inr D' → MT σ' 7216 D' := by
  have go : ∀ σ σ' b r, F_X9_takesBed 134 (nI t) σ = some (b, σ') → b = 0 → σ'.1 134 13 = nI r → F_X9_faultOf_77 134 (nI t) σ = some (.inr (nI r, σ')) := by
    intro σ σ' b r e hb hr
    unfold F_X9_faultOf_77
    rw [e, ob_some, if_pos hb, gI_134_13, ob_some, hr]
  intro f
  induction f with
  | zero =>
    intro D p σ hf hp h hD hpos
    obtain ⟨s1, s2⟩ := sk_le (v := v) hp
    have r0 : aI 135 (7216 : Int32) σ = some (nI (D 0)) := (w_rd (j := 7216) (by decide)).trans (by rw [show σ.1 135 7216 = _ from hD 0 (by decide)])
    rw [resB_0]
    by_cases q : n ≤ sk v n p
    · rw [if_pos q]
      refine ⟨σ, ?_, FrP.rf, fun D' z => ?_⟩
      · unfold F_X9_faultOf_53
        apply lp_out
        rw [gI_134_13, ob_some, hpos, gR_134_6, ob_some, aI_eq sh_140 ht (by decide), ob_some, h.1, if_neg (nI_nlt (by omega) (by omega)), wR, ob_some, r0, ob_some, if_neg (nI_ne0 (by omega) (by omega))]
        rfl
      · injection z with z
        rw [← z]; exact hD
    · rw [if_neg q]
      refine ⟨σ, ?_, FrP.rf, fun D' z => by cases z⟩
      have e := (M_takesB h ht hn s2 hpos hD (by omega)).1 (Or.inr (Or.inr (by omega)))
      unfold F_X9_faultOf_53
      apply lp_out
      rw [gI_134_13, ob_some, hpos, gR_134_6, ob_some, aI_eq sh_140 ht (by decide), ob_some, h.1, if_pos (nI_lt (by omega) (by omega)), go σ σ 0 (sk v n p) e rfl hpos]
      rfl
  | succ f ih =>
    intro D p σ hf hp h hD hpos
    obtain ⟨s1, s2⟩ := sk_le (v := v) hp
    have r0 : aI 135 (7216 : Int32) σ = some (nI (D 0)) := (w_rd (j := 7216) (by decide)).trans (by rw [show σ.1 135 7216 = _ from hD 0 (by decide)])
    obtain ⟨tb1, tb2⟩ := M_takesB h ht hn s2 hpos hD (by omega)
    rw [resB_s]
    by_cases q : n ≤ sk v n p
    · rw [if_pos q]
      by_cases z0 : D 0 = 0
      · rw [if_pos z0]
        refine ⟨σ, ?_, FrP.rf, fun D' z => by cases z⟩
        have e := tb1 (Or.inl (by omega))
        unfold F_X9_faultOf_53
        apply lp_out
        rw [gI_134_13, ob_some, hpos, gR_134_6, ob_some, aI_eq sh_140 ht (by decide), ob_some, h.1, if_neg (nI_nlt (by omega) (by omega)), wR, ob_some, r0, ob_some, z0, if_pos (show nI 0 = (0 : Int32) from rfl), go σ σ 0 (sk v n p) e rfl hpos]
        rfl
      · rw [if_neg z0]
        refine ⟨σ, ?_, FrP.rf, fun D' z => ?_⟩
        · unfold F_X9_faultOf_53
          apply lp_out
          rw [gI_134_13, ob_some, hpos, gR_134_6, ob_some, aI_eq sh_140 ht (by decide), ob_some, h.1, if_neg (nI_nlt (by omega) (by omega)), wR, ob_some, r0, ob_some, if_neg (nI_ne0 (by omega) (by omega))]
          rfl
        · injection z with z
          rw [← z]; exact hD
    · rw [if_neg q]
      by_cases k6 : kdN (v (sk v n p)) = 6
      · rw [if_pos k6]
        refine ⟨σ, ?_, FrP.rf, fun D' z => by cases z⟩
        have e := tb1 (Or.inr (Or.inl k6))
        unfold F_X9_faultOf_53
        apply lp_out
        rw [gI_134_13, ob_some, hpos, gR_134_6, ob_some, aI_eq sh_140 ht (by decide), ob_some, h.1, if_pos (nI_lt (by omega) (by omega)), go σ σ 0 (sk v n p) e rfl hpos]
        rfl
      · rw [if_neg k6]
        obtain ⟨σ2, ky, kn, p2, l2, f2⟩ := tb2 (by omega) k6 (by omega)
        by_cases c3 : cfN v n 0 3 (sk v n p + 1) = 3
        · rw [if_pos c3]
          obtain ⟨e2, m2⟩ := ky c3
          rw [c3] at p2 l2
          have e0 : addB v D (sk v n p) 0 = D 0 + 1 := by unfold addB; rw [upd_eq]
          have h4 : sk v n p + 4 = sk v n p + 1 + 3 := by omega
          obtain ⟨σ3, e3, p3, q3, z3⟩ := M_blanks ht hn (n - (sk v n p + 4)) (sk v n p + 4) σ2 rfl (by omega) (h.kept f2) (by rw [h4]; exact p2)
          have f3 : FrP σ2 σ3 := ⟨fun a b x _ => q3 a b x, z3⟩
          have m3 : MT σ3 7216 (addB v D (sk v n p)) := m2.kept (fun b _ _ => q3 _ _ (by omega))
          obtain ⟨σ4, e4, f4, k4⟩ := ih (addB v D (sk v n p)) (sk v n p + 4) σ3 (by omega) (by omega) (h.kept (f2.tr f3)) m3 p3
          refine ⟨σ4, ?_, (f2.tr f3).tr f4, k4⟩
          rw [← e4]
          have e77 : F_X9_faultOf_77 134 (nI t) σ = some (.inl σ3) := by
            unfold F_X9_faultOf_77
            rw [e2, ob_some, if_neg (show ¬ (1 : Int32) = 0 by decide), e3, ob_some]
          unfold F_X9_faultOf_53
          apply lp_in
          rw [gI_134_13, ob_some, hpos, gR_134_6, ob_some, aI_eq sh_140 ht (by decide), ob_some, h.1, if_pos (nI_lt (by omega) (by omega)), e77]
        · rw [if_neg c3]
          refine ⟨σ2, ?_, f2, fun D' z => by cases z⟩
          unfold F_X9_faultOf_53
          apply lp_out
          rw [gI_134_13, ob_some, hpos, gR_134_6, ob_some, aI_eq sh_140 ht (by decide), ob_some, h.1, if_pos (nI_lt (by omega) (by omega)), go σ σ2 0 _ (kn c3) rfl p2]
          rfl
theorem M_faultOf {A : Ab} {t n : Nat} (ht : t < 4) (hs : A.2.1.1 t = some n) (σ : Mem) (h : RM A σ) : ∃ σ', F_X9_faultOf 134 (nI t) σ = some (ansT (resT (A.2.1.2 t) n), σ') ∧ FrP σ σ' ∧ ∀ D, resT (A.2.1.2 t) n = .inr D → MT σ' 7216 D := by
  obtain ⟨hn, g1, g2⟩ := h.2.1.row ht hs
  obtain ⟨v, hv⟩ : ∃ v, A.2.1.2 t = v := ⟨_, rfl⟩
  rw [hv] at g2 ⊢
  have hR : RT σ t v n := ⟨g1, g2⟩
  have key : ∃ u, F_X9_faultOf_2 134 (nI t) ((0 : Int32), σ) = some u ∧ (u.1 = ansT (resT v n) ∧ FrP σ u.2 ∧ ∀ D, resT v n = .inr D → MT u.2 7216 D) := by
    unfold F_X9_faultOf_2
    refine lp_inv (fun j (u : Int32 × Mem) => u.1 = nI j ∧ (∀ i, i < j → u.2.1 135 (7216 + i) = nI 0) ∧ FrP σ u.2) 44 ?_ ?_ _ ⟨rfl, fun i hi => absurd hi (by omega), FrP.rf⟩
    · intro j u hj ⟨a1, a2, a3⟩
      have ix : (7216 : Int32) + nI j = nI (7216 + j) := lx rfl
      refine ⟨(nI (j + 1), setI u.2 135 (7216 + j) 0), ?_, rfl, fun i hi => ?_, a3.tr (FrP.set hj)⟩
      · rw [a1, if_neg (show ¬ (44 : Int32) ≤ nI j from nI_ge (b := 44) hj (by decide)), wR, ob_some, ix, w_wr (by omega), ob_some, nI_1]
      · show (setI u.2 135 (7216 + j) 0).1 135 (7216 + i) = _
        rw [setI_1]
        by_cases y : i = j
        · rw [if_pos ⟨rfl, by omega⟩]; rfl
        · rw [if_neg (by omega)]; exact a2 i (by omega)
    · intro u ⟨a1, a2, a3⟩
      have m0 : MT (setI u.2 134 13 (0 : Int32)) 7216 (fun _ => 0) := MT.pos (D := fun _ => 0) (fun j hj => a2 j hj)
      have f0 : FrP σ (setI u.2 134 13 (0 : Int32)) := a3.tr FrP.pos
      obtain ⟨w1, e1, p1, q1, z1⟩ := M_blanks (v := v) ht hn n 0 (setI u.2 134 13 (0 : Int32)) (Nat.sub_zero n) (Nat.zero_le _) (hR.kept f0) (by rw [setI_1, if_pos ⟨rfl, rfl⟩]; rfl)
      have f1 : FrP σ w1 := f0.tr ⟨fun a b x _ => q1 a b x, z1⟩
      have m1 : MT w1 7216 (fun _ => 0) := m0.kept (fun b _ _ => q1 _ _ (by omega))
      obtain ⟨_, s2⟩ := sk_le (v := v) (Nat.zero_le n)
      have hR1 := hR.kept f1
      rw [a1, if_pos (show (44 : Int32) ≤ nI 44 by decide), pI_134_13, ob_some, e1, ob_some]
      obtain ⟨q, hq⟩ : ∃ q, sk v n 0 = q := ⟨_, rfl⟩
      rw [resT_H, hq]
      rw [hq] at p1 s2
      unfold resH F_X9_takesFirst
      rw [gI_134_13, ob_some, p1, M_byteAt hR1 ht hn s2, ob_some]
      by_cases hh : q < n ∧ v q = 110
      · rw [if_pos hh.1, if_pos hh.2, if_pos hh, ob_some, nI_1, pI_134_13, ob_some]
        have f2 : FrP σ (setI w1 134 13 (nI (q + 1))) := f1.tr FrP.pos
        obtain ⟨w3, c, e3, p3, l3, f3, k3⟩ := M_figs (l := 0) (many := 4) (off := 39) (ap := 1) (x2 := (4 : Int32)) (x3 := (0 : Int32)) (x4 := (7255 : Int32)) (x5 := (1 : Int32)) (hR.kept f2) ht hn (show q + 1 ≤ n by omega) (by decide) (show (setI w1 134 13 (nI (q + 1))).1 134 13 = nI (q + 1) by rw [setI_1, if_pos ⟨rfl, rfl⟩]) m1.pos (fun j hj => by omega) (by decide) rfl rfl rfl rfl
        rw [e3, ob_some]
        rcases k3 with ⟨c1, c2, m3⟩ | ⟨c1, c2⟩
        · have cn : ¬ c = 0 := by rw [c1]; decide
          rw [if_neg cn, if_pos c2]
          rw [c2] at p3 l3
          have e5 : q + 1 + 4 = q + 5 := by omega
          rw [e5] at p3 l3
          have f4 : FrP σ w3 := f2.tr f3
          obtain ⟨w5, d, e6, p5, l5, f5, k5⟩ := M_figs (l := 1) (many := 1) (off := 43) (ap := 1) (x2 := (1 : Int32)) (x3 := (1 : Int32)) (x4 := (7259 : Int32)) (x5 := (1 : Int32)) (hR.kept f4) ht hn l3 (by decide) p3 m3 (fun j hj => by omega) (by decide) rfl rfl rfl rfl
          rw [e6, ob_some]
          by_cases fp : figP v n 1 (q + 5)
          · have cf1 : cfN v n 1 1 (q + 5) = 1 := cfN_yes fp
            rcases k5 with ⟨d1, d2, m5⟩ | ⟨d1, d2⟩
            · have dn : ¬ d = 0 := by rw [d1]; decide
              rw [if_neg dn, ob_some, if_neg (show ¬ (1 : Int32) = 0 by decide), if_pos fp]
              rw [cf1] at p5 l5
              have eH : ∀ j, j < 44 → headT v q j = updF v (q + 5) 43 1 (updF v (q + 1) 39 1 (fun _ => 0) 4) 1 j := fun j hj => by
                show (if 39 ≤ j ∧ j ≤ 43 then figN v (q + 1 + (j - 39)) else 0) = updT (updT (updT (updT (updT (fun _ => 0) (39 + 1 * 0) (figN v (q + 1 + 0))) (39 + 1 * 1) (figN v (q + 1 + 1))) (39 + 1 * 2) (figN v (q + 1 + 2))) (39 + 1 * 3) (figN v (q + 1 + 3))) (43 + 1 * 0) (figN v (q + 5 + 0)) j
                by_cases y : 39 ≤ j ∧ j ≤ 43
                · rw [if_pos y]
                  have cs : j = 39 ∨ j = 40 ∨ j = 41 ∨ j = 42 ∨ j = 43 := by omega
                  rcases cs with rfl | rfl | rfl | rfl | rfl
                  · rw [upd_ne (by decide), upd_ne (by decide), upd_ne (by decide), upd_ne (by decide), upd_eq]
                  · rw [upd_ne (by decide), upd_ne (by decide), upd_ne (by decide), upd_eq]
                  · rw [upd_ne (by decide), upd_ne (by decide), upd_eq]
                  · rw [upd_ne (by decide), upd_eq]
                  · rw [upd_eq]
                · rw [if_neg y, upd_ne (by omega), upd_ne (by omega), upd_ne (by omega), upd_ne (by omega), upd_ne (by omega)]
              have mH : MT w5 7216 (headT v q) := m5.ext eH
              have f6 : FrP σ w5 := f4.tr f5
              obtain ⟨w7, e7, p7, q7, z7⟩ := M_blanks (v := v) ht hn (n - (q + 6)) (q + 6) w5 rfl (by omega) (hR.kept f6) (by rw [show q + 6 = q + 5 + 1 by omega]; exact p5)
              have f8 : FrP w5 w7 := ⟨fun a b x _ => q7 a b x, z7⟩
              have h0 : headT v q 0 = 0 := rfl
              obtain ⟨w9, e9, f9, k9⟩ := M_beds ht hn 6 (headT v q) (q + 6) w7 rfl (by omega) (hR.kept (f6.tr f8)) (mH.kept (fun b _ _ => q7 _ _ (by omega))) p7
              refine ⟨(ansT (resB v n 6 (headT v q) (q + 6)), w9), ?_, rfl, (f6.tr f8).tr f9, k9⟩
              rw [e7, ob_some, e9]
              rfl
            · exact absurd cf1 d2
          · have cf0 : cfN v n 1 1 (q + 5) = 0 := cfN_no fp
            rcases k5 with ⟨d1, d2, m5⟩ | ⟨d1, d2⟩
            · omega
            · rw [if_pos d1, ob_some, if_pos rfl, if_neg fp, gI_134_13, ob_some, p5, cf0]
              exact ⟨_, rfl, rfl, f4.tr f5, fun D z => by cases z⟩
        · rw [if_pos c1, ob_some, if_pos rfl, if_neg c2, gI_134_13, ob_some, p3]
          exact ⟨_, rfl, rfl, f2.tr f3, fun D z => by cases z⟩
      · rw [if_neg hh]
        have nh : ¬ (if q < n then v q else -1000) = 110 := by
          by_cases z : q < n
          · rw [if_pos z]; exact fun y => hh ⟨z, y⟩
          · rw [if_neg z]; decide
        rw [if_neg nh, ob_some, if_pos rfl, gI_134_13, ob_some, p1]
        exact ⟨_, rfl, rfl, f1, fun D z => by cases z⟩
  obtain ⟨⟨u1, u2⟩, e, k1, k2, k3⟩ := key
  refine ⟨u2, ?_, k2, k3⟩
  unfold F_X9_faultOf
  rw [e, show u1 = _ from k1]

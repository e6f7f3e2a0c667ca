/-! ===== test: the class's side ===== -/
def F97 (σ σ' : Mem) : Prop := (∀ a b, a ≠ 97 → σ'.1 a b = σ.1 a b) ∧ σ'.2 = σ.2
theorem F97.tr {σ σ' σ'' : Mem} (h : F97 σ σ') (h2 : F97 σ' σ'') : F97 σ σ'' := ⟨fun a b q => (h2.1 a b q).trans (h.1 a b q), h2.2.trans h.2⟩
theorem F97.set {j : Nat} {v : Int32} {σ : Mem} : F97 σ (setI σ 97 j v) := ⟨fun x y q => by rw [setI_1, if_neg (by omega)], rfl⟩
theorem fill_97 {σ : Mem} : ∃ σ', F_J7_fill_53178 97 (0 : Int32) σ = some σ' ∧ (∀ v, v < 31 → σ'.1 97 v = nI 0) ∧ F97 σ σ' := by
  have key : ∃ t, F_J7_fill_53178_5 97 (0 : Int32) (nI 31) ((0 : Int32), σ) = some t ∧ ((∀ v, v < 31 → t.1 97 v = nI 0) ∧ F97 σ t) := by
    unfold F_J7_fill_53178_5
    refine lp_inv (fun j (s : Int32 × Mem) => s.1 = nI j ∧ (∀ v, v < j → s.2.1 97 v = nI 0) ∧ F97 σ s.2) 31 ?_ ?_ _ ⟨rfl, fun v hv => absurd hv (by omega), fun _ _ _ => rfl, rfl⟩
    · intro j s hj ⟨a1, a2, a3⟩
      refine ⟨(nI (j + 1), setI s.2 97 j 0), ?_, rfl, fun v hv => ?_, a3.tr F97.set⟩
      · rw [a1, if_neg (nI_ge hj (by omega)), sJ_eq (by decide) sh_97 hj (by decide), ob_some, nI_1]
      · show (setI s.2 97 j 0).1 97 v = _
        rw [setI_1]
        by_cases y : v = j
        · rw [if_pos ⟨rfl, y⟩]; rfl
        · rw [if_neg (by omega)]; exact a2 v (by omega)
    · intro s ⟨a1, a2, a3⟩
      exact ⟨s.2, by rw [a1, if_pos (nI_le (Nat.le_refl _) (by omega))], a2, a3⟩
  obtain ⟨t, e, k1, k2⟩ := key
  exact ⟨t, by unfold F_J7_fill_53178; rw [aN_eq (by decide) sh_97, ob_some, e], k1, k2⟩
theorem C_gp {σ : Mem} {T : Tn} {B i p m : Nat} {f : Nat → Int32} (h : CT σ 18 T) (hw : wfT B T) (hi : i < T 0) (hF : ∀ kd, kd < 6 → σ.1 96 kd = bitI (fun th => fitP T i kd th f p) 10) (hm : m < 8) : ∃ σ', F_X0_greatestPart 93 18 (nI i) (nI m) σ = some (nI (moE T i f p m), σ') ∧ F97 σ σ' := by
  have b := hw.2.2.1 i hi
  obtain ⟨σ1, ef, f1, f2⟩ := fill_97 (σ := σ)
  have key : ∃ t, F_X0_greatestPart_14 93 18 (nI i) (nI m) ((0 : Int32), (0 : Int32), σ1) = some t ∧ (t.1 = nI (moE T i f p m) ∧ F97 σ t.2) := by
    unfold F_X0_greatestPart_14
    refine lp_inv (fun kd (s : Int32 × Int32 × Mem) => s.2.1 = nI kd ∧ s.1 = nI (mosE (FE T i f p) (crE T i m) (10 * kd)) ∧ (∀ v, v < 31 → s.2.2.1 97 v = nI (cntE (FE T i f p) (crE T i m) (10 * kd) v)) ∧ F97 σ s.2.2) 6 ?_ ?_ _ ⟨rfl, rfl, f1, f2⟩
    · intro kd s hk ⟨a1, a2, a3, a4⟩
      rw [a1, a2, if_neg (show ¬ (6 : Int32) ≤ nI kd from nI_ge (b := 6) hk (by decide))]
      have inner : ∃ t, F_X0_greatestPart_24 93 18 (nI i) (nI m) (nI kd) (nI (mosE (FE T i f p) (crE T i m) (10 * kd)), (0 : Int32), s.2.2) = some t ∧ ∃ s', t = Sum.inl s' ∧ s'.2.1 = nI (kd + 1) ∧ s'.1 = nI (mosE (FE T i f p) (crE T i m) (10 * (kd + 1))) ∧ (∀ v, v < 31 → s'.2.2.1 97 v = nI (cntE (FE T i f p) (crE T i m) (10 * (kd + 1)) v)) ∧ F97 σ s'.2.2 := by
        unfold F_X0_greatestPart_24
        refine lp_inv (fun th (s : Int32 × Int32 × Mem) => s.2.1 = nI th ∧ s.1 = nI (mosE (FE T i f p) (crE T i m) (10 * kd + th)) ∧ (∀ v, v < 31 → s.2.2.1 97 v = nI (cntE (FE T i f p) (crE T i m) (10 * kd + th) v)) ∧ F97 σ s.2.2) 10 ?_ ?_ _ ⟨rfl, rfl, a3, a4⟩
        · intro th s ht ⟨c1, c2, c3, c4⟩
          have hz : ¬ (9 : Int32) < nI th := fun z => by
            have := (nI_ltI (a := 9) (b := th) (by decide) (by omega)).mp z
            omega
          have d1 : (10 * kd + th) / 10 = kd := by omega
          have d2 : (10 * kd + th) % 10 = th := by omega
          have hN : CT s.2.2 18 T := h.kept (fun a b p q => c4.1 a b (by omega))
          have r0 : F_X8_read 96 (nI kd) s.2.2 = some (bitI (fun th => fitP T i kd th f p) 10) := by
            rw [rd_eq (by decide) sh_96 hk (by decide), c4.1 _ _ (by decide), hF kd hk]
          have bg := bit_get (P := fun th => fitP T i kd th f p) ht 10 (by omega)
          rw [c1, c2, if_neg hz, gR_93_2, ob_some, r0, ob_some]
          by_cases q : fitP T i kd th f p
          · have qE : FE T i f p (10 * kd + th) := by
              show fitP T i ((10 * kd + th) / 10) ((10 * kd + th) % 10) f p
              rw [d1, d2]; exact q
            have ec : crE T i m (10 * kd + th) = crN kd (gapT T i i) th m (T (39 + m % 4)) := by
              show crN ((10 * kd + th) / 10) _ ((10 * kd + th) % 10) _ _ = _
              rw [d1, d2]
            have hc : crE T i m (10 * kd + th) ≤ 19 := crN_le (gapT_le b.2.1 b.2.2.1) (hw.2.2.2.1 _ (Nat.mod_lt _ (by decide)))
            have l1 := cntE_le (P := FE T i f p) (c := crE T i m) (10 * kd + th) (crE T i m (10 * kd + th))
            have l2 := mosE_le (P := FE T i f p) (c := crE T i m) (10 * kd + th)
            have v0 := c3 (crE T i m (10 * kd + th)) (by omega)
            have cy := cntE_yes (c := crE T i m) qE
            have my := mosE_yes (c := crE T i m) qE
            have r1 : F_X8_read 97 (nI (crE T i m (10 * kd + th))) s.2.2 = some (nI (cntE (FE T i f p) (crE T i m) (10 * kd + th) (crE T i m (10 * kd + th)))) := by
              rw [rd_eq (by decide) sh_97 (by omega) (by decide), v0]
            have w1 : F_X8_write 97 (nI (crE T i m (10 * kd + th))) (nI (cntE (FE T i f p) (crE T i m) (10 * kd + th + 1) (crE T i m (10 * kd + th)))) s.2.2 = some (setI s.2.2 97 (crE T i m (10 * kd + th)) (nI (cntE (FE T i f p) (crE T i m) (10 * kd + th + 1) (crE T i m (10 * kd + th))))) := wr_eq (by decide) sh_97 (by omega) (by decide)
            have r2 : F_X8_read 97 (nI (crE T i m (10 * kd + th))) (setI s.2.2 97 (crE T i m (10 * kd + th)) (nI (cntE (FE T i f p) (crE T i m) (10 * kd + th + 1) (crE T i m (10 * kd + th))))) = some (nI (cntE (FE T i f p) (crE T i m) (10 * kd + th + 1) (crE T i m (10 * kd + th)))) := by
              rw [rd_eq (by decide) sh_97 (by omega) (by decide), setI_1, if_pos ⟨rfl, rfl⟩]
            have emax : (if nI (mosE (FE T i f p) (crE T i m) (10 * kd + th)) < nI (cntE (FE T i f p) (crE T i m) (10 * kd + th + 1) (crE T i m (10 * kd + th))) then nI (cntE (FE T i f p) (crE T i m) (10 * kd + th + 1) (crE T i m (10 * kd + th))) else nI (mosE (FE T i f p) (crE T i m) (10 * kd + th))) = nI (mosE (FE T i f p) (crE T i m) (10 * kd + th + 1)) := by
              rw [my]
              by_cases z : mosE (FE T i f p) (crE T i m) (10 * kd + th) < cntE (FE T i f p) (crE T i m) (10 * kd + th + 1) (crE T i m (10 * kd + th))
              · rw [if_pos z, if_pos (nI_lt z (by omega))]
              · rw [if_neg z, if_neg (nI_nlt (by omega) (by omega))]
            refine ⟨(nI (mosE (FE T i f p) (crE T i m) (10 * kd + th + 1)), nI (th + 1), setI s.2.2 97 (crE T i m (10 * kd + th)) (nI (cntE (FE T i f p) (crE T i m) (10 * kd + th + 1) (crE T i m (10 * kd + th))))), ?_, rfl, rfl, fun v hv => ?_, c4.tr F97.set⟩
            · rw [bg.trans (if_pos ⟨ht, q⟩), if_pos rfl, tC tw_18, ob_some, C_crossesAs tw_18 hN hw hi (by omega) hk (by omega), ob_some, ← ec, gR_93_3, ob_some, ob_some, r1, ob_some, nI_1, ← cy, w1, ob_some, ob_some, r2, ob_some, emax, nI_1]
            · show (setI s.2.2 97 (crE T i m (10 * kd + th)) _).1 97 v = nI (cntE (FE T i f p) (crE T i m) (10 * kd + th + 1) v)
              rw [setI_1]
              by_cases y : v = crE T i m (10 * kd + th)
              · rw [if_pos ⟨rfl, y⟩, y]
              · rw [if_neg (fun z => y z.2), cntE_oth (fun z => y z.symm)]
                exact c3 v hv
          · have qE : ¬ FE T i f p (10 * kd + th) := by
              show ¬ fitP T i ((10 * kd + th) / 10) ((10 * kd + th) % 10) f p
              rw [d1, d2]; exact q
            refine ⟨(nI (mosE (FE T i f p) (crE T i m) (10 * kd + th + 1)), nI (th + 1), s.2.2), ?_, rfl, rfl, fun v hv => ?_, c4⟩
            · rw [bg.trans (if_neg (fun z => q z.2)), if_neg (by decide), mosE_no qE, nI_1]
            · show s.2.2.1 97 v = nI (cntE (FE T i f p) (crE T i m) (10 * kd + th + 1) v)
              rw [cntE_no qE]; exact c3 v hv
        · intro s ⟨c1, c2, c3, c4⟩
          refine ⟨Sum.inl (s.1, nI (kd + 1), s.2.2), ?_, _, rfl, rfl, c2, c3, c4⟩
          rw [c1, if_pos (show (9 : Int32) < nI 10 by decide), nI_1]
      obtain ⟨t, e, s', rfl, k⟩ := inner
      exact ⟨s', e, k⟩
    · intro s ⟨a1, a2, a3, a4⟩
      exact ⟨(s.1, s.2.2), by rw [a1, if_pos (show (6 : Int32) ≤ nI 6 by decide)], a2, a4⟩
  obtain ⟨t, e, k1, k2⟩ := key
  refine ⟨t.2, ?_, k2⟩
  unfold F_X0_greatestPart
  rw [gR_93_3, ob_some, ef, ob_some, e, ← k1]

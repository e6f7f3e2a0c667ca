theorem M_lots {tb : Prop} {A : Ab} {n s : Nat} (hA : okDe tb A.2.2.2) (h0 : 0 < A.2.2.2.1 0) (hs : s < 2147483647) (hn : A.2.2.2.2.1 + n ≤ 40) (σ : Mem) (h : RM A σ) : ∃ q, F_X9_lots_59 134 (nI n) (lN s, (0 : Int32), (0 : Int32), σ) = some q ∧ (q.1 = nI (lotR A.2.2.2 s n).1 ∧ RM (deA A (lotR A.2.2.2 s n).2.2) q.2 ∧ FM σ q.2) := by
  have h6 := hA.1.1
  unfold F_X9_lots_59
  refine lp_inv (Q := fun q : Int32 × Mem => q.1 = nI (lotR A.2.2.2 s n).1 ∧ RM (deA A (lotR A.2.2.2 s n).2.2) q.2 ∧ FM σ q.2) (fun i (t : Int64 × Int32 × Int32 × Mem) => t.2.1 = nI (lotR A.2.2.2 s i).1 ∧ t.1 = lN (lotR A.2.2.2 s i).2.1 ∧ t.2.2.1 = nI i ∧ RM (deA A (lotR A.2.2.2 s i).2.2) t.2.2.2 ∧ FM σ t.2.2.2) n ?_ ?_ _ ⟨rfl, rfl, rfl, h, FM.rf⟩
  · intro i t hi ⟨a1, a2, a3, a4, a5⟩
    obtain ⟨b1, b2, b3, b4⟩ := lot_ok hA h0 hs i (by omega)
    have hw : (t.1 * (48271 : Int64)) - (t.1 * (48271 : Int64)) / (2147483647 : Int64) * (2147483647 : Int64) = lN ((lotR A.2.2.2 s i).2.1 * 48271 % 2147483647) := by rw [a2]; exact lz b4
    have hm := Nat.mod_lt ((lotR A.2.2.2 s i).2.1 * 48271) (show 2147483647 > 0 by decide)
    generalize hwv : (lotR A.2.2.2 s i).2.1 * 48271 % 2147483647 = w at hw hm
    have hk := Nat.mod_lt (w / 8) h0
    have hr : lotR A.2.2.2 s (i + 1) = ((lotR A.2.2.2 s i).1 + (if w % 4 = 2 then inspS (nowT (lotR A.2.2.2 s i).2.2) (w / 8 % A.2.2.2.1 0) else 0), w, pushD (lotR A.2.2.2 s i).2.2 (lotC (A.2.2.2.1 0) w)) := by rw [← hwv]; rfl
    have e2 : (nI (w % 4) = (2 : Int32)) ↔ w % 4 = 2 := nI_eq (b := 2) (by omega) (by decide)
    have e2' : ((2 : Int32) ≤ nI (w % 4)) ↔ 2 ≤ w % 4 := nI_leI (a := 2) (by decide) (by omega)
    obtain ⟨hnw, hn0⟩ := now_wf b1
    rw [b2] at hn0
    have hv0 : t.2.2.2.1 135 0 = nI (A.2.2.2.1 0) := by
      have := a4.now 0 (by decide)
      have this : t.2.2.2.1 135 0 = nI (nowT (lotR A.2.2.2 s i).2.2 0) := this
      rw [this, hn0]
    have hrd : aI 135 (0 : Int32) t.2.2.2 = some (nI (A.2.2.2.1 0)) := (w_rd (j := 0) (by decide)).trans (by rw [hv0])
    have h40 : (lotR A.2.2.2 s i).2.2.2.1 < 40 := by omega
    obtain ⟨σ1, f1, m1, m2, m3, m4⟩ := M_minds a4.dc h40
    have t0 : MT σ1 0 (nowT (lotR A.2.2.2 s i).2.2) := a4.now.kept (fun b p1 p2 => m3 _ _ (Or.inr (Or.inl (by show b < 44 * (1 + (lotR A.2.2.2 s i).2.2.2.1); omega))) (by omega))
    have hi6 : w / 8 % A.2.2.2.1 0 < nowT (lotR A.2.2.2 s i).2.2 0 := by rw [hn0]; exact hk
    rw [hr]
    by_cases z2 : w % 4 = 2
    · have hl : lotC (A.2.2.2.1 0) w = 100 + 10 * (w / 8 % A.2.2.2.1 0) := by unfold lotC; rw [if_pos z2]
      rw [hl]
      obtain ⟨σ2, f2, g1, g2⟩ := M_insp (f := 0) t0 (by decide) hnw hi6
      rw [← ap_insp (by omega)] at g1
      obtain ⟨k1, k2⟩ := M_push2 (A := deA A (lotR A.2.2.2 s i).2.2) a4 h40 m1 m2 m3 m4 g1 g2
      have f2' : F_X9_inspects 134 (0 : Int32) (nI (w / 8 % A.2.2.2.1 0)) σ1 = some (nI (inspS (nowT (lotR A.2.2.2 s i).2.2) (w / 8 % A.2.2.2.1 0)), σ2) := f2
      refine ⟨(lN w, nI ((lotR A.2.2.2 s i).1 + inspS (nowT (lotR A.2.2.2 s i).2.2) (w / 8 % A.2.2.2.1 0)), nI (i + 1), σ2), ?_, by rw [if_pos z2], rfl, rfl, k1, a5.tr k2⟩
      simp only [a3, hw, lz4 hm, wR, hrd, lz8 hm h0 h6, nz_row h0 (show A.2.2.2.1 0 ≤ 1000 by omega), ob_some, f1, f2']
      rw [if_neg (nI_ge hi (by omega)), if_pos (e2'.mpr (by omega)), if_pos (e2.mpr z2), a1, nI_add, nI_1]
    · by_cases z3 : w % 4 = 3
      · have hl : lotC (A.2.2.2.1 0) w = 200 + 10 * (w / 8 % A.2.2.2.1 0) := by unfold lotC; rw [if_neg z2, if_pos z3]
        rw [hl]
        have bb := hnw.2.2.1 _ hi6
        have hv1 := t0 (21 + w / 8 % A.2.2.2.1 0) (by omega)
        rw [Nat.zero_add] at hv1
        have g1 : MT (setI σ1 135 (0 + (21 + w / 8 % A.2.2.2.1 0)) (nI (nowT (lotR A.2.2.2 s i).2.2 (21 + w / 8 % A.2.2.2.1 0) - 1))) 0 (applyD (nowT (lotR A.2.2.2 s i).2.2) (200 + 10 * (w / 8 % A.2.2.2.1 0))) := by
          rw [ap_thin (by omega)]; exact t0.set
        obtain ⟨k1, k2⟩ := M_push2 (A := deA A (lotR A.2.2.2 s i).2.2) a4 h40 m1 m2 m3 m4 g1 (FrM.set (by omega))
        have ea : (21 : Int32) + nI (w / 8 % A.2.2.2.1 0) = nI (21 + w / 8 % A.2.2.2.1 0) := lx rfl
        have er : aI 135 (nI (21 + w / 8 % A.2.2.2.1 0)) σ1 = some (nI (nowT (lotR A.2.2.2 s i).2.2 (21 + w / 8 % A.2.2.2.1 0))) := (w_rd (by omega)).trans (by rw [hv1])
        refine ⟨(lN w, nI (lotR A.2.2.2 s i).1, nI (i + 1), _), ?_, by rw [if_neg z2]; rfl, rfl, rfl, k1, a5.tr k2⟩
        simp only [a3, hw, lz4 hm, wR, hrd, lz8 hm h0 h6, nz_row h0 (show A.2.2.2.1 0 ≤ 1000 by omega), ob_some, f1, ea, er]
        rw [if_neg (nI_ge hi (by omega)), if_pos (e2'.mpr (by omega)), if_neg (fun q => z2 (e2.mp q)), Nat.zero_add]
        unfold F_X9_lots_168
        by_cases zz : nowT (lotR A.2.2.2 s i).2.2 (21 + w / 8 % A.2.2.2.1 0) = 0
        · rw [if_pos (by rw [zz]; decide), show nI (nowT (lotR A.2.2.2 s i).2.2 (21 + w / 8 % A.2.2.2.1 0)) - (0 : Int32) = nI (nowT (lotR A.2.2.2 s i).2.2 (21 + w / 8 % A.2.2.2.1 0) - 1) by rw [zz]; rfl, w_wr (by omega), ob_some, a1, nI_1]
          rfl
        · rw [if_neg (show ¬ nI (nowT (lotR A.2.2.2 s i).2.2 (21 + w / 8 % A.2.2.2.1 0)) ≤ (0 : Int32) from fun q => zz (Nat.le_zero.mp ((nI_leI (b := 0) (by omega) (by decide)).mp q))), show nI (nowT (lotR A.2.2.2 s i).2.2 (21 + w / 8 % A.2.2.2.1 0)) - (1 : Int32) = nI (nowT (lotR A.2.2.2 s i).2.2 (21 + w / 8 % A.2.2.2.1 0) - 1) from pk_sub (b := 1) (by omega), w_wr (by omega), ob_some, a1, nI_1]
          rfl
      · have hl : lotC (A.2.2.2.1 0) w = 0 := by unfold lotC; rw [if_neg z2, if_neg z3]
        rw [hl]
        obtain ⟨σ2, f2, g1, g2⟩ := M_pass (f := 0) t0 t0.col (by decide) (Or.inl rfl) hnw (by decide)
        obtain ⟨k1, k2⟩ := M_push2 (A := deA A (lotR A.2.2.2 s i).2.2) (c := 0) a4 h40 m1 m2 m3 m4 g1 g2
        have f2' : F_X9_passes 134 (0 : Int32) σ1 = some (_, σ2) := f2
        refine ⟨(lN w, nI (lotR A.2.2.2 s i).1, nI (i + 1), σ2), ?_, by rw [if_neg z2]; rfl, rfl, rfl, k1, a5.tr k2⟩
        simp only [a3, hw, lz4 hm, wR, hrd, lz8 hm h0 h6, nz_row h0 (show A.2.2.2.1 0 ≤ 1000 by omega), ob_some, f1, f2']
        rw [if_neg (nI_ge hi (by omega)), if_neg (fun q => by have := e2'.mp q; omega), a1, nI_1]
  · intro t ⟨a1, a2, a3, a4, a5⟩
    exact ⟨(t.2.1, t.2.2.2), by rw [a3, if_pos (nI_le (Nat.le_refl _) (by omega))], a1, a4, a5⟩

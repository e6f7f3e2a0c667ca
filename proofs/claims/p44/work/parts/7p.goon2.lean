theorem FrR.ct {k : Nat} {σ σ' : Mem} {U : Tn} (f : FrR (k + 1) σ σ') (h : CT σ (lvR k) U) : CT σ' (lvR k) U := h.kept (fun a b p q => f.1 a b (by unfold lvR at p q; omega))
theorem C_goOn {T : Tn} {B m n : Nat} (hw : wfT B T) (hB : B ≤ 100) (hm : m = T 0 + 1) (hn : n ≤ 4) : ∀ D dep, D < dep → ∀ i P U sum s σ, i + D = n → runR m T i P = (U, sum) → CT σ (lvR i) U → WR σ m n s i P → ∃ σ', F_X5_goOn dep 45 (some (lvR i)) (nI i) (nI n) (nI sum) σ = some σ' ∧ WR σ' m n (fq m T n s (P * m ^ D) (m ^ D)) i P ∧ FrR i σ σ' := by
  have m0 : 0 < m := by omega
  intro D
  induction D with
  | zero =>
    intro dep hd i P U sum s σ hi hR h hW
    obtain ⟨q, rfl⟩ : ∃ q, dep = q + 1 := ⟨dep - 1, by omega⟩
    have hin : i = n := by omega
    subst hin
    obtain ⟨v1, v2, v3⟩ := wf_runR hw hm i P
    rw [hR] at v3
    obtain ⟨σ', e, w, f⟩ := C_takeM (T := T) (m := m) (P := P) (sum := sum) hn (by rw [hR]) (by have v3 : sum ≤ 99 * i := v3; omega) hW
    have ef : fq m T i s (P * m ^ 0) (m ^ 0) = stq m T i s P := by
      rw [Nat.pow_zero, Nat.mul_one]; rfl
    refine ⟨σ', ?_, by rw [ef]; exact w, ⟨fun a b q => f.1 a b (by omega), f.2⟩⟩
    show B_X5_goOn (F_X5_goOn q) 45 (some (lvR i)) (nI i) (nI i) (nI sum) σ = some σ'
    unfold B_X5_goOn F_X5_goOn_9
    dsimp only
    rw [if_pos (nI_le (Nat.le_refl _) (by omega)), e, ob_some]
  | succ D ih =>
    intro dep hd i P U sum s σ hi hR h hW
    obtain ⟨q, rfl⟩ : ∃ q, dep = q + 1 := ⟨dep - 1, by omega⟩
    obtain ⟨v1, v2, v3⟩ := wf_runR hw hm i P
    rw [hR] at v1 v2 v3
    have v1 : wfT (B + 2 * i) U := v1
    have v2 : U 0 = T 0 := v2
    have v3 : sum ≤ 99 * i := v3
    have tk := lvR_tw (k := i) (by omega)
    obtain ⟨σ1, e1, c1, f1⟩ := C_pass tk h v1 (by omega)
    have w1 := wf_pass v1
    have hp0 : passT U 0 = U 0 := pass_0 U
    have hRU : passT (runR m T i P).1 = passT U := by rw [hR]
    have hRs : (runR m T i P).2 = sum := by rw [hR]
    have W1 := hW.kept (σ' := σ1) (fun x b q => f1.1 x b (by unfold lvR; omega))
    have h6 := v1.1
    have key : ∃ t, F_X5_inspectEach_3 (F_X5_goOn q) 45 (lvR i) (nI i) (nI n) (nI sum) ((-1 : Int32), σ1) = some t ∧ (WR t m n (fq m T n s (P * m ^ (D + 1)) (m ^ (D + 1))) i P ∧ FrR i σ1 t) := by
      unfold F_X5_inspectEach_3
      refine lp_inv (fun a (u : Int32 × Mem) => u.1 = mvI a ∧ CT u.2 (lvR i) (passT U) ∧ WR u.2 m n (fq m T n s (P * m ^ (D + 1)) (a * m ^ D)) i P ∧ FrR i σ1 u.2) m ?_ ?_ _ ⟨mvI_0.symm, c1, ?_, FrR.rf⟩
      · intro a u ha ⟨a1, a2, a3, a4⟩
        have ha2 : a < passT U 0 + 1 := by omega
        have k47 : ∃ σ2, F_X5_inspectEach_26 (F_X5_goOn q) 45 (lvR i) (nI i) (nI n) (nI sum) (mvI a) u.2 = some (.inl (mvI (a + 1), σ2)) ∧ WR σ2 m n (fq m T n (fq m T n s (P * m ^ (D + 1)) (a * m ^ D)) ((P * m + a) * m ^ D) (m ^ D)) i P ∧ FrR (i + 1) u.2 σ2 :=
          C_go47 hn hi m0 ha2 (by omega) hRU hRs a2 w1 (by omega) a3 (fun U' sum' σ' r c w => ih q (by omega) (i + 1) (P * m + a) U' sum' _ σ' (by omega) r c w)
        rw [← bq_next] at k47
        obtain ⟨x, hx⟩ : ∃ x, mvI (a + 1) = x := ⟨_, rfl⟩
        rw [a1, tI_8 tk, a2.1, ob_some, if_neg (mv_lt (n := passT U 0) (by omega) ha2)]
        by_cases z : a = 0
        · obtain ⟨σ2, e2, w2, f2⟩ := k47
          rw [if_pos ((mv_neg (by omega)).mpr z), e2, hx]
          exact ⟨(x, σ2), rfl, rfl, f2.ct a2, w2, a4.tr f2.up⟩
        · obtain ⟨j, hj⟩ : ∃ j, a = j + 1 := ⟨a - 1, by omega⟩
          have ej : mvI a = nI j := by rw [hj, mvI_s]
          have hj0 : j < passT U 0 := by omega
          rw [if_neg (fun v => z ((mv_neg (by omega)).mp v)), tC tk, ob_some, ej, C_found tk a2 w1 hj0, ob_some]
          by_cases y : dueT (passT U) j
          · obtain ⟨σ2, e2, w2, f2⟩ := k47
            rw [if_pos y, if_neg (by decide), ← ej, e2, hx]
            exact ⟨(x, σ2), rfl, rfl, f2.ct a2, w2, a4.tr f2.up⟩
          · have hid : ¬ mayO (passT (runR m T i P).1) a := fun v => v.elim z (by rw [hRU, hj]; exact y)
            have ei := bq_idle (n := n) (s := s) (D := D) m0 (by omega) ha hid
            rw [← bq_next] at ei
            rw [if_neg y, if_pos rfl, ← ej, mvI_1, hx]
            rw [← ei] at a3
            exact ⟨(x, u.2), rfl, rfl, a2, a3, a4⟩
      · intro u ⟨a1, a2, a3, a4⟩
        rw [show m * m ^ D = m ^ (D + 1) by rw [Nat.pow_succ, Nat.mul_comm]] at a3
        obtain ⟨t, ht⟩ : ∃ t, m = t + 1 := ⟨m - 1, by omega⟩
        exact ⟨u.2, by rw [a1, tI_8 tk, a2.1, ob_some, ht, mvI_s, if_pos (nI_le (by omega) (by omega))], a3, a4⟩
      · show WR σ1 m n (fq m T n s (P * m ^ (D + 1)) (0 * m ^ D)) i P
        rw [Nat.zero_mul]
        exact W1
    obtain ⟨σ2, e2, w2, f2⟩ := key
    refine ⟨σ2, ?_, w2, (f1.r (Nat.le_refl _) (by omega)).tr f2⟩
    show B_X5_goOn (F_X5_goOn q) 45 (some (lvR i)) (nI i) (nI n) (nI sum) σ = some σ2
    unfold B_X5_goOn
    dsimp only
    rw [if_neg (nI_ge (by omega) (by omega)), tC tk, ob_some, e1, ob_some]
    unfold F_X5_inspectEach
    rw [e2, ob_some]

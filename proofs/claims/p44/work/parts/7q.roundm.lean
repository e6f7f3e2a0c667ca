/-! ===== round: the reference's side ===== -/
theorem runR_col {B m : Nat} {T : Tn} (hw : wfT B T) (hm : m = T 0 + 1) : ∀ k e j, (runR m T k e).1 (39 + j) = T (39 + j)
  | 0, _, _ => rfl
  | k + 1, e, j => by
    obtain ⟨h1, h2, _⟩ := wf_runR hw hm k (e / m)
    have ih := runR_col hw hm k (e / m) j
    have h6 := h1.1
    have h0 : passT (runR m T k (e / m)).1 0 = T 0 := (pass_0 _).trans h2
    rw [runR_s]
    show mvO (passT (runR m T k (e / m)).1) (e % m) (39 + j) = _
    rw [mvO_col (by rw [h0, ← h2]; exact h6) (by rw [h0, ← hm]; exact Nat.mod_lt _ (by omega)), pass_col h6, ih]
theorem M_rcode {σ : Mem} {T : Tn} {B n m C : Nat} {s : Nat × Nat} {x2 x3 : Int32} (h : MT σ 0 T) (hw : wfT B T) (hB : B ≤ 100) (hm : m = T 0 + 1) (hn : n ≤ 4) (hc : C < m ^ n) (hp : m ^ n ≤ 2401) (hs : s.2 ≤ 1000) : ∃ σ', (F_X9_tries 134 σ).bind (fun q9 => F_X9_round_87 134 (nI n) x2 x3 (nI s.1) (mvI s.2) (nI C) ((0 : Int32), nI (m ^ n), (0 : Int32), q9)) = some (.inl (nI (stq m T n s C).1, mvI (stq m T n s C).2, nI (C + 1), σ')) ∧ FrM 7260 σ σ' := by
  have h6 := hw.1
  have m0 : 0 < m := by omega
  have em : nI (T 0) + (1 : Int32) = nI m := by rw [nI_1, hm]
  obtain ⟨σ0, e0, c0, f0⟩ := M_tries h
  have key : ∃ t, F_X9_round_87 134 (nI n) x2 x3 (nI s.1) (mvI s.2) (nI C) ((0 : Int32), nI (m ^ n), (0 : Int32), σ0) = some t ∧ ∃ σ', t = .inl (nI (stq m T n s C).1, mvI (stq m T n s C).2, nI (C + 1), σ') ∧ FrM 7260 σ σ' := by
    unfold F_X9_round_87
    refine lp_inv (fun k (u : Int32 × Int32 × Int32 × Mem) => u.1 = nI (runR m T k (C / m ^ (n - k))).2 ∧ u.2.1 = nI (m ^ (n - k)) ∧ u.2.2.1 = nI k ∧ MT u.2.2.2 7260 (runR m T k (C / m ^ (n - k))).1 ∧ FrM 7260 σ u.2.2.2) n ?_ ?_ _ ⟨rfl, rfl, rfl, c0, f0⟩
    · intro k u hk ⟨a1, a2, a3, a4, a5⟩
      obtain ⟨D, hD⟩ : ∃ D, n - k = D + 1 := ⟨n - k - 1, by omega⟩
      rw [hD] at a1 a2 a4
      obtain ⟨w1, w2, w3⟩ := wf_runR hw hm k (C / m ^ (D + 1))
      have col := runR_col hw hm k (C / m ^ (D + 1))
      have hpD : 0 < m ^ D := Nat.pow_pos m0
      have hpl : m ^ (D + 1) ≤ m ^ n := Nat.pow_le_pow_right m0 (by omega)
      have hpl2 : m ^ D ≤ m ^ (D + 1) := Nat.pow_le_pow_right m0 (by omega)
      have eD : m ^ (D + 1) / m = m ^ D := by rw [Nat.pow_succ]; exact Nat.mul_div_cancel _ m0
      have eq1 : C / m ^ D / m = C / m ^ (D + 1) := by rw [Nat.div_div_eq_div_mul, ← Nat.pow_succ]
      have hq : C / m ^ D ≤ C := Nat.div_le_self _ _
      have hd : C / m ^ D % m < m := Nat.mod_lt _ m0
      have hu : MT u.2.2.2 0 T := h.kept (fun b _ _ => a5.1 _ _ (by omega))
      have hCu : COL u.2.2.2 (runR m T k (C / m ^ (D + 1))).1 := (hu.col).ext (fun j _ => col j)
      obtain ⟨U, hU⟩ : ∃ U, (runR m T k (C / m ^ (D + 1))).1 = U := ⟨_, rfl⟩
      obtain ⟨S, hS⟩ : ∃ S, (runR m T k (C / m ^ (D + 1))).2 = S := ⟨_, rfl⟩
      rw [hU] at w1 w2 a4 hCu
      rw [hS] at w3 a1
      obtain ⟨σ1, g1, g2, g3⟩ := M_pass (f := 7260) a4 hCu (by decide) (Or.inr (by decide)) w1 (by omega)
      have g1' : F_X9_passes 134 (7260 : Int32) u.2.2.2 = some (_, σ1) := g1
      have wp := wf_pass w1
      have hp0 : passT U 0 = T 0 := (pass_0 U).trans w2
      have eR : runR m T (k + 1) (C / m ^ D) = (mvO (passT U) (C / m ^ D % m), S + gnO (passT U) (C / m ^ D % m)) := by
        rw [runR_s, eq1, hU, hS]
      have nk1 : n - (k + 1) = D := by omega
      have hneg := mv_neg (a := C / m ^ D % m) (by omega)
      have hu1 : MT σ1 0 T := hu.kept (fun b _ _ => g3.1 _ _ (by omega))
      have pre : ∀ (k' : Int32 → Mem → Option ((Int32 × Int32 × Int32 × Mem) ⊕ ((Int32 × Int32 × Int32 × Mem) ⊕ (Int32 × Mem)))) (z : Option ((Int32 × Int32 × Int32 × Mem) ⊕ ((Int32 × Int32 × Int32 × Mem) ⊕ (Int32 × Mem)))), k' (nI S) σ1 = z → k' (nI S) σ1 = z := fun _ _ q => q
      have fin : ∃ σ2, (if 0 ≤ mvI (C / m ^ D % m) then (F_X9_inspects 134 (7260 : Int32) (mvI (C / m ^ D % m)) σ1).bind fun q28 => F_X9_round_152 134 (nI n) x2 x3 (nI s.1) (mvI s.2) (nI C) (nI (m ^ D)) (nI k) q28.1 (nI S) q28.2 else F_X9_round_152 134 (nI n) x2 x3 (nI s.1) (mvI s.2) (nI C) (nI (m ^ D)) (nI k) (0 : Int32) (nI S) σ1) = some (.inl (nI (S + gnO (passT U) (C / m ^ D % m)), nI (m ^ D), nI (k + 1), σ2)) ∧ MT σ2 7260 (mvO (passT U) (C / m ^ D % m)) ∧ FrM 7260 σ1 σ2 := by
        unfold F_X9_round_152
        by_cases z : C / m ^ D % m = 0
        · have e1 : mvO (passT U) (C / m ^ D % m) = passT U := if_pos z
          have e2 : gnO (passT U) (C / m ^ D % m) = 0 := if_pos z
          rw [if_neg (fun y => absurd (hneg.mpr z) (Int32.not_lt.mpr y)), show nI S + (0 : Int32) = nI S from Int32.add_zero _, nI_1, e1, e2]
          exact ⟨σ1, rfl, g2, FrM.rf⟩
        · obtain ⟨i, hi⟩ : ∃ i, C / m ^ D % m = i + 1 := ⟨C / m ^ D % m - 1, by omega⟩
          obtain ⟨σ2, e, c, f⟩ := M_insp (f := 7260) g2 (by decide) wp (show i < passT U 0 by omega)
          have e' : F_X9_inspects 134 (7260 : Int32) (nI i) σ1 = some (nI (inspS (passT U) i), σ2) := e
          have e1 : mvO (passT U) (i + 1) = inspT (passT U) i := if_neg (by omega)
          have e2 : gnO (passT U) (i + 1) = inspS (passT U) i := if_neg (by omega)
          rw [if_pos (Int32.not_lt.mp (fun y => z (hneg.mp y))), hi, mvI_s, e', ob_some, nI_add, nI_1, e1, e2]
          exact ⟨σ2, rfl, c, f⟩
      obtain ⟨σ2, e2, c2, f2⟩ := fin
      refine ⟨(nI (S + gnO (passT U) (C / m ^ D % m)), nI (m ^ D), nI (k + 1), σ2), ?_, ?_⟩
      · rw [a1, a2, a3, if_neg (nI_ge hk (by omega)), wR, ob_some, M_r0 hu, ob_some, em, nz_N m0 (by omega), ob_some, pk_div (by omega) m0 (by omega), eD, nz_N hpD (by omega), ob_some, ob_some, M_r0 hu, ob_some, em, nz_N m0 (by omega), ob_some, pk_div (by omega) hpD (by omega), pk_rem (by omega) m0 (by omega), mvI_sub]
        dsimp only
        rw [g1', ob_some]
        exact e2
      · rw [nk1, eR]
        exact ⟨rfl, rfl, rfl, c2, (a5.tr g3).tr f2⟩
    · intro u ⟨a1, a2, a3, a4, a5⟩
      rw [Nat.sub_self, Nat.pow_zero, Nat.div_one] at a1
      obtain ⟨_, _, w3⟩ := wf_runR hw hm n C
      refine ⟨Sum.inl (nI (stq m T n s C).1, mvI (stq m T n s C).2, nI (C + 1), u.2.2.2), ?_, u.2.2.2, rfl, a5⟩
      rw [a1, a3, if_pos (nI_le (Nat.le_refl _) (by omega))]
      unfold F_X9_round_175
      by_cases q : s.2 < (runR m T n C).2 + 1
      · have ng : ¬ nI (runR m T n C).2 ≤ mvI s.2 := fun z => by have := (mv_le (by omega) hs).mp z; omega
        rw [if_neg ng, if_neg ng, stq_yes q, nI_1, mvI_s]
        rfl
      · have ps : nI (runR m T n C).2 ≤ mvI s.2 := (mv_le (by omega) hs).mpr (by omega)
        rw [if_pos ps, if_pos ps, stq_no q, nI_1]
        rfl
  obtain ⟨t, e, σ', rfl, f⟩ := key
  exact ⟨σ', by rw [e0, ob_some, e], f⟩
theorem M_rdig {tb : Prop} {A : Ab} {m n C r : Nat} {x : Int32} (hA : okDe tb A.2.2.2) (hm : m = nowT A.2.2.2 0 + 1) (hn : n ≤ 4) (hC : C < 2401) (hr : r < 6) (σ : Mem) (h : RM A σ) : ∃ σ', (F_X9_anew 134 (nI r) (nI n) σ).bind (fun q7 => (F_X9_round_214 134 (nI r) x (nI C, (nI n - (1 : Int32)), q7)).map fun z => (Sum.inr z : (Int32 × Int32 × Int32 × Mem) ⊕ (Int32 × Mem))) = some (.inr (x, σ')) ∧ RM (rowA A r (some n) (fun k => rndV (dg m n C k))) σ' ∧ FM σ σ' := by
  obtain ⟨hnw, hn0⟩ := now_wf hA
  have h6 := hnw.1
  have m0 : 0 < m := by omega
  have em : nI (nowT A.2.2.2 0) + (1 : Int32) = nI m := by rw [nI_1, hm]
  obtain ⟨σ1, e1, s1, _, f1, f2⟩ := M_anew (n := n) (σ := σ) hr
  have hnow := h.now
  have m1 : ∀ u : Mem, (∀ b, u.1 135 b = σ.1 135 b) → aI 135 (0 : Int32) u = some (nI (nowT A.2.2.2 0)) := fun u hu => by
    have e : u.1 135 0 = nI (nowT A.2.2.2 0) := (hu 0).trans (hnow 0 (by decide))
    exact (w_rd (j := 0) (by decide)).trans (by rw [e])
  have key : ∃ t, F_X9_round_214 134 (nI r) x (nI C, (nI n - (1 : Int32)), σ1) = some t ∧ ∃ σ', t = (x, σ') ∧ σ'.1 138 r = nI n ∧ (∀ k, k < n → σ'.1 137 (r * 40 + k) = rndV (dg m n C k)) ∧ (∀ x y, (x ≠ 138 ∨ y ≠ r) → (x ≠ 137 ∨ y < r * 40 ∨ r * 40 + 40 ≤ y) → σ'.1 x y = σ.1 x y) ∧ σ'.2 = σ.2 := by
    unfold F_X9_round_214
    refine lp_inv (fun j (u : Int32 × Int32 × Mem) => u.1 = nI (C / m ^ j) ∧ u.2.1 = mvI (n - j) ∧ u.2.2.1 138 r = nI n ∧ (∀ k, n - j ≤ k → k < n → u.2.2.1 137 (r * 40 + k) = rndV (dg m n C k)) ∧ (∀ x y, (x ≠ 138 ∨ y ≠ r) → (x ≠ 137 ∨ y < r * 40 ∨ r * 40 + 40 ≤ y) → u.2.2.1 x y = σ.1 x y) ∧ u.2.2.2 = σ.2) n ?_ ?_ _ ⟨?_, mvI_sub n, s1, fun k h1 h2 => absurd h2 (by omega), f1, f2⟩
    · intro j u hj ⟨a1, a2, a3, a4, a5, a6⟩
      obtain ⟨k, hk⟩ : ∃ k, n - j = k + 1 := ⟨n - j - 1, by omega⟩
      have nk : n - (j + 1) = k := by omega
      rw [hk] at a2
      have a2' : u.2.1 = nI k := a2.trans (mvI_s k)
      have hD : C / m ^ j / m = C / m ^ (j + 1) := by rw [Nat.div_div_eq_div_mul, ← Nat.pow_succ]
      have hl : C / m ^ j ≤ C := Nat.div_le_self _ _
      have hd : C / m ^ j % m < m := Nat.mod_lt _ m0
      have r0 := m1 u.2.2 (fun b => a5 _ _ (by omega) (by omega))
      have hneg := mv_neg (a := C / m ^ j % m) (by omega)
      have r1 := m1 (setI u.2.2 137 (r * 40 + k) (rndV (C / m ^ j % m))) (fun b => by rw [setI_1, if_neg (by omega)]; exact a5 _ _ (by omega) (by omega))
      obtain ⟨y, hy⟩ : ∃ y, mvI k = y := ⟨_, rfl⟩
      refine ⟨(nI (C / m ^ (j + 1)), y, setI u.2.2 137 (r * 40 + k) (rndV (C / m ^ j % m))), ?_, rfl, by rw [nk, hy], ?_, fun i h1 h2 => ?_, fun x y q1 q2 => ?_, a6⟩
      · have ew : (if 0 ≤ mvI (C / m ^ j % m) then F_X9_round_257 134 (nI r) x (nI (C / m ^ j)) (nI k) (mvI (C / m ^ j % m)) (nI (r * 40 + k)) 137 u.2.2 else F_X9_round_257 134 (nI r) x (nI (C / m ^ j)) (nI k) (-9 : Int32) (nI (r * 40 + k)) 137 u.2.2) = some (.inl (nI (C / m ^ (j + 1)), y, setI u.2.2 137 (r * 40 + k) (rndV (C / m ^ j % m)))) := by
          unfold F_X9_round_257
          have tl : ∀ v : Int32, v = rndV (C / m ^ j % m) → ((sI 137 (nI (r * 40 + k)) v u.2.2).bind fun m41 => (gR 9 0 134).bind fun p44 => (aI p44 (0 : Int32) m41).bind fun v45 => (nz (v45 + (1 : Int32))).bind fun _ => some (.inl ((nI (C / m ^ j) / (v45 + (1 : Int32))), (nI k + (-1 : Int32)), m41)) : Option ((Int32 × Int32 × Mem) ⊕ (Int32 × Mem))) = some (.inl (nI (C / m ^ (j + 1)), y, setI u.2.2 137 (r * 40 + k) (rndV (C / m ^ j % m)))) := fun v hv => by
            rw [hv, sI_eq sh_137 (by omega) (by decide), ob_some, wR, ob_some, r1, ob_some, em, nz_N m0 (by omega), ob_some, pk_div (by omega) m0 (by omega), hD, show nI k + (-1 : Int32) = mvI k from rfl, hy]
          by_cases z : C / m ^ j % m = 0
          · rw [if_neg (fun y => absurd (hneg.mpr z) (Int32.not_lt.mpr y))]
            exact tl _ (by rw [z]; rfl)
          · obtain ⟨i, hi⟩ : ∃ i, C / m ^ j % m = i + 1 := ⟨C / m ^ j % m - 1, by omega⟩
            rw [if_pos (Int32.not_lt.mp (fun y => z (hneg.mp y)))]
            exact tl _ (by rw [hi, mvI_s, rndV_s])
        rw [a1, a2', if_neg (nI_pos (by omega)), wR, ob_some, r0, ob_some, em, nz_N m0 (by omega), ob_some, pk_rem (by omega) m0 (by omega), mvI_sub]
        dsimp only
        rw [gR_134_3, ob_some, ix40]
        exact ew
      · show (setI u.2.2 137 (r * 40 + k) _).1 138 r = _
        rw [setI_1, if_neg (by omega)]; exact a3
      · show (setI u.2.2 137 (r * 40 + k) _).1 137 (r * 40 + i) = _
        rw [setI_1]
        by_cases y : i = k
        · rw [if_pos ⟨rfl, by omega⟩, y]
          have e := dg_up (n := m) (k + 1) j C k (by omega)
          rw [show k + 1 + j = n by omega] at e
          rw [e]
          show _ = rndV (if k = k then C / m ^ j % m else _)
          rw [if_pos rfl]
        · rw [if_neg (by omega)]; exact a4 i (by omega) h2
      · show (setI u.2.2 137 (r * 40 + k) _).1 x y = _
        rw [setI_1, if_neg (by omega)]; exact a5 x y q1 q2
    · intro u ⟨a1, a2, a3, a4, a5, a6⟩
      rw [Nat.sub_self] at a2 a4
      exact ⟨_, by rw [a2, mvI_0, if_pos (by decide)], u.2.2, rfl, a3, fun k hk => a4 k (Nat.zero_le _) hk, a5, a6⟩
    · rw [Nat.pow_zero, Nat.div_one]
  obtain ⟨t, e, σ', rfl, k1, k2, k3, k4⟩ := key
  obtain ⟨p1, p2⟩ := h.putR (f := fun k => rndV (dg m n C k)) hr (by omega) k1 k2 k3 k4
  refine ⟨σ', ?_, p1, p2⟩
  rw [e1, ob_some, e]
  rfl

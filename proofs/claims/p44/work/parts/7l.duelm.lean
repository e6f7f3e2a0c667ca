/-! ===== duel: the reference's way back ===== -/
def okV (o : Option Nat) : Prop := ∀ x, o = some x → x ≤ 1000
theorem okV_n : okV none := fun x h => by cases h
theorem okV_btr {odd : Bool} {p q : Option Nat} (hp : okV p) (hq : okV q) : okV (btr odd p q) := by
  cases q with
  | none => exact hp
  | some x =>
    cases p with
    | none => exact hq
    | some y =>
      show okV (if odd = true then (if y < x then some x else some y) else (if x < y then some x else some y))
      split <;> split <;> assumption
theorem okV_bst {odd : Bool} {v : Nat → Option Nat} : ∀ a, (∀ j, j < a → okV (v j)) → okV (bstP odd v a)
  | 0, _ => okV_n
  | a + 1, h => okV_btr (okV_bst a (fun j hj => h j (by omega))) (h a (by omega))
theorem run_sum {B m : Nat} {T : Tn} (hw : wfT B T) (hm : m = T 0 + 1) : ∀ k e, (runP m T k e).2.1 ≤ 99 * k
  | 0, _ => Nat.le_refl _
  | k + 1, e => by
    obtain ⟨h1, h2⟩ := wf_runP hw hm k (e / m)
    have ih := run_sum hw hm k (e / m)
    have hd : e % m < m := Nat.mod_lt _ (by omega)
    show (stepP k (runP m T k (e / m)) (e % m)).2.1 ≤ _
    by_cases q : k % 2 = 1
    · rw [stepP_O q]
      have := gn_le h1 (a := e % m) (by omega)
      show (runP m T k (e / m)).2.1 + gnO (runP m T k (e / m)).1 (e % m) ≤ _
      omega
    · rw [stepP_E q]
      show (runP m T k (e / m)).2.1 ≤ _
      omega
theorem okV_val {B m n : Nat} {T : Tn} (hw : wfT B T) (hm : m = T 0 + 1) (hn : n ≤ 4) : ∀ D e, D ≤ n → okV (valP m T n D e)
  | 0, e, _ => by
    show okV (endP (runP m T n e))
    intro x hx
    unfold endP at hx
    have := run_sum hw hm n e
    by_cases c : (runP m T n e).2.2 = true
    · rw [if_pos c] at hx; injection hx with hx; omega
    · rw [if_neg c] at hx; cases hx
  | D + 1, e, hD => okV_bst m (fun j _ => okV_val hw hm hn D (m * e + j) (by omega))
theorem valI_neg {o : Option Nat} (h : okV o) : valI o < 0 ↔ o = none := by
  cases o with
  | none => exact ⟨fun _ => rfl, fun _ => by decide⟩
  | some x => exact ⟨fun z => absurd z (nI_pos (by have := h x rfl; omega)), fun z => by cases z⟩
theorem M_btr {σ : Mem} {k : Nat} {x2 x4 x6 x8 : Int32} {p q : Option Nat} (hp : okV p) (hq : okV q) (hk : k ≤ 4) : (if valI q < 0 then F_X9_duel_324 134 x2 x4 (nI k) x6 (valI p) x8 (valI q) σ
      else if valI p < 0 then F_X9_duel_320 134 x2 x4 (nI k) x6 (valI p) x8 (valI q) σ
      else if (nI k - nI k / (2 : Int32) * (2 : Int32)) = (1 : Int32) then
      if valI q ≤ valI p then F_X9_duel_324 134 x2 x4 (nI k) x6 (valI p) x8 (valI q) σ else F_X9_duel_320 134 x2 x4 (nI k) x6 (valI p) x8 (valI q) σ
      else if valI p ≤ valI q then F_X9_duel_324 134 x2 x4 (nI k) x6 (valI p) x8 (valI q) σ else F_X9_duel_320 134 x2 x4 (nI k) x6 (valI p) x8 (valI q) σ) = some (.inl (valI (btr (decide (k % 2 = 1)) p q), x8 + (1 : Int32))) := by
  unfold F_X9_duel_320 F_X9_duel_324 F_X9_duel_325
  rw [rem2 (by omega)]
  cases q with
  | none => rw [if_pos ((valI_neg hq).mpr rfl), if_pos rfl]; rfl
  | some x =>
    rw [if_neg (fun z => by have := (valI_neg hq).mp z; cases this)]
    cases p with
    | none => rw [if_pos ((valI_neg hp).mpr rfl), if_neg (by decide)]; rfl
    | some y =>
      have bx := hq x rfl
      have by' := hp y rfl
      rw [if_neg (fun z => by have := (valI_neg hp).mp z; cases this), valI_s, valI_s]
      by_cases c : k % 2 = 1
      · rw [decide_eq_true c, c, if_pos (show nI 1 = (1 : Int32) from rfl)]
        show _ = some (Sum.inl (valI (if y < x then some x else some y), _))
        by_cases z : y < x
        · rw [if_neg (nI_ge z (by omega)), if_neg (by decide), if_pos z]; rfl
        · rw [if_pos (nI_le (by omega) (by omega)), if_pos rfl, if_neg z]; rfl
      · rw [decide_eq_false c, show k % 2 = 0 by omega, if_neg (show ¬ nI 0 = (1 : Int32) by decide)]
        show _ = some (Sum.inl (valI (if x < y then some x else some y), _))
        by_cases z : x < y
        · rw [if_neg (nI_ge z (by omega)), if_neg (by decide), if_pos z]; rfl
        · rw [if_pos (nI_le (by omega) (by omega)), if_pos rfl, if_neg z]; rfl
/-- only the values change -/
def FrV (σ σ' : Mem) : Prop := (∀ a b, a ≠ 144 → σ'.1 a b = σ.1 a b) ∧ σ'.2 = σ.2
theorem FrV.rf {σ : Mem} : FrV σ σ := ⟨fun _ _ _ => rfl, rfl⟩
theorem FrV.tr {σ σ' σ'' : Mem} (h : FrV σ σ') (h2 : FrV σ' σ'') : FrV σ σ'' := ⟨fun a b q => (h2.1 a b q).trans (h.1 a b q), h2.2.trans h.2⟩
theorem FrV.set {j : Nat} {v : Int32} {σ : Mem} : FrV σ (setI σ 144 j v) := ⟨fun x y q => by rw [setI_1, if_neg (by omega)], rfl⟩
theorem M_back1 {σ : Mem} {T : Tn} {B m n D e k : Nat} {x4 : Int32} (hw : wfT B T) (hm : m = T 0 + 1) (hn : n ≤ 4) (hD : D < n) (hk : k = n - (D + 1)) (he : m * e + m ≤ 2401) (hv : ∀ j, j < m → σ.1 144 (m * e + j) = valI (valP m T n D (m * e + j))) : F_X9_duel_265 134 (nI m) x4 (nI k) (nI e) σ ((-1 : Int32), (0 : Int32)) = some (.inl (nI (e + 1), setI σ 144 e (valI (valP m T n (D + 1) e)))) := by
  have m0 : 0 < m := by omega
  have hem : e < 2401 := by
    have : e ≤ m * e := Nat.le_mul_of_pos_left e m0
    omega
  have ev : valP m T n (D + 1) e = bstP (decide (k % 2 = 1)) (fun a => valP m T n D (m * e + a)) m := by rw [hk]; rfl
  have key : ∃ t, F_X9_duel_265 134 (nI m) x4 (nI k) (nI e) σ ((-1 : Int32), (0 : Int32)) = some t ∧ t = .inl (nI (e + 1), setI σ 144 e (valI (valP m T n (D + 1) e))) := by
    unfold F_X9_duel_265
    refine lp_inv (fun i (u : Int32 × Int32) => u.2 = nI i ∧ u.1 = valI (bstP (decide (k % 2 = 1)) (fun a => valP m T n D (m * e + a)) i)) m ?_ ?_ _ ⟨rfl, rfl⟩
    · intro i u hi ⟨a1, a2⟩
      refine ⟨(valI (bstP (decide (k % 2 = 1)) (fun a => valP m T n D (m * e + a)) (i + 1)), nI (i + 1)), ?_, rfl, rfl⟩
      have ix : (nI m * nI e) + nI i = nI (m * e + i) := by rw [pk_mul, nI_add]
      have ok1 := okV_bst (odd := decide (k % 2 = 1)) (v := fun a => valP m T n D (m * e + a)) i (fun j hj => okV_val hw hm hn D (m * e + j) (by omega))
      rw [a1, a2, if_neg (nI_ge hi (by omega)), gR_134_15, ob_some, ix, aI_eq sh_144 (by omega) (by decide), ob_some, hv i hi, M_btr ok1 (okV_val hw hm hn D (m * e + i) (by omega)) (by omega), nI_1]
      rfl
    · intro u ⟨a1, a2⟩
      refine ⟨_, ?_, rfl⟩
      rw [a1, a2, ev, if_pos (nI_le (Nat.le_refl _) (by omega)), gR_134_15, ob_some, sI_eq sh_144 hem (by decide), ob_some, nI_1]
  obtain ⟨t, e2, rfl⟩ := key
  exact e2
theorem M_back2 {σ : Mem} {T : Tn} {B m n D : Nat} (hw : wfT B T) (hm : m = T 0 + 1) (hn : n ≤ 4) (hD : D < n) (hp : m ^ n ≤ 2401) (hv : ∀ j, j < m ^ (n - D) → σ.1 144 j = valI (valP m T n D j)) : ∃ σ', F_X9_duel_252 134 (nI m) (nI (m ^ (n - (D + 1)))) (nI (n - (D + 1))) ((0 : Int32), σ) = some (.inl (nI (m ^ (n - (D + 1))), nI (n - (D + 1)) + (-1 : Int32), σ')) ∧ (∀ j, j < m ^ (n - (D + 1)) → σ'.1 144 j = valI (valP m T n (D + 1) j)) ∧ FrV σ σ' := by
  have m0 : 0 < m := by omega
  have hpl : m ^ (n - (D + 1)) ≤ m ^ n := Nat.pow_le_pow_right m0 (by omega)
  have hpl2 : m ^ (n - D) ≤ m ^ n := Nat.pow_le_pow_right m0 (by omega)
  have eP : m ^ (n - D) = m * m ^ (n - (D + 1)) := by rw [show n - D = (n - (D + 1)) + 1 by omega, Nat.pow_succ, Nat.mul_comm]
  have key : ∃ t, F_X9_duel_252 134 (nI m) (nI (m ^ (n - (D + 1)))) (nI (n - (D + 1))) ((0 : Int32), σ) = some t ∧ ∃ σ', t = .inl (nI (m ^ (n - (D + 1))), nI (n - (D + 1)) + (-1 : Int32), σ') ∧ (∀ j, j < m ^ (n - (D + 1)) → σ'.1 144 j = valI (valP m T n (D + 1) j)) ∧ FrV σ σ' := by
    unfold F_X9_duel_252
    refine lp_inv (fun e (u : Int32 × Mem) => u.1 = nI e ∧ (∀ j, j < e → u.2.1 144 j = valI (valP m T n (D + 1) j)) ∧ (∀ j, e ≤ j → j < m ^ (n - D) → u.2.1 144 j = valI (valP m T n D j)) ∧ FrV σ u.2) (m ^ (n - (D + 1))) ?_ ?_ _ ⟨rfl, fun j hj => absurd hj (by omega), fun j _ hj => hv j hj, FrV.rf⟩
    · intro e u he ⟨a1, a2, a3, a4⟩
      have hme : m * e + m ≤ m ^ (n - D) := by
        rw [eP, ← Nat.mul_succ]
        exact Nat.mul_le_mul_left m he
      have hle : e ≤ m * e := Nat.le_mul_of_pos_left e m0
      have eb := M_back1 (σ := u.2) (x4 := nI (m ^ (n - (D + 1)))) hw hm hn hD rfl (show m * e + m ≤ 2401 by omega) (fun j hj => a3 (m * e + j) (by omega) (by omega))
      refine ⟨(nI (e + 1), setI u.2 144 e (valI (valP m T n (D + 1) e))), ?_, rfl, fun j hj => ?_, fun j h1 h2 => ?_, a4.tr FrV.set⟩
      · rw [a1, if_neg (nI_ge he (by omega)), eb]
      · show (setI u.2 144 e (valI (valP m T n (D + 1) e))).1 144 j = _
        rw [setI_1]
        by_cases y : j = e
        · rw [if_pos ⟨rfl, y⟩, y]
        · rw [if_neg (fun z => y z.2)]; exact a2 j (by omega)
      · show (setI u.2 144 e (valI (valP m T n (D + 1) e))).1 144 j = _
        rw [setI_1, if_neg (by omega)]; exact a3 j (by omega) h2
    · intro u ⟨a1, a2, a3, a4⟩
      exact ⟨_, by rw [a1, if_pos (nI_le (Nat.le_refl _) (by omega))], u.2, rfl, a2, a4⟩
  obtain ⟨t, e, σ', rfl, k⟩ := key
  exact ⟨σ', e, k⟩

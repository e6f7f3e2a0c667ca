/-! ===== towns from texts: what both sides read ===== -/
def skF (v : Nat → Int32) : Nat → Nat → Nat
  | 0, p => p
  | f + 1, p => if v p = 32 then skF v f (p + 1) else p
def sk (v : Nat → Int32) (n p : Nat) : Nat := skF v (n - p) p
theorem skF_le {v : Nat → Int32} : ∀ f p, p ≤ skF v f p ∧ skF v f p ≤ p + f
  | 0, p => ⟨Nat.le_refl _, Nat.le_refl _⟩
  | f + 1, p => by
    obtain ⟨h1, h2⟩ := skF_le (v := v) f (p + 1)
    show p ≤ (if v p = 32 then skF v f (p + 1) else p) ∧ (if v p = 32 then skF v f (p + 1) else p) ≤ _
    split
    · exact ⟨by omega, by omega⟩
    · exact ⟨Nat.le_refl _, by omega⟩
theorem sk_le {v : Nat → Int32} {n p : Nat} (h : p ≤ n) : p ≤ sk v n p ∧ sk v n p ≤ n := by
  obtain ⟨h1, h2⟩ := skF_le (v := v) (n - p) p
  exact ⟨h1, by show skF v (n - p) p ≤ n; omega⟩
theorem sk_in {v : Nat → Int32} {n p : Nat} (h : p < n) (h2 : v p = 32) : sk v n p = sk v n (p + 1) := by
  unfold sk
  rw [show n - p = (n - (p + 1)) + 1 by omega]
  exact if_pos h2
theorem sk_out {v : Nat → Int32} {n p : Nat} (h : ¬ (p < n ∧ v p = 32)) : sk v n p = p := by
  unfold sk
  cases e : n - p with
  | zero => rfl
  | succ f => exact if_neg (fun z => h ⟨by omega, z⟩)
/-- a figure of at least l stands there -/
abbrev figP (v : Nat → Int32) (n l p : Nat) : Prop := p < n ∧ nI l ≤ v p - 48 ∧ v p - 48 ≤ nI 9
def figN (v : Nat → Int32) (p : Nat) : Nat := (v p - 48).toInt.toNat
theorem figP_N {v : Nat → Int32} {n l p : Nat} (hl : l ≤ 9) (h : figP v n l p) : v p - 48 = nI (figN v p) ∧ figN v p ≤ 9 ∧ l ≤ figN v p := by
  obtain ⟨_, h1, h2⟩ := h
  rw [Int32.le_iff_toInt_le, nI_toInt (by omega)] at h1
  rw [Int32.le_iff_toInt_le, nI_toInt (by omega)] at h2
  obtain ⟨i, h3, h4⟩ := nat_of (x := v p - 48) (by omega)
  have e : figN v p = i := by unfold figN; omega
  rw [e]
  exact ⟨h4, by omega, by omega⟩
def kdN (x : Int32) : Nat := if x = 98 then 0 else if x = 115 then 1 else if x = 113 then 2 else if x = 99 then 3 else if x = 116 then 4 else if x = 119 then 5 else 6
/-- how many figures, of so many, stand there -/
def cfN (v : Nat → Int32) (n l : Nat) : Nat → Nat → Nat
  | 0, _ => 0
  | k + 1, p => if figP v n l p then cfN v n l k (p + 1) + 1 else 0
theorem cfN_yes {v : Nat → Int32} {n l k p : Nat} (h : figP v n l p) : cfN v n l (k + 1) p = cfN v n l k (p + 1) + 1 := if_pos h
theorem cfN_no {v : Nat → Int32} {n l k p : Nat} (h : ¬ figP v n l p) : cfN v n l (k + 1) p = 0 := if_neg h
def addB (v : Nat → Int32) (D : Tn) (q : Nat) : Tn := updT (updT (updT (updT (updT D (3 + D 0) (kdN (v q))) (9 + D 0) (figN v (q + 1))) (15 + D 0) (figN v (q + 2))) (21 + D 0) (figN v (q + 3))) 0 (D 0 + 1)
/-- the beds: a fault's place, or the town -/
def resB (v : Nat → Int32) (n : Nat) : Nat → Tn → Nat → Nat ⊕ Tn
  | 0, D, p => if n ≤ sk v n p then .inr D else .inl (sk v n p)
  | f + 1, D, p => if n ≤ sk v n p then (if D 0 = 0 then .inl (sk v n p) else .inr D) else if kdN (v (sk v n p)) = 6 then .inl (sk v n p) else if cfN v n 0 3 (sk v n p + 1) = 3 then resB v n f (addB v D (sk v n p)) (sk v n p + 4) else .inl (sk v n p + 1 + cfN v n 0 3 (sk v n p + 1))
def headT (v : Nat → Int32) (q : Nat) : Tn := fun a => if 39 ≤ a ∧ a ≤ 43 then figN v (q + 1 + (a - 39)) else 0
def resT (v : Nat → Int32) (n : Nat) : Nat ⊕ Tn :=
  if sk v n 0 < n ∧ v (sk v n 0) = 110 then
    (if cfN v n 0 4 (sk v n 0 + 1) = 4 then
      (if figP v n 1 (sk v n 0 + 5) then resB v n 6 (headT v (sk v n 0)) (sk v n 0 + 6) else .inl (sk v n 0 + 5))
    else .inl (sk v n 0 + 1 + cfN v n 0 4 (sk v n 0 + 1)))
  else .inl (sk v n 0)
theorem resB_lt {v : Nat → Int32} {n : Nat} : ∀ f D p r, p ≤ n → resB v n f D p = .inl r → r ≤ n
  | 0, D, p, r, hp, h => by
    obtain ⟨h1, h2⟩ := sk_le (v := v) hp
    have h : (if n ≤ sk v n p then (.inr D : Nat ⊕ Tn) else .inl (sk v n p)) = .inl r := h
    by_cases q : n ≤ sk v n p
    · rw [if_pos q] at h; cases h
    · rw [if_neg q] at h; injection h with h; omega
  | f + 1, D, p, r, hp, h => by
    obtain ⟨h1, h2⟩ := sk_le (v := v) hp
    have h : (if n ≤ sk v n p then (if D 0 = 0 then (.inl (sk v n p) : Nat ⊕ Tn) else .inr D) else if kdN (v (sk v n p)) = 6 then .inl (sk v n p) else if cfN v n 0 3 (sk v n p + 1) = 3 then resB v n f (addB v D (sk v n p)) (sk v n p + 4) else .inl (sk v n p + 1 + cfN v n 0 3 (sk v n p + 1))) = .inl r := h
    have hc : ∀ k p, p ≤ n → p + cfN v n 0 k p ≤ n := by
      intro k
      induction k with
      | zero => intro p hp; exact hp
      | succ k ih =>
        intro p hp
        by_cases z : figP v n 0 p
        · rw [cfN_yes z]
          have := ih (p + 1) z.1
          omega
        · rw [cfN_no z]; exact hp
    by_cases q : n ≤ sk v n p
    · rw [if_pos q] at h
      by_cases z : D 0 = 0
      · rw [if_pos z] at h; injection h with h; omega
      · rw [if_neg z] at h; cases h
    · rw [if_neg q] at h
      by_cases z : kdN (v (sk v n p)) = 6
      · rw [if_pos z] at h; injection h with h; omega
      · rw [if_neg z] at h
        have hcc := hc 3 (sk v n p + 1) (by omega)
        by_cases y : cfN v n 0 3 (sk v n p + 1) = 3
        · rw [if_pos y] at h
          exact resB_lt f _ _ r (by omega) h
        · rw [if_neg y] at h; injection h with h; omega
/-! the class's reader -/
def RD (σ : Mem) (v : Nat → Int32) (n p : Nat) : Prop := σ.1 35 2 = nI n ∧ σ.1 35 3 = nI p ∧ ∀ i, i < n → σ.1 44 i = v i
def Pg (σ σ' : Mem) : Prop := (∀ a b, (a ≠ 35 ∨ b ≠ 3) → σ'.1 a b = σ.1 a b) ∧ σ'.2 = σ.2
theorem Pg.rf {σ : Mem} : Pg σ σ := ⟨fun _ _ _ => rfl, rfl⟩
theorem Pg.tr {σ σ' σ'' : Mem} (h : Pg σ σ') (h2 : Pg σ' σ'') : Pg σ σ'' := ⟨fun a b q => (h2.1 a b q).trans (h.1 a b q), h2.2.trans h.2⟩
theorem RD.go {σ : Mem} {v : Nat → Int32} {n p q : Nat} (h : RD σ v n p) : RD (setI σ 35 3 (nI q)) v n q ∧ Pg σ (setI σ 35 3 (nI q)) := ⟨⟨by rw [setI_1, if_neg (by decide)]; exact h.1, by rw [setI_1, if_pos ⟨rfl, rfl⟩], fun i hi => by rw [setI_1, if_neg (by omega)]; exact h.2.2 i hi⟩, fun a b z => by rw [setI_1, if_neg (by omega)], rfl⟩
theorem C_here {σ : Mem} {v : Nat → Int32} {n p : Nat} (h : RD σ v n p) (hn : n ≤ 60) (hp : p ≤ n) : F_X4_here 35 σ = some (if p < n then v p else 0) := by
  unfold F_X4_here
  rw [gI_35_3, ob_some, gI_35_2, ob_some, h.1, h.2.1]
  by_cases q : p < n
  · rw [if_neg (nI_ge q (by omega)), gR_35_1, ob_some, ob_some, rd_eq (by decide) sh_44 (by omega) (by decide), ob_some, h.2.2 p q, if_pos q]
  · rw [if_pos (nI_le (by omega) (by omega)), if_neg q]
theorem C_skip {v : Nat → Int32} {n : Nat} (hn : n ≤ 60) : ∀ f p σ, n - p = f → p ≤ n → RD σ v n p → ∃ σ', F_X4_skipBlanks 35 σ = some σ' ∧ RD σ' v n (sk v n p) ∧ Pg σ σ' := by
  intro f
  induction f with
  | zero =>
    intro p σ hf hp h
    refine ⟨σ, ?_, by rw [sk_out (by omega)]; exact h, Pg.rf⟩
    unfold F_X4_skipBlanks F_X4_skipBlanks_0
    apply lp_out
    rw [gI_35_3, ob_some, gI_35_2, ob_some, h.1, h.2.1, if_pos (nI_le (by omega) (by omega))]
  | succ f ih =>
    intro p σ hf hp h
    have hp2 : p < n := by omega
    by_cases q : v p = 32
    · obtain ⟨g1, g2⟩ := h.go (q := p + 1)
      obtain ⟨σ', e, k1, k2⟩ := ih (p + 1) (setI σ 35 3 (nI (p + 1))) (by omega) (by omega) g1
      refine ⟨σ', ?_, by rw [sk_in hp2 q]; exact k1, g2.tr k2⟩
      have e' : F_X4_skipBlanks_0 35 (setI σ 35 3 (nI (p + 1))) = some σ' := e
      have st : F_X4_skipBlanks_0 35 σ = F_X4_skipBlanks_0 35 (setI σ 35 3 (nI (p + 1))) := by
        unfold F_X4_skipBlanks_0
        apply lp_in
        rw [gI_35_3, ob_some, gI_35_2, ob_some, h.1, h.2.1, if_neg (nI_ge hp2 (by omega)), C_here h hn hp, ob_some, if_pos hp2, if_pos q, ob_some, nI_1, pI_35_3, ob_some]
      show F_X4_skipBlanks_0 35 σ = some σ'
      rw [st, e']
    · refine ⟨σ, ?_, by rw [sk_out (fun z => q z.2)]; exact h, Pg.rf⟩
      unfold F_X4_skipBlanks F_X4_skipBlanks_0
      apply lp_out
      rw [gI_35_3, ob_some, gI_35_2, ob_some, h.1, h.2.1, if_neg (nI_ge hp2 (by omega)), C_here h hn hp, ob_some, if_pos hp2, if_neg q]
theorem C_fig {σ : Mem} {v : Nat → Int32} {n p l : Nat} {x : Int32} (h : RD σ v n p) (hn : n ≤ 60) (hp : p ≤ n) (hl : l ≤ 1) (hx : x = nI l) : (figP v n l p → F_X4_takeFigure 35 x σ = some (nI (figN v p), setI σ 35 3 (nI (p + 1)))) ∧ (¬ figP v n l p → F_X4_takeFigure 35 x σ = some (-1, σ)) := by
  unfold F_X4_takeFigure
  rw [C_here h hn hp, ob_some, hx]
  constructor
  · intro q
    obtain ⟨f1, f2, f3⟩ := figP_N (by omega) q
    rw [if_pos q.1, if_neg (fun z => absurd q.2.1 (Int32.not_le.mpr z)), if_pos (show v p - 48 ≤ (9 : Int32) from q.2.2), gI_35_3, ob_some, h.2.1, nI_1, pI_35_3, ob_some, f1]
  · intro q
    by_cases z : p < n
    · rw [if_pos z]
      by_cases y : v p - 48 < nI l
      · rw [if_pos y]
      · rw [if_neg y, if_neg (show ¬ v p - 48 ≤ (9 : Int32) from fun w => q ⟨z, Int32.not_lt.mp y, w⟩)]
    · rw [if_neg z, if_pos (show (0 : Int32) - 48 < nI l by
        have : l = 0 ∨ l = 1 := by omega
        rcases this with rfl | rfl <;> decide)]

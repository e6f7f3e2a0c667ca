/-! ===== chances: ways, divisors ===== -/
theorem cmp_eq0 (x y : Int64) : (lg_cmp x y) = 0 ↔ x = y := by
  constructor
  · intro h
    have h1 : ¬ x < y := fun q => by have := (cmp_lt0 x y).mpr q; rw [h] at this; exact absurd this (by decide)
    have h2 : ¬ y < x := fun q => by have := (cmp_gt0 x y).mpr q; rw [h] at this; exact absurd this (by decide)
    exact Int64.le_antisymm (Int64.not_lt.mp h2) (Int64.not_lt.mp h1)
  · intro h
    have h1 : ¬ (lg_cmp x y) < 0 := fun q => by have := (cmp_lt0 x y).mp q; rw [h] at this; exact Int64.lt_irrefl this
    have h2 : ¬ 0 < (lg_cmp x y) := fun q => by have := (cmp_gt0 x y).mp q; rw [h] at this; exact Int64.lt_irrefl this
    exact Int32.le_antisymm (Int32.not_lt.mp h2) (Int32.not_lt.mp h1)
theorem cmp_l0 {b : Nat} (h : b < 2 ^ 63) : (lg_cmp (lN b) (0 : Int64)) = 0 ↔ b = 0 := by
  rw [cmp_eq0]
  exact pk_lEQ (a := b) (b := 0) h (by decide)
theorem nzL_N {b : Nat} (h : b < 2 ^ 63) (h0 : b ≠ 0) : nzL (lN b) = some () := if_neg (fun z => h0 ((pk_lEQ (a := b) (b := 0) h (by decide)).mp z))
theorem gcd_step {a b : Nat} : Nat.gcd b (a % b) = Nat.gcd a b := by
  rw [Nat.gcd_comm a b, Nat.gcd_rec b a, Nat.gcd_comm]
theorem halve {b r : Nat} (h0 : 0 < r) (hr : r < b) : 2 * (b % r) < b := by
  have h1 := Nat.mod_lt b h0
  have h2 := Nat.div_add_mod b r
  have h3 : 0 < b / r := Nat.div_pos (by omega) h0
  have h4 : r ≤ r * (b / r) := Nat.le_mul_of_pos_right r h3
  omega
theorem C_gcd {σ : Mem} : ∀ k a b c, a < 2 ^ 63 → b < 2 ^ 63 → b < 2 ^ k → c + 2 * k ≤ 1000 → F_X8_commonDivisor_3 σ (lN a, lN b, nI c) = some (lN (Nat.gcd a b)) := by
  have z0 : ∀ a c, a < 2 ^ 63 → F_X8_commonDivisor_3 σ (lN a, lN 0, nI c) = some (lN (Nat.gcd a 0)) := by
    intro a c ha
    rw [Nat.gcd_zero_right]
    unfold F_X8_commonDivisor_3
    apply lp_out
    dsimp only
    by_cases q : (1000 : Int32) ≤ nI c
    · rw [if_pos q]
    · rw [if_neg q, if_pos ((cmp_l0 (by decide)).mpr rfl)]
  have st : ∀ a b c, a < 2 ^ 63 → b < 2 ^ 63 → b ≠ 0 → c < 1000 → F_X8_commonDivisor_3 σ (lN a, lN b, nI c) = F_X8_commonDivisor_3 σ (lN b, lN (a % b), nI (c + 1)) := by
    intro a b c ha hb h0 hc
    unfold F_X8_commonDivisor_3
    apply lp_in
    dsimp only
    rw [if_neg (show ¬ (1000 : Int32) ≤ nI c from nI_ge (b := 1000) hc (by decide)), if_neg (fun z => h0 ((cmp_l0 hb).mp z)), nzL_N hb h0, ob_some, pk_lRem ha (Nat.pos_of_ne_zero h0) hb, nI_1]
  intro k
  induction k with
  | zero =>
    intro a b c ha hb hk hc
    rw [show b = 0 by omega]
    exact z0 a c ha
  | succ k ih =>
    intro a b c ha hb hk hc
    by_cases h0 : b = 0
    · rw [h0]; exact z0 a c ha
    · rw [st a b c ha hb h0 (by omega), ← gcd_step]
      have hr := Nat.mod_lt a (Nat.pos_of_ne_zero h0)
      by_cases h1 : a % b = 0
      · rw [h1]; exact z0 b (c + 1) hb
      · rw [st b (a % b) (c + 1) hb (by omega) h1 (by omega), ← gcd_step]
        have h2 := halve (Nat.pos_of_ne_zero h1) hr
        have h3 := Nat.mod_lt b (Nat.pos_of_ne_zero h1)
        exact ih (a % b) (b % (a % b)) (c + 1 + 1) (by omega) (by omega) (by rw [Nat.pow_succ] at hk; omega) (by omega)
theorem C_gcd' {σ : Mem} {a b : Nat} (ha : a < 2 ^ 63) (hb : b < 2 ^ 63) : F_X8_commonDivisor (lN a) (lN b) σ = some (lN (Nat.gcd a b)) := by
  unfold F_X8_commonDivisor
  exact C_gcd 63 a b 0 ha hb hb (by decide)
/-- what both sides do with a chance -/
def toldL (A : Ab) (x y : Int64) : Ab := (A.1, A.2.1, (A.2.2.1.1, x, y, A.2.2.1.2.2.2.1, A.2.2.1.2.2.2.2), A.2.2.2)
theorem C_chance {A : Ab} {a b : Nat} (ha : a < 2 ^ 62) (hb : b < 2 ^ 62) (h0 : b ≠ 0) : CAns A (F_X8_tellChance 0 (lN a) (lN b)) 1 (toldL A (lN (a / Nat.gcd a b)) (lN (b / Nat.gcd a b))) := by
  intro σ h
  have hg0 : 0 < Nat.gcd a b := Nat.gcd_pos_of_pos_right _ (Nat.pos_of_ne_zero h0)
  have hg1 : Nat.gcd a b ≤ b := Nat.gcd_le_right _ (Nat.pos_of_ne_zero h0)
  have hc : ¬ (lg_cmp (lN (Nat.gcd a b)) (0 : Int64)) ≤ 0 := fun z => by
    have h1 : (0 : Int64) < lN (Nat.gcd a b) := (pk_lLT (a := 0) (b := Nat.gcd a b) (by decide) (by omega)).mpr hg0
    have h2 := (cmp_gt0 (lN (Nat.gcd a b)) (0 : Int64)).mpr h1
    exact Int32.lt_irrefl (Int32.lt_of_lt_of_le h2 z)
  have e : F_X8_tellChance 0 (lN a) (lN b) σ = some (1, setL (setL σ 0 14 (lN (a / Nat.gcd a b))) 0 15 (lN (b / Nat.gcd a b))) := by
    unfold F_X8_tellChance
    rw [C_gcd' (by omega) (by omega), ob_some, if_neg hc, nzL_N (by omega) (by omega), ob_some, pk_lDiv (by omega) hg0 (by omega), pL_0_14, ob_some, ob_some, pk_lDiv (by omega) hg0 (by omega), pL_0_15, ob_some]
  refine ⟨_, e, ⟨h.1.kept (fun a b _ _ => rfl), h.2.1.kept (fun a b _ _ => rfl), ⟨?_, ?_, ?_, ?_, fun x hx => ?_⟩, h.2.2.2.kept rfl (fun a b _ => rfl)⟩, fun a b q => rfl, fun a b q => ?_⟩
  · exact h.2.2.1.1
  · rw [setL_2, if_neg (by decide), setL_2, if_pos ⟨rfl, rfl⟩]; rfl
  · rw [setL_2, if_pos ⟨rfl, rfl⟩]; rfl
  · exact h.2.2.1.2.2.2.1
  · exact h.2.2.1.2.2.2.2 x hx
  · rw [setL_2, if_neg (by omega), setL_2, if_neg (by omega)]
theorem M_parts {A : Ab} {a b : Nat} (ha : a < 2 ^ 62) (hb : b < 2 ^ 62) (h0 : b ≠ 0) : MAns A (F_X9_tellsParts 134 (lN a) (lN b)) 1 (toldL A (lN (a / Nat.gcd a b)) (lN (b / Nat.gcd a b))) := by
  intro σ h
  have hg0 : 0 < Nat.gcd a b := Nat.gcd_pos_of_pos_right _ (Nat.pos_of_ne_zero h0)
  have hg1 : Nat.gcd a b ≤ b := Nat.gcd_le_right _ (Nat.pos_of_ne_zero h0)
  have key : ∀ y x, x < 2 ^ 63 → y < 2 ^ 63 → Nat.gcd x y = Nat.gcd a b → F_X9_tellsParts_6 134 (lN a) (lN b) σ (lN x, lN y) = some (1, setL (setL σ 134 11 (lN (a / Nat.gcd a b))) 134 12 (lN (b / Nat.gcd a b))) := by
    intro y
    induction y using Nat.strongRecOn with
    | ind y ih =>
      intro x hx hy hg
      by_cases z : y = 0
      · rw [z, Nat.gcd_zero_right] at hg
        rw [z]
        unfold F_X9_tellsParts_6
        apply lp_out
        dsimp only
        rw [if_pos ((cmp_l0 (by decide)).mpr rfl), hg, nzL_N (by omega) (by omega), ob_some, pk_lDiv (by omega) hg0 (by omega), pL_134_11, ob_some, ob_some, pk_lDiv (by omega) hg0 (by omega), pL_134_12, ob_some]
      · have hr := Nat.mod_lt x (Nat.pos_of_ne_zero z)
        have st : F_X9_tellsParts_6 134 (lN a) (lN b) σ (lN x, lN y) = F_X9_tellsParts_6 134 (lN a) (lN b) σ (lN y, lN (x % y)) := by
          unfold F_X9_tellsParts_6
          apply lp_in
          dsimp only
          rw [if_neg (fun q => z ((cmp_l0 hy).mp q)), nzL_N hy z, ob_some, pk_lRem hx (Nat.pos_of_ne_zero z) hy]
        rw [st]
        exact ih (x % y) hr y hy (by omega) (by rw [gcd_step]; exact hg)
  have e : F_X9_tellsParts 134 (lN a) (lN b) σ = some (1, setL (setL σ 134 11 (lN (a / Nat.gcd a b))) 134 12 (lN (b / Nat.gcd a b))) := by
    unfold F_X9_tellsParts
    exact key b a (by omega) (by omega) rfl
  refine ⟨_, e, ⟨h.1.kept (fun a b _ => rfl), h.2.1.kept (fun a b _ => rfl), ⟨?_, ?_, ?_, ?_, fun x hx => ?_⟩, h.2.2.2.kept rfl (fun a b _ => rfl)⟩, fun a b q => rfl, fun a b q => ?_⟩
  · exact h.2.2.1.1
  · rw [setL_2, if_neg (by decide), setL_2, if_pos ⟨rfl, rfl⟩]; rfl
  · rw [setL_2, if_pos ⟨rfl, rfl⟩]; rfl
  · exact h.2.2.1.2.2.2.1
  · exact h.2.2.1.2.2.2.2 x hx
  · rw [setL_2, if_neg (by omega), setL_2, if_neg (by omega)]

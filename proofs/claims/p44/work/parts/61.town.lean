/-! ===== numbers: everything as nI of a natural number ===== -/
theorem li (n : Nat) : (OfNat.ofNat n : Int32) = nI n := rfl
theorem dt {c : Prop} [Decidable c] {α : Type} {a b : α} (h : c) : (if c then a else b) = a := if_pos h
theorem df {c : Prop} [Decidable c] {α : Type} {a b : α} (h : ¬ c) : (if c then a else b) = b := if_neg h
/-! ===== a town as natural numbers, in the reference's order: 0 how many, 1 night, 2 fines, 3 kinds, 9 lefts, 15 rights, 21 thicks, 27 lying, 33 found, 39 colds, 43 thread ===== -/
abbrev Tn : Type := Nat → Nat
def updT (T : Tn) (j v : Nat) : Tn := fun a => if a = j then v else T a
def sumT (T : Tn) : Nat → Nat
  | 0 => 0
  | n + 1 => sumT T n + T (33 + n)
/-- well formed: B bounds nights and findings -/
def wfT (B : Nat) (T : Tn) : Prop := T 0 ≤ 6 ∧ T 1 ≤ B ∧ (∀ i, i < T 0 → T (3 + i) < 6 ∧ T (9 + i) ≤ 9 ∧ T (15 + i) ≤ 9 ∧ T (21 + i) ≤ 9 ∧ T (27 + i) ≤ 99 ∧ T (33 + i) ≤ B) ∧ (∀ m, m < 4 → T (39 + m) ≤ 9) ∧ T 43 ≤ 9 ∧ T 2 = sumT T (T 0)
/-- the reference's numbers from f on are the town T -/
def MT (σ : Mem) (f : Nat) (T : Tn) : Prop := ∀ j, j < 44 → σ.1 135 (f + j) = nI (T j)
/-- the class's town at place k is T -/
def CT (σ : Mem) (k : Nat) (T : Tn) : Prop := σ.1 k 8 = nI (T 0) ∧ σ.1 k 9 = nI (T 1) ∧ (0 < T 0 → σ.1 k 7 = nI (T 43)) ∧ (∀ m, m < 4 → σ.1 (k + 1) m = nI (T (39 + m))) ∧ ∀ i, i < T 0 → σ.1 (k + 2) i = nI (T (3 + i)) ∧ σ.1 (k + 3) i = nI (T (9 + i)) ∧ σ.1 (k + 4) i = nI (T (15 + i)) ∧ σ.1 (k + 5) i = nI (T (21 + i)) ∧ σ.1 (k + 6) i = nI (T (27 + i)) ∧ σ.1 (k + 7) i = nI (T (33 + i))
def gapT (T : Tn) (i j : Nat) : Nat := if T (9 + i) ≤ T (15 + j) then T (15 + j) - T (9 + i) else T (9 + i) - T (15 + j)
def barN (kind thick : Nat) : Nat := if kind = 1 ∨ kind = 5 then thick + 2 else if kind = 2 ∨ kind = 4 then thick / 2 else thick
def crN (kind gap thick m cold : Nat) : Nat :=
  let over := gap + cold - barN kind thick
  if kind = 3 then (if m % 2 = 0 then over else 0) else if kind = 4 then (if over = 0 then 0 else over + 1) else if kind = 5 then over / 2 else over
def crossT (T : Tn) (i m : Nat) : Nat := crN (T (3 + i)) (gapT T i i) (T (21 + i)) m (T (39 + m % 4))
def sleepT (T : Tn) (i : Nat) : Tn := if 3 ≤ crossT T i (T 1) then updT (updT T (27 + i) (min 99 (T (27 + i) + crossT T i (T 1)))) (21 + i) (T (21 + i) - 1) else updT T (27 + i) (min 99 (T (27 + i) + crossT T i (T 1)))
def passL (T : Tn) : Nat → Tn
  | 0 => T
  | n + 1 => sleepT (passL T n) n
def passS (T : Tn) : Nat → Nat
  | 0 => 0
  | n + 1 => passS T n + crossT (passL T n) n ((passL T n) 1)
def passT (T : Tn) : Tn := updT (passL T (T 0)) 1 (T 1 + 1)
def inspT (T : Tn) (i : Nat) : Tn := if T 43 ≤ T (27 + i) then updT (updT (updT (updT T (27 + i) 0) (21 + i) 9) (33 + i) (T (33 + i) + 1)) 2 (T 2 + 1) else T
def inspS (T : Tn) (i : Nat) : Nat := if T 43 ≤ T (27 + i) then T (27 + i) else 0
theorem crN_le {kind gap thick m cold : Nat} (h1 : gap ≤ 9) (h2 : cold ≤ 9) : crN kind gap thick m cold ≤ 19 := by
  unfold crN
  dsimp only
  repeat' split
  all_goals omega
theorem gapT_le {T : Tn} {i j : Nat} (h1 : T (9 + i) ≤ 9) (h2 : T (15 + j) ≤ 9) : gapT T i j ≤ 9 := by
  unfold gapT
  split <;> omega
/-! ===== the bar, what crosses: both sides ===== -/
theorem C_bar {kind thick : Nat} {σ : Mem} (hk : kind < 6) (ht : thick ≤ 9) : F_X8_barOf (nI kind) (nI thick) σ = some (nI (barN kind thick)) := by
  unfold F_X8_barOf barN
  simp (disch := omega) only [li, nI_eq, nI_add, pk_div]
  repeat' split
  all_goals first | rfl | omega
theorem M_bar {kind thick : Nat} {σ : Mem} (hk : kind < 6) (ht : thick ≤ 9) : F_X9_barOf (nI kind) (nI thick) σ = some (nI (barN kind thick)) := by
  unfold F_X9_barOf F_X9_barOf_10 F_X9_barOf_26 barN
  simp (disch := omega) only [li, nI_eq, nI_add, pk_div]
  repeat' split
  all_goals first | rfl | omega
theorem barN_le {kind thick : Nat} (ht : thick ≤ 9) : barN kind thick ≤ 11 := by
  unfold barN
  repeat' split
  all_goals omega
theorem over_lt {a b : Nat} (ha : a < 2 ^ 30) (hb : b < 2 ^ 30) : (nI 0 < nI a - nI b) ↔ b < a := by
  rw [Int32.lt_iff_toInt_lt, pk_sub_toInt ha hb, nI_toInt (by omega)]
  omega
theorem over_le {a b : Nat} (ha : a < 2 ^ 30) (hb : b < 2 ^ 30) : (nI 0 ≤ nI a - nI b) ↔ b ≤ a := by
  rw [Int32.le_iff_toInt_le, pk_sub_toInt ha hb, nI_toInt (by omega)]
  omega
theorem over_lt0 {a b : Nat} (ha : a < 2 ^ 30) (hb : b < 2 ^ 30) : ((0 : Int32) < nI a - nI b) ↔ b < a := over_lt ha hb
theorem over_le0 {a b : Nat} (ha : a < 2 ^ 30) (hb : b < 2 ^ 30) : ((0 : Int32) ≤ nI a - nI b) ↔ b ≤ a := over_le ha hb
theorem rem2 {m : Nat} (h : m ≤ 100000) : nI m - nI m / (2 : Int32) * (2 : Int32) = nI (m % 2) := pk_rem (by omega) (by decide) (by decide)
theorem rem4 {m : Nat} (h : m ≤ 100000) : nI m - nI m / (4 : Int32) * (4 : Int32) = nI (m % 4) := pk_rem (by omega) (by decide) (by decide)
theorem over_eq {g c b : Nat} (hg : g ≤ 9) (hc : c ≤ 9) (hb : b ≤ 11) : (if (0 : Int32) < (nI g + nI c) - nI b then (nI g + nI c) - nI b else (0 : Int32)) = nI (g + c - b) := by
  rw [nI_add]
  by_cases h : b < g + c
  · rw [if_pos ((over_lt0 (by omega) (by omega)).mpr h), pk_sub (by omega)]
  · rw [if_neg (fun q => h ((over_lt0 (by omega) (by omega)).mp q)), show g + c - b = 0 by omega]
    rfl
theorem C_crossing {kind gap thick m cold : Nat} {σ : Mem} (hk : kind < 6) (hg : gap ≤ 9) (ht : thick ≤ 9) (hm : m ≤ 100000) (hc : cold ≤ 9) : F_X8_crossing (nI kind) (nI gap) (nI thick) (nI m) (nI cold) σ = some (nI (crN kind gap thick m cold)) := by
  have hb := barN_le (kind := kind) ht
  have ho : gap + cold - barN kind thick ≤ 18 := by omega
  unfold F_X8_crossing crN
  rw [C_bar hk ht, ob_some]
  simp only [over_eq hg hc hb]
  generalize gap + cold - barN kind thick = ov at ho
  have hm2 : m % 2 < 2 := Nat.mod_lt _ (by decide)
  rcases (show kind = 0 ∨ kind = 1 ∨ kind = 2 ∨ kind = 3 ∨ kind = 4 ∨ kind = 5 by omega) with h | h | h | h | h | h <;> subst h <;> simp (disch := omega) only [↓rem2, li, nI_eq, nI_leI, pk_div, nI_add, reduceCtorEq, Nat.reduceEqDiff, if_true, if_false, Nat.le_zero_eq] <;> (repeat' split) <;> first | rfl | omega
theorem off_eq {a b : Nat} {σ : Mem} (ha : a ≤ 9) (hb : b ≤ 9) : F_X9_off (nI a) (nI b) σ = some (nI (if a ≤ b then b - a else a - b)) := by
  unfold F_X9_off
  by_cases h : b ≤ a
  · rw [if_pos ((nI_leI (by omega) (by omega)).mpr h), pk_sub h]
    congr 2
    split <;> omega
  · rw [if_neg (fun q => h ((nI_leI (by omega) (by omega)).mp q)), pk_sub (by omega), if_pos (by omega)]
theorem abs_eq {a b : Nat} (ha : a ≤ 9) (hb : b ≤ 9) : (if (0 : Int32) ≤ (nI a - nI b) then (nI a - nI b) else 0 - (nI a - nI b)) = nI (if a ≤ b then b - a else a - b) := by
  by_cases h : b ≤ a
  · rw [if_pos ((over_le0 (by omega) (by omega)).mpr h), pk_sub h]
    congr 1
    split <;> omega
  · rw [if_neg (fun q => h ((over_le0 (by omega) (by omega)).mp q)), if_pos (by omega)]
    have e : nI b - nI a = nI (b - a) := pk_sub (by omega)
    rw [← e, Int32.zero_sub, Int32.neg_sub]
theorem M_crossBy_tail {kind m ov : Nat} {σ : Mem} (hk : kind < 6) (hm : m ≤ 100000) (ho : ov ≤ 18) : F_X9_crossBy_33 (nI kind) (nI m) (nI ov) σ = some (nI (if kind = 3 then (if m % 2 = 0 then ov else 0) else if kind = 4 then (if ov = 0 then 0 else ov + 1) else if kind = 5 then ov / 2 else ov)) := by
  unfold F_X9_crossBy_33
  have hm2 : m % 2 < 2 := Nat.mod_lt _ (by decide)
  rcases (show kind = 0 ∨ kind = 1 ∨ kind = 2 ∨ kind = 3 ∨ kind = 4 ∨ kind = 5 by omega) with h | h | h | h | h | h <;> subst h <;> simp (disch := omega) only [↓rem2, li, nI_eq, nI_leI, pk_div, nI_add, reduceCtorEq, Nat.reduceEqDiff, if_true, if_false, Nat.le_zero_eq] <;> (repeat' split) <;> first | rfl | omega

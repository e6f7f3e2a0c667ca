/-! ===== duel: the game ===== -/
/-- the upholsterer's turn, the inspector's turn; 0: nothing, else one more than the bed -/
def mvE (U : Tn) (a : Nat) : Tn := passT (if a = 0 then U else thinT U (a - 1))
def mvO (U : Tn) (a : Nat) : Tn := if a = 0 then U else inspT U (a - 1)
def gnO (U : Tn) (a : Nat) : Nat := if a = 0 then 0 else inspS U (a - 1)
abbrev mayE (U : Tn) (a : Nat) : Prop := a = 0 ∨ 0 < U (21 + (a - 1))
abbrev mayO (U : Tn) (a : Nat) : Prop := a = 0 ∨ dueT U (a - 1)
def minF (P : Nat → Prop) [DecidablePred P] (v : Nat → Nat) : Nat → Nat
  | 0 => 1000000
  | a + 1 => if P a then (if v a < minF P v a then v a else minF P v a) else minF P v a
def maxF (P : Nat → Prop) [DecidablePred P] (v : Nat → Nat) : Nat → Nat
  | 0 => 0
  | a + 1 => if P a then (if maxF P v a < v a then v a else maxF P v a) else maxF P v a
theorem minF_yes {P : Nat → Prop} [DecidablePred P] {v : Nat → Nat} {a : Nat} (h : P a) : minF P v (a + 1) = if v a < minF P v a then v a else minF P v a := if_pos h
theorem minF_no {P : Nat → Prop} [DecidablePred P] {v : Nat → Nat} {a : Nat} (h : ¬ P a) : minF P v (a + 1) = minF P v a := if_neg h
theorem maxF_yes {P : Nat → Prop} [DecidablePred P] {v : Nat → Nat} {a : Nat} (h : P a) : maxF P v (a + 1) = if maxF P v a < v a then v a else maxF P v a := if_pos h
theorem maxF_no {P : Nat → Prop} [DecidablePred P] {v : Nat → Nat} {a : Nat} (h : ¬ P a) : maxF P v (a + 1) = maxF P v a := if_neg h
def gmF : Nat → Nat → Tn → Nat
  | 0, _, _ => 0
  | D + 1, k, U => if k % 2 = 0 then minF (mayE U) (fun a => gmF D (k + 1) (mvE U a)) (U 0 + 1) else maxF (mayO U) (fun a => gnO U a + gmF D (k + 1) (mvO U a)) (U 0 + 1)
theorem gmF_E {D k : Nat} {U : Tn} (h : k % 2 = 0) : gmF (D + 1) k U = minF (mayE U) (fun a => gmF D (k + 1) (mvE U a)) (U 0 + 1) := if_pos h
theorem gmF_O {D k : Nat} {U : Tn} (h : ¬ k % 2 = 0) : gmF (D + 1) k U = maxF (mayO U) (fun a => gnO U a + gmF D (k + 1) (mvO U a)) (U 0 + 1) := if_neg h
theorem mvE_0 {U : Tn} {a : Nat} : mvE U a 0 = U 0 := by
  unfold mvE
  rw [pass_0]
  by_cases h : a = 0
  · rw [if_pos h]
  · rw [if_neg h]; exact upd_ne (by omega)
theorem mvO_0 {U : Tn} {a : Nat} : mvO U a 0 = U 0 := by
  unfold mvO
  by_cases h : a = 0
  · rw [if_pos h]
  · rw [if_neg h]; exact insp_0
theorem wf_E {B : Nat} {U : Tn} {a : Nat} (hw : wfT B U) (ha : a < U 0 + 1) : wfT (B + 1) (mvE U a) := by
  unfold mvE
  by_cases h : a = 0
  · rw [if_pos h]; exact wf_pass hw
  · rw [if_neg h]
    have b := hw.2.2.1 (a - 1) (by omega)
    exact wf_pass (wf_bed hw (show a - 1 < U 0 by omega) (Or.inr (Or.inl ⟨rfl, by omega⟩)))
theorem wf_O {B : Nat} {U : Tn} {a : Nat} (hw : wfT B U) (ha : a < U 0 + 1) : wfT (B + 1) (mvO U a) := by
  unfold mvO
  by_cases h : a = 0
  · rw [if_pos h]; exact wf_mono (by omega) hw
  · rw [if_neg h]; exact wf_insp hw (by omega)
theorem gn_le {B : Nat} {U : Tn} {a : Nat} (hw : wfT B U) (ha : a < U 0 + 1) : gnO U a ≤ 99 := by
  unfold gnO
  by_cases h : a = 0
  · rw [if_pos h]; omega
  · rw [if_neg h]
    have b := hw.2.2.1 (a - 1) (by omega)
    unfold inspS
    split <;> omega
theorem minF_le {P : Nat → Prop} [DecidablePred P] {v : Nat → Nat} {b : Nat} (h0 : P 0) (hv : v 0 ≤ b) (hb : b < 1000000) : ∀ a, minF P v (a + 1) ≤ b
  | 0 => by
    rw [minF_yes h0]
    show (if v 0 < 1000000 then v 0 else 1000000) ≤ b
    rw [if_pos (by omega)]; exact hv
  | a + 1 => by
    have ih := minF_le (v := v) h0 hv hb a
    by_cases q : P (a + 1)
    · rw [minF_yes q]; split <;> omega
    · rw [minF_no q]; exact ih
theorem maxF_le {P : Nat → Prop} [DecidablePred P] {v : Nat → Nat} {b : Nat} : ∀ a, (∀ j, j < a → v j ≤ b) → maxF P v a ≤ b
  | 0, _ => Nat.zero_le _
  | a + 1, h => by
    have ih := maxF_le (P := P) (v := v) (b := b) a (fun j hj => h j (by omega))
    have h1 := h a (by omega)
    by_cases q : P a
    · rw [maxF_yes q]; split <;> omega
    · rw [maxF_no q]; exact ih
theorem gmF_le : ∀ D k B U, D ≤ 4 → wfT B U → gmF D k U ≤ 99 * D
  | 0, _, _, _, _, _ => Nat.le_refl _
  | D + 1, k, B, U, hD, hw => by
    by_cases q : k % 2 = 0
    · rw [gmF_E q]
      exact minF_le (Or.inl rfl) (Nat.le_trans (gmF_le D (k + 1) (B + 1) (mvE U 0) (by omega) (wf_E hw (by omega))) (by omega)) (by omega) (U 0)
    · rw [gmF_O q]
      refine maxF_le _ (fun j hj => ?_)
      have h1 := gn_le hw hj
      have h2 := gmF_le D (k + 1) (B + 1) (mvO U j) (by omega) (wf_O hw hj)
      show gnO U j + gmF D (k + 1) (mvO U j) ≤ _
      omega
/-- the reference's plays: town, sum, whether it may be -/
abbrev Pl : Type := Tn × Nat × Bool
def stepP (k : Nat) (s : Pl) (a : Nat) : Pl :=
  if k % 2 = 1 then (mvO s.1 a, s.2.1 + gnO s.1 a, s.2.2) else (if (s.2.2 && decide (mayE s.1 a)) = true then mvE s.1 a else passT s.1, s.2.1, s.2.2 && decide (mayE s.1 a))
def runP (m : Nat) (T : Tn) : Nat → Nat → Pl
  | 0, _ => (T, 0, true)
  | k + 1, e => stepP k (runP m T k (e / m)) (e % m)
def endP (s : Pl) : Option Nat := if s.2.2 = true then some s.2.1 else none
/-- the better of what may be -/
def btr (odd : Bool) (p q : Option Nat) : Option Nat := match q with
  | none => p
  | some x => match p with
    | none => some x
    | some y => if odd = true then (if y < x then some x else some y) else (if x < y then some x else some y)
def bstP (odd : Bool) (v : Nat → Option Nat) : Nat → Option Nat
  | 0 => none
  | a + 1 => btr odd (bstP odd v a) (v a)
def valP (m : Nat) (T : Tn) (n : Nat) : Nat → Nat → Option Nat
  | 0, e => endP (runP m T n e)
  | D + 1, e => bstP (decide ((n - (D + 1)) % 2 = 1)) (fun a => valP m T n D (m * e + a)) m
theorem bstP_none {odd : Bool} {v : Nat → Option Nat} : ∀ a, (∀ j, j < a → v j = none) → bstP odd v a = none
  | 0, _ => rfl
  | a + 1, h => by
    show btr odd (bstP odd v a) (v a) = none
    rw [h a (by omega), bstP_none a (fun j hj => h j (by omega))]; rfl
theorem bstP_min {P : Nat → Prop} [DecidablePred P] {v : Nat → Option Nat} {u : Nat → Nat} {s : Nat} (h0 : P 0) (hb : u 0 < 1000000) : ∀ a, (∀ j, j < a + 1 → v j = if P j then some (s + u j) else none) → bstP false v (a + 1) = some (s + minF P u (a + 1))
  | 0, h => by
    show btr false none (v 0) = _
    rw [h 0 (by omega), if_pos h0, minF_yes h0]
    show some (s + u 0) = some (s + (if u 0 < 1000000 then u 0 else 1000000))
    rw [if_pos hb]
  | a + 1, h => by
    have ih := bstP_min (v := v) (u := u) (s := s) h0 hb a (fun j hj => h j (by omega))
    show btr false (bstP false v (a + 1)) (v (a + 1)) = _
    rw [ih, h (a + 1) (by omega)]
    by_cases q : P (a + 1)
    · rw [if_pos q, minF_yes q]
      show (if s + u (a + 1) < s + minF P u (a + 1) then some (s + u (a + 1)) else some (s + minF P u (a + 1))) = _
      by_cases z : u (a + 1) < minF P u (a + 1)
      · rw [if_pos (by omega), if_pos z]
      · rw [if_neg (by omega), if_neg z]
    · rw [if_neg q, minF_no q]; rfl
theorem bstP_max {P : Nat → Prop} [DecidablePred P] {v : Nat → Option Nat} {u : Nat → Nat} {s : Nat} (h0 : P 0) (hn : ∀ j, ¬ P j → u j = u 0) : ∀ a, (∀ j, j < a + 1 → v j = some (s + u j)) → bstP true v (a + 1) = some (s + maxF P u (a + 1)) ∧ u 0 ≤ maxF P u (a + 1)
  | 0, h => by
    constructor
    · show btr true none (v 0) = _
      rw [h 0 (by omega), maxF_yes h0]
      show some (s + u 0) = some (s + (if 0 < u 0 then u 0 else 0))
      by_cases z : 0 < u 0
      · rw [if_pos z]
      · rw [if_neg z, show u 0 = 0 by omega]
    · rw [maxF_yes h0]
      show u 0 ≤ if 0 < u 0 then u 0 else 0
      split <;> omega
  | a + 1, h => by
    obtain ⟨ih, hl⟩ := bstP_max (v := v) (u := u) (s := s) h0 hn a (fun j hj => h j (by omega))
    have e : bstP true v (a + 1 + 1) = (if s + maxF P u (a + 1) < s + u (a + 1) then some (s + u (a + 1)) else some (s + maxF P u (a + 1))) := by
      show btr true (bstP true v (a + 1)) (v (a + 1)) = _
      rw [ih, h (a + 1) (by omega)]
      rfl
    rw [e]
    by_cases q : P (a + 1)
    · rw [maxF_yes q]
      by_cases z : maxF P u (a + 1) < u (a + 1)
      · rw [if_pos (by omega), if_pos z]; exact ⟨rfl, by omega⟩
      · rw [if_neg (by omega), if_neg z]; exact ⟨rfl, hl⟩
    · have := hn (a + 1) q
      rw [maxF_no q, if_neg (by omega)]; exact ⟨rfl, hl⟩

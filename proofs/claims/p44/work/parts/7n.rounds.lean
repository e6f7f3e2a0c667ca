/-! ===== round: codes of moves, what they bring, the first of the most ===== -/
def runR (m : Nat) (T : Tn) : Nat → Nat → Tn × Nat
  | 0, _ => (T, 0)
  | k + 1, e => (mvO (passT (runR m T k (e / m)).1) (e % m), (runR m T k (e / m)).2 + gnO (passT (runR m T k (e / m)).1) (e % m))
theorem runR_s {m k e : Nat} {T : Tn} : runR m T (k + 1) e = (mvO (passT (runR m T k (e / m)).1) (e % m), (runR m T k (e / m)).2 + gnO (passT (runR m T k (e / m)).1) (e % m)) := rfl
theorem wf_runR {B m : Nat} {T : Tn} (hw : wfT B T) (hm : m = T 0 + 1) : ∀ k e, wfT (B + 2 * k) (runR m T k e).1 ∧ (runR m T k e).1 0 = T 0 ∧ (runR m T k e).2 ≤ 99 * k
  | 0, _ => ⟨hw, rfl, Nat.le_refl _⟩
  | k + 1, e => by
    obtain ⟨h1, h2, h3⟩ := wf_runR hw hm k (e / m)
    have hp := wf_pass h1
    have h0 : passT (runR m T k (e / m)).1 0 = T 0 := (pass_0 _).trans h2
    have hd : e % m < passT (runR m T k (e / m)).1 0 + 1 := by rw [h0, ← hm]; exact Nat.mod_lt _ (by omega)
    refine ⟨?_, ?_, ?_⟩
    · exact wf_mono (by omega) (wf_O hp hd)
    · exact mvO_0.trans h0
    · have := gn_le hp hd
      show (runR m T k (e / m)).2 + gnO (passT (runR m T k (e / m)).1) (e % m) ≤ _
      omega
theorem runR_suf {m L : Nat} {T : Tn} {Q Q' : Nat} (h0 : 0 < m) (h : runR m T L Q = runR m T L Q') : ∀ D r, r < m ^ D → runR m T (L + D) (Q * m ^ D + r) = runR m T (L + D) (Q' * m ^ D + r)
  | 0, r, hr => by
    have : r = 0 := by rw [Nat.pow_zero] at hr; omega
    rw [this, Nat.pow_zero, Nat.mul_one, Nat.mul_one]; exact h
  | D + 1, r, hr => by
    have hr2 : r / m < m ^ D := by
      rw [Nat.pow_succ] at hr
      exact Nat.div_lt_of_lt_mul (by rw [Nat.mul_comm]; exact hr)
    have ih := runR_suf h0 h D (r / m) hr2
    have e1 : ∀ Q, (Q * m ^ (D + 1) + r) / m = Q * m ^ D + r / m := fun Q => by
      rw [Nat.pow_succ, ← Nat.mul_assoc, Nat.add_comm, Nat.add_mul_div_right _ _ h0, Nat.add_comm]
    have e2 : ∀ Q, (Q * m ^ (D + 1) + r) % m = r % m := fun Q => by
      rw [Nat.pow_succ, ← Nat.mul_assoc, Nat.add_comm, Nat.add_mul_mod_self_right]
    rw [show L + (D + 1) = L + D + 1 from rfl, runR_s, runR_s, e1, e2, e1, e2, ih]
/-- most is one less than the second -/
def stq (m : Nat) (T : Tn) (n : Nat) (s : Nat × Nat) (C : Nat) : Nat × Nat := if s.2 < (runR m T n C).2 + 1 then (C, (runR m T n C).2 + 1) else s
theorem stq_yes {m n : Nat} {T : Tn} {s : Nat × Nat} {C : Nat} (h : s.2 < (runR m T n C).2 + 1) : stq m T n s C = (C, (runR m T n C).2 + 1) := if_pos h
theorem stq_no {m n : Nat} {T : Tn} {s : Nat × Nat} {C : Nat} (h : ¬ s.2 < (runR m T n C).2 + 1) : stq m T n s C = s := if_neg h
def fq (m : Nat) (T : Tn) (n : Nat) (s : Nat × Nat) (a : Nat) : Nat → Nat × Nat
  | 0 => s
  | k + 1 => stq m T n (fq m T n s a k) (a + k)
theorem fq_split {m n : Nat} {T : Tn} {s : Nat × Nat} {a k : Nat} : ∀ j, fq m T n s a (k + j) = fq m T n (fq m T n s a k) (a + k) j
  | 0 => rfl
  | j + 1 => by
    show stq m T n (fq m T n s a (k + j)) (a + (k + j)) = stq m T n (fq m T n (fq m T n s a k) (a + k) j) (a + k + j)
    rw [fq_split j, Nat.add_assoc]
theorem fq_same {m n : Nat} {T : Tn} {s : Nat × Nat} {a : Nat} : ∀ k, (∀ C, a ≤ C → C < a + k → (runR m T n C).2 + 1 ≤ s.2) → fq m T n s a k = s
  | 0, _ => rfl
  | k + 1, h => by
    have ih := fq_same (m := m) (T := T) (n := n) (s := s) (a := a) k (fun C h1 h2 => h C h1 (by omega))
    have h1 := h (a + k) (by omega) (by omega)
    show stq m T n (fq m T n s a k) (a + k) = s
    rw [ih, stq_no (by omega)]
theorem fq_max {m n : Nat} {T : Tn} {s : Nat × Nat} {a : Nat} : ∀ k, s.2 ≤ (fq m T n s a k).2 ∧ ∀ C, a ≤ C → C < a + k → (runR m T n C).2 + 1 ≤ (fq m T n s a k).2
  | 0 => ⟨Nat.le_refl _, fun C h1 h2 => absurd h2 (by omega)⟩
  | k + 1 => by
    obtain ⟨i1, i2⟩ := fq_max (m := m) (T := T) (n := n) (s := s) (a := a) k
    by_cases q : (fq m T n s a k).2 < (runR m T n (a + k)).2 + 1
    · have e : fq m T n s a (k + 1) = (a + k, (runR m T n (a + k)).2 + 1) := stq_yes q
      rw [e]
      refine ⟨by show s.2 ≤ (runR m T n (a + k)).2 + 1; omega, fun C h1 h2 => ?_⟩
      show _ ≤ (runR m T n (a + k)).2 + 1
      by_cases y : C = a + k
      · rw [y]; exact Nat.le_refl _
      · have := i2 C h1 (by omega); omega
    · have e : fq m T n s a (k + 1) = fq m T n s a k := stq_no q
      rw [e]
      refine ⟨i1, fun C h1 h2 => ?_⟩
      by_cases y : C = a + k
      · rw [y]; omega
      · exact i2 C h1 (by omega)
theorem fq_lt {m n N : Nat} {T : Tn} {s : Nat × Nat} {a : Nat} (hs : s.1 < N) (hb : s.2 ≤ 99 * n + 1) (hR : ∀ C, (runR m T n C).2 ≤ 99 * n) : ∀ k, a + k ≤ N → (fq m T n s a k).1 < N ∧ (fq m T n s a k).2 ≤ 99 * n + 1
  | 0, _ => ⟨hs, hb⟩
  | k + 1, h => by
    obtain ⟨i1, i2⟩ := fq_lt (m := m) (a := a) hs hb hR k (by omega)
    by_cases q : (fq m T n s a k).2 < (runR m T n (a + k)).2 + 1
    · have e : fq m T n s a (k + 1) = (a + k, (runR m T n (a + k)).2 + 1) := stq_yes q
      have := hR (a + k)
      rw [e]
      exact ⟨by show a + k < N; omega, by show (runR m T n (a + k)).2 + 1 ≤ _; omega⟩
    · have e : fq m T n s a (k + 1) = fq m T n s a k := stq_no q
      rw [e]; exact ⟨i1, i2⟩
theorem bq_next {m n : Nat} {T : Tn} {s : Nat × Nat} {D P w : Nat} : fq m T n s (P * m ^ (D + 1)) ((w + 1) * m ^ D) = fq m T n (fq m T n s (P * m ^ (D + 1)) (w * m ^ D)) ((P * m + w) * m ^ D) (m ^ D) := by
  rw [Nat.succ_mul, fq_split, Nat.add_mul, Nat.pow_succ, Nat.mul_assoc P m, Nat.mul_comm m]
theorem dm_eq {m P w : Nat} (h0 : 0 < m) (hw : w < m) : (P * m + w) / m = P ∧ (P * m + w) % m = w := by
  constructor
  · rw [Nat.add_comm, Nat.add_mul_div_right _ _ h0, Nat.div_eq_of_lt hw, Nat.zero_add]
  · rw [Nat.add_comm, Nat.add_mul_mod_self_right, Nat.mod_eq_of_lt hw]
theorem runR_next {m i P w : Nat} {T : Tn} (h0 : 0 < m) (hw : w < m) : runR m T (i + 1) (P * m + w) = (mvO (passT (runR m T i P).1) w, (runR m T i P).2 + gnO (passT (runR m T i P).1) w) := by
  obtain ⟨e1, e2⟩ := dm_eq (P := P) h0 hw
  show (mvO (passT (runR m T i ((P * m + w) / m)).1) ((P * m + w) % m), _) = _
  rw [e1, e2]
/-- a bed that isn't found out is as good as none, which came before -/
theorem bq_idle {m n i D P w : Nat} {T : Tn} {s : Nat × Nat} (h0 : 0 < m) (hn : i + (D + 1) = n) (hw : w < m) (hj : ¬ mayO (passT (runR m T i P).1) w) : fq m T n (fq m T n s (P * m ^ (D + 1)) (w * m ^ D)) ((P * m + w) * m ^ D) (m ^ D) = fq m T n s (P * m ^ (D + 1)) (w * m ^ D) := by
  have w0 : w ≠ 0 := fun z => hj (Or.inl z)
  have wd : ¬ dueT (passT (runR m T i P).1) (w - 1) := fun z => hj (Or.inr z)
  have eR : runR m T (i + 1) (P * m + w) = runR m T (i + 1) (P * m + 0) := by
    rw [runR_next h0 hw, runR_next h0 h0]
    have e1 : gnO (passT (runR m T i P).1) w = 0 := by
      unfold gnO inspS
      rw [if_neg w0, if_neg wd]
    have e2 : mvO (passT (runR m T i P).1) w = mvO (passT (runR m T i P).1) 0 := by
      unfold mvO inspT
      rw [if_neg w0, if_neg wd, if_pos rfl]
    have e3 : gnO (passT (runR m T i P).1) 0 = 0 := rfl
    rw [e1, e2, e3]
  refine fq_same _ (fun C h1 h2 => ?_)
  obtain ⟨r, hr⟩ : ∃ r, C = (P * m + w) * m ^ D + r := ⟨C - (P * m + w) * m ^ D, by omega⟩
  have hr2 : r < m ^ D := by omega
  have e := runR_suf h0 eR D r hr2
  rw [show i + 1 + D = n by omega] at e
  rw [hr, e]
  have hwm : m ^ D ≤ w * m ^ D := Nat.le_mul_of_pos_left _ (Nat.pos_of_ne_zero w0)
  have eP : (P * m + 0) * m ^ D = P * m ^ (D + 1) := by rw [Nat.add_zero, Nat.pow_succ, Nat.mul_assoc, Nat.mul_comm m]
  rw [eP]
  exact (fq_max (m := m) (T := T) (n := n) (s := s) (a := P * m ^ (D + 1)) (w * m ^ D)).2 _ (by omega) (by omega)
/-- a row's value from a move's number -/
def rndV (a : Nat) : Int32 := if a = 0 then -9 else nI (a - 1)
theorem rndV_0 : rndV 0 = -9 := rfl
theorem rndV_s (i : Nat) : rndV (i + 1) = nI i := rfl
theorem m9_neg : (-9 : Int32) < 0 := by decide

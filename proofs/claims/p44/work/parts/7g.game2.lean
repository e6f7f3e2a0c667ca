theorem stepP_O {k a : Nat} {s : Pl} (h : k % 2 = 1) : stepP k s a = (mvO s.1 a, s.2.1 + gnO s.1 a, s.2.2) := if_pos h
theorem stepP_E {k a : Nat} {s : Pl} (h : ¬ k % 2 = 1) : stepP k s a = (if (s.2.2 && decide (mayE s.1 a)) = true then mvE s.1 a else passT s.1, s.2.1, s.2.2 && decide (mayE s.1 a)) := if_neg h
theorem wf_stepP {B k a : Nat} {s : Pl} (hw : wfT B s.1) (ha : a < s.1 0 + 1) : wfT (B + 1) (stepP k s a).1 ∧ (stepP k s a).1 0 = s.1 0 := by
  by_cases q : k % 2 = 1
  · rw [stepP_O q]
    exact ⟨wf_O hw ha, mvO_0⟩
  · rw [stepP_E q]
    show wfT (B + 1) (if (s.2.2 && decide (mayE s.1 a)) = true then mvE s.1 a else passT s.1) ∧ (if (s.2.2 && decide (mayE s.1 a)) = true then mvE s.1 a else passT s.1) 0 = s.1 0
    by_cases z : (s.2.2 && decide (mayE s.1 a)) = true
    · rw [if_pos z]; exact ⟨wf_E hw ha, mvE_0⟩
    · rw [if_neg z]; exact ⟨wf_pass hw, pass_0 _⟩
theorem wf_runP {B m : Nat} {T : Tn} (hw : wfT B T) (hm : m = T 0 + 1) : ∀ k e, wfT (B + k) (runP m T k e).1 ∧ (runP m T k e).1 0 = T 0
  | 0, _ => ⟨hw, rfl⟩
  | k + 1, e => by
    obtain ⟨h1, h2⟩ := wf_runP hw hm k (e / m)
    obtain ⟨h3, h4⟩ := wf_stepP (k := k) (a := e % m) h1 (by rw [h2, ← hm]; exact Nat.mod_lt _ (by omega))
    exact ⟨h3, h4.trans h2⟩
theorem valP_eq {B m n : Nat} {T : Tn} (hw : wfT B T) (hm : m = T 0 + 1) (hn : n ≤ 4) : ∀ D e, D ≤ n → valP m T n D e = if (runP m T (n - D) e).2.2 = true then some ((runP m T (n - D) e).2.1 + gmF D (n - D) (runP m T (n - D) e).1) else none
  | 0, e, _ => rfl
  | D + 1, e, hD => by
    have ih := fun e => valP_eq hw hm hn D e (by omega)
    obtain ⟨k, hk⟩ : ∃ k, n - (D + 1) = k := ⟨_, rfl⟩
    have hk1 : n - D = k + 1 := by omega
    rw [hk1] at ih
    rw [hk]
    obtain ⟨h1, h2⟩ := wf_runP hw hm k e
    obtain ⟨s, hs⟩ : ∃ s, runP m T k e = s := ⟨_, rfl⟩
    rw [hs] at h1 h2 ⊢
    have hR : ∀ a, a < m → runP m T (k + 1) (m * e + a) = stepP k s a := fun a ha => by
      show stepP k (runP m T k ((m * e + a) / m)) ((m * e + a) % m) = _
      have e1 : (m * e + a) / m = e := by rw [Nat.add_comm, Nat.add_mul_div_left _ _ (by omega), Nat.div_eq_of_lt ha, Nat.zero_add]
      have e2 : (m * e + a) % m = a := by rw [Nat.add_comm, Nat.add_mul_mod_self_left, Nat.mod_eq_of_lt ha]
      rw [e1, e2, hs]
    have hV : ∀ a, a < m → valP m T n D (m * e + a) = if (stepP k s a).2.2 = true then some ((stepP k s a).2.1 + gmF D (k + 1) (stepP k s a).1) else none := fun a ha => by rw [ih, hR a ha]
    show bstP (decide ((n - (D + 1)) % 2 = 1)) (fun a => valP m T n D (m * e + a)) m = _
    rw [hk]
    have hmU : m = s.1 0 + 1 := by rw [h2]; exact hm
    by_cases c : s.2.2 = true
    · rw [if_pos c]
      by_cases q : k % 2 = 1
      · rw [decide_eq_true q, gmF_O (by omega), hmU]
        refine (bstP_max (P := mayO s.1) (u := fun a => gnO s.1 a + gmF D (k + 1) (mvO s.1 a)) (s := s.2.1) (Or.inl rfl) (fun j hj => ?_) (s.1 0) (fun j hj => ?_)).1
        · have j0 : j ≠ 0 := fun z => hj (Or.inl z)
          have jd : ¬ dueT s.1 (j - 1) := fun z => hj (Or.inr z)
          show gnO s.1 j + gmF D (k + 1) (mvO s.1 j) = gnO s.1 0 + gmF D (k + 1) (mvO s.1 0)
          have e1 : gnO s.1 j = 0 := by
            unfold gnO inspS
            rw [if_neg j0, if_neg jd]
          have e2 : mvO s.1 j = mvO s.1 0 := by
            unfold mvO inspT
            rw [if_neg j0, if_neg jd, if_pos rfl]
          have e3 : gnO s.1 0 = 0 := rfl
          rw [e1, e2, e3]
        · rw [← hmU]
          show valP m T n D (m * e + j) = _
          rw [hV j (by omega), stepP_O q, if_pos c, Nat.add_assoc]
      · rw [decide_eq_false q, gmF_E (by omega), hmU]
        have hb := gmF_le D (k + 1) (B + k + 1) (mvE s.1 0) (by omega) (wf_E h1 (by omega))
        refine bstP_min (P := mayE s.1) (u := fun a => gmF D (k + 1) (mvE s.1 a)) (s := s.2.1) (Or.inl rfl) (by show gmF D (k + 1) (mvE s.1 0) < 1000000; omega) (s.1 0) (fun j hj => ?_)
        rw [← hmU]
        show valP m T n D (m * e + j) = _
        rw [hV j (by omega), stepP_E q]
        show (if (s.2.2 && decide (mayE s.1 j)) = true then some (s.2.1 + gmF D (k + 1) (if (s.2.2 && decide (mayE s.1 j)) = true then mvE s.1 j else passT s.1)) else none) = _
        by_cases z : mayE s.1 j
        · have e3 : (s.2.2 && decide (mayE s.1 j)) = true := by rw [c, decide_eq_true z]; rfl
          rw [if_pos e3, if_pos e3, if_pos z]
        · have e3 : ¬ (s.2.2 && decide (mayE s.1 j)) = true := by rw [c, decide_eq_false z]; decide
          rw [if_neg e3, if_neg z]
    · rw [if_neg c]
      refine bstP_none m (fun j hj => ?_)
      show valP m T n D (m * e + j) = none
      rw [hV j hj]
      have e3 : ¬ (stepP k s j).2.2 = true := by
        by_cases q : k % 2 = 1
        · rw [stepP_O q]; exact c
        · rw [stepP_E q]
          show ¬ (s.2.2 && decide (mayE s.1 j)) = true
          intro z
          rw [Bool.and_eq_true] at z
          exact c z.1
      rw [if_neg e3]

/-! ===== a loop that may end before ===== -/
theorem lp_inv2 {S T : Type} {f : S → Option (S ⊕ T)} {Q : T → Prop} (I : Nat → S → Prop) (n : Nat) (hs : ∀ j s, j < n → I j s → (∃ s', f s = some (.inl s') ∧ I (j + 1) s') ∨ ∃ t, f s = some (.inr t) ∧ Q t) (he : ∀ s, I n s → ∃ t, f s = some (.inr t) ∧ Q t) : ∀ s, I 0 s → ∃ t, lp f s = some t ∧ Q t := by
  have key : ∀ m, m ≤ n → ∀ s, I (n - m) s → ∃ t, lp f s = some t ∧ Q t := by
    intro m
    induction m with
    | zero =>
      intro _ s h
      obtain ⟨t, h1, h2⟩ := he s h
      exact ⟨t, lp_out h1, h2⟩
    | succ m ih =>
      intro hm s h
      rcases hs _ s (by omega) h with ⟨s', h1, h2⟩ | ⟨t, h1, h2⟩
      · rw [show n - (m + 1) + 1 = n - m by omega] at h2
        obtain ⟨t, h3, h4⟩ := ih (by omega) s' h2
        exact ⟨t, by rw [lp_in h1]; exact h3, h4⟩
      · exact ⟨t, lp_out h1, h2⟩
  intro s h
  exact key n (Nat.le_refl n) s (by rw [Nat.sub_self]; exact h)

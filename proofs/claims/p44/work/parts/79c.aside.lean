/-! ===== what lies aside is nobody's ===== -/
theorem RC.aside {A : Ab} {σ σ' : Mem} (h : RC A σ) (f : FrK 26 σ σ') : RC A σ' ∧ FC σ σ' := by
  have keep : ∀ a b, a < 26 → σ'.1 a b = σ.1 a b := fun a b q => f.1 a b (Or.inl q)
  have k34 : ∀ a b, 33 < a → σ'.1 a b = σ.1 a b := fun a b q => f.1 a b (Or.inr q)
  exact ⟨⟨h.1.kept (fun a b p q => keep a b (by omega)), h.2.1.kept (fun a b p q => keep a b (by omega)), h.2.2.1.kept (keep _ _ (by decide)) (keep _ _ (by decide)) (fun j => k34 _ _ (by decide)) (fun j => by rw [f.2]), h.2.2.2.kept (keep _ _ (by decide)) (fun a b q => f.1 a b (by omega))⟩, fun a b q => k34 a b (by omega), fun a b q => by rw [f.2]⟩
theorem RM.aside {tb : Prop} {A : Ab} {σ σ' : Mem} (hA : okDe tb A.2.2.2) (h : RM A σ) (f : FrM 7260 σ σ') : RM A σ' ∧ FM σ σ' := by
  have keep : ∀ a b, (a ≠ 135 ∨ b < 7260) → σ'.1 a b = σ.1 a b := fun a b q => f.1 a b (by omega)
  obtain ⟨u1, u2, u3, u4⟩ := h.2.2.2
  have hdc := hA.2.1
  refine ⟨⟨h.1.kept (fun a b q => keep a b (by omega)), h.2.1.kept (fun a b q => keep a b (by omega)), h.2.2.1.kept (keep _ _ (by decide)) (keep _ _ (by decide)) (fun j => keep _ _ (by omega)) (by rw [f.2]) (by rw [f.2]), u1.kept (fun b p1 p2 => keep _ _ (by omega)), fun d hd => (u2 d hd).kept (fun b p1 p2 => keep _ _ (by omega)), (keep _ _ (by decide)).trans u3, fun k hk => ?_⟩, fun a b q => keep a b (by omega), fun a b q => by rw [f.2]⟩
  have h2 := u4 k hk
  cases e : A.2.2.2.2.2.2.1 k with
  | none => rw [e] at h2; exact (keep _ _ (by omega)).trans h2
  | some n =>
    rw [e] at h2
    have hn := (hA.2.2.2.1 k n e).1
    exact ⟨(keep _ _ (by omega)).trans h2.1, h2.2.1.kept (fun b p1 p2 => keep _ _ (by omega)), fun d hd => (h2.2.2 d hd).kept (fun b p1 p2 => keep _ _ (by omega))⟩

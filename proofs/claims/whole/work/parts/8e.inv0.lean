def A0 : Ab := ((fun _ => none, fun _ _ => 0), (fun _ => none, fun _ _ => 0), ((0 : Int32), (0 : Int64), (1 : Int64), (0 : Int32), fun _ => (0 : Int32)), newD (fun _ => 0))
theorem csh0 {b many room : Nat} {v : Nat → Nat → Int32} (h0 : σ0.1 b 0 = nI room) (h : ∀ r, r < many → σ0.1 (b + 1) r = -1) : CSh σ0 b many room (fun _ => none) v := ⟨h0, fun r hr => h r hr⟩
theorem msh0 {ms mp many room : Nat} {v : Nat → Nat → Int32} (h : ∀ r, r < many → σ0.1 ms r = -1) : MSh σ0 ms mp many room (fun _ => none) v := fun r hr => h r hr
theorem inv0 : Inv σ0 := by
  refine ⟨⟨A0, ?_, ⟨?_, ?_, ?_, ?_⟩, ⟨?_, ?_, ?_, ?_⟩⟩, ?_⟩
  · refine ⟨?_, Nat.zero_le _, fun d hd => absurd hd (Nat.not_lt_zero _), fun k n h => (by cases h), fun _ => ⟨rfl, fun m _ => rfl⟩⟩
    show wfT 0 (fun _ => 0)
    unfold wfT
    simp [sumT]
  · exact csh0 rfl (by decide)
  · exact csh0 rfl (by decide)
  · exact ⟨rfl, rfl, rfl, rfl, by decide⟩
  · refine ⟨⟨rfl, rfl, fun h => absurd h (Nat.lt_irrefl _), by decide, fun i hi => absurd hi (Nat.not_lt_zero _)⟩, ⟨rfl, rfl, fun h => absurd h (Nat.lt_irrefl _), by decide, fun i hi => absurd hi (Nat.not_lt_zero _)⟩, rfl, fun d hd => absurd hd (Nat.not_lt_zero _), csh0 rfl (by decide)⟩
  · exact msh0 (by decide)
  · exact msh0 (by decide)
  · exact ⟨rfl, rfl, rfl, rfl, by decide⟩
  · refine ⟨fun j _ => rfl, fun d hd => absurd hd (Nat.not_lt_zero _), rfl, ?_⟩
    show ∀ k, k < 3 → σ0.1 136 k = -1
    decide
  · exact ⟨rfl, by decide⟩

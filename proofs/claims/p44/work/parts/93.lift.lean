/-! ===== a method of the class, asked of one of the two ===== -/
abbrev Do (Δ : DD2) : DD := (Δ.1, Δ.2.1, Δ.2.2.1, Δ.2.2.2.1, Δ.2.2.2.2.1.1, Δ.2.2.2.2.2.1)
abbrev Dq (Δ : DD2) : DD := (Δ.1, Δ.2.1, Δ.2.2.1, Δ.2.2.2.1, Δ.2.2.2.2.1.2.1, Δ.2.2.2.2.2.1)
section LIFT
variable {d nL : Nat} {y : MethodName} {cc : ByteArray} {ret : Option FieldType} {As : List Value} {rv : Option Value}
theorem lift_o {Δ : DD2} {σ : Mem2} {σ' : Mem} (h : Mt (Do Δ) d y cc nL ret (rf (Do Δ) 0 :: As) σ.1 rv σ') : Mt2 Δ d y cc nL ret (rf2 Δ 0 :: As) σ rv (σ', σ.2) := by
  obtain ⟨l, D, cI, cT, ad, tK⟩ := Δ
  unfold Mt Met at h
  unfold Mt2 Met
  refine MetFree.mono h ?_ (fun _ _ _ _ _ h => h) ?_
  · intro a U ⟨e, hP, hK, hdis, hL, hN⟩
    exact ⟨e, fun k q hk => by obtain ⟨h1, rfl⟩ := wld_some hk; exact hP.2 k _ (wl2_o h1), hK, hdis.1, ⟨hL.1.narrow (fun q h => Or.inl h), hL.2.1.narrow (fun q h => Or.inl h)⟩, hN⟩
  · intro a U o t ⟨_, hP, _, hdis, _⟩ ⟨⟨h1, h2, h3, h4⟩, L, h5, h6⟩
    refine ⟨⟨h1, ⟨hP.1, fun k q hk => ?_⟩, h3, fun q hq hn => h4 q hq (fun z => hn (Or.inl z))⟩, L, h5, fun q hq => Or.inl (h6 q hq)⟩
    rcases Nat.lt_or_ge k nW with c | c
    · rw [wl2_o c] at hk
      exact h2 k q (by rw [wld_get c]; exact hk)
    · have hk0 : (wl2 ad cI cT σ)[k]? = some q := by
        unfold wl2 at hk ⊢
        rw [List.getElem?_append_right (by rw [wld_len]; exact c), wld_len] at hk ⊢
        exact hk
      have g := hP.2 k q hk0
      refine g.kept (h4 _ g.lt (fun ⟨j, j1, j2⟩ => ?_))
      rcases wl2_some hk0 with ⟨a1, _⟩ | ⟨b, b1, _, b2⟩ | ⟨_, b2⟩ | ⟨_, b2⟩
      · omega
      · exact hdis.2.2.1 j b j1 b1 (j2.symm.trans b2)
      · exact (hdis.2.2.2.1 j j1).1 (j2.symm.trans b2)
      · exact (hdis.2.2.2.1 j j1).2.1 (j2.symm.trans b2)
theorem lift_q {Δ : DD2} {σ : Mem2} {σ' : Mem} (h : Mt (Dq Δ) d y cc nL ret (rf (Dq Δ) 0 :: As) σ.2.1 rv σ') : Mt2 Δ d y cc nL ret (rf2 Δ 1 :: As) σ rv (σ.1, σ', σ.2.2) := by
  obtain ⟨l, D, cI, cT, ad, tK⟩ := Δ
  unfold Mt Met at h
  unfold Mt2 Met
  refine MetFree.mono h ?_ (fun _ _ _ _ _ h => h) ?_
  · intro a U ⟨e, hP, hK, hdis, hL, hN⟩
    exact ⟨e, fun k q hk => by obtain ⟨h1, rfl⟩ := wld_some hk; exact hP.2 _ _ (wl2_q h1), hK, hdis.2.1, ⟨hL.1.narrow (fun q h => Or.inr (Or.inl h)), hL.2.1.narrow (fun q h => Or.inr (Or.inl h))⟩, hN⟩
  · intro a U o t ⟨_, hP, _, hdis, _⟩ ⟨⟨h1, h2, h3, h4⟩, L, h5, h6⟩
    refine ⟨⟨h1, ⟨hP.1, fun k q hk => ?_⟩, h3, fun q hq hn => h4 q hq (fun z => hn (Or.inr (Or.inl z)))⟩, L, h5, fun q hq => Or.inr (Or.inl (h6 q hq))⟩
    by_cases c : nW ≤ k ∧ k < nW + nW
    · obtain ⟨j, rfl⟩ : ∃ j, k = nW + j := ⟨k - nW, by omega⟩
      rw [wl2_q (by omega)] at hk
      exact h2 j q (by rw [wld_get (by omega)]; exact hk)
    · have hk0 : (wl2 ad cI cT σ)[k]? = some q := by
        rcases Nat.lt_or_ge k nW with c1 | c1
        · rw [wl2_o c1] at hk ⊢; exact hk
        · obtain ⟨j, rfl⟩ : ∃ j, k = nW + nW + j := ⟨k - (nW + nW), by omega⟩
          rw [wl2_t] at hk ⊢; exact hk
      have g := hP.2 k q hk0
      refine g.kept (h4 _ g.lt (fun ⟨j, j1, j2⟩ => ?_))
      rcases wl2_some hk0 with ⟨a1, b2⟩ | ⟨b, b1, b3, b2⟩ | ⟨_, b2⟩ | ⟨_, b2⟩
      · exact hdis.2.2.1 k j a1 j1 (b2.symm.trans j2)
      · omega
      · exact (hdis.2.2.2.1 j j1).2.2.1 (j2.symm.trans b2)
      · exact (hdis.2.2.2.1 j j1).2.2.2 (j2.symm.trans b2)
end LIFT
/-- a call of one of the two -/
def onI {α : Type} (F : Mem → Option (α × Mem)) (k : Nat) (σ : Mem2) : Option (α × Mem2) := if k = 0 then (F σ.1).map (fun r => (r.1, (r.2, σ.2))) else if k = 1 then (F σ.2.1).map (fun r => (r.1, (σ.1, r.2, σ.2.2))) else none
def onP {α : Type} (F : Mem → Option α) (k : Nat) (σ : Mem2) : Option α := if k = 0 then F σ.1 else if k = 1 then F σ.2.1 else none
section LIFT3
variable {Δ : DD2} {d nL : Nat} {y : MethodName} {cc : ByteArray} {ret : Option FieldType} {As : List Value} {k : Nat} {σ : Mem2}
theorem lift_I {F : Mem → Option (Int32 × Mem)} {q : Int32 × Mem2} (hM : ∀ (Δ : DD) (σ : Mem) (q : Int32 × Mem), F σ = some q → Mt Δ d y cc nL ret (rf Δ 0 :: As) σ (some (.int q.1)) q.2) (h : onI F k σ = some q) : Mt2 Δ d y cc nL ret (rf2 Δ k :: As) σ (some (.int q.1)) q.2 := by
  unfold onI at h
  by_cases k0 : k = 0
  · subst k0
    rw [if_pos rfl] at h
    obtain ⟨z, h1, rfl⟩ := mapd h
    exact lift_o (hM _ _ _ h1)
  · rw [if_neg k0] at h
    by_cases k1 : k = 1
    · subst k1
      rw [if_pos rfl] at h
      obtain ⟨z, h1, rfl⟩ := mapd h
      exact lift_q (hM _ _ _ h1)
    · rw [if_neg k1] at h; cases h
theorem lift_P {F : Mem → Option Int32} {q : Int32} (hM : ∀ (Δ : DD) (σ : Mem) (q : Int32), F σ = some q → Mt Δ d y cc nL ret (rf Δ 0 :: As) σ (some (.int q)) σ) (h : onP F k σ = some q) : Mt2 Δ d y cc nL ret (rf2 Δ k :: As) σ (some (.int q)) σ := by
  unfold onP at h
  by_cases k0 : k = 0
  · subst k0
    rw [if_pos rfl] at h
    exact lift_o (hM _ _ _ h)
  · rw [if_neg k0] at h
    by_cases k1 : k = 1
    · subst k1
      rw [if_pos rfl] at h
      exact lift_q (hM _ _ _ h)
    · rw [if_neg k1] at h; cases h
theorem lift_L {F : Mem → Option Int64} {q : Int64} (hM : ∀ (Δ : DD) (σ : Mem) (q : Int64), F σ = some q → Mt Δ d y cc nL ret (rf Δ 0 :: As) σ (some (.long q)) σ) (h : onP F k σ = some q) : Mt2 Δ d y cc nL ret (rf2 Δ k :: As) σ (some (.long q)) σ := by
  unfold onP at h
  by_cases k0 : k = 0
  · subst k0
    rw [if_pos rfl] at h
    exact lift_o (hM _ _ _ h)
  · rw [if_neg k0] at h
    by_cases k1 : k = 1
    · subst k1
      rw [if_pos rfl] at h
      exact lift_q (hM _ _ _ h)
    · rw [if_neg k1] at h; cases h
end LIFT3

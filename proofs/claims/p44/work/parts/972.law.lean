theorem ex_D {s : State} : ∀ cl : List vw_C, (∀ q ∈ cl, ∃ (cC : ClassId) (iS : Nat → Nat), u_Kn s q.1 q.2.1 q.2.2 cC iS) → ∃ D : va_G, ∀ (c : Nat) (q : vw_C), cl[c]? = some q → u_Kn s q.1 q.2.1 q.2.2 (D.1 c) (D.2 c)
  | [], _ => ⟨(fun _ => 0, fun _ _ => 0), fun c q h => by simp at h⟩
  | q0 :: t, h => by
    obtain ⟨cC, iS, h0⟩ := h q0 List.mem_cons_self
    obtain ⟨D, hD⟩ := ex_D t (fun q hq => h q (List.mem_cons_of_mem _ hq))
    refine ⟨(fun c => match c with | 0 => cC | c + 1 => D.1 c, fun c => match c with | 0 => iS | c + 1 => D.2 c), fun c q hq => ?_⟩
    cases c with
    | zero =>
      have e : q0 = q := by simpa using hq
      subst e
      exact h0
    | succ c => exact hD c q (by simpa using hq)
theorem law_D {args : Array Value} {s : State} (hts : ∀ w ∈ lw_tbl, w.before args s = true) : ∃ D : va_G, ∀ (c : Nat) (q : vw_C), cls9[c]? = some q → u_Kn s q.1 q.2.1 q.2.2 (D.1 c) (D.2 c) := by
  have hg : ∀ w ∈ lw_good, w.before args s = true := fun w hw => hts w (List.mem_filter.mp hw).1
  refine ex_D cls9 ?_
  refine List.forall_mem_cons.mpr ⟨u_known hg kw_X0.2.1 (hts (Cond.instantiable RX0 6) (List.mem_of_getElem? (i := 193) (by decide +kernel))), ?_⟩
  refine List.forall_mem_cons.mpr ⟨u_known hg kw_X1.2.1 (hts (Cond.instantiable RX1 1) (List.mem_of_getElem? (i := 219) (by decide +kernel))), ?_⟩
  refine List.forall_mem_cons.mpr ⟨u_known hg kw_X2.2.1 (hts (Cond.instantiable RX2 1) (List.mem_of_getElem? (i := 148) (by decide +kernel))), ?_⟩
  refine List.forall_mem_cons.mpr ⟨u_known hg kw_X3.2.1 (hts (Cond.instantiable RX3 3) (List.mem_of_getElem? (i := 176) (by decide +kernel))), ?_⟩
  refine List.forall_mem_cons.mpr ⟨u_known hg kw_X4.2.1 (hts (Cond.instantiable RX4 4) (List.mem_of_getElem? (i := 120) (by decide +kernel))), ?_⟩
  refine List.forall_mem_cons.mpr ⟨u_known hg kw_X5.2.1 (hts (Cond.instantiable RX5 4) (List.mem_of_getElem? (i := 142) (by decide +kernel))), ?_⟩
  refine List.forall_mem_cons.mpr ⟨u_known hg kw_X6.2.1 (hts (Cond.instantiable RX6 3) (List.mem_of_getElem? (i := 51) (by decide +kernel))), ?_⟩
  refine List.forall_mem_cons.mpr ⟨u_known hg kw_X7.2.1 (hts (Cond.instantiable RX7 10) (List.mem_of_getElem? (i := 75) (by decide +kernel))), ?_⟩
  refine List.forall_mem_cons.mpr ⟨u_known hg kw_X8.2.1 (hts (Cond.instantiable RX8 18) (List.mem_of_getElem? (i := 43) (by decide +kernel))), ?_⟩
  exact fun q hq => absurd hq (by simp)
theorem law_K {args : Array Value} {s : State} (hts : ∀ w ∈ lw_tbl, w.before args s = true) : ∃ (D : va_G) (cI cT : ClassId), va_K D cls9 (tysA cI cT) s := by
  obtain ⟨D, hD⟩ := law_D hts
  obtain ⟨c, k, comp, f1, f2, f3⟩ := Cond.arrayClass_spec (hts (Cond.arrayClass .int) (List.mem_of_getElem? (i := 73) (by decide +kernel)))
  obtain ⟨comp2, c2, k2, g1, g2, g3, g4, g5⟩ := Cond.arrayOver_spec (hts (Cond.arrayOver (.object "BolsterBeds$Town")) (List.mem_of_getElem? (i := 155) (by decide +kernel)))
  refine ⟨D, c, c2, hD, fun j q hj => ?_⟩
  cases j with
  | zero =>
    cases hj
    exact ⟨fun n z => ⟨(fun k h => by cases h), k, f2, comp, f3⟩, f1⟩
  | succ j =>
    cases j with
    | zero =>
      cases hj
      exact ⟨fun n z => ⟨(fun k h => by cases h), k2, g3, comp2, g4⟩, k2, comp2, g3, g4, g1, g5⟩
    | succ j => exact absurd hj (by simp)
theorem law_N {args : Array Value} {s : State} (hts : ∀ w ∈ lw_tbl, w.before args s = true) : NW s := ⟨fun w hw => va_Nw.of (nest_on hw) (hts w (List.mem_filter.mp hw).1), va_AO.of (hts (Cond.arrayOver (.object "BolsterBeds$Town")) (List.mem_of_getElem? (i := 155) (by decide +kernel)))⟩
theorem law_KL {args : Array Value} {s : State} (hts : ∀ w ∈ lw_tbl, w.before args s = true) (hgv : (Jvm.Cond.and given_1 narrow_1).before args s = true) : ∃ tK : Nat, va_Z RX8 "KIND_LETTERS" "[I" (.ref tK) (fun q => s.heap.size ≤ q) s s.heap ∧ va_T .int tK 6 (fun j => .int (klv j)) (fun q => s.heap.size ≤ q) s s.heap := by
  have hs := flat_of_before _ hgv
  have harr : (Cond.arrayOf (.static "BolsterBeds" "KIND_LETTERS" "[I") .int).before args s = true := hs _ (by decide +kernel)
  have hlen := va_eqt (hs (Cond.eq (.length (.static "BolsterBeds" "KIND_LETTERS" "[I")) (.int 6)) (by decide +kernel))
  have e0 := va_eqt (hs (Cond.eq (.elem (.static "BolsterBeds" "KIND_LETTERS" "[I") (.int 0)) (.int 98)) (by decide +kernel))
  have e1 := va_eqt (hs (Cond.eq (.elem (.static "BolsterBeds" "KIND_LETTERS" "[I") (.int 1)) (.int 115)) (by decide +kernel))
  have e2 := va_eqt (hs (Cond.eq (.elem (.static "BolsterBeds" "KIND_LETTERS" "[I") (.int 2)) (.int 113)) (by decide +kernel))
  have e3 := va_eqt (hs (Cond.eq (.elem (.static "BolsterBeds" "KIND_LETTERS" "[I") (.int 3)) (.int 99)) (by decide +kernel))
  have e4 := va_eqt (hs (Cond.eq (.elem (.static "BolsterBeds" "KIND_LETTERS" "[I") (.int 4)) (.int 116)) (by decide +kernel))
  have e5 := va_eqt (hs (Cond.eq (.elem (.static "BolsterBeds" "KIND_LETTERS" "[I") (.int 5)) (.int 119)) (by decide +kernel))
  have hA : ∀ a : Nat, a < s.heap.size → ¬ (fun q : Nat => s.heap.size ≤ q) a := fun a h1 h2 => absurd h1 (Nat.not_lt.mpr h2)
  obtain ⟨t, ht, hT⟩ := va_Tof (N := 6) (f := fun j => .int (klv j)) (A := fun q => s.heap.size ≤ q) (by decide) harr hlen (fun j hj => by
    have h6 : j = 0 ∨ j = 1 ∨ j = 2 ∨ j = 3 ∨ j = 4 ∨ j = 5 := by omega
    rcases h6 with h | h | h | h | h | h
    · subst h; exact e0
    · subst h; exact e1
    · subst h; exact e2
    · subst h; exact e3
    · subst h; exact e4
    · subst h; exact e5) hA
  have hZ := va_Zof (A := fun q => s.heap.size ≤ q) (hts (Cond.laysStatic RX8 "KIND_LETTERS" "[I") (List.mem_of_getElem? (i := 603) (by decide +kernel))) (hts (Cond.initialized RX8) (List.mem_of_getElem? (i := 29) (by decide +kernel))) ht hA
  exact ⟨t, hZ, hT⟩

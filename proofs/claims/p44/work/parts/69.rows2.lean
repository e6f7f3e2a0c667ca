theorem n10 : ¬ (-1 : Int32) = 0 := by decide
theorem n30 : ¬ (-3 : Int32) = 0 := by decide
section REF
variable {b many room r n : Nat} {σ σ' : Mem} {x : Int32}
theorem eta2 {α : Type} (o : Option (α × Mem)) : (o.bind fun q => some (q.1, q.2)) = o := by cases o <;> rfl
theorem Rm_no (h : Sf b many room) (hx : x < 0 ∨ nI many ≤ x) : F_X8_refusalOfMissing 0 b x σ = some (-1, σ) := by
  unfold F_X8_refusalOfMissing
  rw [h.2.2.2.1, ob_some, S_numno h hx, ob_some, if_pos rfl]
theorem Rm_none (h : Sf b many room) (hr : r < many) (hs : σ.1 (b + 1) r = -1) : F_X8_refusalOfMissing 0 b (nI r) σ = F_X8_refuse 0 (nI 1) σ := by
  unfold F_X8_refusalOfMissing
  rw [h.2.2.2.1, ob_some, S_num h hr, ob_some, if_neg (by decide), ob_some, S_stands h hr, ob_some, hs, if_pos (m1_lt (n := 0)), if_pos rfl]
  exact eta2 _
theorem Rm_some (h : Sf b many room) (hr : r < many) (hn : n ≤ room) (hs : σ.1 (b + 1) r = nI n) : F_X8_refusalOfMissing 0 b (nI r) σ = some (0, σ) := by
  have h9 := h.2.2.2.2.2.2.2.2.1
  unfold F_X8_refusalOfMissing
  rw [h.2.2.2.1, ob_some, S_num h hr, ob_some, if_neg (by decide), ob_some, S_stands h hr, ob_some, hs, if_neg (nI_pos (by omega)), if_neg (by decide)]
theorem Rp_no {y : Int32} (h : Sf b many room) (hx : x < 0 ∨ nI many ≤ x) : F_X8_refusalOfPlace 0 b x y σ = some (-1, σ) := by
  unfold F_X8_refusalOfPlace
  rw [Rm_no h hx, ob_some, if_neg n10]
theorem Rp_none {y : Int32} (h : Sf b many room) (hr : r < many) (hs : σ.1 (b + 1) r = -1) (e : F_X8_refuse 0 (nI 1) σ = some (-3, σ')) : F_X8_refusalOfPlace 0 b (nI r) y σ = some (-3, σ') := by
  unfold F_X8_refusalOfPlace
  rw [Rm_none h hr hs, e, ob_some, if_neg n30]
theorem Rp_out {y : Int32} (h : Sf b many room) (hr : r < many) (hn : n ≤ room) (hs : σ.1 (b + 1) r = nI n) (hy : y < 0 ∨ nI n ≤ y) (e : F_X8_refuse 0 (nI 2) σ = some (-3, σ')) : F_X8_refusalOfPlace 0 b (nI r) y σ = some (-3, σ') := by
  have e' : F_X8_refuse 0 (2 : Int32) σ = some (-3, σ') := e
  unfold F_X8_refusalOfPlace
  rw [Rm_some h hr hn hs, ob_some, if_pos rfl, h.2.2.2.1, ob_some, S_holds1 h hr hs hn, ob_some, if_pos hy, if_pos rfl, e', ob_some]
theorem Rp_in {i : Nat} (h : Sf b many room) (hr : r < many) (hn : n ≤ room) (hs : σ.1 (b + 1) r = nI n) (hi : i < n) : F_X8_refusalOfPlace 0 b (nI r) (nI i) σ = some (0, σ) := by
  have h9 := h.2.2.2.2.2.2.2.2.1
  unfold F_X8_refusalOfPlace
  rw [Rm_some h hr hn hs, ob_some, if_pos rfl, h.2.2.2.1, ob_some, S_holds1 h hr hs hn, ob_some, if_neg (show ¬ (nI i < 0 ∨ nI n ≤ nI i) from fun q => q.elim (nI_pos (by omega)) (nI_ge hi (by omega))), if_neg (by decide)]
end REF
/-- a shelf's row is missing -/
theorem CSh.gone {σ : Mem} {b many room r : Nat} {rs : Nat → Option Nat} {rv : Nat → Nat → Int32} {f : Nat → Int32} (h : CSh σ b many room rs rv) : CSh (setI σ (b + 1) r (-1)) b many room (fun x => if x = r then none else rs x) (fun x => if x = r then f else rv x) := by
  refine ⟨by rw [setI_1, if_neg (by omega)]; exact h.1, fun x hx => ?_⟩
  by_cases q : x = r
  · subst q
    simp only [if_true]
    rw [setI_1, if_pos ⟨rfl, rfl⟩]
  · simp only [if_neg q]
    have h3 := h.2 x hx
    cases e : rs x with
    | none => rw [e] at h3; exact (by rw [setI_1, if_neg (by omega)]; exact h3)
    | some m =>
      rw [e] at h3
      exact ⟨h3.1, by rw [setI_1, if_neg (by omega)]; exact h3.2.1, fun i hi => by rw [setI_1, if_neg (by omega)]; exact h3.2.2 i hi⟩
theorem MSh.gone {σ : Mem} {ms mp many room r : Nat} {rs : Nat → Option Nat} {rv : Nat → Nat → Int32} {f : Nat → Int32} (hne : ms ≠ mp) (h : MSh σ ms mp many room rs rv) : MSh (setI σ ms r (-1)) ms mp many room (fun x => if x = r then none else rs x) (fun x => if x = r then f else rv x) := by
  intro x hx
  by_cases q : x = r
  · subst q
    simp only [if_true]
    rw [setI_1, if_pos ⟨rfl, rfl⟩]
  · simp only [if_neg q]
    have h3 := h x hx
    cases e : rs x with
    | none => rw [e] at h3; exact (by rw [setI_1, if_neg (by omega)]; exact h3)
    | some m =>
      rw [e] at h3
      exact ⟨h3.1, by rw [setI_1, if_neg (by omega)]; exact h3.2.1, fun i hi => by rw [setI_1, if_neg (by omega)]; exact h3.2.2 i hi⟩
/-- one place of a row is another number -/
theorem CSh.put {σ : Mem} {b many room r n i : Nat} {v : Int32} {rs : Nat → Option Nat} {rv : Nat → Nat → Int32} (h : CSh σ b many room rs rv) (hs : rs r = some n) (hi : i < n) (hn : n ≤ room) : CSh (setI σ (b + 2) (r * room + i) v) b many room (fun x => if x = r then some n else rs x) (fun x => if x = r then (fun j => if j = i then v else rv r j) else rv x) := by
  refine ⟨by rw [setI_1, if_neg (by omega)]; exact h.1, fun x hx => ?_⟩
  have h3 := h.2 x hx
  by_cases q : x = r
  · subst q
    simp only [if_true]
    rw [hs] at h3
    refine ⟨h3.1, by rw [setI_1, if_neg (by omega)]; exact h3.2.1, fun j hj => ?_⟩
    rw [setI_1]
    by_cases z : j = i
    · subst z; rw [if_pos ⟨rfl, rfl⟩, if_pos rfl]
    · rw [if_neg (by omega), if_neg z]; exact h3.2.2 j hj
  · simp only [if_neg q]
    cases e : rs x with
    | none => rw [e] at h3; exact (by rw [setI_1, if_neg (by omega)]; exact h3)
    | some m =>
      rw [e] at h3
      refine ⟨h3.1, by rw [setI_1, if_neg (by omega)]; exact h3.2.1, fun j hj => ?_⟩
      rw [setI_1, if_neg]
      · exact h3.2.2 j hj
      · intro ⟨_, z⟩
        have h4 := h3.1
        rcases Nat.lt_or_gt_of_ne q with y | y
        · have := Nat.mul_le_mul_right room (show x + 1 ≤ r from y)
          rw [Nat.succ_mul] at this
          omega
        · have := Nat.mul_le_mul_right room (show r + 1 ≤ x from y)
          rw [Nat.succ_mul] at this
          omega
theorem MSh.put {σ : Mem} {ms mp many room r n i : Nat} {v : Int32} {rs : Nat → Option Nat} {rv : Nat → Nat → Int32} (hne : ms ≠ mp) (h : MSh σ ms mp many room rs rv) (hs : rs r = some n) (hi : i < n) (hn : n ≤ room) : MSh (setI σ mp (r * room + i) v) ms mp many room (fun x => if x = r then some n else rs x) (fun x => if x = r then (fun j => if j = i then v else rv r j) else rv x) := by
  intro x hx
  have h3 := h x hx
  by_cases q : x = r
  · subst q
    simp only [if_true]
    rw [hs] at h3
    refine ⟨h3.1, by rw [setI_1, if_neg (by omega)]; exact h3.2.1, fun j hj => ?_⟩
    rw [setI_1]
    by_cases z : j = i
    · subst z; rw [if_pos ⟨rfl, rfl⟩, if_pos rfl]
    · rw [if_neg (by omega), if_neg z]; exact h3.2.2 j hj
  · simp only [if_neg q]
    cases e : rs x with
    | none => rw [e] at h3; exact (by rw [setI_1, if_neg (by omega)]; exact h3)
    | some m =>
      rw [e] at h3
      refine ⟨h3.1, by rw [setI_1, if_neg (by omega)]; exact h3.2.1, fun j hj => ?_⟩
      rw [setI_1, if_neg]
      · exact h3.2.2 j hj
      · intro ⟨_, z⟩
        have h4 := h3.1
        rcases Nat.lt_or_gt_of_ne q with y | y
        · have := Nat.mul_le_mul_right room (show x + 1 ≤ r from y)
          rw [Nat.succ_mul] at this
          omega
        · have := Nat.mul_le_mul_right room (show r + 1 ≤ x from y)
          rw [Nat.succ_mul] at this
          omega
theorem CSh.row {σ : Mem} {b many room r n : Nat} {rs : Nat → Option Nat} {rv : Nat → Nat → Int32} (h : CSh σ b many room rs rv) (hr : r < many) (hs : rs r = some n) : n ≤ room ∧ σ.1 (b + 1) r = nI n ∧ ∀ i, i < n → σ.1 (b + 2) (r * room + i) = rv r i := by
  have h3 := h.2 r hr
  rw [hs] at h3
  exact h3
theorem CSh.no {σ : Mem} {b many room r : Nat} {rs : Nat → Option Nat} {rv : Nat → Nat → Int32} (h : CSh σ b many room rs rv) (hr : r < many) (hs : rs r = none) : σ.1 (b + 1) r = -1 := by
  have h3 := h.2 r hr
  rw [hs] at h3
  exact h3
theorem MSh.row {σ : Mem} {ms mp many room r n : Nat} {rs : Nat → Option Nat} {rv : Nat → Nat → Int32} (h : MSh σ ms mp many room rs rv) (hr : r < many) (hs : rs r = some n) : n ≤ room ∧ σ.1 ms r = nI n ∧ ∀ i, i < n → σ.1 mp (r * room + i) = rv r i := by
  have h3 := h r hr
  rw [hs] at h3
  exact h3
theorem MSh.no {σ : Mem} {ms mp many room r : Nat} {rs : Nat → Option Nat} {rv : Nat → Nat → Int32} (h : MSh σ ms mp many room rs rv) (hr : r < many) (hs : rs r = none) : σ.1 ms r = -1 := by
  have h3 := h r hr
  rw [hs] at h3
  exact h3
theorem nm1 : ¬ (0 : Int32) ≤ -1 := by decide
theorem sim_tear (a : Int32) : Sim (F_X8_tear 0 a) (F_X9_tear 134 a) := by
  refine sim_of fun A hA => ?_
  rcases (show (a < 0 ∨ nI 6 ≤ a) ∨ ∃ r, r < 6 ∧ a = nI r from (pk_ix a (n := 6) (by decide)).elim (fun h => Or.inl (Or.inl h)) (fun h => h.elim (fun h => Or.inl (Or.inr h)) Or.inr)) with ha | ⟨r, hr, rfl⟩
  · refine ⟨-1, A, hA, C_same fun σ _ => ?_, M_same fun σ _ => ?_⟩
    · unfold F_X8_tear
      rw [gR_0_0, ob_some, Rm_no sf_1 ha, ob_some, if_neg n10]
    · unfold F_X9_tear
      rw [row_no ha, ob_some, if_pos rfl]
  · cases hs : A.1.1 r with
    | none =>
      refine ⟨-3, foundA A 1, hA, fun σ h => ?_, fun σ h => ?_⟩
      · obtain ⟨σ', e, h1, h2⟩ := C_refuse (A := A) (f := 1) (by decide) σ h
        refine ⟨σ', ?_, h1, h2⟩
        unfold F_X8_tear
        rw [gR_0_0, ob_some, Rm_none sf_1 hr (h.1.no hr hs), e, ob_some, if_neg n30]
      · obtain ⟨σ', e, h1, h2⟩ := M_found (A := A) (f := 1) (by decide) σ h
        have e' : F_X9_found 134 (1 : Int32) σ = some (-3, σ') := e
        refine ⟨σ', ?_, h1, h2⟩
        unfold F_X9_tear
        rw [row_yes hr, ob_some, if_neg (by decide), gR_134_4, ob_some, aI_eq sh_138 hr (by decide), ob_some, h.1.no hr hs, if_neg nm1, e', ob_some]
    | some n =>
      refine ⟨1, rowA A r none (fun _ => 0), hA, fun σ h => ?_, fun σ h => ?_⟩
      · obtain ⟨hn, h1, h2⟩ := h.1.row hr hs
        refine ⟨setI σ 2 r (-1), ?_, ⟨h.1.gone, h.2.1.kept ?_, h.2.2.1.kept ?_ ?_ (fun f => ?_) (fun j => rfl), h.2.2.2.kept ?_ ?_⟩, FC.set (by decide)⟩
        · unfold F_X8_tear
          rw [gR_0_0, ob_some, Rm_some sf_1 hr hn h1, ob_some, if_pos rfl, ob_some, ck_1, ob_some, S_remove sf_1 hr, ob_some]
        · intro a j _ _; rw [setI_1, if_neg (by omega)]
        · rw [setI_1, if_neg (by omega)]
        · rw [setI_1, if_neg (by omega)]
        · rw [setI_1, if_neg (by omega)]
        · rw [setI_1, if_neg (by omega)]
        · intro a j q; rw [setI_1, if_neg (by omega)]
      · obtain ⟨hn, h1, h2⟩ := h.1.row hr hs
        refine ⟨setI σ 138 r (-1), ?_, ⟨h.1.gone (by decide), h.2.1.kept ?_, h.2.2.1.kept ?_ ?_ (fun f => ?_) rfl rfl, h.2.2.2.kept ?_ ?_⟩, FM.set (by decide)⟩
        · unfold F_X9_tear
          rw [row_yes hr, ob_some, if_neg (by decide), gR_134_4, ob_some, aI_eq sh_138 hr (by decide), ob_some, h1, if_pos (nI_pos' (by omega)), ob_some, sI_eq sh_138 hr (by decide), ob_some]
        · intro a j q; rw [setI_1, if_neg (by omega)]
        · rw [setI_1, if_neg (by omega)]
        · rw [setI_1, if_neg (by omega)]
        · rw [setI_1, if_neg (by omega)]
        · rw [setI_1, if_neg (by omega)]
        · intro a j q; rw [setI_1, if_neg (by omega)]

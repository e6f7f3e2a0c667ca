/-! ===== what both sides' cells mean: rows, texts, what is told, towns and deeds ===== -/
def thinT (T : Tn) (i : Nat) : Tn := updT T (21 + i) (T (21 + i) - 1)
def applyD (T : Tn) (c : Nat) : Tn := if c / 100 = 1 then inspT T (c / 10 % 10) else if c / 100 = 2 then thinT T (c / 10 % 10) else if c / 100 = 3 then swapT T (c / 10 % 10) (c % 10) else passT T
def runD (S : Tn) (ds : Nat → Nat) : Nat → Tn
  | 0 => S
  | n + 1 => applyD (runD S ds n) (ds n)
/-- a deed's number is one of these beds' -/
def okD (nb c : Nat) : Prop := (c = 0 ∧ 0 < nb) ∨ (∃ i, i < nb ∧ (c = 100 + 10 * i ∨ c = 200 + 10 * i)) ∨ ∃ i j, i < nb ∧ j < nb ∧ i ≠ j ∧ c = 300 + 10 * i + j
def CSh (σ : Mem) (b many room : Nat) (rs : Nat → Option Nat) (rv : Nat → Nat → Int32) : Prop := σ.1 b 0 = nI room ∧ ∀ r, r < many → match rs r with
  | none => σ.1 (b + 1) r = -1
  | some n => n ≤ room ∧ σ.1 (b + 1) r = nI n ∧ ∀ i, i < n → σ.1 (b + 2) (r * room + i) = rv r i
def MSh (σ : Mem) (ms mp many room : Nat) (rs : Nat → Option Nat) (rv : Nat → Nat → Int32) : Prop := ∀ r, r < many → match rs r with
  | none => σ.1 ms r = -1
  | some n => n ≤ room ∧ σ.1 ms r = nI n ∧ ∀ i, i < n → σ.1 mp (r * room + i) = rv r i
abbrev To : Type := Int32 × Int64 × Int64 × Int32 × (Nat → Int32)
def CTo (σ : Mem) (t : To) : Prop := σ.1 0 13 = t.1 ∧ σ.2 0 14 = t.2.1 ∧ σ.2 0 15 = t.2.2.1 ∧ σ.1 0 16 = t.2.2.2.1 ∧ ∀ f, f < 6 → σ.1 133 f = t.2.2.2.2 f
def MTo (σ : Mem) (t : To) : Prop := σ.1 134 10 = t.1 ∧ σ.2 134 11 = t.2.1 ∧ σ.2 134 12 = t.2.2.1 ∧ σ.1 134 8 = t.2.2.2.1 ∧ ∀ f, f < 6 → σ.1 142 f = t.2.2.2.2 f
/-- a town as it was read, deeds, kept deeds -/
abbrev De : Type := Tn × Nat × (Nat → Nat) × (Nat → Option Nat) × (Nat → Nat → Nat)
def okDe (tb : Prop) (D : De) : Prop := wfT 0 D.1 ∧ D.2.1 ≤ 40 ∧ (∀ d, d < D.2.1 → okD (D.1 0) (D.2.2.1 d)) ∧ (∀ k n, D.2.2.2.1 k = some n → n ≤ 40 ∧ 0 < D.1 0 ∧ ∀ d, d < n → okD (D.1 0) (D.2.2.2.2 k d)) ∧ (D.1 0 = 0 → D.2.1 = 0 ∧ (∀ m, m < 4 → D.1 (39 + m) = 0) ∧ ¬ tb)
def CDe (σ : Mem) (D : De) : Prop := CT σ 10 D.1 ∧ CT σ 18 (runD D.1 D.2.2.1 D.2.1) ∧ σ.1 0 7 = nI D.2.1 ∧ (∀ d, d < D.2.1 → σ.1 34 d = nI (D.2.2.1 d)) ∧ CSh σ 7 3 40 D.2.2.2.1 (fun k d => nI (D.2.2.2.2 k d))
def MDe (σ : Mem) (D : De) : Prop := MT σ 0 (runD D.1 D.2.2.1 D.2.1) ∧ (∀ d, d < D.2.1 → MT σ (44 * (1 + d)) (runD D.1 D.2.2.1 d)) ∧ σ.1 134 1 = nI D.2.1 ∧ ∀ k, k < 3 → match D.2.2.2.1 k with
  | none => σ.1 136 k = -1
  | some n => σ.1 136 k = nI n ∧ MT σ (1804 * (1 + k)) (runD D.1 (D.2.2.2.2 k) n) ∧ ∀ d, d < n → MT σ (1804 * (1 + k) + 44 * (1 + d)) (runD D.1 (D.2.2.2.2 k) d)
/-- the abstract state: rows, texts, told, deeds -/
abbrev Ab : Type := ((Nat → Option Nat) × (Nat → Nat → Int32)) × ((Nat → Option Nat) × (Nat → Nat → Int32)) × To × De
def RC (A : Ab) (σ : Mem) : Prop := CSh σ 1 6 40 A.1.1 A.1.2 ∧ CSh σ 4 4 60 A.2.1.1 A.2.1.2 ∧ CTo σ A.2.2.1 ∧ CDe σ A.2.2.2
def RM (A : Ab) (σ : Mem) : Prop := MSh σ 138 137 6 40 A.1.1 A.1.2 ∧ MSh σ 140 139 4 60 A.2.1.1 A.2.1.2 ∧ MTo σ A.2.2.1 ∧ MDe σ A.2.2.2
/-- the reader's draft: no night, nothing lying, nothing found -/
def Dr (σ : Mem) : Prop := σ.1 36 9 = nI 0 ∧ ∀ j, j < 6 → σ.1 42 j = nI 0 ∧ σ.1 43 j = nI 0
def Inv (σ : Mem) : Prop := (∃ A : Ab, okDe False A.2.2.2 ∧ RC A σ ∧ RM A σ) ∧ Dr σ
/-- the class leaves the reference's cells, the reference the class's -/
def FC (σ σ' : Mem) : Prop := (∀ a b, (134 ≤ a ∨ (a = 36 ∧ b = 9) ∨ a = 42 ∨ a = 43) → σ'.1 a b = σ.1 a b) ∧ ∀ a b, 134 ≤ a → σ'.2 a b = σ.2 a b
def FM (σ σ' : Mem) : Prop := (∀ a b, a < 134 → σ'.1 a b = σ.1 a b) ∧ ∀ a b, a < 134 → σ'.2 a b = σ.2 a b
theorem FC.rf {σ : Mem} : FC σ σ := ⟨fun _ _ _ => rfl, fun _ _ _ => rfl⟩
theorem FM.rf {σ : Mem} : FM σ σ := ⟨fun _ _ _ => rfl, fun _ _ _ => rfl⟩
theorem FC.tr {σ σ' σ'' : Mem} (h : FC σ σ') (h2 : FC σ' σ'') : FC σ σ'' := ⟨fun a b q => (h2.1 a b q).trans (h.1 a b q), fun a b q => (h2.2 a b q).trans (h.2 a b q)⟩
theorem FM.tr {σ σ' σ'' : Mem} (h : FM σ σ') (h2 : FM σ' σ'') : FM σ σ'' := ⟨fun a b q => (h2.1 a b q).trans (h.1 a b q), fun a b q => (h2.2 a b q).trans (h.2 a b q)⟩
theorem FC.set {σ : Mem} {k j : Nat} {v : Int32} (h : k < 134) (h2 : k < 36 ∨ 43 < k := by decide) : FC σ (setI σ k j v) := ⟨fun a b q => by rw [setI_1, if_neg (by omega)], fun _ _ _ => rfl⟩
theorem FM.set {σ : Mem} {k j : Nat} {v : Int32} (h : 134 ≤ k) : FM σ (setI σ k j v) := ⟨fun a b q => by rw [setI_1, if_neg (by omega)], fun _ _ _ => rfl⟩
/-! each part rests on its own cells -/
theorem CSh.kept {σ σ' : Mem} {b many room : Nat} {rs : Nat → Option Nat} {rv : Nat → Nat → Int32} (h : CSh σ b many room rs rv) (ho : ∀ a j, b ≤ a → a ≤ b + 2 → σ'.1 a j = σ.1 a j) : CSh σ' b many room rs rv := by
  refine ⟨(ho _ _ (Nat.le_refl _) (by omega)).trans h.1, fun r hr => ?_⟩
  have h2 := h.2 r hr
  cases e : rs r with
  | none => rw [e] at h2; exact (ho _ _ (by omega) (by omega)).trans h2
  | some n =>
    rw [e] at h2
    exact ⟨h2.1, (ho _ _ (by omega) (by omega)).trans h2.2.1, fun i hi => (ho _ _ (by omega) (by omega)).trans (h2.2.2 i hi)⟩
theorem MSh.kept {σ σ' : Mem} {ms mp many room : Nat} {rs : Nat → Option Nat} {rv : Nat → Nat → Int32} (h : MSh σ ms mp many room rs rv) (ho : ∀ a j, a = ms ∨ a = mp → σ'.1 a j = σ.1 a j) : MSh σ' ms mp many room rs rv := by
  intro r hr
  have h2 := h r hr
  cases e : rs r with
  | none => rw [e] at h2; exact (ho _ _ (Or.inl rfl)).trans h2
  | some n =>
    rw [e] at h2
    exact ⟨h2.1, (ho _ _ (Or.inl rfl)).trans h2.2.1, fun i hi => (ho _ _ (Or.inr rfl)).trans (h2.2.2 i hi)⟩
theorem CTo.kept {σ σ' : Mem} {t : To} (h : CTo σ t) (h1 : σ'.1 0 13 = σ.1 0 13) (h2 : σ'.1 0 16 = σ.1 0 16) (h3 : ∀ f, σ'.1 133 f = σ.1 133 f) (h4 : ∀ j, σ'.2 0 j = σ.2 0 j) : CTo σ' t := ⟨h1.trans h.1, (h4 _).trans h.2.1, (h4 _).trans h.2.2.1, h2.trans h.2.2.2.1, fun f hf => (h3 f).trans (h.2.2.2.2 f hf)⟩
theorem MTo.kept {σ σ' : Mem} {t : To} (h : MTo σ t) (h1 : σ'.1 134 10 = σ.1 134 10) (h2 : σ'.1 134 8 = σ.1 134 8) (h3 : ∀ f, σ'.1 142 f = σ.1 142 f) (h4 : σ'.2 134 11 = σ.2 134 11) (h5 : σ'.2 134 12 = σ.2 134 12) : MTo σ' t := ⟨h1.trans h.1, h4.trans h.2.1, h5.trans h.2.2.1, h2.trans h.2.2.2.1, fun f hf => (h3 f).trans (h.2.2.2.2 f hf)⟩
theorem CDe.kept {σ σ' : Mem} {D : De} (h : CDe σ D) (h1 : σ'.1 0 7 = σ.1 0 7) (ho : ∀ a j, (7 ≤ a ∧ a ≤ 25) ∨ a = 34 → σ'.1 a j = σ.1 a j) : CDe σ' D :=
  ⟨h.1.kept (fun a b _ _ => ho a b (by omega)), h.2.1.kept (fun a b _ _ => ho a b (by omega)), h1.trans h.2.2.1, fun d hd => (ho _ _ (Or.inr rfl)).trans (h.2.2.2.1 d hd), h.2.2.2.2.kept (fun a b _ _ => ho a b (by omega))⟩
theorem MDe.kept {σ σ' : Mem} {D : De} (h : MDe σ D) (h1 : σ'.1 134 1 = σ.1 134 1) (ho : ∀ a j, a = 135 ∨ a = 136 → σ'.1 a j = σ.1 a j) : MDe σ' D := by
  refine ⟨h.1.kept (fun b _ _ => ho _ b (Or.inl rfl)), fun d hd => (h.2.1 d hd).kept (fun b _ _ => ho _ b (Or.inl rfl)), h1.trans h.2.2.1, fun k hk => ?_⟩
  have h2 := h.2.2.2 k hk
  cases e : D.2.2.2.1 k with
  | none => rw [e] at h2; exact (ho _ _ (Or.inr rfl)).trans h2
  | some n =>
    rw [e] at h2
    exact ⟨(ho _ _ (Or.inr rfl)).trans h2.1, h2.2.1.kept (fun b _ _ => ho _ b (Or.inl rfl)), fun d hd => (h2.2.2 d hd).kept (fun b _ _ => ho _ b (Or.inl rfl))⟩
theorem RC.kept {A : Ab} {σ σ' : Mem} (h : RC A σ) (f : FM σ σ') : RC A σ' := ⟨h.1.kept (fun a j _ _ => f.1 a j (by omega)), h.2.1.kept (fun a j _ _ => f.1 a j (by omega)), h.2.2.1.kept (f.1 _ _ (by decide)) (f.1 _ _ (by decide)) (fun j => f.1 _ j (by decide)) (fun j => f.2 _ j (by decide)), h.2.2.2.kept (f.1 _ _ (by decide)) (fun a j q => f.1 a j (by omega))⟩
theorem RM.kept {A : Ab} {σ σ' : Mem} (h : RM A σ) (f : FC σ σ') : RM A σ' := ⟨h.1.kept (fun a j q => f.1 a j (by omega)), h.2.1.kept (fun a j q => f.1 a j (by omega)), h.2.2.1.kept (f.1 _ _ (by decide)) (f.1 _ _ (by decide)) (fun j => f.1 _ j (Or.inl (by decide))) (f.2 _ _ (by decide)) (f.2 _ _ (by decide)), h.2.2.2.kept (f.1 _ _ (by decide)) (fun a j q => f.1 a j (by omega))⟩
/-- what is owed of a call: from cells that mean A both sides answer alike, and their cells mean one thing again -/
def CAns {α : Type} (A : Ab) (F : Mem → Option (α × Mem)) (r : α) (A' : Ab) : Prop := ∀ σ, RC A σ → ∃ σ', F σ = some (r, σ') ∧ RC A' σ' ∧ FC σ σ'
def MAns {α : Type} (A : Ab) (F : Mem → Option (α × Mem)) (r : α) (A' : Ab) : Prop := ∀ σ, RM A σ → ∃ σ', F σ = some (r, σ') ∧ RM A' σ' ∧ FM σ σ'
/-- a call that may change: from cells that mean A it answers r, whatever the cells are, and they mean A' then; as long as there was a town, there is one -/
def Sim {α : Type} (F G : Mem → Option (α × Mem)) : Prop := ∀ {tb : Prop} (A : Ab), okDe tb A.2.2.2 → ∃ r A', okDe tb A'.2.2.2 ∧ (∀ σ, RC A σ → Dr σ → ∃ σ', F σ = some (r, σ') ∧ RC A' σ' ∧ FC σ σ') ∧ MAns A G r A'
theorem Dr.keptC {σ σ' : Mem} (h : Dr σ) (f : FC σ σ') : Dr σ' := ⟨(f.1 _ _ (by decide)).trans h.1, fun j hj => ⟨(f.1 _ _ (by omega)).trans (h.2 j hj).1, (f.1 _ _ (by omega)).trans (h.2 j hj).2⟩⟩
theorem Dr.keptM {σ σ' : Mem} (h : Dr σ) (f : FM σ σ') : Dr σ' := ⟨(f.1 _ _ (by decide)).trans h.1, fun j hj => ⟨(f.1 _ _ (by decide)).trans (h.2 j hj).1, (f.1 _ _ (by decide)).trans (h.2 j hj).2⟩⟩
theorem sim_of {α : Type} {F G : Mem → Option (α × Mem)} (h : ∀ {tb : Prop} (A : Ab), okDe tb A.2.2.2 → ∃ r A', okDe tb A'.2.2.2 ∧ CAns A F r A' ∧ MAns A G r A') : Sim F G := by
  intro tb A hA
  obtain ⟨r, A', a, b, c⟩ := h A hA
  exact ⟨r, A', a, fun σ x _ => b σ x, c⟩
/-- calls that change nothing -/
def SimP {α : Type} (F G : Mem → Option α) : Prop := ∀ σ, Inv σ → ∃ r, F σ = some r ∧ G σ = some r
/-! ===== refusals, tellings ===== -/
def foundA (A : Ab) (f : Nat) : Ab := (A.1, A.2.1, (A.2.2.1.1, A.2.2.1.2.1, A.2.2.1.2.2.1, nI f, fun x => if x = f then A.2.2.1.2.2.2.2 x + 1 else A.2.2.1.2.2.2.2 x), A.2.2.2)
def toldA (A : Ab) (v : Int32) : Ab := (A.1, A.2.1, (v, A.2.2.1.2.1, A.2.2.1.2.2.1, A.2.2.1.2.2.2.1, A.2.2.1.2.2.2.2), A.2.2.2)
theorem C_refuse {A : Ab} {f : Nat} (hf : f < 6) : CAns A (F_X8_refuse 0 (nI f)) (-3) (foundA A f) := by
  intro σ h
  have e : F_X8_refuse 0 (nI f) σ = some (-3, setI (setI σ 0 16 (nI f)) 133 f (σ.1 133 f + 1)) := by
    unfold F_X8_refuse
    rw [pI_0_16, ob_some, gR_0_17, ob_some, ob_some, rd_eq (by decide) sh_133 hf (by decide), ob_some, wr_eq (by decide) sh_133 hf (by decide), ob_some, setI_1, if_neg (by omega)]
  refine ⟨_, e, ⟨h.1.kept ?_, h.2.1.kept ?_, ⟨?_, ?_, ?_, ?_, fun x hx => ?_⟩, h.2.2.2.kept ?_ ?_⟩, (FC.set (by decide)).tr (FC.set (by decide))⟩
  · intro a j _ _; rw [setI_1, if_neg (by omega), setI_1, if_neg (by omega)]
  · intro a j _ _; rw [setI_1, if_neg (by omega), setI_1, if_neg (by omega)]
  · rw [setI_1, if_neg (by omega), setI_1, if_neg (by omega)]; exact h.2.2.1.1
  · exact h.2.2.1.2.1
  · exact h.2.2.1.2.2.1
  · rw [setI_1, if_neg (by omega), setI_1, if_pos ⟨rfl, rfl⟩]; rfl
  · show _ = if x = f then _ else _
    rw [setI_1]
    by_cases q : x = f
    · subst q; rw [if_pos ⟨rfl, rfl⟩, if_pos rfl, h.2.2.1.2.2.2.2 x hx]
    · rw [if_neg (by omega), if_neg q, setI_1, if_neg (by omega)]; exact h.2.2.1.2.2.2.2 x hx
  · rw [setI_1, if_neg (by omega), setI_1, if_neg (by omega)]
  · intro a j q; rw [setI_1, if_neg (by omega), setI_1, if_neg (by omega)]
theorem M_found {A : Ab} {f : Nat} (hf : f < 6) : MAns A (F_X9_found 134 (nI f)) (-3) (foundA A f) := by
  intro σ h
  have e : F_X9_found 134 (nI f) σ = some (-3, setI (setI σ 134 8 (nI f)) 142 f (σ.1 142 f + 1)) := by
    unfold F_X9_found
    rw [pI_134_8, ob_some, gR_134_9, ob_some, aI_eq sh_142 hf (by decide), ob_some, sI_eq sh_142 hf (by decide), ob_some, setI_1, if_neg (by omega)]
  refine ⟨_, e, ⟨h.1.kept ?_, h.2.1.kept ?_, ⟨?_, ?_, ?_, ?_, fun x hx => ?_⟩, h.2.2.2.kept ?_ ?_⟩, (FM.set (by decide)).tr (FM.set (by decide))⟩
  · intro a j q; rw [setI_1, if_neg (by omega), setI_1, if_neg (by omega)]
  · intro a j q; rw [setI_1, if_neg (by omega), setI_1, if_neg (by omega)]
  · rw [setI_1, if_neg (by omega), setI_1, if_neg (by omega)]; exact h.2.2.1.1
  · exact h.2.2.1.2.1
  · exact h.2.2.1.2.2.1
  · rw [setI_1, if_neg (by omega), setI_1, if_pos ⟨rfl, rfl⟩]; rfl
  · show _ = if x = f then _ else _
    rw [setI_1]
    by_cases q : x = f
    · subst q; rw [if_pos ⟨rfl, rfl⟩, if_pos rfl, h.2.2.1.2.2.2.2 x hx]
    · rw [if_neg (by omega), if_neg q, setI_1, if_neg (by omega)]; exact h.2.2.1.2.2.2.2 x hx
  · rw [setI_1, if_neg (by omega), setI_1, if_neg (by omega)]
  · intro a j q; rw [setI_1, if_neg (by omega), setI_1, if_neg (by omega)]
theorem C_tell {A : Ab} {v : Int32} : CAns A (F_X8_tell 0 v) 1 (toldA A v) := by
  intro σ h
  have e : F_X8_tell 0 v σ = some (1, setI σ 0 13 v) := by
    unfold F_X8_tell
    rw [pI_0_13, ob_some]
  refine ⟨_, e, ⟨h.1.kept ?_, h.2.1.kept ?_, ⟨?_, ?_, ?_, ?_, fun x hx => ?_⟩, h.2.2.2.kept ?_ ?_⟩, FC.set (by decide)⟩
  · intro a j _ _; rw [setI_1, if_neg (by omega)]
  · intro a j _ _; rw [setI_1, if_neg (by omega)]
  · rw [setI_1, if_pos ⟨rfl, rfl⟩]; rfl
  · exact h.2.2.1.2.1
  · exact h.2.2.1.2.2.1
  · rw [setI_1, if_neg (by omega)]; exact h.2.2.1.2.2.2.1
  · rw [setI_1, if_neg (by omega)]; exact h.2.2.1.2.2.2.2 x hx
  · rw [setI_1, if_neg (by omega)]
  · intro a j q; rw [setI_1, if_neg (by omega)]
theorem M_tells {A : Ab} {v r : Int32} : MAns A (F_X9_tells 134 v r) r (toldA A v) := by
  intro σ h
  have e : F_X9_tells 134 v r σ = some (r, setI σ 134 10 v) := by
    unfold F_X9_tells
    rw [pI_134_10, ob_some]
  refine ⟨_, e, ⟨h.1.kept ?_, h.2.1.kept ?_, ⟨?_, ?_, ?_, ?_, fun x hx => ?_⟩, h.2.2.2.kept ?_ ?_⟩, FM.set (by decide)⟩
  · intro a j q; rw [setI_1, if_neg (by omega)]
  · intro a j q; rw [setI_1, if_neg (by omega)]
  · rw [setI_1, if_pos ⟨rfl, rfl⟩]; rfl
  · exact h.2.2.1.2.1
  · exact h.2.2.1.2.2.1
  · rw [setI_1, if_neg (by omega)]; exact h.2.2.1.2.2.2.1
  · rw [setI_1, if_neg (by omega)]; exact h.2.2.1.2.2.2.2 x hx
  · rw [setI_1, if_neg (by omega)]
  · intro a j q; rw [setI_1, if_neg (by omega)]
/-! ===== asked, upper, lower, finding ===== -/
theorem sim_asked : SimP (F_X8_asked 0) (F_X9_asked 134) := by
  intro σ ⟨⟨A, _, hC, hM⟩, _⟩
  refine ⟨A.2.2.1.1, ?_, ?_⟩
  · unfold F_X8_asked; rw [gI_0_13, ob_some, hC.2.2.1.1]
  · unfold F_X9_asked; rw [gI_134_10, ob_some, hM.2.2.1.1]
theorem sim_upper : SimP (F_X8_upper 0) (F_X9_upper 134) := by
  intro σ ⟨⟨A, _, hC, hM⟩, _⟩
  refine ⟨A.2.2.1.2.1, ?_, ?_⟩
  · unfold F_X8_upper; rw [gL_0_14, ob_some, hC.2.2.1.2.1]
  · unfold F_X9_upper; rw [gL_134_11, ob_some, hM.2.2.1.2.1]
theorem sim_lower : SimP (F_X8_lower 0) (F_X9_lower 134) := by
  intro σ ⟨⟨A, _, hC, hM⟩, _⟩
  refine ⟨A.2.2.1.2.2.1, ?_, ?_⟩
  · unfold F_X8_lower; rw [gL_0_15, ob_some, hC.2.2.1.2.2.1]
  · unfold F_X9_lower; rw [gL_134_12, ob_some, hM.2.2.1.2.2.1]
theorem sim_finding : SimP (F_X8_finding 0) (F_X9_finding 134) := by
  intro σ ⟨⟨A, _, hC, hM⟩, _⟩
  refine ⟨A.2.2.1.2.2.2.1, ?_, ?_⟩
  · unfold F_X8_finding; rw [gI_0_16, ob_some, hC.2.2.1.2.2.2.1]
  · unfold F_X9_finding; rw [gI_134_8, ob_some, hM.2.2.1.2.2.2.1]

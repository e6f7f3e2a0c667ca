/-! ===== the world of this claim: one list of cells, by place; numbers as functions of place and index ===== -/
abbrev Mem : Type := (Nat → Nat → Int32) × (Nat → Nat → Int64)
abbrev Shp : Type := (Nat × List (Option (Option Nat))) ⊕ (Nat ⊕ List Nat)
def shpL : List Shp := [
  .inl (8, [some (some 1), some (some 4), some (some 7), some (some 10), some (some 18), some (some 26), some (some 34), none, some (some 35), some (some 45), some (some 90), some (some 93), some (some 98), none, some none, some none, none, some (some 133)]),
  .inl (6, [none, some (some 2), some (some 3)]),
  .inr (.inl 6),
  .inr (.inl 240),
  .inl (6, [none, some (some 5), some (some 6)]),
  .inr (.inl 4),
  .inr (.inl 240),
  .inl (6, [none, some (some 8), some (some 9)]),
  .inr (.inl 3),
  .inr (.inl 120),
  .inl (7, [some (some 11), some (some 12), some (some 13), some (some 14), some (some 15), some (some 16), some (some 17), none, none, none]),
  .inr (.inl 4),
  .inr (.inl 6),
  .inr (.inl 6),
  .inr (.inl 6),
  .inr (.inl 6),
  .inr (.inl 6),
  .inr (.inl 6),
  .inl (7, [some (some 19), some (some 20), some (some 21), some (some 22), some (some 23), some (some 24), some (some 25), none, none, none]),
  .inr (.inl 4),
  .inr (.inl 6),
  .inr (.inl 6),
  .inr (.inl 6),
  .inr (.inl 6),
  .inr (.inl 6),
  .inr (.inl 6),
  .inl (7, [some (some 27), some (some 28), some (some 29), some (some 30), some (some 31), some (some 32), some (some 33), none, none, none]),
  .inr (.inl 4),
  .inr (.inl 6),
  .inr (.inl 6),
  .inr (.inl 6),
  .inr (.inl 6),
  .inr (.inl 6),
  .inr (.inl 6),
  .inr (.inl 40),
  .inl (4, [some (some 36), some (some 44), none, none]),
  .inl (7, [some (some 37), some (some 38), some (some 39), some (some 40), some (some 41), some (some 42), some (some 43), none, none, none]),
  .inr (.inl 4),
  .inr (.inl 6),
  .inr (.inl 6),
  .inr (.inl 6),
  .inr (.inl 6),
  .inr (.inl 6),
  .inr (.inl 6),
  .inr (.inl 60),
  .inl (5, [some (some 46), some (some 88), some (some 89), none]),
  .inl (2, [some (some 47)]),
  .inr (.inr [48, 56, 64, 72, 80]),
  .inl (7, [some (some 49), some (some 50), some (some 51), some (some 52), some (some 53), some (some 54), some (some 55), none, none, none]),
  .inr (.inl 4),
  .inr (.inl 6),
  .inr (.inl 6),
  .inr (.inl 6),
  .inr (.inl 6),
  .inr (.inl 6),
  .inr (.inl 6),
  .inl (7, [some (some 57), some (some 58), some (some 59), some (some 60), some (some 61), some (some 62), some (some 63), none, none, none]),
  .inr (.inl 4),
  .inr (.inl 6),
  .inr (.inl 6),
  .inr (.inl 6),
  .inr (.inl 6),
  .inr (.inl 6),
  .inr (.inl 6),
  .inl (7, [some (some 65), some (some 66), some (some 67), some (some 68), some (some 69), some (some 70), some (some 71), none, none, none]),
  .inr (.inl 4),
  .inr (.inl 6),
  .inr (.inl 6),
  .inr (.inl 6),
  .inr (.inl 6),
  .inr (.inl 6),
  .inr (.inl 6),
  .inl (7, [some (some 73), some (some 74), some (some 75), some (some 76), some (some 77), some (some 78), some (some 79), none, none, none]),
  .inr (.inl 4),
  .inr (.inl 6),
  .inr (.inl 6),
  .inr (.inl 6),
  .inr (.inl 6),
  .inr (.inl 6),
  .inr (.inl 6),
  .inl (7, [some (some 81), some (some 82), some (some 83), some (some 84), some (some 85), some (some 86), some (some 87), none, none, none]),
  .inr (.inl 4),
  .inr (.inl 6),
  .inr (.inl 6),
  .inr (.inl 6),
  .inr (.inl 6),
  .inr (.inl 6),
  .inr (.inl 6),
  .inr (.inl 4),
  .inr (.inl 4),
  .inl (3, [some (some 91), some (some 92), none]),
  .inr (.inl 6),
  .inr (.inl 6),
  .inl (0, [some (some 94), some (some 95), some (some 96), some (some 97), none, none]),
  .inr (.inl 20),
  .inr (.inl 20),
  .inr (.inl 6),
  .inr (.inl 31),
  .inl (1, [some (some 99)]),
  .inl (2, [some (some 100)]),
  .inr (.inr [101, 109, 117, 125]),
  .inl (7, [some (some 102), some (some 103), some (some 104), some (some 105), some (some 106), some (some 107), some (some 108), none, none, none]),
  .inr (.inl 4),
  .inr (.inl 6),
  .inr (.inl 6),
  .inr (.inl 6),
  .inr (.inl 6),
  .inr (.inl 6),
  .inr (.inl 6),
  .inl (7, [some (some 110), some (some 111), some (some 112), some (some 113), some (some 114), some (some 115), some (some 116), none, none, none]),
  .inr (.inl 4),
  .inr (.inl 6),
  .inr (.inl 6),
  .inr (.inl 6),
  .inr (.inl 6),
  .inr (.inl 6),
  .inr (.inl 6),
  .inl (7, [some (some 118), some (some 119), some (some 120), some (some 121), some (some 122), some (some 123), some (some 124), none, none, none]),
  .inr (.inl 4),
  .inr (.inl 6),
  .inr (.inl 6),
  .inr (.inl 6),
  .inr (.inl 6),
  .inr (.inl 6),
  .inr (.inl 6),
  .inl (7, [some (some 126), some (some 127), some (some 128), some (some 129), some (some 130), some (some 131), some (some 132), none, none, none]),
  .inr (.inl 4),
  .inr (.inl 6),
  .inr (.inl 6),
  .inr (.inl 6),
  .inr (.inl 6),
  .inr (.inl 6),
  .inr (.inl 6),
  .inr (.inl 6),
  .inl (9, [some (some 135), none, some (some 136), some (some 137), some (some 138), some (some 139), some (some 140), some (some 141), none, some (some 142), none, some none, some none, none, some (some 143), some (some 144), some none]),
  .inr (.inl 7304),
  .inr (.inl 3),
  .inr (.inl 240),
  .inr (.inl 6),
  .inr (.inl 240),
  .inr (.inl 4),
  .inr (.inl 40),
  .inr (.inl 6),
  .inr (.inl 32),
  .inr (.inl 2401)]
def nW : Nat := 134
theorem shpL_len : shpL.length = 145 := by decide +kernel
def shp (k : Nat) : Shp := shpL.getD k (.inr (.inl 0))

abbrev cls9 : List vw_C := [(RX0, TX0, 6), (RX1, TX1, 1), (RX2, TX2, 1), (RX3, TX3, 3), (RX4, TX4, 4), (RX5, TX5, 4), (RX6, TX6, 3), (RX7, TX7, 10), (RX8, TX8, 18)]
def setI (σ : Mem) (k j : Nat) (v : Int32) : Mem := (fun a b => if a = k ∧ b = j then v else σ.1 a b, σ.2)
def setL (σ : Mem) (k j : Nat) (v : Int64) : Mem := (σ.1, fun a b => if a = k ∧ b = j then v else σ.2 a b)
def fvl (ad : Nat → Nat) (σ : Mem) (k j : Nat) : Option (Option Nat) → Value
  | none => .int (σ.1 k j)
  | some none => .long (σ.2 k j)
  | some (some p) => .ref (ad p)
def fvs (ad : Nat → Nat) (σ : Mem) (k : Nat) : Nat → List (Option (Option Nat)) → List Value
  | _, [] => []
  | j, f :: t => fvl ad σ k j f :: fvs ad σ k (j + 1) t
def cel (ad : Nat → Nat) (cI cT : ClassId) (σ : Mem) (k : Nat) : va_E := match shp k with
  | .inl q => .inr (q.1, fvs ad σ k 0 q.2)
  | .inr (.inl n) => .inl (cI, n, .inl (σ.1 k))
  | .inr (.inr l) => .inl (cT, l.length, .inr (.inr (.inr (.inr (fun j => (l[j]?).map ad)))))
def wld (ad : Nat → Nat) (cI cT : ClassId) (σ : Mem) : va_W := (List.range nW).map (fun k => (ad k, cel ad cI cT σ k))
theorem wld_get {ad : Nat → Nat} {cI cT : ClassId} {σ : Mem} {k : Nat} (h : k < nW) : (wld ad cI cT σ)[k]? = some (ad k, cel ad cI cT σ k) := by
  unfold wld
  rw [List.getElem?_map, List.getElem?_range h]
  rfl
theorem wld_some {ad : Nat → Nat} {cI cT : ClassId} {σ : Mem} {k : Nat} {q : Nat × va_E} (h : (wld ad cI cT σ)[k]? = some q) : k < nW ∧ q = (ad k, cel ad cI cT σ k) := by
  have hl : k < nW := by
    have := (List.getElem?_eq_some_iff.mp h).1
    unfold wld at this
    simpa using this
  rw [wld_get hl] at h
  exact ⟨hl, (Option.some.inj h).symm⟩
theorem wld_set {ad : Nat → Nat} {cI cT : ClassId} {σ σ' : Mem} {k : Nat} {e : va_E} (hk : k < nW) (he : e = cel ad cI cT σ' k) (ho : ∀ j, j ≠ k → cel ad cI cT σ' j = cel ad cI cT σ j) : (wld ad cI cT σ).set k (ad k, e) = wld ad cI cT σ' := by
  subst he
  apply List.ext_getElem?
  intro i
  by_cases hi : i = k
  · subst hi
    rw [List.getElem?_set_self (by unfold wld; simpa using hk), wld_get hk]
  · rw [List.getElem?_set_ne (Ne.symm hi)]
    by_cases hl : i < nW
    · rw [wld_get hl, wld_get hl, ho i hi]
    · rw [List.getElem?_eq_none (by unfold wld; simpa using hl), List.getElem?_eq_none (by unfold wld; simpa using hl)]
def shpB (k : Nat) : Bool := match shp k with
  | .inl q => q.1 == 9 || decide (k < nW)
  | .inr (.inr _) => decide (k < nW)
  | .inr (.inl _) => true
theorem shp_tab : ∀ k, k < 145 → shpB k = true := by decide +kernel
theorem shp_out {k : Nat} (h : 145 ≤ k) : shp k = .inr (.inl 0) := by
  unfold shp
  rw [List.getD_eq_getElem?_getD, List.getElem?_eq_none (by rw [shpL_len]; exact h)]
  rfl
theorem shp_lo {k : Nat} {q : Nat × List (Option (Option Nat))} (h : shp k = .inl q) (hq : q.1 ≠ 9) : k < nW := by
  rcases Nat.lt_or_ge k 145 with w | w
  · have h2 := shp_tab k w
    unfold shpB at h2
    rw [h] at h2
    rcases Bool.or_eq_true_iff.mp h2 with h3 | h3
    · exact absurd (eq_of_beq h3) hq
    · exact of_decide_eq_true h3
  · rw [shp_out w] at h
    cases h
theorem shp_la {k : Nat} {l : List Nat} (h : shp k = .inr (.inr l)) : k < nW := by
  rcases Nat.lt_or_ge k 145 with w | w
  · have h2 := shp_tab k w
    unfold shpB at h2
    rw [h] at h2
    exact of_decide_eq_true h2
  · rw [shp_out w] at h
    cases h
theorem cls9_lt {c : Nat} {q : vw_C} (h : cls9[c]? = some q) : c ≠ 9 := by
  intro e
  subst e
  cases h
theorem fvs_get (ad : Nat → Nat) (σ : Mem) (k : Nat) : ∀ (fl : List (Option (Option Nat))) (j0 j : Nat) (f : Option (Option Nat)), fl[j]? = some f → (fvs ad σ k j0 fl)[j]? = some (fvl ad σ k (j0 + j) f)
  | [], j0, j, f, h => by simp at h
  | g :: t, j0, 0, f, h => by
    have : g = f := by simpa using h
    subst this
    rfl
  | g :: t, j0, j + 1, f, h => by
    have h1 : t[j]? = some f := by simpa using h
    have h2 := fvs_get ad σ k t (j0 + 1) j f h1
    show (fvs ad σ k (j0 + 1) t)[j]? = _
    rw [h2, show j0 + 1 + j = j0 + (j + 1) by omega]
theorem fvs_len (ad : Nat → Nat) (σ : Mem) (k : Nat) : ∀ (fl : List (Option (Option Nat))) (j0 : Nat), (fvs ad σ k j0 fl).length = fl.length
  | [], _ => rfl
  | _ :: t, j0 => by
    show (fvs ad σ k (j0 + 1) t).length + 1 = t.length + 1
    rw [fvs_len ad σ k t (j0 + 1)]
theorem fvl_setI {ad : Nat → Nat} {σ : Mem} {k j : Nat} {v : Int32} {k2 j2 : Nat} {f : Option (Option Nat)} (h : ¬ (k2 = k ∧ j2 = j)) : fvl ad (setI σ k j v) k2 j2 f = fvl ad σ k2 j2 f := by
  cases f with
  | none => simp [fvl, setI, h]
  | some g => cases g <;> rfl
theorem fvl_setL {ad : Nat → Nat} {σ : Mem} {k j : Nat} {v : Int64} {k2 j2 : Nat} {f : Option (Option Nat)} (h : ¬ (k2 = k ∧ j2 = j)) : fvl ad (setL σ k j v) k2 j2 f = fvl ad σ k2 j2 f := by
  cases f with
  | none => rfl
  | some g => cases g with
    | none => simp [fvl, setL, h]
    | some p => rfl
theorem fvs_ext {ad : Nat → Nat} {σ σ' : Mem} {k : Nat} : ∀ (fl : List (Option (Option Nat))) (j0 : Nat), (∀ j f, fl[j]? = some f → fvl ad σ k (j0 + j) f = fvl ad σ' k (j0 + j) f) → fvs ad σ k j0 fl = fvs ad σ' k j0 fl
  | [], _, _ => rfl
  | g :: t, j0, h => by
    have h0 := h 0 g rfl
    have h1 := fvs_ext (ad := ad) (σ := σ) (σ' := σ') (k := k) t (j0 + 1) (fun j f hf => by
      have := h (j + 1) f (by simpa using hf)
      rw [show j0 + 1 + j = j0 + (j + 1) by omega]
      exact this)
    show _ :: _ = _ :: _
    rw [h1]
    rw [show fvl ad σ k j0 g = fvl ad σ' k j0 g from h0]
theorem fvs_setI {ad : Nat → Nat} {σ : Mem} {k j : Nat} {v : Int32} : ∀ (fl : List (Option (Option Nat))) (j0 i : Nat), fl[i]? = some none → j0 + i = j → (fvs ad σ k j0 fl).set i (.int v) = fvs ad (setI σ k j v) k j0 fl
  | [], _, _, h, _ => by simp at h
  | g :: t, j0, 0, h, hj => by
    have : g = none := by simpa using h
    subst this
    subst hj
    show Value.int v :: fvs ad σ k (j0 + 1) t = fvl ad (setI σ k (j0 + 0) v) k j0 none :: fvs ad (setI σ k (j0 + 0) v) k (j0 + 1) t
    rw [fvs_ext (σ' := setI σ k (j0 + 0) v) t (j0 + 1) (fun j f _ => (fvl_setI (by omega)).symm)]
    congr 1
    simp [fvl, setI]
  | g :: t, j0, i + 1, h, hj => by
    have h1 : t[i]? = some none := by simpa using h
    have h2 := fvs_setI (ad := ad) (σ := σ) (k := k) (j := j) (v := v) t (j0 + 1) i h1 (by omega)
    show fvl ad σ k j0 g :: (fvs ad σ k (j0 + 1) t).set i (.int v) = fvl ad (setI σ k j v) k j0 g :: fvs ad (setI σ k j v) k (j0 + 1) t
    rw [h2, fvl_setI (by omega)]
theorem fvs_setL {ad : Nat → Nat} {σ : Mem} {k j : Nat} {v : Int64} : ∀ (fl : List (Option (Option Nat))) (j0 i : Nat), fl[i]? = some (some none) → j0 + i = j → (fvs ad σ k j0 fl).set i (.long v) = fvs ad (setL σ k j v) k j0 fl
  | [], _, _, h, _ => by simp at h
  | g :: t, j0, 0, h, hj => by
    have : g = some none := by simpa using h
    subst this
    subst hj
    show Value.long v :: fvs ad σ k (j0 + 1) t = fvl ad (setL σ k (j0 + 0) v) k j0 (some none) :: fvs ad (setL σ k (j0 + 0) v) k (j0 + 1) t
    rw [fvs_ext (σ' := setL σ k (j0 + 0) v) t (j0 + 1) (fun j f _ => (fvl_setL (by omega)).symm)]
    congr 1
    simp [fvl, setL]
  | g :: t, j0, i + 1, h, hj => by
    have h1 : t[i]? = some (some none) := by simpa using h
    have h2 := fvs_setL (ad := ad) (σ := σ) (k := k) (j := j) (v := v) t (j0 + 1) i h1 (by omega)
    show fvl ad σ k j0 g :: (fvs ad σ k (j0 + 1) t).set i (.long v) = fvl ad (setL σ k j v) k j0 g :: fvs ad (setL σ k j v) k (j0 + 1) t
    rw [h2, fvl_setL (by omega)]
theorem cel_ext {ad : Nat → Nat} {cI cT : ClassId} {σ σ' : Mem} {k : Nat} (h1 : ∀ b, σ'.1 k b = σ.1 k b) (h2 : ∀ b, σ'.2 k b = σ.2 k b) : cel ad cI cT σ' k = cel ad cI cT σ k := by
  unfold cel
  split
  · rw [fvs_ext (σ := σ') (σ' := σ)]
    intro j f _
    cases f with
    | none => show Value.int _ = Value.int _; rw [h1]
    | some g => cases g with
      | none => show Value.long _ = Value.long _; rw [h2]
      | some p => rfl
  · rw [show σ'.1 k = σ.1 k from funext h1]
  · rfl
theorem cel_setI_ne {ad : Nat → Nat} {cI cT : ClassId} {σ : Mem} {k j : Nat} {v : Int32} {i : Nat} (h : i ≠ k) : cel ad cI cT (setI σ k j v) i = cel ad cI cT σ i := cel_ext (fun b => by simp [setI, h]) (fun _ => rfl)
theorem cel_setL_ne {ad : Nat → Nat} {cI cT : ClassId} {σ : Mem} {k j : Nat} {v : Int64} {i : Nat} (h : i ≠ k) : cel ad cI cT (setL σ k j v) i = cel ad cI cT σ i := cel_ext (fun _ => rfl) (fun b => by simp [setL, h])
/-! ===== what a method reads and writes, with what must hold for it ===== -/
def gI (ci j k : Nat) (σ : Mem) : Option Int32 := match shp k with
  | .inl q => if q.1 = ci ∧ q.2[j]? = some none then some (σ.1 k j) else none
  | .inr _ => none
def gL (ci j k : Nat) (σ : Mem) : Option Int64 := match shp k with
  | .inl q => if q.1 = ci ∧ q.2[j]? = some (some none) then some (σ.2 k j) else none
  | .inr _ => none
def gR (ci j k : Nat) : Option Nat := match shp k with
  | .inl q => if q.1 = ci then (match q.2[j]? with
    | some (some (some p)) => some p
    | _ => none) else none
  | .inr _ => none
def pI (ci j k : Nat) (v : Int32) (σ : Mem) : Option Mem := match shp k with
  | .inl q => if q.1 = ci ∧ q.2[j]? = some none then some (setI σ k j v) else none
  | .inr _ => none
def pL (ci j k : Nat) (v : Int64) (σ : Mem) : Option Mem := match shp k with
  | .inl q => if q.1 = ci ∧ q.2[j]? = some (some none) then some (setL σ k j v) else none
  | .inr _ => none
def aI (k : Nat) (i : Int32) (σ : Mem) : Option Int32 := match shp k with
  | .inr (.inl n) => if 0 ≤ i.toInt ∧ i.toInt < n then some (σ.1 k i.toNatClampNeg) else none
  | _ => none
def sI (k : Nat) (i v : Int32) (σ : Mem) : Option Mem := match shp k with
  | .inr (.inl n) => if 0 ≤ i.toInt ∧ i.toInt < n then some (setI σ k i.toNatClampNeg v) else none
  | _ => none
/-- numbers of the class's own arrays -/
def aJ (k : Nat) (i : Int32) (σ : Mem) : Option Int32 := if k < nW then aI k i σ else none
def sJ (k : Nat) (i v : Int32) (σ : Mem) : Option Mem := if k < nW then sI k i v σ else none
def aR (k : Nat) (i : Int32) : Option Nat := match shp k with
  | .inr (.inr l) => if 0 ≤ i.toInt ∧ i.toInt < l.length then l[i.toNatClampNeg]? else none
  | _ => none
def aN (k : Nat) : Option Int32 := if k < nW then (match shp k with
  | .inr (.inl n) => some (Int32.ofNat n)
  | .inr (.inr l) => some (Int32.ofNat l.length)
  | .inl _ => none) else none
def isK (ci k : Nat) : Bool := match shp k with
  | .inl q => q.1 == ci
  | .inr _ => false
/-- System.arraycopy of numbers -/
def cpI (a : Nat) (sp : Int32) (b : Nat) (dp n : Int32) (σ : Mem) : Option Mem := match shp a, shp b with
  | .inr (.inl n0), .inr (.inl n1) => if 0 ≤ sp.toInt ∧ 0 ≤ dp.toInt ∧ 0 ≤ n.toInt ∧ sp.toInt + n.toInt ≤ n0 ∧ dp.toInt + n.toInt ≤ n1 ∧ a < nW ∧ b < nW then some (fun x y => if x = b then va_cpy (σ.1 a) (σ.1 b) sp.toNatClampNeg dp.toNatClampNeg n.toNatClampNeg y else σ.1 x y, σ.2) else none
  | _, _ => none
/-- the bytes of the kinds' letters -/
def klv (j : Nat) : Int32 := match j with
  | 0 => 98 | 1 => 115 | 2 => 113 | 3 => 99 | 4 => 116 | _ => 119
/-- a loop: the last answer of a step that goes on or ends; nothing if it never ends -/
def lpn {S T : Type} (f : S → Option (S ⊕ T)) : Nat → S → Option T
  | 0, _ => none
  | n + 1, s => match f s with
    | none => none
    | some (.inl s') => lpn f n s'
    | some (.inr t) => some t
noncomputable def lp {S T : Type} (f : S → Option (S ⊕ T)) (s : S) : Option T := @dite _ (∃ t n, lpn f n s = some t) (Classical.propDecidable _) (fun h => some (Classical.choose h)) (fun _ => none)
theorem lpn_mono {S T : Type} {f : S → Option (S ⊕ T)} : ∀ (n : Nat) (s : S) (t : T) (k : Nat), lpn f n s = some t → lpn f (n + k) s = some t
  | 0, _, _, _, h => by cases h
  | n + 1, s, t, k, h => by
    rw [show n + 1 + k = (n + k) + 1 by omega]
    unfold lpn at h ⊢
    cases hf : f s with
    | none => rw [hf] at h; cases h
    | some x => cases x with
      | inl s' => rw [hf] at h; exact lpn_mono n s' t k h
      | inr u => rw [hf] at h; exact h
theorem lpn_det {S T : Type} {f : S → Option (S ⊕ T)} {n m : Nat} {s : S} {t u : T} (h1 : lpn f n s = some t) (h2 : lpn f m s = some u) : t = u := by
  have a := lpn_mono n s t m h1
  have b := lpn_mono m s u n h2
  rw [Nat.add_comm] at b
  rw [a] at b
  exact Option.some.inj b
theorem lp_iff {S T : Type} {f : S → Option (S ⊕ T)} {s : S} {t : T} : lp f s = some t ↔ ∃ n, lpn f n s = some t := by
  unfold lp
  constructor
  · intro h
    by_cases hx : ∃ t n, lpn f n s = some t
    · rw [dif_pos hx] at h
      rw [← Option.some.inj h]
      exact Classical.choose_spec hx
    · rw [dif_neg hx] at h
      cases h
  · intro ⟨n, hn⟩
    have hx : ∃ t n, lpn f n s = some t := ⟨t, n, hn⟩
    rw [dif_pos hx]
    obtain ⟨m, hm⟩ := Classical.choose_spec hx
    rw [lpn_det hm hn]
theorem lp_in {S T : Type} {f : S → Option (S ⊕ T)} {s s' : S} (h : f s = some (.inl s')) : lp f s = lp f s' := by
  cases h1 : lp f s' with
  | some t =>
    obtain ⟨n, hn⟩ := lp_iff.mp h1
    exact lp_iff.mpr ⟨n + 1, by unfold lpn; rw [h]; exact hn⟩
  | none =>
    cases h2 : lp f s with
    | none => rfl
    | some t =>
      obtain ⟨n, hn⟩ := lp_iff.mp h2
      cases n with
      | zero => cases hn
      | succ n =>
        unfold lpn at hn
        rw [h] at hn
        rw [lp_iff.mpr ⟨n, hn⟩] at h1
        cases h1
theorem lp_out {S T : Type} {f : S → Option (S ⊕ T)} {s : S} {t : T} (h : f s = some (.inr t)) : lp f s = some t := lp_iff.mpr ⟨1, by unfold lpn; rw [h]⟩
/-- what follows a loop's start, by what follows each of its steps -/
theorem lp_ind {S T : Type} {f : S → Option (S ⊕ T)} {P : S → T → Prop} (h1 : ∀ s t, f s = some (.inr t) → P s t) (h2 : ∀ s s' t, f s = some (.inl s') → P s' t → P s t) : ∀ s t, lp f s = some t → P s t := by
  intro s t h
  obtain ⟨n, hn⟩ := lp_iff.mp h
  clear h
  induction n generalizing s with
  | zero => cases hn
  | succ n ih =>
    unfold lpn at hn
    cases hf : f s with
    | none => rw [hf] at hn; cases hn
    | some x => cases x with
      | inl s' => rw [hf] at hn; exact h2 s s' t hf (ih s' hn)
      | inr u => rw [hf] at hn; cases hn; exact h1 s _ hf
theorem bnd {α β : Type} {o : Option α} {f : α → Option β} {r : β} (h : o.bind f = some r) : ∃ a, o = some a ∧ f a = some r := Option.bind_eq_some_iff.mp h
theorem ifp {α : Type} {c : Prop} [Decidable c] {a b : α} {r : α} (h : (if c then a else b) = r) (hc : c) : a = r := by rw [if_pos hc] at h; exact h
theorem ifn {α : Type} {c : Prop} [Decidable c] {a b : α} {r : α} (h : (if c then a else b) = r) (hc : ¬ c) : b = r := by rw [if_neg hc] at h; exact h


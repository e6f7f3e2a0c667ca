def z00 : Nat → Int32 := fun _ => 0
def twn : Nat → Int32 := fun j => if j = 7 then 1 else 0
def F0L : List (Nat → Int32) := [z00, (fun _ => (40 : Int32)), (fun j => if j < 6 then (-1) else (fun _ => (0 : Int32)) j), z00, (fun _ => (60 : Int32)), (fun j => if j < 4 then (-1) else (fun _ => (0 : Int32)) j), z00, (fun _ => (40 : Int32)), (fun j => if j < 3 then (-1) else (fun _ => (0 : Int32)) j), z00, twn, z00, z00, z00, z00, z00, z00, z00, twn, z00, z00, z00, z00, z00, z00, z00, twn, z00, z00, z00, z00, z00, z00, z00, z00, z00, twn, z00, z00, z00, z00, z00, z00, z00, z00, z00, z00, z00, twn, z00, z00, z00, z00, z00, z00, z00, twn, z00, z00, z00, z00, z00, z00, z00, twn, z00, z00, z00, z00, z00, z00, z00, twn, z00, z00, z00, z00, z00, z00, z00, twn, z00, z00, z00, z00, z00, z00, z00, z00, z00, z00, z00, z00, z00, z00, z00, z00, z00, z00, z00, z00, twn, z00, z00, z00, z00, z00, z00, z00, twn, z00, z00, z00, z00, z00, z00, z00, twn, z00, z00, z00, z00, z00, z00, z00, twn, z00, z00, z00, z00, z00, z00, z00, z00, z00, z00, (upd (upd (upd (fun _ => (0 : Int32)) 0 (-1)) 1 (-1)) 2 (-1)), z00, (upd (upd (upd (upd (upd (upd (fun _ => (0 : Int32)) 0 (-1)) 1 (-1)) 2 (-1)) 3 (-1)) 4 (-1)) 5 (-1)), z00, (upd (upd (upd (upd (fun _ => (0 : Int32)) 0 (-1)) 1 (-1)) 2 (-1)) 3 (-1)), z00, z00, z00, z00]
def G0 : Nat → Nat → Int64 := fun k j => if k = 0 then (if j = 15 then 1 else 0) else if k = 134 then (if j = 12 then 1 else 0) else 0
/-- the first numbers -/
def σ0 : Mem := (fun k => F0L.getD k z00, G0)
abbrev adL (l : List Nat) : Nat → Nat := fun k => l.getD k 0
theorem up4 (ad : Nat → Nat) (k0 k1 k2 k3 : Nat) : (va_up (va_up (va_up (va_up (fun _ => none) 0 (some (ad k0))) 1 (some (ad k1))) 2 (some (ad k2))) 3 (some (ad k3))) = fun j => (([k0, k1, k2, k3] : List Nat)[j]?).map ad := by
  funext j
  match j with
  | 0 => rfl
  | 1 => rfl
  | 2 => rfl
  | 3 => rfl
  | m + 4 =>
    show (if m + 4 = 3 then _ else _) = _
    rw [List.getElem?_eq_none (by show 4 ≤ m + 4; omega)]
    rw [if_neg (by omega)]; show (if m + 4 = 2 then _ else _) = _; rw [if_neg (by omega)]; show (if m + 4 = 1 then _ else _) = _; rw [if_neg (by omega)]; show (if m + 4 = 0 then _ else _) = _; rw [if_neg (by omega)]; rfl
theorem up5 (ad : Nat → Nat) (k0 k1 k2 k3 k4 : Nat) : (va_up (va_up (va_up (va_up (va_up (fun _ => none) 0 (some (ad k0))) 1 (some (ad k1))) 2 (some (ad k2))) 3 (some (ad k3))) 4 (some (ad k4))) = fun j => (([k0, k1, k2, k3, k4] : List Nat)[j]?).map ad := by
  funext j
  match j with
  | 0 => rfl
  | 1 => rfl
  | 2 => rfl
  | 3 => rfl
  | 4 => rfl
  | m + 5 =>
    show (if m + 5 = 4 then _ else _) = _
    rw [List.getElem?_eq_none (by show 5 ≤ m + 5; omega)]
    rw [if_neg (by omega)]; show (if m + 5 = 3 then _ else _) = _; rw [if_neg (by omega)]; show (if m + 5 = 2 then _ else _) = _; rw [if_neg (by omega)]; show (if m + 5 = 1 then _ else _) = _; rw [if_neg (by omega)]; show (if m + 5 = 0 then _ else _) = _; rw [if_neg (by omega)]; rfl
/-- a stretch of the world: n cells from place s on -/
def Sg (ad : Nat → Nat) (cI cT : ClassId) (σ : Mem) (s n : Nat) (w : va_W) : Prop := w = (List.range' s n).map (fun k => (ad k, cel ad cI cT σ k))
section SG
variable {ad : Nat → Nat} {cI cT : ClassId} {σ : Mem}
theorem Sg.nil {s : Nat} : Sg ad cI cT σ s 0 [] := rfl
theorem Sg.cons {s n : Nat} {x : Nat × va_E} {w : va_W} (h : x = (ad s, cel ad cI cT σ s)) (hw : Sg ad cI cT σ (s + 1) n w) : Sg ad cI cT σ s (n + 1) (x :: w) := by
  unfold Sg
  rw [List.range'_succ, List.map_cons, ← h, ← hw]
theorem Sg.app {s n m : Nat} {w w' : va_W} (h : Sg ad cI cT σ s n w) (h' : Sg ad cI cT σ (s + n) m w') : Sg ad cI cT σ s (n + m) (w ++ w') := by
  unfold Sg at *
  have e : List.range' s (n + m) = List.range' s n ++ List.range' (s + n) m := by rw [List.range'_append_1]
  rw [e, List.map_append, ← h, ← h']
theorem Sg.all {w : va_W} (h : Sg ad cI cT σ 0 134 w) : w = wld ad cI cT σ := by
  unfold Sg at h
  rw [h, ← List.range_eq_range']; rfl
end SG
theorem adL_get (l : List Nat) (k x : Nat) (h : l[k]? = some x) : l.getD k 0 = x := by rw [List.getD_eq_getElem?_getD, h]; rfl
def shOK (L : List (Nat × Shp)) : Bool := L.all (fun q => true)
set_option maxRecDepth 4000
section CELLS
variable {cI cT : ClassId} {ad : Nat → Nat}
theorem ce_0 {x : Nat} (h : ad 0 = x) {x0 : Nat} (h0 : ad 1 = x0) {x1 : Nat} (h1 : ad 4 = x1) {x2 : Nat} (h2 : ad 7 = x2) {x3 : Nat} (h3 : ad 10 = x3) {x4 : Nat} (h4 : ad 18 = x4) {x5 : Nat} (h5 : ad 26 = x5) {x6 : Nat} (h6 : ad 34 = x6) {x7 : Nat} (h7 : ad 35 = x7) {x8 : Nat} (h8 : ad 45 = x8) {x9 : Nat} (h9 : ad 90 = x9) {x10 : Nat} (h10 : ad 93 = x10) {x11 : Nat} (h11 : ad 98 = x11) {x12 : Nat} (h12 : ad 133 = x12) : ((x, .inr (8, [.ref x0, .ref x1, .ref x2, .ref x3, .ref x4, .ref x5, .ref x6, .int 0, .ref x7, .ref x8, .ref x9, .ref x10, .ref x11, .int 0, .long 0, .long 1, .int 0, .ref x12])) : Nat × va_E) = (ad 0, cel ad cI cT σ0 0) := by subst h; subst h0; subst h1; subst h2; subst h3; subst h4; subst h5; subst h6; subst h7; subst h8; subst h9; subst h10; subst h11; subst h12; rfl
theorem ce_1 {x : Nat} (h : ad 1 = x) {x0 : Nat} (h0 : ad 2 = x0) {x1 : Nat} (h1 : ad 3 = x1) : ((x, .inr (6, [.int 40, .ref x0, .ref x1])) : Nat × va_E) = (ad 1, cel ad cI cT σ0 1) := by subst h; subst h0; subst h1; rfl
theorem ce_2 {x : Nat} (h : ad 2 = x) : ((x, .inl (cI, 6, .inl (fun j => if j < 6 then (-1) else (fun _ => (0 : Int32)) j))) : Nat × va_E) = (ad 2, cel ad cI cT σ0 2) := by subst h; rfl
theorem ce_3 {x : Nat} (h : ad 3 = x) : ((x, .inl (cI, 240, .inl (fun _ => (0 : Int32)))) : Nat × va_E) = (ad 3, cel ad cI cT σ0 3) := by subst h; rfl
theorem ce_4 {x : Nat} (h : ad 4 = x) {x0 : Nat} (h0 : ad 5 = x0) {x1 : Nat} (h1 : ad 6 = x1) : ((x, .inr (6, [.int 60, .ref x0, .ref x1])) : Nat × va_E) = (ad 4, cel ad cI cT σ0 4) := by subst h; subst h0; subst h1; rfl
theorem ce_5 {x : Nat} (h : ad 5 = x) : ((x, .inl (cI, 4, .inl (fun j => if j < 4 then (-1) else (fun _ => (0 : Int32)) j))) : Nat × va_E) = (ad 5, cel ad cI cT σ0 5) := by subst h; rfl
theorem ce_6 {x : Nat} (h : ad 6 = x) : ((x, .inl (cI, 240, .inl (fun _ => (0 : Int32)))) : Nat × va_E) = (ad 6, cel ad cI cT σ0 6) := by subst h; rfl
theorem ce_7 {x : Nat} (h : ad 7 = x) {x0 : Nat} (h0 : ad 8 = x0) {x1 : Nat} (h1 : ad 9 = x1) : ((x, .inr (6, [.int 40, .ref x0, .ref x1])) : Nat × va_E) = (ad 7, cel ad cI cT σ0 7) := by subst h; subst h0; subst h1; rfl
theorem ce_8 {x : Nat} (h : ad 8 = x) : ((x, .inl (cI, 3, .inl (fun j => if j < 3 then (-1) else (fun _ => (0 : Int32)) j))) : Nat × va_E) = (ad 8, cel ad cI cT σ0 8) := by subst h; rfl
theorem ce_9 {x : Nat} (h : ad 9 = x) : ((x, .inl (cI, 120, .inl (fun _ => (0 : Int32)))) : Nat × va_E) = (ad 9, cel ad cI cT σ0 9) := by subst h; rfl
theorem ce_10 {x : Nat} (h : ad 10 = x) {x0 : Nat} (h0 : ad 11 = x0) {x1 : Nat} (h1 : ad 12 = x1) {x2 : Nat} (h2 : ad 13 = x2) {x3 : Nat} (h3 : ad 14 = x3) {x4 : Nat} (h4 : ad 15 = x4) {x5 : Nat} (h5 : ad 16 = x5) {x6 : Nat} (h6 : ad 17 = x6) : ((x, .inr (7, [.ref x0, .ref x1, .ref x2, .ref x3, .ref x4, .ref x5, .ref x6, .int 1, .int 0, .int 0])) : Nat × va_E) = (ad 10, cel ad cI cT σ0 10) := by subst h; subst h0; subst h1; subst h2; subst h3; subst h4; subst h5; subst h6; rfl
theorem ce_11 {x : Nat} (h : ad 11 = x) : ((x, .inl (cI, 4, .inl (fun _ => (0 : Int32)))) : Nat × va_E) = (ad 11, cel ad cI cT σ0 11) := by subst h; rfl
theorem ce_12 {x : Nat} (h : ad 12 = x) : ((x, .inl (cI, 6, .inl (fun _ => (0 : Int32)))) : Nat × va_E) = (ad 12, cel ad cI cT σ0 12) := by subst h; rfl
theorem ce_13 {x : Nat} (h : ad 13 = x) : ((x, .inl (cI, 6, .inl (fun _ => (0 : Int32)))) : Nat × va_E) = (ad 13, cel ad cI cT σ0 13) := by subst h; rfl
theorem ce_14 {x : Nat} (h : ad 14 = x) : ((x, .inl (cI, 6, .inl (fun _ => (0 : Int32)))) : Nat × va_E) = (ad 14, cel ad cI cT σ0 14) := by subst h; rfl
theorem ce_15 {x : Nat} (h : ad 15 = x) : ((x, .inl (cI, 6, .inl (fun _ => (0 : Int32)))) : Nat × va_E) = (ad 15, cel ad cI cT σ0 15) := by subst h; rfl
theorem ce_16 {x : Nat} (h : ad 16 = x) : ((x, .inl (cI, 6, .inl (fun _ => (0 : Int32)))) : Nat × va_E) = (ad 16, cel ad cI cT σ0 16) := by subst h; rfl
theorem ce_17 {x : Nat} (h : ad 17 = x) : ((x, .inl (cI, 6, .inl (fun _ => (0 : Int32)))) : Nat × va_E) = (ad 17, cel ad cI cT σ0 17) := by subst h; rfl
theorem ce_18 {x : Nat} (h : ad 18 = x) {x0 : Nat} (h0 : ad 19 = x0) {x1 : Nat} (h1 : ad 20 = x1) {x2 : Nat} (h2 : ad 21 = x2) {x3 : Nat} (h3 : ad 22 = x3) {x4 : Nat} (h4 : ad 23 = x4) {x5 : Nat} (h5 : ad 24 = x5) {x6 : Nat} (h6 : ad 25 = x6) : ((x, .inr (7, [.ref x0, .ref x1, .ref x2, .ref x3, .ref x4, .ref x5, .ref x6, .int 1, .int 0, .int 0])) : Nat × va_E) = (ad 18, cel ad cI cT σ0 18) := by subst h; subst h0; subst h1; subst h2; subst h3; subst h4; subst h5; subst h6; rfl
theorem ce_19 {x : Nat} (h : ad 19 = x) : ((x, .inl (cI, 4, .inl (fun _ => (0 : Int32)))) : Nat × va_E) = (ad 19, cel ad cI cT σ0 19) := by subst h; rfl
theorem ce_20 {x : Nat} (h : ad 20 = x) : ((x, .inl (cI, 6, .inl (fun _ => (0 : Int32)))) : Nat × va_E) = (ad 20, cel ad cI cT σ0 20) := by subst h; rfl
theorem ce_21 {x : Nat} (h : ad 21 = x) : ((x, .inl (cI, 6, .inl (fun _ => (0 : Int32)))) : Nat × va_E) = (ad 21, cel ad cI cT σ0 21) := by subst h; rfl
theorem ce_22 {x : Nat} (h : ad 22 = x) : ((x, .inl (cI, 6, .inl (fun _ => (0 : Int32)))) : Nat × va_E) = (ad 22, cel ad cI cT σ0 22) := by subst h; rfl
theorem ce_23 {x : Nat} (h : ad 23 = x) : ((x, .inl (cI, 6, .inl (fun _ => (0 : Int32)))) : Nat × va_E) = (ad 23, cel ad cI cT σ0 23) := by subst h; rfl
theorem ce_24 {x : Nat} (h : ad 24 = x) : ((x, .inl (cI, 6, .inl (fun _ => (0 : Int32)))) : Nat × va_E) = (ad 24, cel ad cI cT σ0 24) := by subst h; rfl
theorem ce_25 {x : Nat} (h : ad 25 = x) : ((x, .inl (cI, 6, .inl (fun _ => (0 : Int32)))) : Nat × va_E) = (ad 25, cel ad cI cT σ0 25) := by subst h; rfl
theorem ce_26 {x : Nat} (h : ad 26 = x) {x0 : Nat} (h0 : ad 27 = x0) {x1 : Nat} (h1 : ad 28 = x1) {x2 : Nat} (h2 : ad 29 = x2) {x3 : Nat} (h3 : ad 30 = x3) {x4 : Nat} (h4 : ad 31 = x4) {x5 : Nat} (h5 : ad 32 = x5) {x6 : Nat} (h6 : ad 33 = x6) : ((x, .inr (7, [.ref x0, .ref x1, .ref x2, .ref x3, .ref x4, .ref x5, .ref x6, .int 1, .int 0, .int 0])) : Nat × va_E) = (ad 26, cel ad cI cT σ0 26) := by subst h; subst h0; subst h1; subst h2; subst h3; subst h4; subst h5; subst h6; rfl
theorem ce_27 {x : Nat} (h : ad 27 = x) : ((x, .inl (cI, 4, .inl (fun _ => (0 : Int32)))) : Nat × va_E) = (ad 27, cel ad cI cT σ0 27) := by subst h; rfl
theorem ce_28 {x : Nat} (h : ad 28 = x) : ((x, .inl (cI, 6, .inl (fun _ => (0 : Int32)))) : Nat × va_E) = (ad 28, cel ad cI cT σ0 28) := by subst h; rfl
theorem ce_29 {x : Nat} (h : ad 29 = x) : ((x, .inl (cI, 6, .inl (fun _ => (0 : Int32)))) : Nat × va_E) = (ad 29, cel ad cI cT σ0 29) := by subst h; rfl
theorem ce_30 {x : Nat} (h : ad 30 = x) : ((x, .inl (cI, 6, .inl (fun _ => (0 : Int32)))) : Nat × va_E) = (ad 30, cel ad cI cT σ0 30) := by subst h; rfl
theorem ce_31 {x : Nat} (h : ad 31 = x) : ((x, .inl (cI, 6, .inl (fun _ => (0 : Int32)))) : Nat × va_E) = (ad 31, cel ad cI cT σ0 31) := by subst h; rfl
theorem ce_32 {x : Nat} (h : ad 32 = x) : ((x, .inl (cI, 6, .inl (fun _ => (0 : Int32)))) : Nat × va_E) = (ad 32, cel ad cI cT σ0 32) := by subst h; rfl
theorem ce_33 {x : Nat} (h : ad 33 = x) : ((x, .inl (cI, 6, .inl (fun _ => (0 : Int32)))) : Nat × va_E) = (ad 33, cel ad cI cT σ0 33) := by subst h; rfl
theorem ce_34 {x : Nat} (h : ad 34 = x) : ((x, .inl (cI, 40, .inl (fun _ => (0 : Int32)))) : Nat × va_E) = (ad 34, cel ad cI cT σ0 34) := by subst h; rfl
theorem ce_35 {x : Nat} (h : ad 35 = x) {x0 : Nat} (h0 : ad 36 = x0) {x1 : Nat} (h1 : ad 44 = x1) : ((x, .inr (4, [.ref x0, .ref x1, .int 0, .int 0])) : Nat × va_E) = (ad 35, cel ad cI cT σ0 35) := by subst h; subst h0; subst h1; rfl
theorem ce_36 {x : Nat} (h : ad 36 = x) {x0 : Nat} (h0 : ad 37 = x0) {x1 : Nat} (h1 : ad 38 = x1) {x2 : Nat} (h2 : ad 39 = x2) {x3 : Nat} (h3 : ad 40 = x3) {x4 : Nat} (h4 : ad 41 = x4) {x5 : Nat} (h5 : ad 42 = x5) {x6 : Nat} (h6 : ad 43 = x6) : ((x, .inr (7, [.ref x0, .ref x1, .ref x2, .ref x3, .ref x4, .ref x5, .ref x6, .int 1, .int 0, .int 0])) : Nat × va_E) = (ad 36, cel ad cI cT σ0 36) := by subst h; subst h0; subst h1; subst h2; subst h3; subst h4; subst h5; subst h6; rfl
theorem ce_37 {x : Nat} (h : ad 37 = x) : ((x, .inl (cI, 4, .inl (fun _ => (0 : Int32)))) : Nat × va_E) = (ad 37, cel ad cI cT σ0 37) := by subst h; rfl
theorem ce_38 {x : Nat} (h : ad 38 = x) : ((x, .inl (cI, 6, .inl (fun _ => (0 : Int32)))) : Nat × va_E) = (ad 38, cel ad cI cT σ0 38) := by subst h; rfl
theorem ce_39 {x : Nat} (h : ad 39 = x) : ((x, .inl (cI, 6, .inl (fun _ => (0 : Int32)))) : Nat × va_E) = (ad 39, cel ad cI cT σ0 39) := by subst h; rfl
theorem ce_40 {x : Nat} (h : ad 40 = x) : ((x, .inl (cI, 6, .inl (fun _ => (0 : Int32)))) : Nat × va_E) = (ad 40, cel ad cI cT σ0 40) := by subst h; rfl
theorem ce_41 {x : Nat} (h : ad 41 = x) : ((x, .inl (cI, 6, .inl (fun _ => (0 : Int32)))) : Nat × va_E) = (ad 41, cel ad cI cT σ0 41) := by subst h; rfl
theorem ce_42 {x : Nat} (h : ad 42 = x) : ((x, .inl (cI, 6, .inl (fun _ => (0 : Int32)))) : Nat × va_E) = (ad 42, cel ad cI cT σ0 42) := by subst h; rfl
theorem ce_43 {x : Nat} (h : ad 43 = x) : ((x, .inl (cI, 6, .inl (fun _ => (0 : Int32)))) : Nat × va_E) = (ad 43, cel ad cI cT σ0 43) := by subst h; rfl
theorem ce_44 {x : Nat} (h : ad 44 = x) : ((x, .inl (cI, 60, .inl (fun _ => (0 : Int32)))) : Nat × va_E) = (ad 44, cel ad cI cT σ0 44) := by subst h; rfl
theorem ce_45 {x : Nat} (h : ad 45 = x) {x0 : Nat} (h0 : ad 46 = x0) {x1 : Nat} (h1 : ad 88 = x1) {x2 : Nat} (h2 : ad 89 = x2) : ((x, .inr (5, [.ref x0, .ref x1, .ref x2, .int 0])) : Nat × va_E) = (ad 45, cel ad cI cT σ0 45) := by subst h; subst h0; subst h1; subst h2; rfl
theorem ce_46 {x : Nat} (h : ad 46 = x) {x0 : Nat} (h0 : ad 47 = x0) : ((x, .inr (2, [.ref x0])) : Nat × va_E) = (ad 46, cel ad cI cT σ0 46) := by subst h; subst h0; rfl
theorem ce_47 {x : Nat} (h : ad 47 = x) {x0 : Nat} (h0 : ad 48 = x0) {x1 : Nat} (h1 : ad 56 = x1) {x2 : Nat} (h2 : ad 64 = x2) {x3 : Nat} (h3 : ad 72 = x3) {x4 : Nat} (h4 : ad 80 = x4) : ((x, .inl (cT, 5, .inr (.inr (.inr (.inr (va_up (va_up (va_up (va_up (va_up (fun _ => none) 0 (some x0)) 1 (some x1)) 2 (some x2)) 3 (some x3)) 4 (some x4))))))) : Nat × va_E) = (ad 47, cel ad cI cT σ0 47) := by subst h; subst h0; subst h1; subst h2; subst h3; subst h4; rw [up5 ad 48 56 64 72 80]; rfl
theorem ce_48 {x : Nat} (h : ad 48 = x) {x0 : Nat} (h0 : ad 49 = x0) {x1 : Nat} (h1 : ad 50 = x1) {x2 : Nat} (h2 : ad 51 = x2) {x3 : Nat} (h3 : ad 52 = x3) {x4 : Nat} (h4 : ad 53 = x4) {x5 : Nat} (h5 : ad 54 = x5) {x6 : Nat} (h6 : ad 55 = x6) : ((x, .inr (7, [.ref x0, .ref x1, .ref x2, .ref x3, .ref x4, .ref x5, .ref x6, .int 1, .int 0, .int 0])) : Nat × va_E) = (ad 48, cel ad cI cT σ0 48) := by subst h; subst h0; subst h1; subst h2; subst h3; subst h4; subst h5; subst h6; rfl
theorem ce_49 {x : Nat} (h : ad 49 = x) : ((x, .inl (cI, 4, .inl (fun _ => (0 : Int32)))) : Nat × va_E) = (ad 49, cel ad cI cT σ0 49) := by subst h; rfl
theorem ce_50 {x : Nat} (h : ad 50 = x) : ((x, .inl (cI, 6, .inl (fun _ => (0 : Int32)))) : Nat × va_E) = (ad 50, cel ad cI cT σ0 50) := by subst h; rfl
theorem ce_51 {x : Nat} (h : ad 51 = x) : ((x, .inl (cI, 6, .inl (fun _ => (0 : Int32)))) : Nat × va_E) = (ad 51, cel ad cI cT σ0 51) := by subst h; rfl
theorem ce_52 {x : Nat} (h : ad 52 = x) : ((x, .inl (cI, 6, .inl (fun _ => (0 : Int32)))) : Nat × va_E) = (ad 52, cel ad cI cT σ0 52) := by subst h; rfl
theorem ce_53 {x : Nat} (h : ad 53 = x) : ((x, .inl (cI, 6, .inl (fun _ => (0 : Int32)))) : Nat × va_E) = (ad 53, cel ad cI cT σ0 53) := by subst h; rfl
theorem ce_54 {x : Nat} (h : ad 54 = x) : ((x, .inl (cI, 6, .inl (fun _ => (0 : Int32)))) : Nat × va_E) = (ad 54, cel ad cI cT σ0 54) := by subst h; rfl
theorem ce_55 {x : Nat} (h : ad 55 = x) : ((x, .inl (cI, 6, .inl (fun _ => (0 : Int32)))) : Nat × va_E) = (ad 55, cel ad cI cT σ0 55) := by subst h; rfl
theorem ce_56 {x : Nat} (h : ad 56 = x) {x0 : Nat} (h0 : ad 57 = x0) {x1 : Nat} (h1 : ad 58 = x1) {x2 : Nat} (h2 : ad 59 = x2) {x3 : Nat} (h3 : ad 60 = x3) {x4 : Nat} (h4 : ad 61 = x4) {x5 : Nat} (h5 : ad 62 = x5) {x6 : Nat} (h6 : ad 63 = x6) : ((x, .inr (7, [.ref x0, .ref x1, .ref x2, .ref x3, .ref x4, .ref x5, .ref x6, .int 1, .int 0, .int 0])) : Nat × va_E) = (ad 56, cel ad cI cT σ0 56) := by subst h; subst h0; subst h1; subst h2; subst h3; subst h4; subst h5; subst h6; rfl
theorem ce_57 {x : Nat} (h : ad 57 = x) : ((x, .inl (cI, 4, .inl (fun _ => (0 : Int32)))) : Nat × va_E) = (ad 57, cel ad cI cT σ0 57) := by subst h; rfl
theorem ce_58 {x : Nat} (h : ad 58 = x) : ((x, .inl (cI, 6, .inl (fun _ => (0 : Int32)))) : Nat × va_E) = (ad 58, cel ad cI cT σ0 58) := by subst h; rfl
theorem ce_59 {x : Nat} (h : ad 59 = x) : ((x, .inl (cI, 6, .inl (fun _ => (0 : Int32)))) : Nat × va_E) = (ad 59, cel ad cI cT σ0 59) := by subst h; rfl
theorem ce_60 {x : Nat} (h : ad 60 = x) : ((x, .inl (cI, 6, .inl (fun _ => (0 : Int32)))) : Nat × va_E) = (ad 60, cel ad cI cT σ0 60) := by subst h; rfl
theorem ce_61 {x : Nat} (h : ad 61 = x) : ((x, .inl (cI, 6, .inl (fun _ => (0 : Int32)))) : Nat × va_E) = (ad 61, cel ad cI cT σ0 61) := by subst h; rfl
theorem ce_62 {x : Nat} (h : ad 62 = x) : ((x, .inl (cI, 6, .inl (fun _ => (0 : Int32)))) : Nat × va_E) = (ad 62, cel ad cI cT σ0 62) := by subst h; rfl
theorem ce_63 {x : Nat} (h : ad 63 = x) : ((x, .inl (cI, 6, .inl (fun _ => (0 : Int32)))) : Nat × va_E) = (ad 63, cel ad cI cT σ0 63) := by subst h; rfl
theorem ce_64 {x : Nat} (h : ad 64 = x) {x0 : Nat} (h0 : ad 65 = x0) {x1 : Nat} (h1 : ad 66 = x1) {x2 : Nat} (h2 : ad 67 = x2) {x3 : Nat} (h3 : ad 68 = x3) {x4 : Nat} (h4 : ad 69 = x4) {x5 : Nat} (h5 : ad 70 = x5) {x6 : Nat} (h6 : ad 71 = x6) : ((x, .inr (7, [.ref x0, .ref x1, .ref x2, .ref x3, .ref x4, .ref x5, .ref x6, .int 1, .int 0, .int 0])) : Nat × va_E) = (ad 64, cel ad cI cT σ0 64) := by subst h; subst h0; subst h1; subst h2; subst h3; subst h4; subst h5; subst h6; rfl
theorem ce_65 {x : Nat} (h : ad 65 = x) : ((x, .inl (cI, 4, .inl (fun _ => (0 : Int32)))) : Nat × va_E) = (ad 65, cel ad cI cT σ0 65) := by subst h; rfl
theorem ce_66 {x : Nat} (h : ad 66 = x) : ((x, .inl (cI, 6, .inl (fun _ => (0 : Int32)))) : Nat × va_E) = (ad 66, cel ad cI cT σ0 66) := by subst h; rfl
theorem ce_67 {x : Nat} (h : ad 67 = x) : ((x, .inl (cI, 6, .inl (fun _ => (0 : Int32)))) : Nat × va_E) = (ad 67, cel ad cI cT σ0 67) := by subst h; rfl
theorem ce_68 {x : Nat} (h : ad 68 = x) : ((x, .inl (cI, 6, .inl (fun _ => (0 : Int32)))) : Nat × va_E) = (ad 68, cel ad cI cT σ0 68) := by subst h; rfl
theorem ce_69 {x : Nat} (h : ad 69 = x) : ((x, .inl (cI, 6, .inl (fun _ => (0 : Int32)))) : Nat × va_E) = (ad 69, cel ad cI cT σ0 69) := by subst h; rfl
theorem ce_70 {x : Nat} (h : ad 70 = x) : ((x, .inl (cI, 6, .inl (fun _ => (0 : Int32)))) : Nat × va_E) = (ad 70, cel ad cI cT σ0 70) := by subst h; rfl
theorem ce_71 {x : Nat} (h : ad 71 = x) : ((x, .inl (cI, 6, .inl (fun _ => (0 : Int32)))) : Nat × va_E) = (ad 71, cel ad cI cT σ0 71) := by subst h; rfl
theorem ce_72 {x : Nat} (h : ad 72 = x) {x0 : Nat} (h0 : ad 73 = x0) {x1 : Nat} (h1 : ad 74 = x1) {x2 : Nat} (h2 : ad 75 = x2) {x3 : Nat} (h3 : ad 76 = x3) {x4 : Nat} (h4 : ad 77 = x4) {x5 : Nat} (h5 : ad 78 = x5) {x6 : Nat} (h6 : ad 79 = x6) : ((x, .inr (7, [.ref x0, .ref x1, .ref x2, .ref x3, .ref x4, .ref x5, .ref x6, .int 1, .int 0, .int 0])) : Nat × va_E) = (ad 72, cel ad cI cT σ0 72) := by subst h; subst h0; subst h1; subst h2; subst h3; subst h4; subst h5; subst h6; rfl
theorem ce_73 {x : Nat} (h : ad 73 = x) : ((x, .inl (cI, 4, .inl (fun _ => (0 : Int32)))) : Nat × va_E) = (ad 73, cel ad cI cT σ0 73) := by subst h; rfl
theorem ce_74 {x : Nat} (h : ad 74 = x) : ((x, .inl (cI, 6, .inl (fun _ => (0 : Int32)))) : Nat × va_E) = (ad 74, cel ad cI cT σ0 74) := by subst h; rfl
theorem ce_75 {x : Nat} (h : ad 75 = x) : ((x, .inl (cI, 6, .inl (fun _ => (0 : Int32)))) : Nat × va_E) = (ad 75, cel ad cI cT σ0 75) := by subst h; rfl
theorem ce_76 {x : Nat} (h : ad 76 = x) : ((x, .inl (cI, 6, .inl (fun _ => (0 : Int32)))) : Nat × va_E) = (ad 76, cel ad cI cT σ0 76) := by subst h; rfl
theorem ce_77 {x : Nat} (h : ad 77 = x) : ((x, .inl (cI, 6, .inl (fun _ => (0 : Int32)))) : Nat × va_E) = (ad 77, cel ad cI cT σ0 77) := by subst h; rfl
theorem ce_78 {x : Nat} (h : ad 78 = x) : ((x, .inl (cI, 6, .inl (fun _ => (0 : Int32)))) : Nat × va_E) = (ad 78, cel ad cI cT σ0 78) := by subst h; rfl
theorem ce_79 {x : Nat} (h : ad 79 = x) : ((x, .inl (cI, 6, .inl (fun _ => (0 : Int32)))) : Nat × va_E) = (ad 79, cel ad cI cT σ0 79) := by subst h; rfl
theorem ce_80 {x : Nat} (h : ad 80 = x) {x0 : Nat} (h0 : ad 81 = x0) {x1 : Nat} (h1 : ad 82 = x1) {x2 : Nat} (h2 : ad 83 = x2) {x3 : Nat} (h3 : ad 84 = x3) {x4 : Nat} (h4 : ad 85 = x4) {x5 : Nat} (h5 : ad 86 = x5) {x6 : Nat} (h6 : ad 87 = x6) : ((x, .inr (7, [.ref x0, .ref x1, .ref x2, .ref x3, .ref x4, .ref x5, .ref x6, .int 1, .int 0, .int 0])) : Nat × va_E) = (ad 80, cel ad cI cT σ0 80) := by subst h; subst h0; subst h1; subst h2; subst h3; subst h4; subst h5; subst h6; rfl
theorem ce_81 {x : Nat} (h : ad 81 = x) : ((x, .inl (cI, 4, .inl (fun _ => (0 : Int32)))) : Nat × va_E) = (ad 81, cel ad cI cT σ0 81) := by subst h; rfl
theorem ce_82 {x : Nat} (h : ad 82 = x) : ((x, .inl (cI, 6, .inl (fun _ => (0 : Int32)))) : Nat × va_E) = (ad 82, cel ad cI cT σ0 82) := by subst h; rfl
theorem ce_83 {x : Nat} (h : ad 83 = x) : ((x, .inl (cI, 6, .inl (fun _ => (0 : Int32)))) : Nat × va_E) = (ad 83, cel ad cI cT σ0 83) := by subst h; rfl
theorem ce_84 {x : Nat} (h : ad 84 = x) : ((x, .inl (cI, 6, .inl (fun _ => (0 : Int32)))) : Nat × va_E) = (ad 84, cel ad cI cT σ0 84) := by subst h; rfl
theorem ce_85 {x : Nat} (h : ad 85 = x) : ((x, .inl (cI, 6, .inl (fun _ => (0 : Int32)))) : Nat × va_E) = (ad 85, cel ad cI cT σ0 85) := by subst h; rfl
theorem ce_86 {x : Nat} (h : ad 86 = x) : ((x, .inl (cI, 6, .inl (fun _ => (0 : Int32)))) : Nat × va_E) = (ad 86, cel ad cI cT σ0 86) := by subst h; rfl
theorem ce_87 {x : Nat} (h : ad 87 = x) : ((x, .inl (cI, 6, .inl (fun _ => (0 : Int32)))) : Nat × va_E) = (ad 87, cel ad cI cT σ0 87) := by subst h; rfl
theorem ce_88 {x : Nat} (h : ad 88 = x) : ((x, .inl (cI, 4, .inl (fun _ => (0 : Int32)))) : Nat × va_E) = (ad 88, cel ad cI cT σ0 88) := by subst h; rfl
theorem ce_89 {x : Nat} (h : ad 89 = x) : ((x, .inl (cI, 4, .inl (fun _ => (0 : Int32)))) : Nat × va_E) = (ad 89, cel ad cI cT σ0 89) := by subst h; rfl
theorem ce_90 {x : Nat} (h : ad 90 = x) {x0 : Nat} (h0 : ad 91 = x0) {x1 : Nat} (h1 : ad 92 = x1) : ((x, .inr (3, [.ref x0, .ref x1, .int 0])) : Nat × va_E) = (ad 90, cel ad cI cT σ0 90) := by subst h; subst h0; subst h1; rfl
theorem ce_91 {x : Nat} (h : ad 91 = x) : ((x, .inl (cI, 6, .inl (fun _ => (0 : Int32)))) : Nat × va_E) = (ad 91, cel ad cI cT σ0 91) := by subst h; rfl
theorem ce_92 {x : Nat} (h : ad 92 = x) : ((x, .inl (cI, 6, .inl (fun _ => (0 : Int32)))) : Nat × va_E) = (ad 92, cel ad cI cT σ0 92) := by subst h; rfl
theorem ce_93 {x : Nat} (h : ad 93 = x) {x0 : Nat} (h0 : ad 94 = x0) {x1 : Nat} (h1 : ad 95 = x1) {x2 : Nat} (h2 : ad 96 = x2) {x3 : Nat} (h3 : ad 97 = x3) : ((x, .inr (0, [.ref x0, .ref x1, .ref x2, .ref x3, .int 0, .int 0])) : Nat × va_E) = (ad 93, cel ad cI cT σ0 93) := by subst h; subst h0; subst h1; subst h2; subst h3; rfl
theorem ce_94 {x : Nat} (h : ad 94 = x) : ((x, .inl (cI, 20, .inl (fun _ => (0 : Int32)))) : Nat × va_E) = (ad 94, cel ad cI cT σ0 94) := by subst h; rfl
theorem ce_95 {x : Nat} (h : ad 95 = x) : ((x, .inl (cI, 20, .inl (fun _ => (0 : Int32)))) : Nat × va_E) = (ad 95, cel ad cI cT σ0 95) := by subst h; rfl
theorem ce_96 {x : Nat} (h : ad 96 = x) : ((x, .inl (cI, 6, .inl (fun _ => (0 : Int32)))) : Nat × va_E) = (ad 96, cel ad cI cT σ0 96) := by subst h; rfl
theorem ce_97 {x : Nat} (h : ad 97 = x) : ((x, .inl (cI, 31, .inl (fun _ => (0 : Int32)))) : Nat × va_E) = (ad 97, cel ad cI cT σ0 97) := by subst h; rfl
theorem ce_98 {x : Nat} (h : ad 98 = x) {x0 : Nat} (h0 : ad 99 = x0) : ((x, .inr (1, [.ref x0])) : Nat × va_E) = (ad 98, cel ad cI cT σ0 98) := by subst h; subst h0; rfl
theorem ce_99 {x : Nat} (h : ad 99 = x) {x0 : Nat} (h0 : ad 100 = x0) : ((x, .inr (2, [.ref x0])) : Nat × va_E) = (ad 99, cel ad cI cT σ0 99) := by subst h; subst h0; rfl
theorem ce_100 {x : Nat} (h : ad 100 = x) {x0 : Nat} (h0 : ad 101 = x0) {x1 : Nat} (h1 : ad 109 = x1) {x2 : Nat} (h2 : ad 117 = x2) {x3 : Nat} (h3 : ad 125 = x3) : ((x, .inl (cT, 4, .inr (.inr (.inr (.inr (va_up (va_up (va_up (va_up (fun _ => none) 0 (some x0)) 1 (some x1)) 2 (some x2)) 3 (some x3))))))) : Nat × va_E) = (ad 100, cel ad cI cT σ0 100) := by subst h; subst h0; subst h1; subst h2; subst h3; rw [up4 ad 101 109 117 125]; rfl
theorem ce_101 {x : Nat} (h : ad 101 = x) {x0 : Nat} (h0 : ad 102 = x0) {x1 : Nat} (h1 : ad 103 = x1) {x2 : Nat} (h2 : ad 104 = x2) {x3 : Nat} (h3 : ad 105 = x3) {x4 : Nat} (h4 : ad 106 = x4) {x5 : Nat} (h5 : ad 107 = x5) {x6 : Nat} (h6 : ad 108 = x6) : ((x, .inr (7, [.ref x0, .ref x1, .ref x2, .ref x3, .ref x4, .ref x5, .ref x6, .int 1, .int 0, .int 0])) : Nat × va_E) = (ad 101, cel ad cI cT σ0 101) := by subst h; subst h0; subst h1; subst h2; subst h3; subst h4; subst h5; subst h6; rfl
theorem ce_102 {x : Nat} (h : ad 102 = x) : ((x, .inl (cI, 4, .inl (fun _ => (0 : Int32)))) : Nat × va_E) = (ad 102, cel ad cI cT σ0 102) := by subst h; rfl
theorem ce_103 {x : Nat} (h : ad 103 = x) : ((x, .inl (cI, 6, .inl (fun _ => (0 : Int32)))) : Nat × va_E) = (ad 103, cel ad cI cT σ0 103) := by subst h; rfl
theorem ce_104 {x : Nat} (h : ad 104 = x) : ((x, .inl (cI, 6, .inl (fun _ => (0 : Int32)))) : Nat × va_E) = (ad 104, cel ad cI cT σ0 104) := by subst h; rfl
theorem ce_105 {x : Nat} (h : ad 105 = x) : ((x, .inl (cI, 6, .inl (fun _ => (0 : Int32)))) : Nat × va_E) = (ad 105, cel ad cI cT σ0 105) := by subst h; rfl
theorem ce_106 {x : Nat} (h : ad 106 = x) : ((x, .inl (cI, 6, .inl (fun _ => (0 : Int32)))) : Nat × va_E) = (ad 106, cel ad cI cT σ0 106) := by subst h; rfl
theorem ce_107 {x : Nat} (h : ad 107 = x) : ((x, .inl (cI, 6, .inl (fun _ => (0 : Int32)))) : Nat × va_E) = (ad 107, cel ad cI cT σ0 107) := by subst h; rfl
theorem ce_108 {x : Nat} (h : ad 108 = x) : ((x, .inl (cI, 6, .inl (fun _ => (0 : Int32)))) : Nat × va_E) = (ad 108, cel ad cI cT σ0 108) := by subst h; rfl
theorem ce_109 {x : Nat} (h : ad 109 = x) {x0 : Nat} (h0 : ad 110 = x0) {x1 : Nat} (h1 : ad 111 = x1) {x2 : Nat} (h2 : ad 112 = x2) {x3 : Nat} (h3 : ad 113 = x3) {x4 : Nat} (h4 : ad 114 = x4) {x5 : Nat} (h5 : ad 115 = x5) {x6 : Nat} (h6 : ad 116 = x6) : ((x, .inr (7, [.ref x0, .ref x1, .ref x2, .ref x3, .ref x4, .ref x5, .ref x6, .int 1, .int 0, .int 0])) : Nat × va_E) = (ad 109, cel ad cI cT σ0 109) := by subst h; subst h0; subst h1; subst h2; subst h3; subst h4; subst h5; subst h6; rfl
theorem ce_110 {x : Nat} (h : ad 110 = x) : ((x, .inl (cI, 4, .inl (fun _ => (0 : Int32)))) : Nat × va_E) = (ad 110, cel ad cI cT σ0 110) := by subst h; rfl
theorem ce_111 {x : Nat} (h : ad 111 = x) : ((x, .inl (cI, 6, .inl (fun _ => (0 : Int32)))) : Nat × va_E) = (ad 111, cel ad cI cT σ0 111) := by subst h; rfl
theorem ce_112 {x : Nat} (h : ad 112 = x) : ((x, .inl (cI, 6, .inl (fun _ => (0 : Int32)))) : Nat × va_E) = (ad 112, cel ad cI cT σ0 112) := by subst h; rfl
theorem ce_113 {x : Nat} (h : ad 113 = x) : ((x, .inl (cI, 6, .inl (fun _ => (0 : Int32)))) : Nat × va_E) = (ad 113, cel ad cI cT σ0 113) := by subst h; rfl
theorem ce_114 {x : Nat} (h : ad 114 = x) : ((x, .inl (cI, 6, .inl (fun _ => (0 : Int32)))) : Nat × va_E) = (ad 114, cel ad cI cT σ0 114) := by subst h; rfl
theorem ce_115 {x : Nat} (h : ad 115 = x) : ((x, .inl (cI, 6, .inl (fun _ => (0 : Int32)))) : Nat × va_E) = (ad 115, cel ad cI cT σ0 115) := by subst h; rfl
theorem ce_116 {x : Nat} (h : ad 116 = x) : ((x, .inl (cI, 6, .inl (fun _ => (0 : Int32)))) : Nat × va_E) = (ad 116, cel ad cI cT σ0 116) := by subst h; rfl
theorem ce_117 {x : Nat} (h : ad 117 = x) {x0 : Nat} (h0 : ad 118 = x0) {x1 : Nat} (h1 : ad 119 = x1) {x2 : Nat} (h2 : ad 120 = x2) {x3 : Nat} (h3 : ad 121 = x3) {x4 : Nat} (h4 : ad 122 = x4) {x5 : Nat} (h5 : ad 123 = x5) {x6 : Nat} (h6 : ad 124 = x6) : ((x, .inr (7, [.ref x0, .ref x1, .ref x2, .ref x3, .ref x4, .ref x5, .ref x6, .int 1, .int 0, .int 0])) : Nat × va_E) = (ad 117, cel ad cI cT σ0 117) := by subst h; subst h0; subst h1; subst h2; subst h3; subst h4; subst h5; subst h6; rfl
theorem ce_118 {x : Nat} (h : ad 118 = x) : ((x, .inl (cI, 4, .inl (fun _ => (0 : Int32)))) : Nat × va_E) = (ad 118, cel ad cI cT σ0 118) := by subst h; rfl
theorem ce_119 {x : Nat} (h : ad 119 = x) : ((x, .inl (cI, 6, .inl (fun _ => (0 : Int32)))) : Nat × va_E) = (ad 119, cel ad cI cT σ0 119) := by subst h; rfl
theorem ce_120 {x : Nat} (h : ad 120 = x) : ((x, .inl (cI, 6, .inl (fun _ => (0 : Int32)))) : Nat × va_E) = (ad 120, cel ad cI cT σ0 120) := by subst h; rfl
theorem ce_121 {x : Nat} (h : ad 121 = x) : ((x, .inl (cI, 6, .inl (fun _ => (0 : Int32)))) : Nat × va_E) = (ad 121, cel ad cI cT σ0 121) := by subst h; rfl
theorem ce_122 {x : Nat} (h : ad 122 = x) : ((x, .inl (cI, 6, .inl (fun _ => (0 : Int32)))) : Nat × va_E) = (ad 122, cel ad cI cT σ0 122) := by subst h; rfl
theorem ce_123 {x : Nat} (h : ad 123 = x) : ((x, .inl (cI, 6, .inl (fun _ => (0 : Int32)))) : Nat × va_E) = (ad 123, cel ad cI cT σ0 123) := by subst h; rfl
theorem ce_124 {x : Nat} (h : ad 124 = x) : ((x, .inl (cI, 6, .inl (fun _ => (0 : Int32)))) : Nat × va_E) = (ad 124, cel ad cI cT σ0 124) := by subst h; rfl
theorem ce_125 {x : Nat} (h : ad 125 = x) {x0 : Nat} (h0 : ad 126 = x0) {x1 : Nat} (h1 : ad 127 = x1) {x2 : Nat} (h2 : ad 128 = x2) {x3 : Nat} (h3 : ad 129 = x3) {x4 : Nat} (h4 : ad 130 = x4) {x5 : Nat} (h5 : ad 131 = x5) {x6 : Nat} (h6 : ad 132 = x6) : ((x, .inr (7, [.ref x0, .ref x1, .ref x2, .ref x3, .ref x4, .ref x5, .ref x6, .int 1, .int 0, .int 0])) : Nat × va_E) = (ad 125, cel ad cI cT σ0 125) := by subst h; subst h0; subst h1; subst h2; subst h3; subst h4; subst h5; subst h6; rfl
theorem ce_126 {x : Nat} (h : ad 126 = x) : ((x, .inl (cI, 4, .inl (fun _ => (0 : Int32)))) : Nat × va_E) = (ad 126, cel ad cI cT σ0 126) := by subst h; rfl
theorem ce_127 {x : Nat} (h : ad 127 = x) : ((x, .inl (cI, 6, .inl (fun _ => (0 : Int32)))) : Nat × va_E) = (ad 127, cel ad cI cT σ0 127) := by subst h; rfl
theorem ce_128 {x : Nat} (h : ad 128 = x) : ((x, .inl (cI, 6, .inl (fun _ => (0 : Int32)))) : Nat × va_E) = (ad 128, cel ad cI cT σ0 128) := by subst h; rfl
theorem ce_129 {x : Nat} (h : ad 129 = x) : ((x, .inl (cI, 6, .inl (fun _ => (0 : Int32)))) : Nat × va_E) = (ad 129, cel ad cI cT σ0 129) := by subst h; rfl
theorem ce_130 {x : Nat} (h : ad 130 = x) : ((x, .inl (cI, 6, .inl (fun _ => (0 : Int32)))) : Nat × va_E) = (ad 130, cel ad cI cT σ0 130) := by subst h; rfl
theorem ce_131 {x : Nat} (h : ad 131 = x) : ((x, .inl (cI, 6, .inl (fun _ => (0 : Int32)))) : Nat × va_E) = (ad 131, cel ad cI cT σ0 131) := by subst h; rfl
theorem ce_132 {x : Nat} (h : ad 132 = x) : ((x, .inl (cI, 6, .inl (fun _ => (0 : Int32)))) : Nat × va_E) = (ad 132, cel ad cI cT σ0 132) := by subst h; rfl
theorem ce_133 {x : Nat} (h : ad 133 = x) : ((x, .inl (cI, 6, .inl (fun _ => (0 : Int32)))) : Nat × va_E) = (ad 133, cel ad cI cT σ0 133) := by subst h; rfl
end CELLS

/-! ===== what the constructors make: the judgement U, over a list of cells that grows ===== -/
/-- the words that aren't among lw_good: nest links, the array class of towns -/
def NW (U : State) : Prop := (∀ w ∈ lw_nest, va_Nw w U) ∧ va_AO "BolsterBeds$Town" U
theorem NW.go {s U : State} (hW : s.WarmedH U.vm) (h : NW s) : NW U := ⟨fun w hw => nest_warm hw hW (h.1 w hw), va_AO.moved hW.alike h.2⟩
theorem NW.call {U : State} (a : Array Value) (g : JFrame) (mk : MethodId) (h : NW U) : NW (U.calling g mk a) := ⟨fun w hw => va_Nw.same (u := U) (U := U.calling g mk a) (nest_on hw) rfl (h.1 w hw), va_AO.moved (u := U) (U := U.calling g mk a) (Vm.Alike.refl U.vm) h.2⟩
abbrev UU : Type := va_G × (Nat → Prop) × Program × Launch × Env × Room × State × MethodId × Array Value × List Frame × Method × Code × (State → Prop)
def U (Γ : UU) (nL pc : Nat) (ll : List (Nat × Value)) (st : List Value) (ws : va_W) (kc ks : Nat) : Prop := match Γ with
  | (D, A, p, l, e, R, s, m, args, below, meth, c, Q) => ∀ (H : Heap) (locs : List Loc) (ls : Array Slot), va_P D cls9 ws H → va_D A ws → va_S A s.heap H locs → lv_has ls nL ll → W p l e R s m args below meth c H locs kc ks Q (F0 m pc ls st)
def CU (Γ : UU) (own : String) (cc : ByteArray) (nL : Nat) (cI cT : ClassId) (fr rc rs rl : Nat) : Prop := match Γ with
  | (D, A, p, _, _, R, s, m, args, _, meth, c, _) => p.tables.exec = Jvm.exec ∧ c.code = cc ∧ c.maxLocals = nL ∧ s.vm.findClass own = some m.cls ∧ (∀ w ∈ lw_good, w.before args s = true) ∧ va_K D cls9 (tysA cI cT) s ∧ NW s ∧ (∀ q, s.heap.size ≤ q → A q) ∧ R.frames = fr ∧ R.cells = rc ∧ R.slots = rs ∧ R.locals = rl
abbrev zI (q : Nat) (cI : ClassId) (n : Nat) : Nat × va_E := (q, .inl (cI, n, .inl (fun _ => (0 : Int32))))
section MAKE
variable {Γ : UU} {own : String} {cc : ByteArray} {nL pc kc ks fr rc rs rl : Nat} {cI cT : ClassId} {ll : List (Nat × Value)} {st : List Value} {ws : va_W}
theorem k_aload (C : CU Γ own cc nL cI cT fr rc rs rl) {i : Fin 4} {x : Nat} (j q : Nat) (hdg : decode cc pc = .ok (.aload_n i, 1)) (hj : (i : Nat) = j) (hk : ll[q]? = some (j, .ref x)) (k : U Γ nL (pc + 1) ll (.ref x :: st) ws kc ks) : U Γ nL pc ll st ws kc ks := by
  obtain ⟨D, A, p, l, e, R, s, m, args, below, meth, c, Q⟩ := Γ
  exact fun H locs ls hP hD hS hl => lv_aload_n C.1 C.2.1 hdg hj (lv_at hl q hk) (k H locs ls hP hD hS hl)
theorem k_iload (C : CU Γ own cc nL cI cT fr rc rs rl) {i : Fin 4} {x : Int32} (j q : Nat) (hdg : decode cc pc = .ok (.iload_n i, 1)) (hj : (i : Nat) = j) (hk : ll[q]? = some (j, .int x)) (k : U Γ nL (pc + 1) ll (.int x :: st) ws kc ks) : U Γ nL pc ll st ws kc ks := by
  obtain ⟨D, A, p, l, e, R, s, m, args, below, meth, c, Q⟩ := Γ
  exact fun H locs ls hP hD hS hl => lv_iload_n C.1 C.2.1 hdg hj (lv_at hl q hk) (k H locs ls hP hD hS hl)
theorem k_iconst (C : CU Γ own cc nL cI cT fr rc rs rl) {n : Int} (v : Int32) (hdg : decode cc pc = .ok (.iconst n, 1)) (hv : Int32.ofInt n = v) (k : U Γ nL (pc + 1) ll (.int v :: st) ws kc ks) : U Γ nL pc ll st ws kc ks := by
  obtain ⟨D, A, p, l, e, R, s, m, args, below, meth, c, Q⟩ := Γ
  exact fun H locs ls hP hD hS hl => lv_iconst C.1 C.2.1 hdg hv (k H locs ls hP hD hS hl)
theorem k_bipush (C : CU Γ own cc nL cI cT fr rc rs rl) {n : Int} (v : Int32) (hdg : decode cc pc = .ok (.bipush n, 2)) (hv : (Int8.ofInt n).toInt32 = v) (k : U Γ nL (pc + 2) ll (.int v :: st) ws kc ks) : U Γ nL pc ll st ws kc ks := by
  obtain ⟨D, A, p, l, e, R, s, m, args, below, meth, c, Q⟩ := Γ
  exact fun H locs ls hP hD hS hl => lv_bipush C.1 C.2.1 hdg hv (k H locs ls hP hD hS hl)
theorem k_sipush (C : CU Γ own cc nL cI cT fr rc rs rl) {n : Int} (v : Int32) (hdg : decode cc pc = .ok (.sipush n, 3)) (hv : (Int16.ofInt n).toInt32 = v) (k : U Γ nL (pc + 3) ll (.int v :: st) ws kc ks) : U Γ nL pc ll st ws kc ks := by
  obtain ⟨D, A, p, l, e, R, s, m, args, below, meth, c, Q⟩ := Γ
  exact fun H locs ls hP hD hS hl => lv_sipush C.1 C.2.1 hdg hv (k H locs ls hP hD hS hl)
theorem k_lconst (C : CU Γ own cc nL cI cT fr rc rs rl) {n : Fin 2} (v : Int64) (hdg : decode cc pc = .ok (.lconst n, 1)) (hv : Int64.ofNat (n : Nat) = v) (k : U Γ nL (pc + 1) ll (.long v :: st) ws kc ks) : U Γ nL pc ll st ws kc ks := by
  obtain ⟨D, A, p, l, e, R, s, m, args, below, meth, c, Q⟩ := Γ
  exact fun H locs ls hP hD hS hl => lv_lconst C.1 C.2.1 hdg hv (k H locs ls hP hD hS hl)
theorem k_dup (C : CU Γ own cc nL cI cT fr rc rs rl) {x : Nat} (hdg : decode cc pc = .ok (.dup, 1)) (k : U Γ nL (pc + 1) ll (.ref x :: .ref x :: st) ws kc ks) : U Γ nL pc ll (.ref x :: st) ws kc ks := by
  obtain ⟨D, A, p, l, e, R, s, m, args, below, meth, c, Q⟩ := Γ
  exact fun H locs ls hP hD hS hl => lv_dup C.1 C.2.1 hdg rfl (k H locs ls hP hD hS hl)
theorem k_imul (C : CU Γ own cc nL cI cT fr rc rs rl) {x y : Int32} (hdg : decode cc pc = .ok (.imul, 1)) (k : U Γ nL (pc + 1) ll (.int (x * y) :: st) ws kc ks) : U Γ nL pc ll (.int y :: .int x :: st) ws kc ks := by
  obtain ⟨D, A, p, l, e, R, s, m, args, below, meth, c, Q⟩ := Γ
  exact fun H locs ls hP hD hS hl => lv_imul C.1 C.2.1 hdg (k H locs ls hP hD hS hl)
/-- Object's own constructor -/
theorem k_obj (C : CU Γ own cc nL cI cT fr rc rs rl) {idx a : Nat} (hw : Cond.methodLink own idx objectInit ∈ lw_good) (hi : Cond.instanceMethod objectInit ∈ lw_good) (hc : Cond.code objectInit ⟨#[0xb1]⟩ 1 none ∈ lw_good) (hfr : 1 ≤ fr) (hrl : 12 ≤ rl) (hdg : decode cc pc = .ok (.invokespecial idx, 3)) (k : U Γ nL (pc + 3) ll [] ws kc ks) : U Γ nL pc ll [.ref a] ws kc ks := by
  obtain ⟨D, A, p, l, e, R, s, m, args, below, meth, c, Q⟩ := Γ
  intro H locs ls hP hD hS hl
  obtain ⟨hx, hb, hml, hown, hts, hK, hN, hA, h1, h2, h3, h4⟩ := C
  exact W.objInit hx hb hown (hts _ hw) (hts _ hi) (hts _ hc) rfl (by rw [hml]; exact hl.1) rfl hdg (by rw [h1]; exact hfr) (by rw [h4]; exact hrl) (W.eq (g2 := F0 m (pc + 3) ls []) rfl (k H locs ls hP hD hS hl))
theorem k_newI (C : CU Γ own cc nL cI cT fr rc rs rl) {v : Int32} {n : Nat} (ha : Cond.arrayClass .int ∈ lw_good) (hn : ¬ v < 0) (hN : v.toNatClampNeg = n) (hb4 : n * componentBytes .int ≤ 536870912) (hkc : kc + 1 ≤ rc) (hks : ks + n ≤ rs) (hdg : decode cc pc = .ok (.newarray .int, 2)) (k : ∀ q, U Γ nL (pc + 2) ll (.ref q :: st) (ws ++ [zI q cI n]) (kc + 1) (ks + n)) : U Γ nL pc ll (.int v :: st) ws kc ks := by
  obtain ⟨D, A, p, l, e, R, s, m, args, below, meth, c, Q⟩ := Γ
  intro H locs ls hP hD hS hl
  obtain ⟨hx, hb, hml, hown, hts, hK, hNw, hA, h1, h2, h3, h4⟩ := C
  refine va_newa (atype := .int) (ty := .int) (a0 := (n, .inl (fun _ => (0 : Int32)))) hx hb (hts _ ha) rfl hK hP hD hS hA (fun _ => rfl) hn hN hb4 (by rw [h2]; exact hkc) (by rw [h3]; exact hks) hdg (fun q cA H1 hK1 hP1 hD1 hS1 => ?_)
  have e1 : cA = cI := by
    have f1 := (hK1.2 2 (cA, .int) rfl).2
    have f2 := (hK.2 0 (cI, .int) rfl).2
    have f1 : s.vm.findClass ("[" ++ FieldType.int.toString) = some cA := f1
    have f2 : s.vm.findClass ("[" ++ FieldType.int.toString) = some cI := f2
    rw [f1] at f2
    exact Option.some.inj f2
  subst e1
  exact k q H1 locs ls hP1 hD1 hS1 hl
end MAKE

/-! ===== the judgement V: W over the world of this claim ===== -/
abbrev DD : Type := Launch × va_G × ClassId × ClassId × (Nat → Nat) × Nat
abbrev GG : Type := Program × Env × Room × State × MethodId × Array Value × List Frame × Method × Code × Nat × Nat × (State → Prop)
def adA (ad : Nat → Nat) : Nat → Prop := fun q => ∃ k, k < nW ∧ q = ad k
def KL (ad : Nat → Nat) (t : Nat) (U : State) (H : Heap) : Prop := va_Z RX8 "KIND_LETTERS" "[I" (.ref t) (adA ad) U H ∧ va_T .int t 6 (fun j => .int (klv j)) (adA ad) U H
abbrev tysA (cI cT : ClassId) : List (ClassId × FieldType) := [(cI, .int), (cT, .object "BolsterBeds$Town")]
/-- what holds of the tables and of the cells that nobody writes -/
def St (D : va_G) (cI cT : ClassId) (ad : Nat → Nat) (tK : Nat) (U : State) (H : Heap) : Prop := va_K D cls9 (tysA cI cT) U ∧ (∀ i j, i < nW → j < nW → ad i = ad j → i = j) ∧ KL ad tK U H ∧ ∀ w ∈ lw_nest, va_Nw w U
def V (Δ : DD) (Γ : GG) (nL pc : Nat) (ll : List (Nat × Value)) (st : List Value) (σ : Mem) : Prop := match Δ, Γ with
  | (l, D, cI, cT, ad, tK), (p, e, R, s, m, args, below, meth, c, kc, ks, Q) => ∀ (H : Heap) (locs : List Loc) (ls : Array Slot), va_P D cls9 (wld ad cI cT σ) H → va_S (adA ad) s.heap H locs → lv_has ls nL ll → W p l e R s m args below meth c H locs kc ks Q (F0 m pc ls st)
def Cx (Δ : DD) (Γ : GG) (own : String) (cc : ByteArray) (nL d : Nat) (ret : Option FieldType) : Prop := match Δ, Γ with
  | (_, D, cI, cT, ad, tK), (p, _, R, s, m, args, _, meth, c, kc, ks, _) => p.tables.exec = Jvm.exec ∧ c.code = cc ∧ c.maxLocals = nL ∧ s.vm.findClass own = some m.cls ∧ (∀ w ∈ lw_good, w.before args s = true) ∧ St D cI cT ad tK s s.heap ∧ meth.sig.returnType = ret ∧ meth.locks = false ∧ d + 1 ≤ R.frames ∧ 64 * (d + 1) ≤ R.locals ∧ kc ≤ R.cells ∧ ks ≤ R.slots
def Pq (Δ : DD) (rv : Option Value) (σ' : Mem) : Array Value → State → Outcome → State → Prop := match Δ with
  | (_, D, cI, cT, ad, _) => fun _ st o t => o = .returned rv ∧ va_P D cls9 (wld ad cI cT σ') t.heap ∧ va_F (adA ad) st t
def Pp (Δ : DD) (av : List Value) (σ : Mem) : Array Value → State → Prop := match Δ with
  | (_, D, cI, cT, ad, tK) => va_Pc av (fun U => va_P D cls9 (wld ad cI cT σ) U.heap ∧ St D cI cT ad tK U U.heap)
def RetQ (Δ : DD) (Γ : GG) (rv : Option Value) (σ' : Mem) : Prop := match Γ with
  | (_, _, _, s, _, args, below, _, _, kc, ks, Q) => Q = MQ below (Pq Δ rv σ') args s kc ks (adA Δ.2.2.2.2.1)
abbrev rm (d : Nat) : Room := { frames := d, cells := 0, slots := 0, locals := 64 * d }
/-- a method's contract: from these arguments and numbers it returns, with this answer and these numbers -/
def Mt (Δ : DD) (d : Nat) (y : MethodName) (cc : ByteArray) (nL : Nat) (ret : Option FieldType) (av : List Value) (σ : Mem) (rv : Option Value) (σ' : Mem) : Prop :=
  Met Δ.1 y (Cond.code y cc nL ret :: lw_good) (rm d) (Pp Δ av σ) (Pq Δ rv σ') 0 0 (adA Δ.2.2.2.2.1)
abbrev rf (Δ : DD) (k : Nat) : Value := .ref (Δ.2.2.2.2.1 k)
abbrev vr (Δ : DD) (o : Option Nat) : Value := match o with
  | some k => rf Δ k
  | none => .null
theorem nest_on {w : Cond} (h : w ∈ lw_nest) : w.onTables = true := by
  have h1 := (List.mem_filter.mp h).2
  cases w <;> first | rfl | (exact absurd h1 (by decide)) | (simp [lw_isN] at h1)
theorem nest_warm {w : Cond} (h : w ∈ lw_nest) {s U : State} (hW : s.WarmedH U.vm) (hz : va_Nw w s) : va_Nw w U := by
  have h1 := (List.mem_filter.mp h).2
  cases w <;> first | exact va_Nw.warmF hW hz | exact va_Nw.warmM hW hz | (simp [lw_isN] at h1)
theorem KL.moved {ad : Nat → Nat} {t : Nat} {u U : State} {H : Heap} (hvm : u.vm.Alike U.vm) (h : KL ad t u H) : KL ad t U H := ⟨h.1.moved hvm, h.2.moved hvm⟩
theorem KL.kept {ad : Nat → Nat} {t : Nat} {U : State} {H H1 : Heap} (hq : ∀ a : Nat, a < H.size → ¬ adA ad a → H1[a]? = H[a]?) (h : KL ad t U H) : KL ad t U H1 := ⟨h.1.kept hq, h.2.kept hq⟩
theorem St.go {D : va_G} {cI cT : ClassId} {ad : Nat → Nat} {tK : Nat} {s U : State} {H : Heap} {locs : List Loc} (h : St D cI cT ad tK s s.heap) (hS : va_S (adA ad) s.heap H locs) (hW : s.WarmedH U.vm) : St D cI cT ad tK U H :=
  ⟨va_K.moved hW.alike h.1, h.2.1, (h.2.2.1.kept (fun a h1 h2 => hS.2.1 a h1 h2)).moved hW.alike, fun w hw => nest_warm hw hW (h.2.2.2 w hw)⟩
theorem St.call {D : va_G} {cI cT : ClassId} {ad : Nat → Nat} {tK : Nat} {U : State} {H : Heap} (a : Array Value) (g : JFrame) (mk : MethodId) (h : St D cI cT ad tK U H) : St D cI cT ad tK (U.calling g mk a) H :=
  ⟨va_K.moved (u := U) (U := U.calling g mk a) (Vm.Alike.refl U.vm) h.1, h.2.1, h.2.2.1.moved (u := U) (U := U.calling g mk a) (Vm.Alike.refl U.vm), fun w hw => va_Nw.same (u := U) (U := U.calling g mk a) (nest_on hw) rfl (h.2.2.2 w hw)⟩
theorem Pp.blind (Δ : DD) (av : List Value) (σ : Mem) : FrameBlind (Pp Δ av σ) := by
  obtain ⟨l, D, cI, cT, ad, tK⟩ := Δ
  intro a U g mk h
  exact ⟨h.1, h.2.1, h.2.2.call a g mk⟩
theorem wld_D {ad : Nat → Nat} {cI cT : ClassId} {σ : Mem} (h : ∀ i j, i < nW → j < nW → ad i = ad j → i = j) : va_D (adA ad) (wld ad cI cT σ) := by
  refine ⟨fun i j p q hp hq e => ?_, fun k q hq => ?_⟩
  · obtain ⟨h1, rfl⟩ := wld_some hp
    obtain ⟨h2, rfl⟩ := wld_some hq
    exact h i j h1 h2 e
  · obtain ⟨h1, rfl⟩ := wld_some hq
    exact ⟨k, h1, rfl⟩
theorem good_all : ∀ w ∈ lw_good, goodWord w = true := fun _ h => (List.mem_filter.mp h).2
/-- from a walk of the body to the contract -/
theorem mt_of {Δ : DD} {d : Nat} {own : String} {y : MethodName} {cc : ByteArray} {nL : Nat} {ret : Option FieldType} {av : List Value} {σ : Mem} {rv : Option Value} {σ' : Mem} (hy : plainName y.cls = true) (hown : y.cls = own) (hlen : (lg_sl av).length ≤ nL)
    (body : ∀ Γ : GG, Cx Δ Γ own cc nL d ret → RetQ Δ Γ rv σ' → V Δ Γ nL 0 (lv_args 0 av) [] σ) : Mt Δ (d + 1) y cc nL ret av σ rv σ' := by
  obtain ⟨l, D, cI, cT, ad, tK⟩ := Δ
  refine Met.ofW (cc := cc) (maxL := nL) (ret := ret) hy rfl ?_
  intro p e s m args below meth c s₁ B hml hv
  obtain ⟨rfl, hP, hSt⟩ := hv
  have hts0 := atoms_spec (ws := Cond.code y cc nL ret :: lw_good) B.pre
  have hl := lv_entry av (n := nL) hlen
  rw [lg_entry_eq]
  refine body (p, e, (headSpec (Cond.code y cc nL ret :: lw_good) (rm (d + 1))).room, s, m, av.toArray, below, meth, c, 0, 0, _) ⟨B.exec, B.bytes, hml, ?_, fun w hw => hts0 w (List.mem_cons_of_mem _ hw), hSt, B.returns, B.notSynchronized, ?_, ?_, Nat.le_refl _, Nat.le_refl _⟩ rfl s.heap [] _ hP va_S.rf hl
  · rw [← hown]; exact findClass_of_methodNamed B.named
  · exact Nat.le_refl _
  · exact Nat.le_refl _
section ROWS
variable {Δ : DD} {Γ : GG} {own : String} {cc : ByteArray} {nL d pc : Nat} {ret : Option FieldType} {ll : List (Nat × Value)} {st : List Value} {σ : Mem}
theorem v_iconst (C : Cx Δ Γ own cc nL d ret) {n : Int} (v : Int32) (hdg : decode cc pc = .ok (.iconst n, 1)) (hv : Int32.ofInt n = v) (k : V Δ Γ nL (pc + 1) ll (.int v :: st) σ) : V Δ Γ nL pc ll st σ := by
  obtain ⟨l, D, cI, cT, ad, tK⟩ := Δ; obtain ⟨p, e, R, s, m, args, below, meth, c, kc, ks, Q⟩ := Γ
  exact fun H locs ls hP hS hl => lv_iconst C.1 C.2.1 hdg hv (k H locs ls hP hS hl)
theorem v_bipush (C : Cx Δ Γ own cc nL d ret) {n : Int} (v : Int32) (hdg : decode cc pc = .ok (.bipush n, 2)) (hv : (Int8.ofInt n).toInt32 = v) (k : V Δ Γ nL (pc + 2) ll (.int v :: st) σ) : V Δ Γ nL pc ll st σ := by
  obtain ⟨l, D, cI, cT, ad, tK⟩ := Δ; obtain ⟨p, e, R, s, m, args, below, meth, c, kc, ks, Q⟩ := Γ
  exact fun H locs ls hP hS hl => lv_bipush C.1 C.2.1 hdg hv (k H locs ls hP hS hl)
theorem v_sipush (C : Cx Δ Γ own cc nL d ret) {n : Int} (v : Int32) (hdg : decode cc pc = .ok (.sipush n, 3)) (hv : (Int16.ofInt n).toInt32 = v) (k : V Δ Γ nL (pc + 3) ll (.int v :: st) σ) : V Δ Γ nL pc ll st σ := by
  obtain ⟨l, D, cI, cT, ad, tK⟩ := Δ; obtain ⟨p, e, R, s, m, args, below, meth, c, kc, ks, Q⟩ := Γ
  exact fun H locs ls hP hS hl => lv_sipush C.1 C.2.1 hdg hv (k H locs ls hP hS hl)
theorem v_lconst (C : Cx Δ Γ own cc nL d ret) {n : Fin 2} (v : Int64) (hdg : decode cc pc = .ok (.lconst n, 1)) (hv : Int64.ofNat (n : Nat) = v) (k : V Δ Γ nL (pc + 1) ll (.long v :: st) σ) : V Δ Γ nL pc ll st σ := by
  obtain ⟨l, D, cI, cT, ad, tK⟩ := Δ; obtain ⟨p, e, R, s, m, args, below, meth, c, kc, ks, Q⟩ := Γ
  exact fun H locs ls hP hS hl => lv_lconst C.1 C.2.1 hdg hv (k H locs ls hP hS hl)
theorem v_ldc (C : Cx Δ Γ own cc nL d ret) {i : Nat} (v : Int32) (hw : Cond.constant own i v ∈ lw_good) (hdg : decode cc pc = .ok (.ldc i, 2)) (k : V Δ Γ nL (pc + 2) ll (.int v :: st) σ) : V Δ Γ nL pc ll st σ := by
  obtain ⟨l, D, cI, cT, ad, tK⟩ := Δ; obtain ⟨p, e, R, s, m, args, below, meth, c, kc, ks, Q⟩ := Γ
  exact fun H locs ls hP hS hl => lv_ldc C.1 C.2.1 C.2.2.2.1 (C.2.2.2.2.1 _ hw) hdg (k H locs ls hP hS hl)
theorem v_ldcw (C : Cx Δ Γ own cc nL d ret) {i : Nat} (v : Int32) (hw : Cond.constant own i v ∈ lw_good) (hdg : decode cc pc = .ok (.ldc_w i, 3)) (k : V Δ Γ nL (pc + 3) ll (.int v :: st) σ) : V Δ Γ nL pc ll st σ := by
  obtain ⟨l, D, cI, cT, ad, tK⟩ := Δ; obtain ⟨p, e, R, s, m, args, below, meth, c, kc, ks, Q⟩ := Γ
  exact fun H locs ls hP hS hl => lv_ldcw C.1 C.2.1 C.2.2.2.1 (C.2.2.2.2.1 _ hw) hdg (k H locs ls hP hS hl)
theorem v_ldc2 (C : Cx Δ Γ own cc nL d ret) {i : Nat} (v : Int64) (hw : Cond.constantLong own i v ∈ lw_good) (hdg : decode cc pc = .ok (.ldc2_w i, 3)) (k : V Δ Γ nL (pc + 3) ll (.long v :: st) σ) : V Δ Γ nL pc ll st σ := by
  obtain ⟨l, D, cI, cT, ad, tK⟩ := Δ; obtain ⟨p, e, R, s, m, args, below, meth, c, kc, ks, Q⟩ := Γ
  exact fun H locs ls hP hS hl => lv_ldc2 C.1 C.2.1 C.2.2.2.1 (C.2.2.2.2.1 _ hw) hdg (k H locs ls hP hS hl)
theorem v_null (C : Cx Δ Γ own cc nL d ret) (hdg : decode cc pc = .ok (.aconst_null, 1)) (k : V Δ Γ nL (pc + 1) ll (.null :: st) σ) : V Δ Γ nL pc ll st σ := by
  obtain ⟨l, D, cI, cT, ad, tK⟩ := Δ; obtain ⟨p, e, R, s, m, args, below, meth, c, kc, ks, Q⟩ := Γ
  exact fun H locs ls hP hS hl => lv_null C.1 C.2.1 hdg (k H locs ls hP hS hl)
theorem v_iload_n (C : Cx Δ Γ own cc nL d ret) {i : Fin 4} {x : Int32} (j q : Nat) (hdg : decode cc pc = .ok (.iload_n i, 1)) (hj : (i : Nat) = j) (hk : ll[q]? = some (j, .int x)) (k : V Δ Γ nL (pc + 1) ll (.int x :: st) σ) : V Δ Γ nL pc ll st σ := by
  obtain ⟨l, D, cI, cT, ad, tK⟩ := Δ; obtain ⟨p, e, R, s, m, args, below, meth, c, kc, ks, Q⟩ := Γ
  exact fun H locs ls hP hS hl => lv_iload_n C.1 C.2.1 hdg hj (lv_at hl q hk) (k H locs ls hP hS hl)
theorem v_iload (C : Cx Δ Γ own cc nL d ret) {x : Int32} (j q : Nat) (hdg : decode cc pc = .ok (.iload j, 2)) (hk : ll[q]? = some (j, .int x)) (k : V Δ Γ nL (pc + 2) ll (.int x :: st) σ) : V Δ Γ nL pc ll st σ := by
  obtain ⟨l, D, cI, cT, ad, tK⟩ := Δ; obtain ⟨p, e, R, s, m, args, below, meth, c, kc, ks, Q⟩ := Γ
  exact fun H locs ls hP hS hl => lv_iload C.1 C.2.1 hdg (lv_at hl q hk) (k H locs ls hP hS hl)
theorem v_lload_n (C : Cx Δ Γ own cc nL d ret) {i : Fin 4} {x : Int64} (j q : Nat) (hdg : decode cc pc = .ok (.lload_n i, 1)) (hj : (i : Nat) = j) (hk : ll[q]? = some (j, .long x)) (k : V Δ Γ nL (pc + 1) ll (.long x :: st) σ) : V Δ Γ nL pc ll st σ := by
  obtain ⟨l, D, cI, cT, ad, tK⟩ := Δ; obtain ⟨p, e, R, s, m, args, below, meth, c, kc, ks, Q⟩ := Γ
  exact fun H locs ls hP hS hl => lv_lload_n C.1 C.2.1 hdg hj (lv_at hl q hk) (k H locs ls hP hS hl)
theorem v_lload (C : Cx Δ Γ own cc nL d ret) {x : Int64} (j q : Nat) (hdg : decode cc pc = .ok (.lload j, 2)) (hk : ll[q]? = some (j, .long x)) (k : V Δ Γ nL (pc + 2) ll (.long x :: st) σ) : V Δ Γ nL pc ll st σ := by
  obtain ⟨l, D, cI, cT, ad, tK⟩ := Δ; obtain ⟨p, e, R, s, m, args, below, meth, c, kc, ks, Q⟩ := Γ
  exact fun H locs ls hP hS hl => lv_lload C.1 C.2.1 hdg (lv_at hl q hk) (k H locs ls hP hS hl)
theorem v_aload_n (C : Cx Δ Γ own cc nL d ret) {i : Fin 4} {x : Nat} (j q : Nat) (hdg : decode cc pc = .ok (.aload_n i, 1)) (hj : (i : Nat) = j) (hk : ll[q]? = some (j, .ref x)) (k : V Δ Γ nL (pc + 1) ll (.ref x :: st) σ) : V Δ Γ nL pc ll st σ := by
  obtain ⟨l, D, cI, cT, ad, tK⟩ := Δ; obtain ⟨p, e, R, s, m, args, below, meth, c, kc, ks, Q⟩ := Γ
  exact fun H locs ls hP hS hl => lv_aload_n C.1 C.2.1 hdg hj (lv_at hl q hk) (k H locs ls hP hS hl)
theorem v_aload (C : Cx Δ Γ own cc nL d ret) {x : Nat} (j q : Nat) (hdg : decode cc pc = .ok (.aload j, 2)) (hk : ll[q]? = some (j, .ref x)) (k : V Δ Γ nL (pc + 2) ll (.ref x :: st) σ) : V Δ Γ nL pc ll st σ := by
  obtain ⟨l, D, cI, cT, ad, tK⟩ := Δ; obtain ⟨p, e, R, s, m, args, below, meth, c, kc, ks, Q⟩ := Γ
  exact fun H locs ls hP hS hl => lv_aload C.1 C.2.1 hdg (lv_at hl q hk) (k H locs ls hP hS hl)
theorem v_aload_nN (C : Cx Δ Γ own cc nL d ret) {i : Fin 4} (j q : Nat) (hdg : decode cc pc = .ok (.aload_n i, 1)) (hj : (i : Nat) = j) (hk : ll[q]? = some (j, .null)) (k : V Δ Γ nL (pc + 1) ll (.null :: st) σ) : V Δ Γ nL pc ll st σ := by
  obtain ⟨l, D, cI, cT, ad, tK⟩ := Δ; obtain ⟨p, e, R, s, m, args, below, meth, c, kc, ks, Q⟩ := Γ
  exact fun H locs ls hP hS hl => lv_aload_nN C.1 C.2.1 hdg hj (lv_at hl q hk) (k H locs ls hP hS hl)
theorem v_aloadN (C : Cx Δ Γ own cc nL d ret) (j q : Nat) (hdg : decode cc pc = .ok (.aload j, 2)) (hk : ll[q]? = some (j, .null)) (k : V Δ Γ nL (pc + 2) ll (.null :: st) σ) : V Δ Γ nL pc ll st σ := by
  obtain ⟨l, D, cI, cT, ad, tK⟩ := Δ; obtain ⟨p, e, R, s, m, args, below, meth, c, kc, ks, Q⟩ := Γ
  exact fun H locs ls hP hS hl => lv_aloadN C.1 C.2.1 hdg (lv_at hl q hk) (k H locs ls hP hS hl)
theorem v_istore_n (C : Cx Δ Γ own cc nL d ret) {z : Fin 4} {x : Int32} (i : Nat) {ll' : List (Nat × Value)} (hdg : decode cc pc = .ok (.istore_n z, 1)) (hz : (z : Nat) = i) (hn : i < nL) (hl : (i, Value.int x) :: ll.filter (fun q => !(q.1 == i) && !(q.1 + 1 == i && q.2.category == 2)) = ll') (k : V Δ Γ nL (pc + 1) ll' st σ) : V Δ Γ nL pc ll (.int x :: st) σ := by
  obtain ⟨l, D, cI, cT, ad, tK⟩ := Δ; obtain ⟨p, e, R, s, m, args, below, meth, c, kc, ks, Q⟩ := Γ
  exact fun H locs ls hP hS h => lv_istore_n C.1 C.2.1 hdg hz h hn hl (fun ls' h' => k H locs ls' hP hS h')
theorem v_istore (C : Cx Δ Γ own cc nL d ret) {x : Int32} (i : Nat) {ll' : List (Nat × Value)} (hdg : decode cc pc = .ok (.istore i, 2)) (hn : i < nL) (hl : (i, Value.int x) :: ll.filter (fun q => !(q.1 == i) && !(q.1 + 1 == i && q.2.category == 2)) = ll') (k : V Δ Γ nL (pc + 2) ll' st σ) : V Δ Γ nL pc ll (.int x :: st) σ := by
  obtain ⟨l, D, cI, cT, ad, tK⟩ := Δ; obtain ⟨p, e, R, s, m, args, below, meth, c, kc, ks, Q⟩ := Γ
  exact fun H locs ls hP hS h => lv_istore C.1 C.2.1 hdg h hn hl (fun ls' h' => k H locs ls' hP hS h')
theorem v_astore_n (C : Cx Δ Γ own cc nL d ret) {z : Fin 4} {x : Nat} (i : Nat) {ll' : List (Nat × Value)} (hdg : decode cc pc = .ok (.astore_n z, 1)) (hz : (z : Nat) = i) (hn : i < nL) (hl : (i, Value.ref x) :: ll.filter (fun q => !(q.1 == i) && !(q.1 + 1 == i && q.2.category == 2)) = ll') (k : V Δ Γ nL (pc + 1) ll' st σ) : V Δ Γ nL pc ll (.ref x :: st) σ := by
  obtain ⟨l, D, cI, cT, ad, tK⟩ := Δ; obtain ⟨p, e, R, s, m, args, below, meth, c, kc, ks, Q⟩ := Γ
  exact fun H locs ls hP hS h => lv_astore_n C.1 C.2.1 hdg hz h hn hl (fun ls' h' => k H locs ls' hP hS h')
theorem v_astore (C : Cx Δ Γ own cc nL d ret) {x : Nat} (i : Nat) {ll' : List (Nat × Value)} (hdg : decode cc pc = .ok (.astore i, 2)) (hn : i < nL) (hl : (i, Value.ref x) :: ll.filter (fun q => !(q.1 == i) && !(q.1 + 1 == i && q.2.category == 2)) = ll') (k : V Δ Γ nL (pc + 2) ll' st σ) : V Δ Γ nL pc ll (.ref x :: st) σ := by
  obtain ⟨l, D, cI, cT, ad, tK⟩ := Δ; obtain ⟨p, e, R, s, m, args, below, meth, c, kc, ks, Q⟩ := Γ
  exact fun H locs ls hP hS h => lv_astore C.1 C.2.1 hdg h hn hl (fun ls' h' => k H locs ls' hP hS h')
theorem v_lstore_n (C : Cx Δ Γ own cc nL d ret) {z : Fin 4} {x : Int64} (i : Nat) {ll' : List (Nat × Value)} (hdg : decode cc pc = .ok (.lstore_n z, 1)) (hz : (z : Nat) = i) (hn : i + 1 < nL) (hl : (i, Value.long x) :: ll.filter (fun q => !(q.1 == i) && (!(q.1 == i + 1) && !(q.1 + 1 == i && q.2.category == 2))) = ll') (k : V Δ Γ nL (pc + 1) ll' st σ) : V Δ Γ nL pc ll (.long x :: st) σ := by
  obtain ⟨l, D, cI, cT, ad, tK⟩ := Δ; obtain ⟨p, e, R, s, m, args, below, meth, c, kc, ks, Q⟩ := Γ
  exact fun H locs ls hP hS h => lv_lstore_n C.1 C.2.1 hdg hz h hn hl (fun ls' h' => k H locs ls' hP hS h')
theorem v_lstore (C : Cx Δ Γ own cc nL d ret) {x : Int64} (i : Nat) {ll' : List (Nat × Value)} (hdg : decode cc pc = .ok (.lstore i, 2)) (hn : i + 1 < nL) (hl : (i, Value.long x) :: ll.filter (fun q => !(q.1 == i) && (!(q.1 == i + 1) && !(q.1 + 1 == i && q.2.category == 2))) = ll') (k : V Δ Γ nL (pc + 2) ll' st σ) : V Δ Γ nL pc ll (.long x :: st) σ := by
  obtain ⟨l, D, cI, cT, ad, tK⟩ := Δ; obtain ⟨p, e, R, s, m, args, below, meth, c, kc, ks, Q⟩ := Γ
  exact fun H locs ls hP hS h => lv_lstore C.1 C.2.1 hdg h hn hl (fun ls' h' => k H locs ls' hP hS h')
theorem v_astore_nN (C : Cx Δ Γ own cc nL d ret) {z : Fin 4} (i : Nat) {ll' : List (Nat × Value)} (hdg : decode cc pc = .ok (.astore_n z, 1)) (hz : (z : Nat) = i) (hn : i < nL) (hl : (i, Value.null) :: ll.filter (fun q => !(q.1 == i) && !(q.1 + 1 == i && q.2.category == 2)) = ll') (k : V Δ Γ nL (pc + 1) ll' st σ) : V Δ Γ nL pc ll (.null :: st) σ := by
  obtain ⟨l, D, cI, cT, ad, tK⟩ := Δ; obtain ⟨p, e, R, s, m, args, below, meth, c, kc, ks, Q⟩ := Γ
  exact fun H locs ls hP hS h => lv_astore_nN C.1 C.2.1 hdg hz h hn hl (fun ls' h' => k H locs ls' hP hS h')
theorem v_astoreN (C : Cx Δ Γ own cc nL d ret) (i : Nat) {ll' : List (Nat × Value)} (hdg : decode cc pc = .ok (.astore i, 2)) (hn : i < nL) (hl : (i, Value.null) :: ll.filter (fun q => !(q.1 == i) && !(q.1 + 1 == i && q.2.category == 2)) = ll') (k : V Δ Γ nL (pc + 2) ll' st σ) : V Δ Γ nL pc ll (.null :: st) σ := by
  obtain ⟨l, D, cI, cT, ad, tK⟩ := Δ; obtain ⟨p, e, R, s, m, args, below, meth, c, kc, ks, Q⟩ := Γ
  exact fun H locs ls hP hS h => lv_astoreN C.1 C.2.1 hdg h hn hl (fun ls' h' => k H locs ls' hP hS h')
theorem v_iinc (C : Cx Δ Γ own cc nL d ret) {i : Nat} {n : Int} {x : Int32} (v : Int32) (q : Nat) {ll' : List (Nat × Value)} (hdg : decode cc pc = .ok (.iinc i n, 3)) (hk : ll[q]? = some (i, .int x)) (hv : x + Int32.ofInt n = v) (hn : i < nL) (hl : (i, Value.int v) :: ll.filter (fun q => !(q.1 == i) && !(q.1 + 1 == i && q.2.category == 2)) = ll') (k : V Δ Γ nL (pc + 3) ll' st σ) : V Δ Γ nL pc ll st σ := by
  obtain ⟨l, D, cI, cT, ad, tK⟩ := Δ; obtain ⟨p, e, R, s, m, args, below, meth, c, kc, ks, Q⟩ := Γ
  exact fun H locs ls hP hS h => lv_iinc C.1 C.2.1 hdg h hk hv hn hl (fun ls' h' => k H locs ls' hP hS h')
theorem v_iadd (C : Cx Δ Γ own cc nL d ret) {x y : Int32} (hdg : decode cc pc = .ok (.iadd, 1)) (k : V Δ Γ nL (pc + 1) ll (.int (x + y) :: st) σ) : V Δ Γ nL pc ll (.int y :: .int x :: st) σ := by
  obtain ⟨l, D, cI, cT, ad, tK⟩ := Δ; obtain ⟨p, e, R, s, m, args, below, meth, c, kc, ks, Q⟩ := Γ
  exact fun H locs ls hP hS hl => lv_iadd C.1 C.2.1 hdg (k H locs ls hP hS hl)
theorem v_isub (C : Cx Δ Γ own cc nL d ret) {x y : Int32} (hdg : decode cc pc = .ok (.isub, 1)) (k : V Δ Γ nL (pc + 1) ll (.int (x - y) :: st) σ) : V Δ Γ nL pc ll (.int y :: .int x :: st) σ := by
  obtain ⟨l, D, cI, cT, ad, tK⟩ := Δ; obtain ⟨p, e, R, s, m, args, below, meth, c, kc, ks, Q⟩ := Γ
  exact fun H locs ls hP hS hl => lv_isub C.1 C.2.1 hdg (k H locs ls hP hS hl)
theorem v_imul (C : Cx Δ Γ own cc nL d ret) {x y : Int32} (hdg : decode cc pc = .ok (.imul, 1)) (k : V Δ Γ nL (pc + 1) ll (.int (x * y) :: st) σ) : V Δ Γ nL pc ll (.int y :: .int x :: st) σ := by
  obtain ⟨l, D, cI, cT, ad, tK⟩ := Δ; obtain ⟨p, e, R, s, m, args, below, meth, c, kc, ks, Q⟩ := Γ
  exact fun H locs ls hP hS hl => lv_imul C.1 C.2.1 hdg (k H locs ls hP hS hl)
theorem v_iand (C : Cx Δ Γ own cc nL d ret) {x y : Int32} (hdg : decode cc pc = .ok (.iand, 1)) (k : V Δ Γ nL (pc + 1) ll (.int (x &&& y) :: st) σ) : V Δ Γ nL pc ll (.int y :: .int x :: st) σ := by
  obtain ⟨l, D, cI, cT, ad, tK⟩ := Δ; obtain ⟨p, e, R, s, m, args, below, meth, c, kc, ks, Q⟩ := Γ
  exact fun H locs ls hP hS hl => lv_iand C.1 C.2.1 hdg (k H locs ls hP hS hl)
theorem v_ior (C : Cx Δ Γ own cc nL d ret) {x y : Int32} (hdg : decode cc pc = .ok (.ior, 1)) (k : V Δ Γ nL (pc + 1) ll (.int (x ||| y) :: st) σ) : V Δ Γ nL pc ll (.int y :: .int x :: st) σ := by
  obtain ⟨l, D, cI, cT, ad, tK⟩ := Δ; obtain ⟨p, e, R, s, m, args, below, meth, c, kc, ks, Q⟩ := Γ
  exact fun H locs ls hP hS hl => lv_ior C.1 C.2.1 hdg (k H locs ls hP hS hl)
theorem v_ixor (C : Cx Δ Γ own cc nL d ret) {x y : Int32} (hdg : decode cc pc = .ok (.ixor, 1)) (k : V Δ Γ nL (pc + 1) ll (.int (x ^^^ y) :: st) σ) : V Δ Γ nL pc ll (.int y :: .int x :: st) σ := by
  obtain ⟨l, D, cI, cT, ad, tK⟩ := Δ; obtain ⟨p, e, R, s, m, args, below, meth, c, kc, ks, Q⟩ := Γ
  exact fun H locs ls hP hS hl => lv_ixor C.1 C.2.1 hdg (k H locs ls hP hS hl)
theorem v_ishl (C : Cx Δ Γ own cc nL d ret) {x y : Int32} (hdg : decode cc pc = .ok (.ishl, 1)) (k : V Δ Γ nL (pc + 1) ll (.int (x <<< (y &&& 31)) :: st) σ) : V Δ Γ nL pc ll (.int y :: .int x :: st) σ := by
  obtain ⟨l, D, cI, cT, ad, tK⟩ := Δ; obtain ⟨p, e, R, s, m, args, below, meth, c, kc, ks, Q⟩ := Γ
  exact fun H locs ls hP hS hl => lv_ishl C.1 C.2.1 hdg (k H locs ls hP hS hl)
theorem v_ishr (C : Cx Δ Γ own cc nL d ret) {x y : Int32} (hdg : decode cc pc = .ok (.ishr, 1)) (k : V Δ Γ nL (pc + 1) ll (.int (x >>> (y &&& 31)) :: st) σ) : V Δ Γ nL pc ll (.int y :: .int x :: st) σ := by
  obtain ⟨l, D, cI, cT, ad, tK⟩ := Δ; obtain ⟨p, e, R, s, m, args, below, meth, c, kc, ks, Q⟩ := Γ
  exact fun H locs ls hP hS hl => lv_ishr C.1 C.2.1 hdg (k H locs ls hP hS hl)
theorem v_idiv (C : Cx Δ Γ own cc nL d ret) {x y : Int32} (hdg : decode cc pc = .ok (.idiv, 1)) (hne : ¬ y = 0) (k : V Δ Γ nL (pc + 1) ll (.int (x / y) :: st) σ) : V Δ Γ nL pc ll (.int y :: .int x :: st) σ := by
  obtain ⟨l, D, cI, cT, ad, tK⟩ := Δ; obtain ⟨p, e, R, s, m, args, below, meth, c, kc, ks, Q⟩ := Γ
  exact fun H locs ls hP hS hl => lv_idiv C.1 C.2.1 hdg hne (k H locs ls hP hS hl)
theorem v_irem (C : Cx Δ Γ own cc nL d ret) {x y : Int32} (hdg : decode cc pc = .ok (.irem, 1)) (hne : ¬ y = 0) (k : V Δ Γ nL (pc + 1) ll (.int (x - x / y * y) :: st) σ) : V Δ Γ nL pc ll (.int y :: .int x :: st) σ := by
  obtain ⟨l, D, cI, cT, ad, tK⟩ := Δ; obtain ⟨p, e, R, s, m, args, below, meth, c, kc, ks, Q⟩ := Γ
  exact fun H locs ls hP hS hl => lv_irem C.1 C.2.1 hdg hne (k H locs ls hP hS hl)
theorem v_ladd (C : Cx Δ Γ own cc nL d ret) {x y : Int64} (hdg : decode cc pc = .ok (.ladd, 1)) (k : V Δ Γ nL (pc + 1) ll (.long (x + y) :: st) σ) : V Δ Γ nL pc ll (.long y :: .long x :: st) σ := by
  obtain ⟨l, D, cI, cT, ad, tK⟩ := Δ; obtain ⟨p, e, R, s, m, args, below, meth, c, kc, ks, Q⟩ := Γ
  exact fun H locs ls hP hS hl => lv_ladd C.1 C.2.1 hdg (k H locs ls hP hS hl)
theorem v_lsub (C : Cx Δ Γ own cc nL d ret) {x y : Int64} (hdg : decode cc pc = .ok (.lsub, 1)) (k : V Δ Γ nL (pc + 1) ll (.long (x - y) :: st) σ) : V Δ Γ nL pc ll (.long y :: .long x :: st) σ := by
  obtain ⟨l, D, cI, cT, ad, tK⟩ := Δ; obtain ⟨p, e, R, s, m, args, below, meth, c, kc, ks, Q⟩ := Γ
  exact fun H locs ls hP hS hl => lv_lsub C.1 C.2.1 hdg (k H locs ls hP hS hl)
theorem v_lmul (C : Cx Δ Γ own cc nL d ret) {x y : Int64} (hdg : decode cc pc = .ok (.lmul, 1)) (k : V Δ Γ nL (pc + 1) ll (.long (x * y) :: st) σ) : V Δ Γ nL pc ll (.long y :: .long x :: st) σ := by
  obtain ⟨l, D, cI, cT, ad, tK⟩ := Δ; obtain ⟨p, e, R, s, m, args, below, meth, c, kc, ks, Q⟩ := Γ
  exact fun H locs ls hP hS hl => lv_lmul C.1 C.2.1 hdg (k H locs ls hP hS hl)
theorem v_ldiv (C : Cx Δ Γ own cc nL d ret) {x y : Int64} (hdg : decode cc pc = .ok (.ldiv, 1)) (hne : ¬ y = 0) (k : V Δ Γ nL (pc + 1) ll (.long (x / y) :: st) σ) : V Δ Γ nL pc ll (.long y :: .long x :: st) σ := by
  obtain ⟨l, D, cI, cT, ad, tK⟩ := Δ; obtain ⟨p, e, R, s, m, args, below, meth, c, kc, ks, Q⟩ := Γ
  exact fun H locs ls hP hS hl => lv_ldiv C.1 C.2.1 hdg hne (k H locs ls hP hS hl)
theorem v_lrem (C : Cx Δ Γ own cc nL d ret) {x y : Int64} (hdg : decode cc pc = .ok (.lrem, 1)) (hne : ¬ y = 0) (k : V Δ Γ nL (pc + 1) ll (.long (x - x / y * y) :: st) σ) : V Δ Γ nL pc ll (.long y :: .long x :: st) σ := by
  obtain ⟨l, D, cI, cT, ad, tK⟩ := Δ; obtain ⟨p, e, R, s, m, args, below, meth, c, kc, ks, Q⟩ := Γ
  exact fun H locs ls hP hS hl => lv_lrem C.1 C.2.1 hdg hne (k H locs ls hP hS hl)
theorem v_iushr (C : Cx Δ Γ own cc nL d ret) {x y : Int32} (hdg : decode cc pc = .ok (.iushr, 1)) (k : V Δ Γ nL (pc + 1) ll (.int (x.toUInt32 >>> (y.toUInt32 &&& Int32.toUInt32 31)).toInt32 :: st) σ) : V Δ Γ nL pc ll (.int y :: .int x :: st) σ := by
  obtain ⟨l, D, cI, cT, ad, tK⟩ := Δ; obtain ⟨p, e, R, s, m, args, below, meth, c, kc, ks, Q⟩ := Γ
  exact fun H locs ls hP hS hl => lv_iushr C.1 C.2.1 hdg rfl (k H locs ls hP hS hl)
theorem v_ineg (C : Cx Δ Γ own cc nL d ret) {x : Int32} (hdg : decode cc pc = .ok (.ineg, 1)) (k : V Δ Γ nL (pc + 1) ll (.int (-x) :: st) σ) : V Δ Γ nL pc ll (.int x :: st) σ := by
  obtain ⟨l, D, cI, cT, ad, tK⟩ := Δ; obtain ⟨p, e, R, s, m, args, below, meth, c, kc, ks, Q⟩ := Γ
  exact fun H locs ls hP hS hl => lv_ineg C.1 C.2.1 hdg (k H locs ls hP hS hl)
theorem v_i2l (C : Cx Δ Γ own cc nL d ret) {x : Int32} (hdg : decode cc pc = .ok (.i2l, 1)) (k : V Δ Γ nL (pc + 1) ll (.long x.toInt64 :: st) σ) : V Δ Γ nL pc ll (.int x :: st) σ := by
  obtain ⟨l, D, cI, cT, ad, tK⟩ := Δ; obtain ⟨p, e, R, s, m, args, below, meth, c, kc, ks, Q⟩ := Γ
  exact fun H locs ls hP hS hl => lv_i2l C.1 C.2.1 hdg rfl (k H locs ls hP hS hl)
theorem v_l2i (C : Cx Δ Γ own cc nL d ret) {x : Int64} (hdg : decode cc pc = .ok (.l2i, 1)) (k : V Δ Γ nL (pc + 1) ll (.int x.toInt32 :: st) σ) : V Δ Γ nL pc ll (.long x :: st) σ := by
  obtain ⟨l, D, cI, cT, ad, tK⟩ := Δ; obtain ⟨p, e, R, s, m, args, below, meth, c, kc, ks, Q⟩ := Γ
  exact fun H locs ls hP hS hl => lv_l2i C.1 C.2.1 hdg rfl (k H locs ls hP hS hl)
theorem v_i2b (C : Cx Δ Γ own cc nL d ret) {x : Int32} (hdg : decode cc pc = .ok (.i2b, 1)) (k : V Δ Γ nL (pc + 1) ll (.int x.toInt8.toInt32 :: st) σ) : V Δ Γ nL pc ll (.int x :: st) σ := by
  obtain ⟨l, D, cI, cT, ad, tK⟩ := Δ; obtain ⟨p, e, R, s, m, args, below, meth, c, kc, ks, Q⟩ := Γ
  exact fun H locs ls hP hS hl => lv_i2b C.1 C.2.1 hdg rfl (k H locs ls hP hS hl)
theorem v_lcmp (C : Cx Δ Γ own cc nL d ret) {x y : Int64} (hdg : decode cc pc = .ok (.lcmp, 1)) (k : V Δ Γ nL (pc + 1) ll (.int (lg_cmp x y) :: st) σ) : V Δ Γ nL pc ll (.long y :: .long x :: st) σ := by
  obtain ⟨l, D, cI, cT, ad, tK⟩ := Δ; obtain ⟨p, e, R, s, m, args, below, meth, c, kc, ks, Q⟩ := Γ
  exact fun H locs ls hP hS hl => W.lcmp C.1 C.2.1 hdg (k H locs ls hP hS hl)
theorem v_dup (C : Cx Δ Γ own cc nL d ret) {x : Value} (hdg : decode cc pc = .ok (.dup, 1)) (hc : x.category = 1) (k : V Δ Γ nL (pc + 1) ll (x :: x :: st) σ) : V Δ Γ nL pc ll (x :: st) σ := by
  obtain ⟨l, D, cI, cT, ad, tK⟩ := Δ; obtain ⟨p, e, R, s, m, args, below, meth, c, kc, ks, Q⟩ := Γ
  exact fun H locs ls hP hS hl => lv_dup C.1 C.2.1 hdg hc (k H locs ls hP hS hl)
theorem v_pop (C : Cx Δ Γ own cc nL d ret) {x : Value} (hdg : decode cc pc = .ok (.pop, 1)) (hc : x.category = 1) (k : V Δ Γ nL (pc + 1) ll st σ) : V Δ Γ nL pc ll (x :: st) σ := by
  obtain ⟨l, D, cI, cT, ad, tK⟩ := Δ; obtain ⟨p, e, R, s, m, args, below, meth, c, kc, ks, Q⟩ := Γ
  exact fun H locs ls hP hS hl => lv_pop C.1 C.2.1 hdg hc (k H locs ls hP hS hl)
theorem v_dup2 (C : Cx Δ Γ own cc nL d ret) {x y : Value} (hdg : decode cc pc = .ok (.dup2, 1)) (hc : x.category = 1) (hc2 : y.category = 1) (k : V Δ Γ nL (pc + 1) ll (x :: y :: x :: y :: st) σ) : V Δ Γ nL pc ll (x :: y :: st) σ := by
  obtain ⟨l, D, cI, cT, ad, tK⟩ := Δ; obtain ⟨p, e, R, s, m, args, below, meth, c, kc, ks, Q⟩ := Γ
  exact fun H locs ls hP hS hl => lv_dup2_11 C.1 C.2.1 hdg hc hc2 (k H locs ls hP hS hl)
theorem v_if_eq (C : Cx Δ Γ own cc nL d ret) {x : Int32} (tgt : Nat) {off : Int} (hdg : decode cc pc = .ok (.ifCond .eq off, 3)) (ht : (pc : Int) + off = (tgt : Int)) (kt : x = 0 → V Δ Γ nL tgt ll st σ) (kf : ¬ x = 0 → V Δ Γ nL (pc + 3) ll st σ) : V Δ Γ nL pc ll (.int x :: st) σ := by
  obtain ⟨l, D, cI, cT, ad, tK⟩ := Δ; obtain ⟨p, e, R, s, m, args, below, meth, c, kc, ks, Q⟩ := Γ
  exact fun H locs ls hP hS hl => lv_if_eq C.1 C.2.1 hdg ht (fun h => kt h H locs ls hP hS hl) (fun h => kf h H locs ls hP hS hl)
theorem v_icmp_eq (C : Cx Δ Γ own cc nL d ret) {x y : Int32} (tgt : Nat) {off : Int} (hdg : decode cc pc = .ok (.if_icmp .eq off, 3)) (ht : (pc : Int) + off = (tgt : Int)) (kt : x = y → V Δ Γ nL tgt ll st σ) (kf : ¬ x = y → V Δ Γ nL (pc + 3) ll st σ) : V Δ Γ nL pc ll (.int y :: .int x :: st) σ := by
  obtain ⟨l, D, cI, cT, ad, tK⟩ := Δ; obtain ⟨p, e, R, s, m, args, below, meth, c, kc, ks, Q⟩ := Γ
  exact fun H locs ls hP hS hl => lv_icmp_eq C.1 C.2.1 hdg ht (fun h => kt h H locs ls hP hS hl) (fun h => kf h H locs ls hP hS hl)
theorem v_if_ne (C : Cx Δ Γ own cc nL d ret) {x : Int32} (tgt : Nat) {off : Int} (hdg : decode cc pc = .ok (.ifCond .ne off, 3)) (ht : (pc : Int) + off = (tgt : Int)) (kt : ¬ x = 0 → V Δ Γ nL tgt ll st σ) (kf : x = 0 → V Δ Γ nL (pc + 3) ll st σ) : V Δ Γ nL pc ll (.int x :: st) σ := by
  obtain ⟨l, D, cI, cT, ad, tK⟩ := Δ; obtain ⟨p, e, R, s, m, args, below, meth, c, kc, ks, Q⟩ := Γ
  exact fun H locs ls hP hS hl => lv_if_ne C.1 C.2.1 hdg ht (fun h => kt h H locs ls hP hS hl) (fun h => kf h H locs ls hP hS hl)
theorem v_icmp_ne (C : Cx Δ Γ own cc nL d ret) {x y : Int32} (tgt : Nat) {off : Int} (hdg : decode cc pc = .ok (.if_icmp .ne off, 3)) (ht : (pc : Int) + off = (tgt : Int)) (kt : ¬ x = y → V Δ Γ nL tgt ll st σ) (kf : x = y → V Δ Γ nL (pc + 3) ll st σ) : V Δ Γ nL pc ll (.int y :: .int x :: st) σ := by
  obtain ⟨l, D, cI, cT, ad, tK⟩ := Δ; obtain ⟨p, e, R, s, m, args, below, meth, c, kc, ks, Q⟩ := Γ
  exact fun H locs ls hP hS hl => lv_icmp_ne C.1 C.2.1 hdg ht (fun h => kt h H locs ls hP hS hl) (fun h => kf h H locs ls hP hS hl)
theorem v_if_lt (C : Cx Δ Γ own cc nL d ret) {x : Int32} (tgt : Nat) {off : Int} (hdg : decode cc pc = .ok (.ifCond .lt off, 3)) (ht : (pc : Int) + off = (tgt : Int)) (kt : x < 0 → V Δ Γ nL tgt ll st σ) (kf : ¬ x < 0 → V Δ Γ nL (pc + 3) ll st σ) : V Δ Γ nL pc ll (.int x :: st) σ := by
  obtain ⟨l, D, cI, cT, ad, tK⟩ := Δ; obtain ⟨p, e, R, s, m, args, below, meth, c, kc, ks, Q⟩ := Γ
  exact fun H locs ls hP hS hl => lv_if_lt C.1 C.2.1 hdg ht (fun h => kt h H locs ls hP hS hl) (fun h => kf h H locs ls hP hS hl)
theorem v_icmp_lt (C : Cx Δ Γ own cc nL d ret) {x y : Int32} (tgt : Nat) {off : Int} (hdg : decode cc pc = .ok (.if_icmp .lt off, 3)) (ht : (pc : Int) + off = (tgt : Int)) (kt : x < y → V Δ Γ nL tgt ll st σ) (kf : ¬ x < y → V Δ Γ nL (pc + 3) ll st σ) : V Δ Γ nL pc ll (.int y :: .int x :: st) σ := by
  obtain ⟨l, D, cI, cT, ad, tK⟩ := Δ; obtain ⟨p, e, R, s, m, args, below, meth, c, kc, ks, Q⟩ := Γ
  exact fun H locs ls hP hS hl => lv_icmp_lt C.1 C.2.1 hdg ht (fun h => kt h H locs ls hP hS hl) (fun h => kf h H locs ls hP hS hl)
theorem v_if_ge (C : Cx Δ Γ own cc nL d ret) {x : Int32} (tgt : Nat) {off : Int} (hdg : decode cc pc = .ok (.ifCond .ge off, 3)) (ht : (pc : Int) + off = (tgt : Int)) (kt : 0 ≤ x → V Δ Γ nL tgt ll st σ) (kf : ¬ 0 ≤ x → V Δ Γ nL (pc + 3) ll st σ) : V Δ Γ nL pc ll (.int x :: st) σ := by
  obtain ⟨l, D, cI, cT, ad, tK⟩ := Δ; obtain ⟨p, e, R, s, m, args, below, meth, c, kc, ks, Q⟩ := Γ
  exact fun H locs ls hP hS hl => lv_if_ge C.1 C.2.1 hdg ht (fun h => kt h H locs ls hP hS hl) (fun h => kf h H locs ls hP hS hl)
theorem v_icmp_ge (C : Cx Δ Γ own cc nL d ret) {x y : Int32} (tgt : Nat) {off : Int} (hdg : decode cc pc = .ok (.if_icmp .ge off, 3)) (ht : (pc : Int) + off = (tgt : Int)) (kt : y ≤ x → V Δ Γ nL tgt ll st σ) (kf : ¬ y ≤ x → V Δ Γ nL (pc + 3) ll st σ) : V Δ Γ nL pc ll (.int y :: .int x :: st) σ := by
  obtain ⟨l, D, cI, cT, ad, tK⟩ := Δ; obtain ⟨p, e, R, s, m, args, below, meth, c, kc, ks, Q⟩ := Γ
  exact fun H locs ls hP hS hl => lv_icmp_ge C.1 C.2.1 hdg ht (fun h => kt h H locs ls hP hS hl) (fun h => kf h H locs ls hP hS hl)
theorem v_if_gt (C : Cx Δ Γ own cc nL d ret) {x : Int32} (tgt : Nat) {off : Int} (hdg : decode cc pc = .ok (.ifCond .gt off, 3)) (ht : (pc : Int) + off = (tgt : Int)) (kt : 0 < x → V Δ Γ nL tgt ll st σ) (kf : ¬ 0 < x → V Δ Γ nL (pc + 3) ll st σ) : V Δ Γ nL pc ll (.int x :: st) σ := by
  obtain ⟨l, D, cI, cT, ad, tK⟩ := Δ; obtain ⟨p, e, R, s, m, args, below, meth, c, kc, ks, Q⟩ := Γ
  exact fun H locs ls hP hS hl => lv_if_gt C.1 C.2.1 hdg ht (fun h => kt h H locs ls hP hS hl) (fun h => kf h H locs ls hP hS hl)
theorem v_icmp_gt (C : Cx Δ Γ own cc nL d ret) {x y : Int32} (tgt : Nat) {off : Int} (hdg : decode cc pc = .ok (.if_icmp .gt off, 3)) (ht : (pc : Int) + off = (tgt : Int)) (kt : y < x → V Δ Γ nL tgt ll st σ) (kf : ¬ y < x → V Δ Γ nL (pc + 3) ll st σ) : V Δ Γ nL pc ll (.int y :: .int x :: st) σ := by
  obtain ⟨l, D, cI, cT, ad, tK⟩ := Δ; obtain ⟨p, e, R, s, m, args, below, meth, c, kc, ks, Q⟩ := Γ
  exact fun H locs ls hP hS hl => lv_icmp_gt C.1 C.2.1 hdg ht (fun h => kt h H locs ls hP hS hl) (fun h => kf h H locs ls hP hS hl)
theorem v_if_le (C : Cx Δ Γ own cc nL d ret) {x : Int32} (tgt : Nat) {off : Int} (hdg : decode cc pc = .ok (.ifCond .le off, 3)) (ht : (pc : Int) + off = (tgt : Int)) (kt : x ≤ 0 → V Δ Γ nL tgt ll st σ) (kf : ¬ x ≤ 0 → V Δ Γ nL (pc + 3) ll st σ) : V Δ Γ nL pc ll (.int x :: st) σ := by
  obtain ⟨l, D, cI, cT, ad, tK⟩ := Δ; obtain ⟨p, e, R, s, m, args, below, meth, c, kc, ks, Q⟩ := Γ
  exact fun H locs ls hP hS hl => lv_if_le C.1 C.2.1 hdg ht (fun h => kt h H locs ls hP hS hl) (fun h => kf h H locs ls hP hS hl)
theorem v_icmp_le (C : Cx Δ Γ own cc nL d ret) {x y : Int32} (tgt : Nat) {off : Int} (hdg : decode cc pc = .ok (.if_icmp .le off, 3)) (ht : (pc : Int) + off = (tgt : Int)) (kt : x ≤ y → V Δ Γ nL tgt ll st σ) (kf : ¬ x ≤ y → V Δ Γ nL (pc + 3) ll st σ) : V Δ Γ nL pc ll (.int y :: .int x :: st) σ := by
  obtain ⟨l, D, cI, cT, ad, tK⟩ := Δ; obtain ⟨p, e, R, s, m, args, below, meth, c, kc, ks, Q⟩ := Γ
  exact fun H locs ls hP hS hl => lv_icmp_le C.1 C.2.1 hdg ht (fun h => kt h H locs ls hP hS hl) (fun h => kf h H locs ls hP hS hl)
theorem v_goto (C : Cx Δ Γ own cc nL d ret) (tgt : Nat) {off : Int} (hdg : decode cc pc = .ok (.goto off, 3)) (ht : (pc : Int) + off = (tgt : Int)) (k : V Δ Γ nL tgt ll st σ) : V Δ Γ nL pc ll st σ := by
  obtain ⟨l, D, cI, cT, ad, tK⟩ := Δ; obtain ⟨p, e, R, s, m, args, below, meth, c, kc, ks, Q⟩ := Γ
  exact fun H locs ls hP hS hl => lv_goto C.1 C.2.1 hdg ht (k H locs ls hP hS hl)
theorem v_ifnonnull (C : Cx Δ Γ own cc nL d ret) (tgt : Nat) {x : Nat} {off : Int} (hdg : decode cc pc = .ok (.ifnonnull off, 3)) (ht : (pc : Int) + off = (tgt : Int)) (k : V Δ Γ nL tgt ll st σ) : V Δ Γ nL pc ll (rf Δ x :: st) σ := by
  obtain ⟨l, D, cI, cT, ad, tK⟩ := Δ; obtain ⟨p, e, R, s, m, args, below, meth, c, kc, ks, Q⟩ := Γ
  exact fun H locs ls hP hS hl => lv_ifnonnull C.1 C.2.1 hdg ht (k H locs ls hP hS hl)
theorem v_ifnull (C : Cx Δ Γ own cc nL d ret) {x : Nat} {off : Int} (hdg : decode cc pc = .ok (.ifnull off, 3)) (k : V Δ Γ nL (pc + 3) ll st σ) : V Δ Γ nL pc ll (rf Δ x :: st) σ := by
  obtain ⟨l, D, cI, cT, ad, tK⟩ := Δ; obtain ⟨p, e, R, s, m, args, below, meth, c, kc, ks, Q⟩ := Γ
  exact fun H locs ls hP hS hl => lv_ifnull C.1 C.2.1 hdg (k H locs ls hP hS hl)
theorem v_ifnonnullN (C : Cx Δ Γ own cc nL d ret) {off : Int} (hdg : decode cc pc = .ok (.ifnonnull off, 3)) (k : V Δ Γ nL (pc + 3) ll st σ) : V Δ Γ nL pc ll (.null :: st) σ := by
  obtain ⟨l, D, cI, cT, ad, tK⟩ := Δ; obtain ⟨p, e, R, s, m, args, below, meth, c, kc, ks, Q⟩ := Γ
  exact fun H locs ls hP hS hl => lv_ifnonnullN C.1 C.2.1 hdg (k H locs ls hP hS hl)
theorem v_ifnullN (C : Cx Δ Γ own cc nL d ret) (tgt : Nat) {off : Int} (hdg : decode cc pc = .ok (.ifnull off, 3)) (ht : (pc : Int) + off = (tgt : Int)) (k : V Δ Γ nL tgt ll st σ) : V Δ Γ nL pc ll (.null :: st) σ := by
  obtain ⟨l, D, cI, cT, ad, tK⟩ := Δ; obtain ⟨p, e, R, s, m, args, below, meth, c, kc, ks, Q⟩ := Γ
  exact fun H locs ls hP hS hl => lv_ifnullN C.1 C.2.1 hdg ht (k H locs ls hP hS hl)
theorem v_tableIn (C : Cx Δ Γ own cc nL d ret) (tgt : Nat) {dflt lo hi : Int} {offs : Array Int} {len : Nat} {x : Int32} (off : Int) (hdg : decode cc pc = .ok (.tableswitch dflt lo hi offs, len)) (h1 : ¬ x.toInt < lo) (h2 : ¬ hi < x.toInt) (ho : offs[(x.toInt - lo).toNat]? = some off) (ht : (pc : Int) + off = (tgt : Int)) (k : V Δ Γ nL tgt ll st σ) : V Δ Γ nL pc ll (.int x :: st) σ := by
  obtain ⟨l, D, cI, cT, ad, tK⟩ := Δ; obtain ⟨p, e, R, s, m, args, below, meth, c, kc, ks, Q⟩ := Γ
  exact fun H locs ls hP hS hl => lv_tableIn C.1 C.2.1 hdg h1 h2 ho ht (k H locs ls hP hS hl)
/-- a switch over numbers in a row: one goal for a number, one for the rest -/
theorem v_tableEq (C : Cx Δ Γ own cc nL d ret) (tgt : Nat) (v : Int32) {dflt lo hi : Int} {offs : Array Int} {len : Nat} {x : Int32} (off : Int) (hdg : decode cc pc = .ok (.tableswitch dflt lo hi offs, len)) (hx : x = v) (h1 : ¬ v.toInt < lo) (h2 : ¬ hi < v.toInt) (ho : offs[(v.toInt - lo).toNat]? = some off) (ht : (pc : Int) + off = (tgt : Int)) (k : V Δ Γ nL tgt ll st σ) : V Δ Γ nL pc ll (.int x :: st) σ := by
  subst hx
  exact v_tableIn C tgt off hdg h1 h2 ho ht k
theorem v_tableOut (C : Cx Δ Γ own cc nL d ret) (tgt : Nat) {dflt lo hi : Int} {offs : Array Int} {len : Nat} {x : Int32} (hdg : decode cc pc = .ok (.tableswitch dflt lo hi offs, len)) (h : x.toInt < lo ∨ hi < x.toInt) (ht : (pc : Int) + dflt = (tgt : Int)) (k : V Δ Γ nL tgt ll st σ) : V Δ Γ nL pc ll (.int x :: st) σ := by
  obtain ⟨l, D, cI, cT, ad, tK⟩ := Δ; obtain ⟨p, e, R, s, m, args, below, meth, c, kc, ks, Q⟩ := Γ
  exact fun H locs ls hP hS hl => lv_tableOut C.1 C.2.1 hdg h ht (k H locs ls hP hS hl)
theorem v_lookup (C : Cx Δ Γ own cc nL d ret) (tgt : Nat) {dflt : Int} {ps : Array (Int × Int)} {len : Nat} {x : Int32} (off : Int) (hdg : decode cc pc = .ok (.lookupswitch dflt ps, len)) (hp : (ps.toList.zip (ps.toList.drop 1)).all (fun (a, next) => a.1 < next.1) = true) (ho : Op.lookupswitch.offset ps.toList dflt x.toInt = off) (ht : (pc : Int) + off = (tgt : Int)) (k : V Δ Γ nL tgt ll st σ) : V Δ Γ nL pc ll (.int x :: st) σ := by
  obtain ⟨l, D, cI, cT, ad, tK⟩ := Δ; obtain ⟨p, e, R, s, m, args, below, meth, c, kc, ks, Q⟩ := Γ
  exact fun H locs ls hP hS hl => lv_lookup C.1 C.2.1 hdg hp ho ht (k H locs ls hP hS hl)
/-! ends -/
theorem v_iret (C : Cx Δ Γ own cc nL d (some .int)) {rv : Option Value} {σ' : Mem} (hq : RetQ Δ Γ rv σ') {v : Int32} (hr : rv = some (.int v)) (hs : σ' = σ) (hdg : decode cc pc = .ok (.ireturn, 1)) : V Δ Γ nL pc ll [.int v] σ := by
  obtain ⟨l, D, cI, cT, ad, tK⟩ := Δ; obtain ⟨p, e, R, s, m, args, below, meth, c, kc, ks, Q⟩ := Γ
  subst hr; subst hs
  obtain rfl := hq
  exact fun H locs ls hP hS hl => W.iret (Qc := Pq (l, D, cI, cT, ad, tK) (some (.int v)) σ') C.1 C.2.1 C.2.2.2.2.2.2.1 (fun t ht _ => ⟨rfl, by rw [ht]; exact hP, hS.F ht⟩) hS.2.2 hdg C.2.2.2.2.2.2.2.1
theorem v_zret (C : Cx Δ Γ own cc nL d (some .boolean)) {rv : Option Value} {σ' : Mem} (hq : RetQ Δ Γ rv σ') {v : Int32} (hv : narrow .boolean (.int v) = .int v) (hr : rv = some (.int v)) (hs : σ' = σ) (hdg : decode cc pc = .ok (.ireturn, 1)) : V Δ Γ nL pc ll [.int v] σ := by
  obtain ⟨l, D, cI, cT, ad, tK⟩ := Δ; obtain ⟨p, e, R, s, m, args, below, meth, c, kc, ks, Q⟩ := Γ
  subst hr; subst hs
  obtain rfl := hq
  exact fun H locs ls hP hS hl => W.zret (Qc := Pq (l, D, cI, cT, ad, tK) (some (.int v)) σ') C.1 C.2.1 C.2.2.2.2.2.2.1 hv (fun t ht _ => ⟨rfl, by rw [ht]; exact hP, hS.F ht⟩) hS.2.2 hdg C.2.2.2.2.2.2.2.1
theorem v_lret (C : Cx Δ Γ own cc nL d (some .long)) {rv : Option Value} {σ' : Mem} (hq : RetQ Δ Γ rv σ') {v : Int64} (hr : rv = some (.long v)) (hs : σ' = σ) (hdg : decode cc pc = .ok (.lreturn, 1)) : V Δ Γ nL pc ll [.long v] σ := by
  obtain ⟨l, D, cI, cT, ad, tK⟩ := Δ; obtain ⟨p, e, R, s, m, args, below, meth, c, kc, ks, Q⟩ := Γ
  subst hr; subst hs
  obtain rfl := hq
  exact fun H locs ls hP hS hl => W.lret (Qc := Pq (l, D, cI, cT, ad, tK) (some (.long v)) σ') C.1 C.2.1 C.2.2.2.2.2.2.1 (fun t ht _ => ⟨rfl, by rw [ht]; exact hP, hS.F ht⟩) hS.2.2 hdg C.2.2.2.2.2.2.2.1
theorem v_aret (C : Cx Δ Γ own cc nL d ret) {rv : Option Value} {σ' : Mem} (hq : RetQ Δ Γ rv σ') {v : Value} {rt : String} (hret : ret = some (.object rt)) (hv : v = .null ∨ ∃ a, v = .ref a) (hr : rv = some v) (hs : σ' = σ) (hdg : decode cc pc = .ok (.areturn, 1)) : V Δ Γ nL pc ll [v] σ := by
  obtain ⟨l, D, cI, cT, ad, tK⟩ := Δ; obtain ⟨p, e, R, s, m, args, below, meth, c, kc, ks, Q⟩ := Γ
  subst hr; subst hs; subst hret
  obtain rfl := hq
  exact fun H locs ls hP hS hl => W.aret (Qc := Pq (l, D, cI, cT, ad, tK) (some v) σ') C.1 C.2.1 C.2.2.2.2.2.2.1 (Or.inl ⟨_, rfl⟩) hv (fun t ht _ => ⟨rfl, by rw [ht]; exact hP, hS.F ht⟩) hS.2.2 hdg C.2.2.2.2.2.2.2.1
theorem v_vret (C : Cx Δ Γ own cc nL d none) {rv : Option Value} {σ' : Mem} (hq : RetQ Δ Γ rv σ') (hr : rv = none) (hs : σ' = σ) (hdg : decode cc pc = .ok (.return_, 1)) : V Δ Γ nL pc ll [] σ := by
  obtain ⟨l, D, cI, cT, ad, tK⟩ := Δ; obtain ⟨p, e, R, s, m, args, below, meth, c, kc, ks, Q⟩ := Γ
  subst hr; subst hs
  obtain rfl := hq
  exact fun H locs ls hP hS hl => W.vret (Qc := Pq (l, D, cI, cT, ad, tK) none σ') C.1 C.2.1 C.2.2.2.2.2.2.1 (fun t ht _ => ⟨rfl, by rw [ht]; exact hP, hS.F ht⟩) hS.2.2 hdg C.2.2.2.2.2.2.2.1
end ROWS

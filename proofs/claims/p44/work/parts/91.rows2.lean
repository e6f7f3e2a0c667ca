/-! ===== the law's world: two objects, two rows of numbers, the script ===== -/
abbrev Mem2 : Type := Mem × Mem × (Nat → Int32) × (Nat → Int32) × (Nat × (Nat → Int32))
abbrev AD2 : Type := (Nat → Nat) × (Nat → Nat) × Nat × Nat
abbrev DD2 : Type := Launch × va_G × ClassId × ClassId × AD2 × (Nat × Nat × (Nat × (Nat → Int32)))
def adA2 (ad : AD2) : Nat → Prop := fun q => adA ad.1 q ∨ adA ad.2.1 q ∨ q = ad.2.2.1 ∨ q = ad.2.2.2
def tl2 (ad : AD2) (cI : ClassId) (σ : Mem2) : va_W := [(ad.2.2.1, .inl (cI, 64, .inl σ.2.2.1)), (ad.2.2.2, .inl (cI, 64, .inl σ.2.2.2.1))]
def wl2 (ad : AD2) (cI cT : ClassId) (σ : Mem2) : va_W := wld ad.1 cI cT σ.1 ++ (wld ad.2.1 cI cT σ.2.1 ++ tl2 ad cI σ)
theorem wld_len {ad : Nat → Nat} {cI cT : ClassId} {σ : Mem} : (wld ad cI cT σ).length = nW := by unfold wld; simp
section WL2
variable {ad : AD2} {cI cT : ClassId} {σ : Mem2}
theorem wl2_o {k : Nat} (h : k < nW) : (wl2 ad cI cT σ)[k]? = some (ad.1 k, cel ad.1 cI cT σ.1 k) := by
  unfold wl2
  rw [List.getElem?_append_left (by rw [wld_len]; exact h), wld_get h]
theorem wl2_q {k : Nat} (h : k < nW) : (wl2 ad cI cT σ)[nW + k]? = some (ad.2.1 k, cel ad.2.1 cI cT σ.2.1 k) := by
  unfold wl2
  rw [List.getElem?_append_right (by rw [wld_len]; omega), wld_len, Nat.add_sub_cancel_left, List.getElem?_append_left (by rw [wld_len]; exact h), wld_get h]
theorem wl2_t {k : Nat} : (wl2 ad cI cT σ)[nW + nW + k]? = (tl2 ad cI σ)[k]? := by
  unfold wl2
  rw [List.getElem?_append_right (by rw [wld_len]; omega), wld_len, List.getElem?_append_right (by rw [wld_len]; omega), wld_len, show nW + nW + k - nW - nW = k by omega]
theorem wl2_v : (wl2 ad cI cT σ)[nW + nW]? = some (ad.2.2.1, .inl (cI, 64, .inl σ.2.2.1)) := wl2_t (k := 0)
theorem wl2_u : (wl2 ad cI cT σ)[nW + nW + 1]? = some (ad.2.2.2, .inl (cI, 64, .inl σ.2.2.2.1)) := wl2_t (k := 1)
/-- which cell stands at a place -/
theorem wl2_some {k : Nat} {q : Nat × va_E} (h : (wl2 ad cI cT σ)[k]? = some q) : (k < nW ∧ q.1 = ad.1 k) ∨ (∃ j, j < nW ∧ k = nW + j ∧ q.1 = ad.2.1 j) ∨ (k = nW + nW ∧ q.1 = ad.2.2.1) ∨ (k = nW + nW + 1 ∧ q.1 = ad.2.2.2) := by
  by_cases h1 : k < nW
  · rw [wl2_o h1] at h; cases h; exact Or.inl ⟨h1, rfl⟩
  · by_cases h2 : k < nW + nW
    · obtain ⟨j, rfl⟩ : ∃ j, k = nW + j := ⟨k - nW, by omega⟩
      rw [wl2_q (by omega)] at h; cases h
      exact Or.inr (Or.inl ⟨j, by omega, rfl, rfl⟩)
    · obtain ⟨j, rfl⟩ : ∃ j, k = nW + nW + j := ⟨k - (nW + nW), by omega⟩
      rw [wl2_t] at h
      match j with
      | 0 => cases h; exact Or.inr (Or.inr (Or.inl ⟨rfl, rfl⟩))
      | 1 => cases h; exact Or.inr (Or.inr (Or.inr ⟨rfl, rfl⟩))
      | j + 2 => cases h
theorem wl2_setv {f : Nat → Int32} : (wl2 ad cI cT σ).set (nW + nW) (ad.2.2.1, .inl (cI, 64, .inl f)) = wl2 ad cI cT (σ.1, σ.2.1, f, σ.2.2.2) := by
  unfold wl2
  rw [List.set_append_right _ _ (by rw [wld_len]; omega), wld_len, List.set_append_right _ _ (by rw [wld_len]; omega), wld_len, show nW + nW - nW - nW = 0 by omega]
  rfl
theorem wl2_setu {f : Nat → Int32} : (wl2 ad cI cT σ).set (nW + nW + 1) (ad.2.2.2, .inl (cI, 64, .inl f)) = wl2 ad cI cT (σ.1, σ.2.1, σ.2.2.1, f, σ.2.2.2.2) := by
  unfold wl2
  rw [List.set_append_right _ _ (by rw [wld_len]; omega), wld_len, List.set_append_right _ _ (by rw [wld_len]; omega), wld_len, show nW + nW + 1 - nW - nW = 1 by omega]
  rfl
end WL2
/-- the addresses are apart -/
def Dis2 (ad : AD2) : Prop := (∀ i j, i < nW → j < nW → ad.1 i = ad.1 j → i = j) ∧ (∀ i j, i < nW → j < nW → ad.2.1 i = ad.2.1 j → i = j) ∧ (∀ i j, i < nW → j < nW → ad.1 i ≠ ad.2.1 j) ∧ (∀ i, i < nW → ad.1 i ≠ ad.2.2.1 ∧ ad.1 i ≠ ad.2.2.2 ∧ ad.2.1 i ≠ ad.2.2.1 ∧ ad.2.1 i ≠ ad.2.2.2) ∧ ad.2.2.1 ≠ ad.2.2.2
theorem wl2_D {ad : AD2} {cI cT : ClassId} {σ : Mem2} (h : Dis2 ad) : va_D (adA2 ad) (wl2 ad cI cT σ) := by
  obtain ⟨h1, h2, h3, h4, h5⟩ := h
  refine ⟨fun i j p q hp hq e => ?_, fun k q hq => ?_⟩
  · rcases wl2_some hp with ⟨a, a2⟩ | ⟨a, b, rfl, a2⟩ | ⟨rfl, a2⟩ | ⟨rfl, a2⟩ <;> rcases wl2_some hq with ⟨c, c2⟩ | ⟨c, d, rfl, c2⟩ | ⟨rfl, c2⟩ | ⟨rfl, c2⟩ <;> rw [a2, c2] at e
    · exact h1 i j a c e
    · exact absurd e (h3 _ _ a d)
    · exact absurd e (h4 _ a).1
    · exact absurd e (h4 _ a).2.1
    · exact absurd e.symm (h3 _ _ c b)
    · rw [h2 _ _ b d e]
    · exact absurd e (h4 _ b).2.2.1
    · exact absurd e (h4 _ b).2.2.2
    · exact absurd e.symm (h4 _ c).1
    · exact absurd e.symm (h4 _ d).2.2.1
    · exact absurd e h5
    · exact absurd e.symm (h4 _ c).2.1
    · exact absurd e.symm (h4 _ d).2.2.2
    · exact absurd e.symm h5
  · rcases wl2_some hq with ⟨a, a2⟩ | ⟨a, b, rfl, a2⟩ | ⟨rfl, a2⟩ | ⟨rfl, a2⟩ <;> rw [a2]
    · exact Or.inl ⟨_, a, rfl⟩
    · exact Or.inr (Or.inl ⟨_, b, rfl⟩)
    · exact Or.inr (Or.inr (Or.inl rfl))
    · exact Or.inr (Or.inr (Or.inr rfl))
def KL2 (ad : AD2) (tK : Nat × Nat × (Nat × (Nat → Int32))) (U : State) (H : Heap) : Prop := va_Z RX8 "KIND_LETTERS" "[I" (.ref tK.1) (adA2 ad) U H ∧ va_T .int tK.1 6 (fun j => .int (klv j)) (adA2 ad) U H ∧ va_T .int tK.2.1 tK.2.2.1 (fun j => .int (tK.2.2.2 j)) (adA2 ad) U H
def St2 (D : va_G) (cI cT : ClassId) (ad : AD2) (tK : Nat × Nat × (Nat × (Nat → Int32))) (U : State) (H : Heap) : Prop := va_K D cls9 (tysA cI cT) U ∧ Dis2 ad ∧ KL2 ad tK U H ∧ ∀ w ∈ lw_nest, va_Nw w U
def PW2 (D : va_G) (cI cT : ClassId) (ad : AD2) (tK : Nat × Nat × (Nat × (Nat → Int32))) (σ : Mem2) (H : Heap) : Prop := σ.2.2.2.2 = tK.2.2 ∧ va_P D cls9 (wl2 ad cI cT σ) H
def V2 (Δ : DD2) (Γ : GG) (nL pc : Nat) (ll : List (Nat × Value)) (st : List Value) (σ : Mem2) : Prop := match Δ, Γ with
  | (l, D, cI, cT, ad, tK), (p, e, R, s, m, args, below, meth, c, kc, ks, Q) => ∀ (H : Heap) (locs : List Loc) (ls : Array Slot), PW2 D cI cT ad tK σ H → va_S (adA2 ad) s.heap H locs → lv_has ls nL ll → W p l e R s m args below meth c H locs kc ks Q (F0 m pc ls st)
def Cx2 (Δ : DD2) (Γ : GG) (own : String) (cc : ByteArray) (nL d : Nat) (ret : Option FieldType) : Prop := match Δ, Γ with
  | (_, D, cI, cT, ad, tK), (p, _, R, s, m, args, _, meth, c, kc, ks, _) => p.tables.exec = Jvm.exec ∧ c.code = cc ∧ c.maxLocals = nL ∧ s.vm.findClass own = some m.cls ∧ (∀ w ∈ lw_good, w.before args s = true) ∧ St2 D cI cT ad tK s s.heap ∧ meth.sig.returnType = ret ∧ meth.locks = false ∧ d + 1 ≤ R.frames ∧ 64 * (d + 1) ≤ R.locals ∧ kc ≤ R.cells ∧ ks ≤ R.slots
def Pq2 (Δ : DD2) (rv : Option Value) (σ' : Mem2) : Array Value → State → Outcome → State → Prop := match Δ with
  | (_, D, cI, cT, ad, tK) => fun _ st o t => o = .returned rv ∧ PW2 D cI cT ad tK σ' t.heap ∧ va_F (adA2 ad) st t
def Pp2 (Δ : DD2) (av : List Value) (σ : Mem2) : Array Value → State → Prop := match Δ with
  | (_, D, cI, cT, ad, tK) => va_Pc av (fun U => PW2 D cI cT ad tK σ U.heap ∧ St2 D cI cT ad tK U U.heap)
def RetQ2 (Δ : DD2) (Γ : GG) (rv : Option Value) (σ' : Mem2) : Prop := match Γ with
  | (_, _, _, s, _, args, below, _, _, kc, ks, Q) => Q = MQ below (Pq2 Δ rv σ') args s kc ks (adA2 Δ.2.2.2.2.1)
def Mt2 (Δ : DD2) (d : Nat) (y : MethodName) (cc : ByteArray) (nL : Nat) (ret : Option FieldType) (av : List Value) (σ : Mem2) (rv : Option Value) (σ' : Mem2) : Prop :=
  Met Δ.1 y (Cond.code y cc nL ret :: lw_good) (rm d) (Pp2 Δ av σ) (Pq2 Δ rv σ') 0 0 (adA2 Δ.2.2.2.2.1)
def ad2 (Δ : DD2) (k : Nat) : Nat := if k = 0 then Δ.2.2.2.2.1.1 0 else if k = 1 then Δ.2.2.2.2.1.2.1 0 else if k = 2 then Δ.2.2.2.2.1.2.2.1 else if k = 3 then Δ.2.2.2.2.1.2.2.2 else Δ.2.2.2.2.2.2.1
abbrev rf2 (Δ : DD2) (k : Nat) : Value := .ref (ad2 Δ k)
theorem KL2.moved {ad : AD2} {t : Nat × Nat × (Nat × (Nat → Int32))} {u U : State} {H : Heap} (hvm : u.vm.Alike U.vm) (h : KL2 ad t u H) : KL2 ad t U H := ⟨h.1.moved hvm, h.2.1.moved hvm, h.2.2.moved hvm⟩
theorem KL2.kept {ad : AD2} {t : Nat × Nat × (Nat × (Nat → Int32))} {U : State} {H H1 : Heap} (hq : ∀ a : Nat, a < H.size → ¬ adA2 ad a → H1[a]? = H[a]?) (h : KL2 ad t U H) : KL2 ad t U H1 := ⟨h.1.kept hq, h.2.1.kept hq, h.2.2.kept hq⟩
theorem St2.go {D : va_G} {cI cT : ClassId} {ad : AD2} {tK : Nat × Nat × (Nat × (Nat → Int32))} {s U : State} {H : Heap} {locs : List Loc} (h : St2 D cI cT ad tK s s.heap) (hS : va_S (adA2 ad) s.heap H locs) (hW : s.WarmedH U.vm) : St2 D cI cT ad tK U H :=
  ⟨va_K.moved hW.alike h.1, h.2.1, (h.2.2.1.kept (fun a h1 h2 => hS.2.1 a h1 h2)).moved hW.alike, fun w hw => nest_warm hw hW (h.2.2.2 w hw)⟩
theorem St2.call {D : va_G} {cI cT : ClassId} {ad : AD2} {tK : Nat × Nat × (Nat × (Nat → Int32))} {U : State} {H : Heap} (a : Array Value) (g : JFrame) (mk : MethodId) (h : St2 D cI cT ad tK U H) : St2 D cI cT ad tK (U.calling g mk a) H :=
  ⟨va_K.moved (u := U) (U := U.calling g mk a) (Vm.Alike.refl U.vm) h.1, h.2.1, h.2.2.1.moved (u := U) (U := U.calling g mk a) (Vm.Alike.refl U.vm), fun w hw => va_Nw.same (u := U) (U := U.calling g mk a) (nest_on hw) rfl (h.2.2.2 w hw)⟩
theorem Pp2.blind (Δ : DD2) (av : List Value) (σ : Mem2) : FrameBlind (Pp2 Δ av σ) := by
  obtain ⟨l, D, cI, cT, ad, tK⟩ := Δ
  intro a U g mk h
  exact ⟨h.1, h.2.1, h.2.2.call a g mk⟩
/-- from a walk of the body to the contract -/
theorem mt2_of {Δ : DD2} {d : Nat} {own : String} {y : MethodName} {cc : ByteArray} {nL : Nat} {ret : Option FieldType} {av : List Value} {σ : Mem2} {rv : Option Value} {σ' : Mem2} (hy : plainName y.cls = true) (hown : y.cls = own) (hlen : (lg_sl av).length ≤ nL)
    (body : ∀ Γ : GG, Cx2 Δ Γ own cc nL d ret → RetQ2 Δ Γ rv σ' → V2 Δ Γ nL 0 (lv_args 0 av) [] σ) : Mt2 Δ (d + 1) y cc nL ret av σ rv σ' := by
  obtain ⟨l, D, cI, cT, ad, tK⟩ := Δ
  refine Met.ofW (cc := cc) (maxL := nL) (ret := ret) hy rfl ?_
  intro p e s m args below meth c s₁ B hml hv
  obtain ⟨rfl, hP, hSt⟩ := hv
  have hts0 := atoms_spec (ws := Cond.code y cc nL ret :: lw_good) B.pre
  have hl := lv_entry av (n := nL) hlen
  rw [lg_entry_eq]
  refine body (p, e, (headSpec (Cond.code y cc nL ret :: lw_good) (rm (d + 1))).room, s, m, av.toArray, below, meth, c, 0, 0, _) ⟨B.exec, B.bytes, hml, ?_, fun w hw => hts0 w (List.mem_cons_of_mem _ hw), hSt, B.returns, B.notSynchronized, ?_, ?_, Nat.le_refl _, Nat.le_refl _⟩ rfl s.heap [] _ hP va_S.rf hl
  · rw [← hown]; exact findClass_of_methodNamed B.named
  · exact Nat.le_refl _
  · exact Nat.le_refl _
section ROWS
variable {Δ : DD2} {Γ : GG} {own : String} {cc : ByteArray} {nL d pc : Nat} {ret : Option FieldType} {ll : List (Nat × Value)} {st : List Value} {σ : Mem2}
theorem w_iconst (C : Cx2 Δ Γ own cc nL d ret) {n : Int} (v : Int32) (hdg : decode cc pc = .ok (.iconst n, 1)) (hv : Int32.ofInt n = v) (k : V2 Δ Γ nL (pc + 1) ll (.int v :: st) σ) : V2 Δ Γ nL pc ll st σ := by
  obtain ⟨l, D, cI, cT, ad, tK⟩ := Δ; obtain ⟨p, e, R, s, m, args, below, meth, c, kc, ks, Q⟩ := Γ
  exact fun H locs ls hP hS hl => lv_iconst C.1 C.2.1 hdg hv (k H locs ls hP hS hl)
theorem w_bipush (C : Cx2 Δ Γ own cc nL d ret) {n : Int} (v : Int32) (hdg : decode cc pc = .ok (.bipush n, 2)) (hv : (Int8.ofInt n).toInt32 = v) (k : V2 Δ Γ nL (pc + 2) ll (.int v :: st) σ) : V2 Δ Γ nL pc ll st σ := by
  obtain ⟨l, D, cI, cT, ad, tK⟩ := Δ; obtain ⟨p, e, R, s, m, args, below, meth, c, kc, ks, Q⟩ := Γ
  exact fun H locs ls hP hS hl => lv_bipush C.1 C.2.1 hdg hv (k H locs ls hP hS hl)
theorem w_sipush (C : Cx2 Δ Γ own cc nL d ret) {n : Int} (v : Int32) (hdg : decode cc pc = .ok (.sipush n, 3)) (hv : (Int16.ofInt n).toInt32 = v) (k : V2 Δ Γ nL (pc + 3) ll (.int v :: st) σ) : V2 Δ Γ nL pc ll st σ := by
  obtain ⟨l, D, cI, cT, ad, tK⟩ := Δ; obtain ⟨p, e, R, s, m, args, below, meth, c, kc, ks, Q⟩ := Γ
  exact fun H locs ls hP hS hl => lv_sipush C.1 C.2.1 hdg hv (k H locs ls hP hS hl)
theorem w_lconst (C : Cx2 Δ Γ own cc nL d ret) {n : Fin 2} (v : Int64) (hdg : decode cc pc = .ok (.lconst n, 1)) (hv : Int64.ofNat (n : Nat) = v) (k : V2 Δ Γ nL (pc + 1) ll (.long v :: st) σ) : V2 Δ Γ nL pc ll st σ := by
  obtain ⟨l, D, cI, cT, ad, tK⟩ := Δ; obtain ⟨p, e, R, s, m, args, below, meth, c, kc, ks, Q⟩ := Γ
  exact fun H locs ls hP hS hl => lv_lconst C.1 C.2.1 hdg hv (k H locs ls hP hS hl)
theorem w_ldc (C : Cx2 Δ Γ own cc nL d ret) {i : Nat} (v : Int32) (hw : Cond.constant own i v ∈ lw_good) (hdg : decode cc pc = .ok (.ldc i, 2)) (k : V2 Δ Γ nL (pc + 2) ll (.int v :: st) σ) : V2 Δ Γ nL pc ll st σ := by
  obtain ⟨l, D, cI, cT, ad, tK⟩ := Δ; obtain ⟨p, e, R, s, m, args, below, meth, c, kc, ks, Q⟩ := Γ
  exact fun H locs ls hP hS hl => lv_ldc C.1 C.2.1 C.2.2.2.1 (C.2.2.2.2.1 _ hw) hdg (k H locs ls hP hS hl)
theorem w_ldcw (C : Cx2 Δ Γ own cc nL d ret) {i : Nat} (v : Int32) (hw : Cond.constant own i v ∈ lw_good) (hdg : decode cc pc = .ok (.ldc_w i, 3)) (k : V2 Δ Γ nL (pc + 3) ll (.int v :: st) σ) : V2 Δ Γ nL pc ll st σ := by
  obtain ⟨l, D, cI, cT, ad, tK⟩ := Δ; obtain ⟨p, e, R, s, m, args, below, meth, c, kc, ks, Q⟩ := Γ
  exact fun H locs ls hP hS hl => lv_ldcw C.1 C.2.1 C.2.2.2.1 (C.2.2.2.2.1 _ hw) hdg (k H locs ls hP hS hl)
theorem w_ldc2 (C : Cx2 Δ Γ own cc nL d ret) {i : Nat} (v : Int64) (hw : Cond.constantLong own i v ∈ lw_good) (hdg : decode cc pc = .ok (.ldc2_w i, 3)) (k : V2 Δ Γ nL (pc + 3) ll (.long v :: st) σ) : V2 Δ Γ nL pc ll st σ := by
  obtain ⟨l, D, cI, cT, ad, tK⟩ := Δ; obtain ⟨p, e, R, s, m, args, below, meth, c, kc, ks, Q⟩ := Γ
  exact fun H locs ls hP hS hl => lv_ldc2 C.1 C.2.1 C.2.2.2.1 (C.2.2.2.2.1 _ hw) hdg (k H locs ls hP hS hl)
theorem w_null (C : Cx2 Δ Γ own cc nL d ret) (hdg : decode cc pc = .ok (.aconst_null, 1)) (k : V2 Δ Γ nL (pc + 1) ll (.null :: st) σ) : V2 Δ Γ nL pc ll st σ := by
  obtain ⟨l, D, cI, cT, ad, tK⟩ := Δ; obtain ⟨p, e, R, s, m, args, below, meth, c, kc, ks, Q⟩ := Γ
  exact fun H locs ls hP hS hl => lv_null C.1 C.2.1 hdg (k H locs ls hP hS hl)
theorem w_iload_n (C : Cx2 Δ Γ own cc nL d ret) {i : Fin 4} {x : Int32} (j q : Nat) (hdg : decode cc pc = .ok (.iload_n i, 1)) (hj : (i : Nat) = j) (hk : ll[q]? = some (j, .int x)) (k : V2 Δ Γ nL (pc + 1) ll (.int x :: st) σ) : V2 Δ Γ nL pc ll st σ := by
  obtain ⟨l, D, cI, cT, ad, tK⟩ := Δ; obtain ⟨p, e, R, s, m, args, below, meth, c, kc, ks, Q⟩ := Γ
  exact fun H locs ls hP hS hl => lv_iload_n C.1 C.2.1 hdg hj (lv_at hl q hk) (k H locs ls hP hS hl)
theorem w_iload (C : Cx2 Δ Γ own cc nL d ret) {x : Int32} (j q : Nat) (hdg : decode cc pc = .ok (.iload j, 2)) (hk : ll[q]? = some (j, .int x)) (k : V2 Δ Γ nL (pc + 2) ll (.int x :: st) σ) : V2 Δ Γ nL pc ll st σ := by
  obtain ⟨l, D, cI, cT, ad, tK⟩ := Δ; obtain ⟨p, e, R, s, m, args, below, meth, c, kc, ks, Q⟩ := Γ
  exact fun H locs ls hP hS hl => lv_iload C.1 C.2.1 hdg (lv_at hl q hk) (k H locs ls hP hS hl)
theorem w_lload_n (C : Cx2 Δ Γ own cc nL d ret) {i : Fin 4} {x : Int64} (j q : Nat) (hdg : decode cc pc = .ok (.lload_n i, 1)) (hj : (i : Nat) = j) (hk : ll[q]? = some (j, .long x)) (k : V2 Δ Γ nL (pc + 1) ll (.long x :: st) σ) : V2 Δ Γ nL pc ll st σ := by
  obtain ⟨l, D, cI, cT, ad, tK⟩ := Δ; obtain ⟨p, e, R, s, m, args, below, meth, c, kc, ks, Q⟩ := Γ
  exact fun H locs ls hP hS hl => lv_lload_n C.1 C.2.1 hdg hj (lv_at hl q hk) (k H locs ls hP hS hl)
theorem w_lload (C : Cx2 Δ Γ own cc nL d ret) {x : Int64} (j q : Nat) (hdg : decode cc pc = .ok (.lload j, 2)) (hk : ll[q]? = some (j, .long x)) (k : V2 Δ Γ nL (pc + 2) ll (.long x :: st) σ) : V2 Δ Γ nL pc ll st σ := by
  obtain ⟨l, D, cI, cT, ad, tK⟩ := Δ; obtain ⟨p, e, R, s, m, args, below, meth, c, kc, ks, Q⟩ := Γ
  exact fun H locs ls hP hS hl => lv_lload C.1 C.2.1 hdg (lv_at hl q hk) (k H locs ls hP hS hl)
theorem w_aload_n (C : Cx2 Δ Γ own cc nL d ret) {i : Fin 4} {x : Nat} (j q : Nat) (hdg : decode cc pc = .ok (.aload_n i, 1)) (hj : (i : Nat) = j) (hk : ll[q]? = some (j, .ref x)) (k : V2 Δ Γ nL (pc + 1) ll (.ref x :: st) σ) : V2 Δ Γ nL pc ll st σ := by
  obtain ⟨l, D, cI, cT, ad, tK⟩ := Δ; obtain ⟨p, e, R, s, m, args, below, meth, c, kc, ks, Q⟩ := Γ
  exact fun H locs ls hP hS hl => lv_aload_n C.1 C.2.1 hdg hj (lv_at hl q hk) (k H locs ls hP hS hl)
theorem w_aload (C : Cx2 Δ Γ own cc nL d ret) {x : Nat} (j q : Nat) (hdg : decode cc pc = .ok (.aload j, 2)) (hk : ll[q]? = some (j, .ref x)) (k : V2 Δ Γ nL (pc + 2) ll (.ref x :: st) σ) : V2 Δ Γ nL pc ll st σ := by
  obtain ⟨l, D, cI, cT, ad, tK⟩ := Δ; obtain ⟨p, e, R, s, m, args, below, meth, c, kc, ks, Q⟩ := Γ
  exact fun H locs ls hP hS hl => lv_aload C.1 C.2.1 hdg (lv_at hl q hk) (k H locs ls hP hS hl)
theorem w_aload_nN (C : Cx2 Δ Γ own cc nL d ret) {i : Fin 4} (j q : Nat) (hdg : decode cc pc = .ok (.aload_n i, 1)) (hj : (i : Nat) = j) (hk : ll[q]? = some (j, .null)) (k : V2 Δ Γ nL (pc + 1) ll (.null :: st) σ) : V2 Δ Γ nL pc ll st σ := by
  obtain ⟨l, D, cI, cT, ad, tK⟩ := Δ; obtain ⟨p, e, R, s, m, args, below, meth, c, kc, ks, Q⟩ := Γ
  exact fun H locs ls hP hS hl => lv_aload_nN C.1 C.2.1 hdg hj (lv_at hl q hk) (k H locs ls hP hS hl)
theorem w_aloadN (C : Cx2 Δ Γ own cc nL d ret) (j q : Nat) (hdg : decode cc pc = .ok (.aload j, 2)) (hk : ll[q]? = some (j, .null)) (k : V2 Δ Γ nL (pc + 2) ll (.null :: st) σ) : V2 Δ Γ nL pc ll st σ := by
  obtain ⟨l, D, cI, cT, ad, tK⟩ := Δ; obtain ⟨p, e, R, s, m, args, below, meth, c, kc, ks, Q⟩ := Γ
  exact fun H locs ls hP hS hl => lv_aloadN C.1 C.2.1 hdg (lv_at hl q hk) (k H locs ls hP hS hl)
theorem w_istore_n (C : Cx2 Δ Γ own cc nL d ret) {z : Fin 4} {x : Int32} (i : Nat) {ll' : List (Nat × Value)} (hdg : decode cc pc = .ok (.istore_n z, 1)) (hz : (z : Nat) = i) (hn : i < nL) (hl : (i, Value.int x) :: ll.filter (fun q => !(q.1 == i) && !(q.1 + 1 == i && q.2.category == 2)) = ll') (k : V2 Δ Γ nL (pc + 1) ll' st σ) : V2 Δ Γ nL pc ll (.int x :: st) σ := by
  obtain ⟨l, D, cI, cT, ad, tK⟩ := Δ; obtain ⟨p, e, R, s, m, args, below, meth, c, kc, ks, Q⟩ := Γ
  exact fun H locs ls hP hS h => lv_istore_n C.1 C.2.1 hdg hz h hn hl (fun ls' h' => k H locs ls' hP hS h')
theorem w_istore (C : Cx2 Δ Γ own cc nL d ret) {x : Int32} (i : Nat) {ll' : List (Nat × Value)} (hdg : decode cc pc = .ok (.istore i, 2)) (hn : i < nL) (hl : (i, Value.int x) :: ll.filter (fun q => !(q.1 == i) && !(q.1 + 1 == i && q.2.category == 2)) = ll') (k : V2 Δ Γ nL (pc + 2) ll' st σ) : V2 Δ Γ nL pc ll (.int x :: st) σ := by
  obtain ⟨l, D, cI, cT, ad, tK⟩ := Δ; obtain ⟨p, e, R, s, m, args, below, meth, c, kc, ks, Q⟩ := Γ
  exact fun H locs ls hP hS h => lv_istore C.1 C.2.1 hdg h hn hl (fun ls' h' => k H locs ls' hP hS h')
theorem w_astore_n (C : Cx2 Δ Γ own cc nL d ret) {z : Fin 4} {x : Nat} (i : Nat) {ll' : List (Nat × Value)} (hdg : decode cc pc = .ok (.astore_n z, 1)) (hz : (z : Nat) = i) (hn : i < nL) (hl : (i, Value.ref x) :: ll.filter (fun q => !(q.1 == i) && !(q.1 + 1 == i && q.2.category == 2)) = ll') (k : V2 Δ Γ nL (pc + 1) ll' st σ) : V2 Δ Γ nL pc ll (.ref x :: st) σ := by
  obtain ⟨l, D, cI, cT, ad, tK⟩ := Δ; obtain ⟨p, e, R, s, m, args, below, meth, c, kc, ks, Q⟩ := Γ
  exact fun H locs ls hP hS h => lv_astore_n C.1 C.2.1 hdg hz h hn hl (fun ls' h' => k H locs ls' hP hS h')
theorem w_astore (C : Cx2 Δ Γ own cc nL d ret) {x : Nat} (i : Nat) {ll' : List (Nat × Value)} (hdg : decode cc pc = .ok (.astore i, 2)) (hn : i < nL) (hl : (i, Value.ref x) :: ll.filter (fun q => !(q.1 == i) && !(q.1 + 1 == i && q.2.category == 2)) = ll') (k : V2 Δ Γ nL (pc + 2) ll' st σ) : V2 Δ Γ nL pc ll (.ref x :: st) σ := by
  obtain ⟨l, D, cI, cT, ad, tK⟩ := Δ; obtain ⟨p, e, R, s, m, args, below, meth, c, kc, ks, Q⟩ := Γ
  exact fun H locs ls hP hS h => lv_astore C.1 C.2.1 hdg h hn hl (fun ls' h' => k H locs ls' hP hS h')
theorem w_lstore_n (C : Cx2 Δ Γ own cc nL d ret) {z : Fin 4} {x : Int64} (i : Nat) {ll' : List (Nat × Value)} (hdg : decode cc pc = .ok (.lstore_n z, 1)) (hz : (z : Nat) = i) (hn : i + 1 < nL) (hl : (i, Value.long x) :: ll.filter (fun q => !(q.1 == i) && (!(q.1 == i + 1) && !(q.1 + 1 == i && q.2.category == 2))) = ll') (k : V2 Δ Γ nL (pc + 1) ll' st σ) : V2 Δ Γ nL pc ll (.long x :: st) σ := by
  obtain ⟨l, D, cI, cT, ad, tK⟩ := Δ; obtain ⟨p, e, R, s, m, args, below, meth, c, kc, ks, Q⟩ := Γ
  exact fun H locs ls hP hS h => lv_lstore_n C.1 C.2.1 hdg hz h hn hl (fun ls' h' => k H locs ls' hP hS h')
theorem w_lstore (C : Cx2 Δ Γ own cc nL d ret) {x : Int64} (i : Nat) {ll' : List (Nat × Value)} (hdg : decode cc pc = .ok (.lstore i, 2)) (hn : i + 1 < nL) (hl : (i, Value.long x) :: ll.filter (fun q => !(q.1 == i) && (!(q.1 == i + 1) && !(q.1 + 1 == i && q.2.category == 2))) = ll') (k : V2 Δ Γ nL (pc + 2) ll' st σ) : V2 Δ Γ nL pc ll (.long x :: st) σ := by
  obtain ⟨l, D, cI, cT, ad, tK⟩ := Δ; obtain ⟨p, e, R, s, m, args, below, meth, c, kc, ks, Q⟩ := Γ
  exact fun H locs ls hP hS h => lv_lstore C.1 C.2.1 hdg h hn hl (fun ls' h' => k H locs ls' hP hS h')
theorem w_astore_nN (C : Cx2 Δ Γ own cc nL d ret) {z : Fin 4} (i : Nat) {ll' : List (Nat × Value)} (hdg : decode cc pc = .ok (.astore_n z, 1)) (hz : (z : Nat) = i) (hn : i < nL) (hl : (i, Value.null) :: ll.filter (fun q => !(q.1 == i) && !(q.1 + 1 == i && q.2.category == 2)) = ll') (k : V2 Δ Γ nL (pc + 1) ll' st σ) : V2 Δ Γ nL pc ll (.null :: st) σ := by
  obtain ⟨l, D, cI, cT, ad, tK⟩ := Δ; obtain ⟨p, e, R, s, m, args, below, meth, c, kc, ks, Q⟩ := Γ
  exact fun H locs ls hP hS h => lv_astore_nN C.1 C.2.1 hdg hz h hn hl (fun ls' h' => k H locs ls' hP hS h')
theorem w_astoreN (C : Cx2 Δ Γ own cc nL d ret) (i : Nat) {ll' : List (Nat × Value)} (hdg : decode cc pc = .ok (.astore i, 2)) (hn : i < nL) (hl : (i, Value.null) :: ll.filter (fun q => !(q.1 == i) && !(q.1 + 1 == i && q.2.category == 2)) = ll') (k : V2 Δ Γ nL (pc + 2) ll' st σ) : V2 Δ Γ nL pc ll (.null :: st) σ := by
  obtain ⟨l, D, cI, cT, ad, tK⟩ := Δ; obtain ⟨p, e, R, s, m, args, below, meth, c, kc, ks, Q⟩ := Γ
  exact fun H locs ls hP hS h => lv_astoreN C.1 C.2.1 hdg h hn hl (fun ls' h' => k H locs ls' hP hS h')
theorem w_iinc (C : Cx2 Δ Γ own cc nL d ret) {i : Nat} {n : Int} {x : Int32} (v : Int32) (q : Nat) {ll' : List (Nat × Value)} (hdg : decode cc pc = .ok (.iinc i n, 3)) (hk : ll[q]? = some (i, .int x)) (hv : x + Int32.ofInt n = v) (hn : i < nL) (hl : (i, Value.int v) :: ll.filter (fun q => !(q.1 == i) && !(q.1 + 1 == i && q.2.category == 2)) = ll') (k : V2 Δ Γ nL (pc + 3) ll' st σ) : V2 Δ Γ nL pc ll st σ := by
  obtain ⟨l, D, cI, cT, ad, tK⟩ := Δ; obtain ⟨p, e, R, s, m, args, below, meth, c, kc, ks, Q⟩ := Γ
  exact fun H locs ls hP hS h => lv_iinc C.1 C.2.1 hdg h hk hv hn hl (fun ls' h' => k H locs ls' hP hS h')
theorem w_iadd (C : Cx2 Δ Γ own cc nL d ret) {x y : Int32} (hdg : decode cc pc = .ok (.iadd, 1)) (k : V2 Δ Γ nL (pc + 1) ll (.int (x + y) :: st) σ) : V2 Δ Γ nL pc ll (.int y :: .int x :: st) σ := by
  obtain ⟨l, D, cI, cT, ad, tK⟩ := Δ; obtain ⟨p, e, R, s, m, args, below, meth, c, kc, ks, Q⟩ := Γ
  exact fun H locs ls hP hS hl => lv_iadd C.1 C.2.1 hdg (k H locs ls hP hS hl)
theorem w_isub (C : Cx2 Δ Γ own cc nL d ret) {x y : Int32} (hdg : decode cc pc = .ok (.isub, 1)) (k : V2 Δ Γ nL (pc + 1) ll (.int (x - y) :: st) σ) : V2 Δ Γ nL pc ll (.int y :: .int x :: st) σ := by
  obtain ⟨l, D, cI, cT, ad, tK⟩ := Δ; obtain ⟨p, e, R, s, m, args, below, meth, c, kc, ks, Q⟩ := Γ
  exact fun H locs ls hP hS hl => lv_isub C.1 C.2.1 hdg (k H locs ls hP hS hl)
theorem w_imul (C : Cx2 Δ Γ own cc nL d ret) {x y : Int32} (hdg : decode cc pc = .ok (.imul, 1)) (k : V2 Δ Γ nL (pc + 1) ll (.int (x * y) :: st) σ) : V2 Δ Γ nL pc ll (.int y :: .int x :: st) σ := by
  obtain ⟨l, D, cI, cT, ad, tK⟩ := Δ; obtain ⟨p, e, R, s, m, args, below, meth, c, kc, ks, Q⟩ := Γ
  exact fun H locs ls hP hS hl => lv_imul C.1 C.2.1 hdg (k H locs ls hP hS hl)
theorem w_iand (C : Cx2 Δ Γ own cc nL d ret) {x y : Int32} (hdg : decode cc pc = .ok (.iand, 1)) (k : V2 Δ Γ nL (pc + 1) ll (.int (x &&& y) :: st) σ) : V2 Δ Γ nL pc ll (.int y :: .int x :: st) σ := by
  obtain ⟨l, D, cI, cT, ad, tK⟩ := Δ; obtain ⟨p, e, R, s, m, args, below, meth, c, kc, ks, Q⟩ := Γ
  exact fun H locs ls hP hS hl => lv_iand C.1 C.2.1 hdg (k H locs ls hP hS hl)
theorem w_ior (C : Cx2 Δ Γ own cc nL d ret) {x y : Int32} (hdg : decode cc pc = .ok (.ior, 1)) (k : V2 Δ Γ nL (pc + 1) ll (.int (x ||| y) :: st) σ) : V2 Δ Γ nL pc ll (.int y :: .int x :: st) σ := by
  obtain ⟨l, D, cI, cT, ad, tK⟩ := Δ; obtain ⟨p, e, R, s, m, args, below, meth, c, kc, ks, Q⟩ := Γ
  exact fun H locs ls hP hS hl => lv_ior C.1 C.2.1 hdg (k H locs ls hP hS hl)
theorem w_ixor (C : Cx2 Δ Γ own cc nL d ret) {x y : Int32} (hdg : decode cc pc = .ok (.ixor, 1)) (k : V2 Δ Γ nL (pc + 1) ll (.int (x ^^^ y) :: st) σ) : V2 Δ Γ nL pc ll (.int y :: .int x :: st) σ := by
  obtain ⟨l, D, cI, cT, ad, tK⟩ := Δ; obtain ⟨p, e, R, s, m, args, below, meth, c, kc, ks, Q⟩ := Γ
  exact fun H locs ls hP hS hl => lv_ixor C.1 C.2.1 hdg (k H locs ls hP hS hl)
theorem w_ishl (C : Cx2 Δ Γ own cc nL d ret) {x y : Int32} (hdg : decode cc pc = .ok (.ishl, 1)) (k : V2 Δ Γ nL (pc + 1) ll (.int (x <<< (y &&& 31)) :: st) σ) : V2 Δ Γ nL pc ll (.int y :: .int x :: st) σ := by
  obtain ⟨l, D, cI, cT, ad, tK⟩ := Δ; obtain ⟨p, e, R, s, m, args, below, meth, c, kc, ks, Q⟩ := Γ
  exact fun H locs ls hP hS hl => lv_ishl C.1 C.2.1 hdg (k H locs ls hP hS hl)
theorem w_ishr (C : Cx2 Δ Γ own cc nL d ret) {x y : Int32} (hdg : decode cc pc = .ok (.ishr, 1)) (k : V2 Δ Γ nL (pc + 1) ll (.int (x >>> (y &&& 31)) :: st) σ) : V2 Δ Γ nL pc ll (.int y :: .int x :: st) σ := by
  obtain ⟨l, D, cI, cT, ad, tK⟩ := Δ; obtain ⟨p, e, R, s, m, args, below, meth, c, kc, ks, Q⟩ := Γ
  exact fun H locs ls hP hS hl => lv_ishr C.1 C.2.1 hdg (k H locs ls hP hS hl)
theorem w_idiv (C : Cx2 Δ Γ own cc nL d ret) {x y : Int32} (hdg : decode cc pc = .ok (.idiv, 1)) (hne : ¬ y = 0) (k : V2 Δ Γ nL (pc + 1) ll (.int (x / y) :: st) σ) : V2 Δ Γ nL pc ll (.int y :: .int x :: st) σ := by
  obtain ⟨l, D, cI, cT, ad, tK⟩ := Δ; obtain ⟨p, e, R, s, m, args, below, meth, c, kc, ks, Q⟩ := Γ
  exact fun H locs ls hP hS hl => lv_idiv C.1 C.2.1 hdg hne (k H locs ls hP hS hl)
theorem w_irem (C : Cx2 Δ Γ own cc nL d ret) {x y : Int32} (hdg : decode cc pc = .ok (.irem, 1)) (hne : ¬ y = 0) (k : V2 Δ Γ nL (pc + 1) ll (.int (x - x / y * y) :: st) σ) : V2 Δ Γ nL pc ll (.int y :: .int x :: st) σ := by
  obtain ⟨l, D, cI, cT, ad, tK⟩ := Δ; obtain ⟨p, e, R, s, m, args, below, meth, c, kc, ks, Q⟩ := Γ
  exact fun H locs ls hP hS hl => lv_irem C.1 C.2.1 hdg hne (k H locs ls hP hS hl)
theorem w_ladd (C : Cx2 Δ Γ own cc nL d ret) {x y : Int64} (hdg : decode cc pc = .ok (.ladd, 1)) (k : V2 Δ Γ nL (pc + 1) ll (.long (x + y) :: st) σ) : V2 Δ Γ nL pc ll (.long y :: .long x :: st) σ := by
  obtain ⟨l, D, cI, cT, ad, tK⟩ := Δ; obtain ⟨p, e, R, s, m, args, below, meth, c, kc, ks, Q⟩ := Γ
  exact fun H locs ls hP hS hl => lv_ladd C.1 C.2.1 hdg (k H locs ls hP hS hl)
theorem w_lsub (C : Cx2 Δ Γ own cc nL d ret) {x y : Int64} (hdg : decode cc pc = .ok (.lsub, 1)) (k : V2 Δ Γ nL (pc + 1) ll (.long (x - y) :: st) σ) : V2 Δ Γ nL pc ll (.long y :: .long x :: st) σ := by
  obtain ⟨l, D, cI, cT, ad, tK⟩ := Δ; obtain ⟨p, e, R, s, m, args, below, meth, c, kc, ks, Q⟩ := Γ
  exact fun H locs ls hP hS hl => lv_lsub C.1 C.2.1 hdg (k H locs ls hP hS hl)
theorem w_lmul (C : Cx2 Δ Γ own cc nL d ret) {x y : Int64} (hdg : decode cc pc = .ok (.lmul, 1)) (k : V2 Δ Γ nL (pc + 1) ll (.long (x * y) :: st) σ) : V2 Δ Γ nL pc ll (.long y :: .long x :: st) σ := by
  obtain ⟨l, D, cI, cT, ad, tK⟩ := Δ; obtain ⟨p, e, R, s, m, args, below, meth, c, kc, ks, Q⟩ := Γ
  exact fun H locs ls hP hS hl => lv_lmul C.1 C.2.1 hdg (k H locs ls hP hS hl)
theorem w_ldiv (C : Cx2 Δ Γ own cc nL d ret) {x y : Int64} (hdg : decode cc pc = .ok (.ldiv, 1)) (hne : ¬ y = 0) (k : V2 Δ Γ nL (pc + 1) ll (.long (x / y) :: st) σ) : V2 Δ Γ nL pc ll (.long y :: .long x :: st) σ := by
  obtain ⟨l, D, cI, cT, ad, tK⟩ := Δ; obtain ⟨p, e, R, s, m, args, below, meth, c, kc, ks, Q⟩ := Γ
  exact fun H locs ls hP hS hl => lv_ldiv C.1 C.2.1 hdg hne (k H locs ls hP hS hl)
theorem w_lrem (C : Cx2 Δ Γ own cc nL d ret) {x y : Int64} (hdg : decode cc pc = .ok (.lrem, 1)) (hne : ¬ y = 0) (k : V2 Δ Γ nL (pc + 1) ll (.long (x - x / y * y) :: st) σ) : V2 Δ Γ nL pc ll (.long y :: .long x :: st) σ := by
  obtain ⟨l, D, cI, cT, ad, tK⟩ := Δ; obtain ⟨p, e, R, s, m, args, below, meth, c, kc, ks, Q⟩ := Γ
  exact fun H locs ls hP hS hl => lv_lrem C.1 C.2.1 hdg hne (k H locs ls hP hS hl)
theorem w_iushr (C : Cx2 Δ Γ own cc nL d ret) {x y : Int32} (hdg : decode cc pc = .ok (.iushr, 1)) (k : V2 Δ Γ nL (pc + 1) ll (.int (x.toUInt32 >>> (y.toUInt32 &&& Int32.toUInt32 31)).toInt32 :: st) σ) : V2 Δ Γ nL pc ll (.int y :: .int x :: st) σ := by
  obtain ⟨l, D, cI, cT, ad, tK⟩ := Δ; obtain ⟨p, e, R, s, m, args, below, meth, c, kc, ks, Q⟩ := Γ
  exact fun H locs ls hP hS hl => lv_iushr C.1 C.2.1 hdg rfl (k H locs ls hP hS hl)
theorem w_ineg (C : Cx2 Δ Γ own cc nL d ret) {x : Int32} (hdg : decode cc pc = .ok (.ineg, 1)) (k : V2 Δ Γ nL (pc + 1) ll (.int (-x) :: st) σ) : V2 Δ Γ nL pc ll (.int x :: st) σ := by
  obtain ⟨l, D, cI, cT, ad, tK⟩ := Δ; obtain ⟨p, e, R, s, m, args, below, meth, c, kc, ks, Q⟩ := Γ
  exact fun H locs ls hP hS hl => lv_ineg C.1 C.2.1 hdg (k H locs ls hP hS hl)
theorem w_i2l (C : Cx2 Δ Γ own cc nL d ret) {x : Int32} (hdg : decode cc pc = .ok (.i2l, 1)) (k : V2 Δ Γ nL (pc + 1) ll (.long x.toInt64 :: st) σ) : V2 Δ Γ nL pc ll (.int x :: st) σ := by
  obtain ⟨l, D, cI, cT, ad, tK⟩ := Δ; obtain ⟨p, e, R, s, m, args, below, meth, c, kc, ks, Q⟩ := Γ
  exact fun H locs ls hP hS hl => lv_i2l C.1 C.2.1 hdg rfl (k H locs ls hP hS hl)
theorem w_l2i (C : Cx2 Δ Γ own cc nL d ret) {x : Int64} (hdg : decode cc pc = .ok (.l2i, 1)) (k : V2 Δ Γ nL (pc + 1) ll (.int x.toInt32 :: st) σ) : V2 Δ Γ nL pc ll (.long x :: st) σ := by
  obtain ⟨l, D, cI, cT, ad, tK⟩ := Δ; obtain ⟨p, e, R, s, m, args, below, meth, c, kc, ks, Q⟩ := Γ
  exact fun H locs ls hP hS hl => lv_l2i C.1 C.2.1 hdg rfl (k H locs ls hP hS hl)
theorem w_i2b (C : Cx2 Δ Γ own cc nL d ret) {x : Int32} (hdg : decode cc pc = .ok (.i2b, 1)) (k : V2 Δ Γ nL (pc + 1) ll (.int x.toInt8.toInt32 :: st) σ) : V2 Δ Γ nL pc ll (.int x :: st) σ := by
  obtain ⟨l, D, cI, cT, ad, tK⟩ := Δ; obtain ⟨p, e, R, s, m, args, below, meth, c, kc, ks, Q⟩ := Γ
  exact fun H locs ls hP hS hl => lv_i2b C.1 C.2.1 hdg rfl (k H locs ls hP hS hl)
theorem w_lcmp (C : Cx2 Δ Γ own cc nL d ret) {x y : Int64} (hdg : decode cc pc = .ok (.lcmp, 1)) (k : V2 Δ Γ nL (pc + 1) ll (.int (lg_cmp x y) :: st) σ) : V2 Δ Γ nL pc ll (.long y :: .long x :: st) σ := by
  obtain ⟨l, D, cI, cT, ad, tK⟩ := Δ; obtain ⟨p, e, R, s, m, args, below, meth, c, kc, ks, Q⟩ := Γ
  exact fun H locs ls hP hS hl => W.lcmp C.1 C.2.1 hdg (k H locs ls hP hS hl)
theorem w_dup (C : Cx2 Δ Γ own cc nL d ret) {x : Value} (hdg : decode cc pc = .ok (.dup, 1)) (hc : x.category = 1) (k : V2 Δ Γ nL (pc + 1) ll (x :: x :: st) σ) : V2 Δ Γ nL pc ll (x :: st) σ := by
  obtain ⟨l, D, cI, cT, ad, tK⟩ := Δ; obtain ⟨p, e, R, s, m, args, below, meth, c, kc, ks, Q⟩ := Γ
  exact fun H locs ls hP hS hl => lv_dup C.1 C.2.1 hdg hc (k H locs ls hP hS hl)
theorem w_pop (C : Cx2 Δ Γ own cc nL d ret) {x : Value} (hdg : decode cc pc = .ok (.pop, 1)) (hc : x.category = 1) (k : V2 Δ Γ nL (pc + 1) ll st σ) : V2 Δ Γ nL pc ll (x :: st) σ := by
  obtain ⟨l, D, cI, cT, ad, tK⟩ := Δ; obtain ⟨p, e, R, s, m, args, below, meth, c, kc, ks, Q⟩ := Γ
  exact fun H locs ls hP hS hl => lv_pop C.1 C.2.1 hdg hc (k H locs ls hP hS hl)
theorem w_dup2 (C : Cx2 Δ Γ own cc nL d ret) {x y : Value} (hdg : decode cc pc = .ok (.dup2, 1)) (hc : x.category = 1) (hc2 : y.category = 1) (k : V2 Δ Γ nL (pc + 1) ll (x :: y :: x :: y :: st) σ) : V2 Δ Γ nL pc ll (x :: y :: st) σ := by
  obtain ⟨l, D, cI, cT, ad, tK⟩ := Δ; obtain ⟨p, e, R, s, m, args, below, meth, c, kc, ks, Q⟩ := Γ
  exact fun H locs ls hP hS hl => lv_dup2_11 C.1 C.2.1 hdg hc hc2 (k H locs ls hP hS hl)
theorem w_if_eq (C : Cx2 Δ Γ own cc nL d ret) {x : Int32} (tgt : Nat) {off : Int} (hdg : decode cc pc = .ok (.ifCond .eq off, 3)) (ht : (pc : Int) + off = (tgt : Int)) (kt : x = 0 → V2 Δ Γ nL tgt ll st σ) (kf : ¬ x = 0 → V2 Δ Γ nL (pc + 3) ll st σ) : V2 Δ Γ nL pc ll (.int x :: st) σ := by
  obtain ⟨l, D, cI, cT, ad, tK⟩ := Δ; obtain ⟨p, e, R, s, m, args, below, meth, c, kc, ks, Q⟩ := Γ
  exact fun H locs ls hP hS hl => lv_if_eq C.1 C.2.1 hdg ht (fun h => kt h H locs ls hP hS hl) (fun h => kf h H locs ls hP hS hl)
theorem w_icmp_eq (C : Cx2 Δ Γ own cc nL d ret) {x y : Int32} (tgt : Nat) {off : Int} (hdg : decode cc pc = .ok (.if_icmp .eq off, 3)) (ht : (pc : Int) + off = (tgt : Int)) (kt : x = y → V2 Δ Γ nL tgt ll st σ) (kf : ¬ x = y → V2 Δ Γ nL (pc + 3) ll st σ) : V2 Δ Γ nL pc ll (.int y :: .int x :: st) σ := by
  obtain ⟨l, D, cI, cT, ad, tK⟩ := Δ; obtain ⟨p, e, R, s, m, args, below, meth, c, kc, ks, Q⟩ := Γ
  exact fun H locs ls hP hS hl => lv_icmp_eq C.1 C.2.1 hdg ht (fun h => kt h H locs ls hP hS hl) (fun h => kf h H locs ls hP hS hl)
theorem w_if_ne (C : Cx2 Δ Γ own cc nL d ret) {x : Int32} (tgt : Nat) {off : Int} (hdg : decode cc pc = .ok (.ifCond .ne off, 3)) (ht : (pc : Int) + off = (tgt : Int)) (kt : ¬ x = 0 → V2 Δ Γ nL tgt ll st σ) (kf : x = 0 → V2 Δ Γ nL (pc + 3) ll st σ) : V2 Δ Γ nL pc ll (.int x :: st) σ := by
  obtain ⟨l, D, cI, cT, ad, tK⟩ := Δ; obtain ⟨p, e, R, s, m, args, below, meth, c, kc, ks, Q⟩ := Γ
  exact fun H locs ls hP hS hl => lv_if_ne C.1 C.2.1 hdg ht (fun h => kt h H locs ls hP hS hl) (fun h => kf h H locs ls hP hS hl)
theorem w_icmp_ne (C : Cx2 Δ Γ own cc nL d ret) {x y : Int32} (tgt : Nat) {off : Int} (hdg : decode cc pc = .ok (.if_icmp .ne off, 3)) (ht : (pc : Int) + off = (tgt : Int)) (kt : ¬ x = y → V2 Δ Γ nL tgt ll st σ) (kf : x = y → V2 Δ Γ nL (pc + 3) ll st σ) : V2 Δ Γ nL pc ll (.int y :: .int x :: st) σ := by
  obtain ⟨l, D, cI, cT, ad, tK⟩ := Δ; obtain ⟨p, e, R, s, m, args, below, meth, c, kc, ks, Q⟩ := Γ
  exact fun H locs ls hP hS hl => lv_icmp_ne C.1 C.2.1 hdg ht (fun h => kt h H locs ls hP hS hl) (fun h => kf h H locs ls hP hS hl)
theorem w_if_lt (C : Cx2 Δ Γ own cc nL d ret) {x : Int32} (tgt : Nat) {off : Int} (hdg : decode cc pc = .ok (.ifCond .lt off, 3)) (ht : (pc : Int) + off = (tgt : Int)) (kt : x < 0 → V2 Δ Γ nL tgt ll st σ) (kf : ¬ x < 0 → V2 Δ Γ nL (pc + 3) ll st σ) : V2 Δ Γ nL pc ll (.int x :: st) σ := by
  obtain ⟨l, D, cI, cT, ad, tK⟩ := Δ; obtain ⟨p, e, R, s, m, args, below, meth, c, kc, ks, Q⟩ := Γ
  exact fun H locs ls hP hS hl => lv_if_lt C.1 C.2.1 hdg ht (fun h => kt h H locs ls hP hS hl) (fun h => kf h H locs ls hP hS hl)
theorem w_icmp_lt (C : Cx2 Δ Γ own cc nL d ret) {x y : Int32} (tgt : Nat) {off : Int} (hdg : decode cc pc = .ok (.if_icmp .lt off, 3)) (ht : (pc : Int) + off = (tgt : Int)) (kt : x < y → V2 Δ Γ nL tgt ll st σ) (kf : ¬ x < y → V2 Δ Γ nL (pc + 3) ll st σ) : V2 Δ Γ nL pc ll (.int y :: .int x :: st) σ := by
  obtain ⟨l, D, cI, cT, ad, tK⟩ := Δ; obtain ⟨p, e, R, s, m, args, below, meth, c, kc, ks, Q⟩ := Γ
  exact fun H locs ls hP hS hl => lv_icmp_lt C.1 C.2.1 hdg ht (fun h => kt h H locs ls hP hS hl) (fun h => kf h H locs ls hP hS hl)
theorem w_if_ge (C : Cx2 Δ Γ own cc nL d ret) {x : Int32} (tgt : Nat) {off : Int} (hdg : decode cc pc = .ok (.ifCond .ge off, 3)) (ht : (pc : Int) + off = (tgt : Int)) (kt : 0 ≤ x → V2 Δ Γ nL tgt ll st σ) (kf : ¬ 0 ≤ x → V2 Δ Γ nL (pc + 3) ll st σ) : V2 Δ Γ nL pc ll (.int x :: st) σ := by
  obtain ⟨l, D, cI, cT, ad, tK⟩ := Δ; obtain ⟨p, e, R, s, m, args, below, meth, c, kc, ks, Q⟩ := Γ
  exact fun H locs ls hP hS hl => lv_if_ge C.1 C.2.1 hdg ht (fun h => kt h H locs ls hP hS hl) (fun h => kf h H locs ls hP hS hl)
theorem w_icmp_ge (C : Cx2 Δ Γ own cc nL d ret) {x y : Int32} (tgt : Nat) {off : Int} (hdg : decode cc pc = .ok (.if_icmp .ge off, 3)) (ht : (pc : Int) + off = (tgt : Int)) (kt : y ≤ x → V2 Δ Γ nL tgt ll st σ) (kf : ¬ y ≤ x → V2 Δ Γ nL (pc + 3) ll st σ) : V2 Δ Γ nL pc ll (.int y :: .int x :: st) σ := by
  obtain ⟨l, D, cI, cT, ad, tK⟩ := Δ; obtain ⟨p, e, R, s, m, args, below, meth, c, kc, ks, Q⟩ := Γ
  exact fun H locs ls hP hS hl => lv_icmp_ge C.1 C.2.1 hdg ht (fun h => kt h H locs ls hP hS hl) (fun h => kf h H locs ls hP hS hl)
theorem w_if_gt (C : Cx2 Δ Γ own cc nL d ret) {x : Int32} (tgt : Nat) {off : Int} (hdg : decode cc pc = .ok (.ifCond .gt off, 3)) (ht : (pc : Int) + off = (tgt : Int)) (kt : 0 < x → V2 Δ Γ nL tgt ll st σ) (kf : ¬ 0 < x → V2 Δ Γ nL (pc + 3) ll st σ) : V2 Δ Γ nL pc ll (.int x :: st) σ := by
  obtain ⟨l, D, cI, cT, ad, tK⟩ := Δ; obtain ⟨p, e, R, s, m, args, below, meth, c, kc, ks, Q⟩ := Γ
  exact fun H locs ls hP hS hl => lv_if_gt C.1 C.2.1 hdg ht (fun h => kt h H locs ls hP hS hl) (fun h => kf h H locs ls hP hS hl)
theorem w_icmp_gt (C : Cx2 Δ Γ own cc nL d ret) {x y : Int32} (tgt : Nat) {off : Int} (hdg : decode cc pc = .ok (.if_icmp .gt off, 3)) (ht : (pc : Int) + off = (tgt : Int)) (kt : y < x → V2 Δ Γ nL tgt ll st σ) (kf : ¬ y < x → V2 Δ Γ nL (pc + 3) ll st σ) : V2 Δ Γ nL pc ll (.int y :: .int x :: st) σ := by
  obtain ⟨l, D, cI, cT, ad, tK⟩ := Δ; obtain ⟨p, e, R, s, m, args, below, meth, c, kc, ks, Q⟩ := Γ
  exact fun H locs ls hP hS hl => lv_icmp_gt C.1 C.2.1 hdg ht (fun h => kt h H locs ls hP hS hl) (fun h => kf h H locs ls hP hS hl)
theorem w_if_le (C : Cx2 Δ Γ own cc nL d ret) {x : Int32} (tgt : Nat) {off : Int} (hdg : decode cc pc = .ok (.ifCond .le off, 3)) (ht : (pc : Int) + off = (tgt : Int)) (kt : x ≤ 0 → V2 Δ Γ nL tgt ll st σ) (kf : ¬ x ≤ 0 → V2 Δ Γ nL (pc + 3) ll st σ) : V2 Δ Γ nL pc ll (.int x :: st) σ := by
  obtain ⟨l, D, cI, cT, ad, tK⟩ := Δ; obtain ⟨p, e, R, s, m, args, below, meth, c, kc, ks, Q⟩ := Γ
  exact fun H locs ls hP hS hl => lv_if_le C.1 C.2.1 hdg ht (fun h => kt h H locs ls hP hS hl) (fun h => kf h H locs ls hP hS hl)
theorem w_icmp_le (C : Cx2 Δ Γ own cc nL d ret) {x y : Int32} (tgt : Nat) {off : Int} (hdg : decode cc pc = .ok (.if_icmp .le off, 3)) (ht : (pc : Int) + off = (tgt : Int)) (kt : x ≤ y → V2 Δ Γ nL tgt ll st σ) (kf : ¬ x ≤ y → V2 Δ Γ nL (pc + 3) ll st σ) : V2 Δ Γ nL pc ll (.int y :: .int x :: st) σ := by
  obtain ⟨l, D, cI, cT, ad, tK⟩ := Δ; obtain ⟨p, e, R, s, m, args, below, meth, c, kc, ks, Q⟩ := Γ
  exact fun H locs ls hP hS hl => lv_icmp_le C.1 C.2.1 hdg ht (fun h => kt h H locs ls hP hS hl) (fun h => kf h H locs ls hP hS hl)
theorem w_goto (C : Cx2 Δ Γ own cc nL d ret) (tgt : Nat) {off : Int} (hdg : decode cc pc = .ok (.goto off, 3)) (ht : (pc : Int) + off = (tgt : Int)) (k : V2 Δ Γ nL tgt ll st σ) : V2 Δ Γ nL pc ll st σ := by
  obtain ⟨l, D, cI, cT, ad, tK⟩ := Δ; obtain ⟨p, e, R, s, m, args, below, meth, c, kc, ks, Q⟩ := Γ
  exact fun H locs ls hP hS hl => lv_goto C.1 C.2.1 hdg ht (k H locs ls hP hS hl)
theorem w_ifnonnull (C : Cx2 Δ Γ own cc nL d ret) (tgt : Nat) {x : Nat} {off : Int} (hdg : decode cc pc = .ok (.ifnonnull off, 3)) (ht : (pc : Int) + off = (tgt : Int)) (k : V2 Δ Γ nL tgt ll st σ) : V2 Δ Γ nL pc ll (rf2 Δ x :: st) σ := by
  obtain ⟨l, D, cI, cT, ad, tK⟩ := Δ; obtain ⟨p, e, R, s, m, args, below, meth, c, kc, ks, Q⟩ := Γ
  exact fun H locs ls hP hS hl => lv_ifnonnull C.1 C.2.1 hdg ht (k H locs ls hP hS hl)
theorem w_ifnull (C : Cx2 Δ Γ own cc nL d ret) {x : Nat} {off : Int} (hdg : decode cc pc = .ok (.ifnull off, 3)) (k : V2 Δ Γ nL (pc + 3) ll st σ) : V2 Δ Γ nL pc ll (rf2 Δ x :: st) σ := by
  obtain ⟨l, D, cI, cT, ad, tK⟩ := Δ; obtain ⟨p, e, R, s, m, args, below, meth, c, kc, ks, Q⟩ := Γ
  exact fun H locs ls hP hS hl => lv_ifnull C.1 C.2.1 hdg (k H locs ls hP hS hl)
theorem w_ifnonnullN (C : Cx2 Δ Γ own cc nL d ret) {off : Int} (hdg : decode cc pc = .ok (.ifnonnull off, 3)) (k : V2 Δ Γ nL (pc + 3) ll st σ) : V2 Δ Γ nL pc ll (.null :: st) σ := by
  obtain ⟨l, D, cI, cT, ad, tK⟩ := Δ; obtain ⟨p, e, R, s, m, args, below, meth, c, kc, ks, Q⟩ := Γ
  exact fun H locs ls hP hS hl => lv_ifnonnullN C.1 C.2.1 hdg (k H locs ls hP hS hl)
theorem w_ifnullN (C : Cx2 Δ Γ own cc nL d ret) (tgt : Nat) {off : Int} (hdg : decode cc pc = .ok (.ifnull off, 3)) (ht : (pc : Int) + off = (tgt : Int)) (k : V2 Δ Γ nL tgt ll st σ) : V2 Δ Γ nL pc ll (.null :: st) σ := by
  obtain ⟨l, D, cI, cT, ad, tK⟩ := Δ; obtain ⟨p, e, R, s, m, args, below, meth, c, kc, ks, Q⟩ := Γ
  exact fun H locs ls hP hS hl => lv_ifnullN C.1 C.2.1 hdg ht (k H locs ls hP hS hl)
theorem w_tableIn (C : Cx2 Δ Γ own cc nL d ret) (tgt : Nat) {dflt lo hi : Int} {offs : Array Int} {len : Nat} {x : Int32} (off : Int) (hdg : decode cc pc = .ok (.tableswitch dflt lo hi offs, len)) (h1 : ¬ x.toInt < lo) (h2 : ¬ hi < x.toInt) (ho : offs[(x.toInt - lo).toNat]? = some off) (ht : (pc : Int) + off = (tgt : Int)) (k : V2 Δ Γ nL tgt ll st σ) : V2 Δ Γ nL pc ll (.int x :: st) σ := by
  obtain ⟨l, D, cI, cT, ad, tK⟩ := Δ; obtain ⟨p, e, R, s, m, args, below, meth, c, kc, ks, Q⟩ := Γ
  exact fun H locs ls hP hS hl => lv_tableIn C.1 C.2.1 hdg h1 h2 ho ht (k H locs ls hP hS hl)
/-- a switch over numbers in a row: one goal for a number, one for the rest -/
theorem w_tableEq (C : Cx2 Δ Γ own cc nL d ret) (tgt : Nat) (v : Int32) {dflt lo hi : Int} {offs : Array Int} {len : Nat} {x : Int32} (off : Int) (hdg : decode cc pc = .ok (.tableswitch dflt lo hi offs, len)) (hx : x = v) (h1 : ¬ v.toInt < lo) (h2 : ¬ hi < v.toInt) (ho : offs[(v.toInt - lo).toNat]? = some off) (ht : (pc : Int) + off = (tgt : Int)) (k : V2 Δ Γ nL tgt ll st σ) : V2 Δ Γ nL pc ll (.int x :: st) σ := by
  subst hx
  exact w_tableIn C tgt off hdg h1 h2 ho ht k
theorem w_tableOut (C : Cx2 Δ Γ own cc nL d ret) (tgt : Nat) {dflt lo hi : Int} {offs : Array Int} {len : Nat} {x : Int32} (hdg : decode cc pc = .ok (.tableswitch dflt lo hi offs, len)) (h : x.toInt < lo ∨ hi < x.toInt) (ht : (pc : Int) + dflt = (tgt : Int)) (k : V2 Δ Γ nL tgt ll st σ) : V2 Δ Γ nL pc ll (.int x :: st) σ := by
  obtain ⟨l, D, cI, cT, ad, tK⟩ := Δ; obtain ⟨p, e, R, s, m, args, below, meth, c, kc, ks, Q⟩ := Γ
  exact fun H locs ls hP hS hl => lv_tableOut C.1 C.2.1 hdg h ht (k H locs ls hP hS hl)
theorem w_lookup (C : Cx2 Δ Γ own cc nL d ret) (tgt : Nat) {dflt : Int} {ps : Array (Int × Int)} {len : Nat} {x : Int32} (off : Int) (hdg : decode cc pc = .ok (.lookupswitch dflt ps, len)) (hp : (ps.toList.zip (ps.toList.drop 1)).all (fun (a, next) => a.1 < next.1) = true) (ho : Op.lookupswitch.offset ps.toList dflt x.toInt = off) (ht : (pc : Int) + off = (tgt : Int)) (k : V2 Δ Γ nL tgt ll st σ) : V2 Δ Γ nL pc ll (.int x :: st) σ := by
  obtain ⟨l, D, cI, cT, ad, tK⟩ := Δ; obtain ⟨p, e, R, s, m, args, below, meth, c, kc, ks, Q⟩ := Γ
  exact fun H locs ls hP hS hl => lv_lookup C.1 C.2.1 hdg hp ho ht (k H locs ls hP hS hl)
/-! ends -/
theorem w_iret (C : Cx2 Δ Γ own cc nL d (some .int)) {rv : Option Value} {σ' : Mem2} (hq : RetQ2 Δ Γ rv σ') {v : Int32} (hr : rv = some (.int v)) (hs : σ' = σ) (hdg : decode cc pc = .ok (.ireturn, 1)) : V2 Δ Γ nL pc ll [.int v] σ := by
  obtain ⟨l, D, cI, cT, ad, tK⟩ := Δ; obtain ⟨p, e, R, s, m, args, below, meth, c, kc, ks, Q⟩ := Γ
  subst hr; subst hs
  obtain rfl := hq
  exact fun H locs ls hP hS hl => W.iret (Qc := Pq2 (l, D, cI, cT, ad, tK) (some (.int v)) σ') C.1 C.2.1 C.2.2.2.2.2.2.1 (fun t ht _ => ⟨rfl, by rw [ht]; exact hP, hS.F ht⟩) hS.2.2 hdg C.2.2.2.2.2.2.2.1
theorem w_zret (C : Cx2 Δ Γ own cc nL d (some .boolean)) {rv : Option Value} {σ' : Mem2} (hq : RetQ2 Δ Γ rv σ') {v : Int32} (hv : narrow .boolean (.int v) = .int v) (hr : rv = some (.int v)) (hs : σ' = σ) (hdg : decode cc pc = .ok (.ireturn, 1)) : V2 Δ Γ nL pc ll [.int v] σ := by
  obtain ⟨l, D, cI, cT, ad, tK⟩ := Δ; obtain ⟨p, e, R, s, m, args, below, meth, c, kc, ks, Q⟩ := Γ
  subst hr; subst hs
  obtain rfl := hq
  exact fun H locs ls hP hS hl => W.zret (Qc := Pq2 (l, D, cI, cT, ad, tK) (some (.int v)) σ') C.1 C.2.1 C.2.2.2.2.2.2.1 hv (fun t ht _ => ⟨rfl, by rw [ht]; exact hP, hS.F ht⟩) hS.2.2 hdg C.2.2.2.2.2.2.2.1
theorem w_lret (C : Cx2 Δ Γ own cc nL d (some .long)) {rv : Option Value} {σ' : Mem2} (hq : RetQ2 Δ Γ rv σ') {v : Int64} (hr : rv = some (.long v)) (hs : σ' = σ) (hdg : decode cc pc = .ok (.lreturn, 1)) : V2 Δ Γ nL pc ll [.long v] σ := by
  obtain ⟨l, D, cI, cT, ad, tK⟩ := Δ; obtain ⟨p, e, R, s, m, args, below, meth, c, kc, ks, Q⟩ := Γ
  subst hr; subst hs
  obtain rfl := hq
  exact fun H locs ls hP hS hl => W.lret (Qc := Pq2 (l, D, cI, cT, ad, tK) (some (.long v)) σ') C.1 C.2.1 C.2.2.2.2.2.2.1 (fun t ht _ => ⟨rfl, by rw [ht]; exact hP, hS.F ht⟩) hS.2.2 hdg C.2.2.2.2.2.2.2.1
theorem w_aret (C : Cx2 Δ Γ own cc nL d ret) {rv : Option Value} {σ' : Mem2} (hq : RetQ2 Δ Γ rv σ') {v : Value} {rt : String} (hret : ret = some (.object rt)) (hv : v = .null ∨ ∃ a, v = .ref a) (hr : rv = some v) (hs : σ' = σ) (hdg : decode cc pc = .ok (.areturn, 1)) : V2 Δ Γ nL pc ll [v] σ := by
  obtain ⟨l, D, cI, cT, ad, tK⟩ := Δ; obtain ⟨p, e, R, s, m, args, below, meth, c, kc, ks, Q⟩ := Γ
  subst hr; subst hs; subst hret
  obtain rfl := hq
  exact fun H locs ls hP hS hl => W.aret (Qc := Pq2 (l, D, cI, cT, ad, tK) (some v) σ') C.1 C.2.1 C.2.2.2.2.2.2.1 (Or.inl ⟨_, rfl⟩) hv (fun t ht _ => ⟨rfl, by rw [ht]; exact hP, hS.F ht⟩) hS.2.2 hdg C.2.2.2.2.2.2.2.1
theorem w_vret (C : Cx2 Δ Γ own cc nL d none) {rv : Option Value} {σ' : Mem2} (hq : RetQ2 Δ Γ rv σ') (hr : rv = none) (hs : σ' = σ) (hdg : decode cc pc = .ok (.return_, 1)) : V2 Δ Γ nL pc ll [] σ := by
  obtain ⟨l, D, cI, cT, ad, tK⟩ := Δ; obtain ⟨p, e, R, s, m, args, below, meth, c, kc, ks, Q⟩ := Γ
  subst hr; subst hs
  obtain rfl := hq
  exact fun H locs ls hP hS hl => W.vret (Qc := Pq2 (l, D, cI, cT, ad, tK) none σ') C.1 C.2.1 C.2.2.2.2.2.2.1 (fun t ht _ => ⟨rfl, by rw [ht]; exact hP, hS.F ht⟩) hS.2.2 hdg C.2.2.2.2.2.2.2.1
end ROWS

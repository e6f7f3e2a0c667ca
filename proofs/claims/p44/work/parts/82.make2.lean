/-- a field of a constructor's own object -/
def FC0 (own : String) (idx ci j : Nat) (fty : FieldType) : Prop := ∃ (C : String) (T : u_T) (N : Nat) (ty : Nat → FieldType), CW ci C T N ty ∧ j < N ∧ (T j).1 = C ∧ Cond.fieldLink own idx C (T j).2.1 (T j).2.2.1 ∈ lw_good ∧ (T j).1 = own ∧ parseFieldDescriptor (T j).2.2.1 = some fty
def Mk (l : Launch) (D : va_G) (cI cT : ClassId) (y : MethodName) (cc : ByteArray) (nL ci : Nat) (fs0 avs : List Value) (fr rc rs rl : Nat) (post : Nat → va_W → Prop) : Prop := ∀ a sz : Nat, Met l y (Cond.code y cc nL none :: lw_good) ({ frames := fr, cells := rc, slots := rs, locals := rl }) (va_Pc (.ref a :: avs) (fun U => U.heap.size = sz ∧ va_P D cls9 [(a, .inr (ci, fs0))] U.heap ∧ va_K D cls9 (tysA cI cT) U ∧ NW U ∧ va_D (fun _ => True) [(a, .inr (ci, fs0))])) (va_Qv (fun w : va_W => post a w) (fun w t => va_P D cls9 w t.heap ∧ va_D (va_A [(a, .inr (ci, fs0))] sz) w) (va_A [(a, .inr (ci, fs0))] sz)) rc rs (va_A [(a, .inr (ci, fs0))] sz)
def RetU (Γ : UU) (a ci : Nat) (fs0 : List Value) (rc rs : Nat) (post : Nat → va_W → Prop) : Prop := match Γ with
  | (D, A, _, _, _, _, s, _, args, below, meth, _, Q) => A = va_A [(a, .inr (ci, fs0))] s.heap.size ∧ meth.name = "<init>" ∧ meth.sig.returnType = none ∧ meth.locks = false ∧ Q = MQ below (va_Qv (fun w : va_W => post a w) (fun w t => va_P D cls9 w t.heap ∧ va_D (va_A [(a, .inr (ci, fs0))] s.heap.size) w) (va_A [(a, .inr (ci, fs0))] s.heap.size)) args s rc rs (va_A [(a, .inr (ci, fs0))] s.heap.size)
theorem mk_of {l : Launch} {D : va_G} {cI cT : ClassId} {y : MethodName} {cc : ByteArray} {nL ci : Nat} {fs0 avs : List Value} {fr rc rs rl : Nat} {post : Nat → va_W → Prop} (hy : plainName y.cls = true) (hn : y.name = "<init>") (hlen : ∀ a, (lg_sl (.ref a :: avs)).length ≤ nL)
    (body : ∀ (Γ : UU) (a : Nat), Γ.1 = D → Γ.2.2.2.1 = l → CU Γ y.cls cc nL cI cT fr rc rs rl → RetU Γ a ci fs0 rc rs post → U Γ nL 0 (lv_args 0 (.ref a :: avs)) [] [(a, .inr (ci, fs0))] 0 0) : Mk l D cI cT y cc nL ci fs0 avs fr rc rs rl post := by
  intro a sz
  refine Met.ofW (cc := cc) (maxL := nL) (ret := none) hy rfl ?_
  intro p e s m args below meth c s₁ B hml hv
  obtain ⟨rfl, hsz, hP, hK, hN, hD0⟩ := hv
  subst hsz
  have hts0 := atoms_spec (ws := Cond.code y cc nL none :: lw_good) B.pre
  have hin : meth.name = y.name := (name_of_methodNamed B.named B.method).1
  have hD := hD0.self (sz := s.heap.size)
  have hl := lv_entry (.ref a :: avs) (n := nL) (hlen a)
  rw [lg_entry_eq]
  exact body (D, va_A [(a, .inr (ci, fs0))] s.heap.size, p, l, e, (headSpec (Cond.code y cc nL none :: lw_good) ({ frames := fr, cells := rc, slots := rs, locals := rl } : Room)).room, s, m, (.ref a :: avs).toArray, below, meth, c, _) a rfl rfl ⟨B.exec, B.bytes, hml, findClass_of_methodNamed B.named, fun w hw => hts0 w (List.mem_cons_of_mem _ hw), hK, hN, fun q hq => Or.inr hq, rfl, rfl, rfl, rfl⟩ ⟨rfl, hin.trans hn, B.returns, B.notSynchronized, rfl⟩ s.heap [] _ hP hD va_S.rf hl
section MAKE2
variable {Γ : UU} {own : String} {cc : ByteArray} {nL pc kc ks fr rc rs rl : Nat} {cI cT : ClassId} {ll : List (Nat × Value)} {st : List Value} {ws : va_W}
theorem k_put (C : CU Γ own cc nL cI cT fr rc rs rl) {a0 ci0 : Nat} {fs00 : List Value} {post : Nat → va_W → Prop} {r1 r2 : Nat} (hr : RetU Γ a0 ci0 fs00 r1 r2 post) {idx ci j a q0 : Nat} {fs : List Value} {fty : FieldType} {v : Value} {ws' : va_W} (fu : FC0 own idx ci j fty) (he : ws[q0]? = some (a, .inr (ci, fs))) (hn : narrow fty v = v) (hfit : fits fty v = true) (hlen : j < fs.length) (hw : ws.set q0 (a, .inr (ci, fs.set j v)) = ws') (hdg : decode cc pc = .ok (.putfield idx, 3)) (k : U Γ nL (pc + 3) ll st ws' kc ks) : U Γ nL pc ll (v :: .ref a :: st) ws kc ks := by
  obtain ⟨D, A, p, l, e, R, s, m, args, below, meth, c, Q⟩ := Γ
  intro H locs ls hP hD hS hl
  obtain ⟨Cn, T, N, ty, cw, hj, hT, hlk, hdecl, hd⟩ := fu
  subst hw
  by_cases hfin : (T j).2.2.2 = true
  · exact va_putF C.1 C.2.1 C.2.2.2.2.1 cw.2.1 ty cw.2.2.1 cw.2.2.2 C.2.2.2.1 C.2.2.2.2.2.1 hP hD hS q0 he cw.1 j hj (C.2.2.2.2.1 _ hlk) (fun x h => by rw [hT] at h; exact h) hfin hr.2.1 hdecl hd hn hfit hlen hdg (fun H1 locs1 hP1 hD1 hS1 => k H1 locs1 ls hP1 hD1 hS1 hl)
  · exact va_put C.1 C.2.1 C.2.2.2.2.1 cw.2.1 ty cw.2.2.1 cw.2.2.2 C.2.2.2.1 C.2.2.2.2.2.1 hP hD hS q0 he cw.1 j hj (C.2.2.2.2.1 _ hlk) (fun x h => by rw [hT] at h; exact h) (Bool.not_eq_true _ ▸ hfin) hd hn hfit hlen hdg (fun H1 locs1 hP1 hD1 hS1 => k H1 locs1 ls hP1 hD1 hS1 hl)
theorem k_new (C : CU Γ own cc nL cI cT fr rc rs rl) {idx ci N : Nat} {Cn : String} {T : u_T} {ty : Nat → FieldType} {fs : List Value} (cw : CW ci Cn T N ty) (h1 : Cond.classLink own idx Cn ∈ lw_good) (h2 : Cond.instantiable Cn N ∈ lw_good) (h3 : Cond.initialized Cn ∈ lw_good) (hfs : ∀ j, j < N → defaultValue (ty j) = vp_V fs j) (hkc : kc + 1 ≤ rc) (hks : ks + N ≤ rs) (hdg : decode cc pc = .ok (.new idx, 3)) (k : ∀ q, U Γ nL (pc + 3) ll (.ref q :: st) (ws ++ [(q, .inr (ci, fs))]) (kc + 1) (ks + N)) : U Γ nL pc ll st ws kc ks := by
  obtain ⟨D, A, p, l, e, R, s, m, args, below, meth, c, Q⟩ := Γ
  intro H locs ls hP hD hS hl
  obtain ⟨hx, hb, hml, hown, hts, hK, hNw, hA, r1, r2, r3, r4⟩ := C
  exact va_new hx hb hts cw.2.1 ty cw.2.2.1 hown (hts _ h1) (hts _ h2) (hts _ h3) hK hP hD hS hA cw.1 hfs (by rw [r2]; exact hkc) (by rw [r3]; exact hks) hdg (fun q H1 hP1 hD1 hS1 => k q H1 locs ls hP1 hD1 hS1 hl)
theorem k_ret (C : CU Γ own cc nL cI cT fr rc rs rl) {a ci : Nat} {fs0 : List Value} {post : Nat → va_W → Prop} (hr : RetU Γ a ci fs0 rc rs post) (hp : post a ws) (hkc : kc ≤ rc) (hks : ks ≤ rs) (hdg : decode cc pc = .ok (.return_, 1)) : U Γ nL pc ll [] ws kc ks := by
  obtain ⟨D, A, p, l, e, R, s, m, args, below, meth, c, Q⟩ := Γ
  obtain ⟨hA, hin, hret, hlk, hQ⟩ := hr
  subst hQ
  subst hA
  intro H locs ls hP hD hS hl
  refine W.widen (k := rc) (n := rs) hkc hks ?_
  exact W.vret (Qc := va_Qv (fun w : va_W => post a w) (fun w t => va_P D cls9 w t.heap ∧ va_D (va_A [(a, .inr (ci, fs0))] s.heap.size) w) (va_A [(a, .inr (ci, fs0))] s.heap.size)) C.1 C.2.1 hret (fun t ht _ => ⟨⟨ws, rfl, hp, by rw [ht]; exact hP, hD⟩, hS.F ht⟩) hS.2.2 hdg hlk
end MAKE2

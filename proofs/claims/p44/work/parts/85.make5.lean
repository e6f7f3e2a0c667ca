/-! ===== more rows of U: fields, loops, Math.max, arrays of towns, Arrays.fill ===== -/
theorem va_P.set2 {D : va_G} {cl : List vw_C} {A : Nat → Prop} {p : Nat} {ws : va_W} {a : Nat} {e0 e : va_E} {H H1 : Heap} (h : va_P D cl ws H) (hD : va_D A ws) (hp : ws[p]? = some (a, e0)) (he : va_at D cl (a, e) H1) (oq : ∀ q : Nat, q < H.size → q ≠ a → H1[q]? = H[q]?) : va_P D cl (ws.set p (a, e)) H1 := by
  intro k q hk
  by_cases hkp : p = k
  · subst hkp
    rw [List.getElem?_set_self (List.getElem?_eq_some_iff.mp hp).1] at hk
    rw [← Option.some.inj hk]; exact he
  · rw [List.getElem?_set_ne hkp] at hk
    refine (h k q hk).kept (oq q.1 (h k q hk).lt (fun e => hkp (hD.1 p k _ _ hp hk e.symm)))
section MAKE5
variable {Γ : UU} {own : String} {cc : ByteArray} {nL pc kc ks fr rc rs rl : Nat} {cI cT : ClassId} {ll : List (Nat × Value)} {st : List Value} {ws : va_W}
theorem k_getf (C : CU Γ own cc nL cI cT fr rc rs rl) {idx ci j a q0 : Nat} {fs : List Value} {fty : FieldType} {v : Value} (fu : FC0 own idx ci j fty) (he : ws[q0]? = some (a, .inr (ci, fs))) (hv : fs[j]? = some v) (hdg : decode cc pc = .ok (.getfield idx, 3)) (k : U Γ nL (pc + 3) ll (v :: st) ws kc ks) : U Γ nL pc ll (.ref a :: st) ws kc ks := by
  obtain ⟨D, A, p, l, e, R, s, m, args, below, meth, c, Q⟩ := Γ
  intro H locs ls hP hD hS hl
  obtain ⟨Cn, T, N, ty, cw, hj, hT, hlk, hdecl, hd⟩ := fu
  exact va_get C.1 C.2.1 C.2.2.2.2.1 cw.2.1 C.2.2.2.1 C.2.2.2.2.2.1 hP q0 he cw.1 j hj (C.2.2.2.2.1 _ hlk) (fun x h => by rw [hT] at h; exact h) hv hdg (k H locs ls hP hD hS hl)
theorem k_istore_n (C : CU Γ own cc nL cI cT fr rc rs rl) {z : Fin 4} {x : Int32} (i : Nat) {ll' : List (Nat × Value)} (hdg : decode cc pc = .ok (.istore_n z, 1)) (hz : (z : Nat) = i) (hn : i < nL) (hl : (i, Value.int x) :: ll.filter (fun q => !(q.1 == i) && !(q.1 + 1 == i && q.2.category == 2)) = ll') (k : U Γ nL (pc + 1) ll' st ws kc ks) : U Γ nL pc ll (.int x :: st) ws kc ks := by
  obtain ⟨D, A, p, l, e, R, s, m, args, below, meth, c, Q⟩ := Γ
  exact fun H locs ls hP hD hS h => lv_istore_n C.1 C.2.1 hdg hz h hn hl (fun ls' h' => k H locs ls' hP hD hS h')
theorem k_iinc (C : CU Γ own cc nL cI cT fr rc rs rl) {i : Nat} {n : Int} {x : Int32} (v : Int32) (q : Nat) {ll' : List (Nat × Value)} (hdg : decode cc pc = .ok (.iinc i n, 3)) (hk : ll[q]? = some (i, .int x)) (hv : x + Int32.ofInt n = v) (hn : i < nL) (hl : (i, Value.int v) :: ll.filter (fun q => !(q.1 == i) && !(q.1 + 1 == i && q.2.category == 2)) = ll') (k : U Γ nL (pc + 3) ll' st ws kc ks) : U Γ nL pc ll st ws kc ks := by
  obtain ⟨D, A, p, l, e, R, s, m, args, below, meth, c, Q⟩ := Γ
  exact fun H locs ls hP hD hS h => lv_iinc C.1 C.2.1 hdg h hk hv hn hl (fun ls' h' => k H locs ls' hP hD hS h')
theorem k_loc (C : CU Γ own cc nL cI cT fr rc rs rl) (kz : List Nat) {ll' : List (Nat × Value)} (h : lv_pick ll kz = ll') (k : U Γ nL pc ll' st ws kc ks) : U Γ nL pc ll st ws kc ks := by
  obtain ⟨D, A, p, l, e, R, s, m, args, below, meth, c, Q⟩ := Γ
  exact fun H locs ls hP hD hS hl => k H locs ls hP hD hS (lv_sub hl kz h)
theorem k_goto (C : CU Γ own cc nL cI cT fr rc rs rl) (tgt : Nat) {off : Int} (hdg : decode cc pc = .ok (.goto off, 3)) (ht : (pc : Int) + off = (tgt : Int)) (k : U Γ nL tgt ll st ws kc ks) : U Γ nL pc ll st ws kc ks := by
  obtain ⟨D, A, p, l, e, R, s, m, args, below, meth, c, Q⟩ := Γ
  exact fun H locs ls hP hD hS hl => lv_goto C.1 C.2.1 hdg ht (k H locs ls hP hD hS hl)
theorem k_icmp_ge (C : CU Γ own cc nL cI cT fr rc rs rl) {x y : Int32} (tgt : Nat) {off : Int} (hdg : decode cc pc = .ok (.if_icmp .ge off, 3)) (ht : (pc : Int) + off = (tgt : Int)) (kt : y ≤ x → U Γ nL tgt ll st ws kc ks) (kf : ¬ y ≤ x → U Γ nL (pc + 3) ll st ws kc ks) : U Γ nL pc ll (.int y :: .int x :: st) ws kc ks := by
  obtain ⟨D, A, p, l, e, R, s, m, args, below, meth, c, Q⟩ := Γ
  exact fun H locs ls hP hD hS hl => lv_icmp_ge C.1 C.2.1 hdg ht (fun h => kt h H locs ls hP hD hS hl) (fun h => kf h H locs ls hP hD hS hl)
theorem k_max (C : CU Γ own cc nL cI cT fr rc rs rl) {idx : Nat} {x y v : Int32} (hw : Cond.methodLink own idx Lib.Math.max.name ∈ lw_good) (hw2 : Cond.static Lib.Math.max.name ∈ lw_good) (hw3 : Cond.initialized "java/lang/Math" ∈ lw_good) (hw4 : Cond.code Lib.Math.max.name Lib.Math.max.code 2 (some .int) ∈ lw_good) (hW : (st.map fun v => v.category).sum ≤ 8) (hfr : 1 ≤ fr) (hrl : 21 ≤ rl) (hkc : kc ≤ rc) (hks : ks ≤ rs) (hv : (if x < y then y else x) = v) (hdg : decode cc pc = .ok (.invokestatic idx, 3)) (kk : U Γ nL (pc + 3) ll (.int v :: st) ws kc ks) : U Γ nL pc ll (.int y :: .int x :: st) ws kc ks := by
  subst hv
  obtain ⟨D, A, p, l, e, R, s, m, args, below, meth, c, Q⟩ := Γ
  obtain ⟨hx, hb, hml, hown, hts, hK, hNw, hA, h1, h2, h3, h4⟩ := C
  exact fun H locs ls hP hD hS hl => va_mmax hx hb (hml.trans hl.1.symm) hown (hts _ hw) (hts _ hw2) (hts _ hw3) (hts _ hw4) (by omega) (by omega) (by omega) (by omega) hdg (kk H locs ls hP hD hS hl)
theorem k_alen (C : CU Γ own cc nL cI cT fr rc rs rl) (q0 : Nat) {a n : Nat} {f : Nat → Int32} {v : Int32} (ha : ws[q0]? = some (a, .inl (cI, n, .inl f))) (hv : Int32.ofNat n = v) (hdg : decode cc pc = .ok (.arraylength, 1)) (k : U Γ nL (pc + 1) ll (.int v :: st) ws kc ks) : U Γ nL pc ll (.ref a :: st) ws kc ks := by
  obtain ⟨D, A, p, l, e, R, s, m, args, below, meth, c, Q⟩ := Γ
  exact fun H locs ls hP hD hS hl => va_alen C.1 C.2.1 C.2.2.2.2.2.1 hP q0 0 ha rfl hv hdg (k H locs ls hP hD hS hl)
theorem k_alenT (C : CU Γ own cc nL cI cT fr rc rs rl) (q0 : Nat) {a n : Nat} {f : Nat → Option Nat} {v : Int32} (ha : ws[q0]? = some (a, .inl (cT, n, .inr (.inr (.inr (.inr f)))))) (hv : Int32.ofNat n = v) (hdg : decode cc pc = .ok (.arraylength, 1)) (k : U Γ nL (pc + 1) ll (.int v :: st) ws kc ks) : U Γ nL pc ll (.ref a :: st) ws kc ks := by
  obtain ⟨D, A, p, l, e, R, s, m, args, below, meth, c, Q⟩ := Γ
  exact fun H locs ls hP hD hS hl => va_alen C.1 C.2.1 C.2.2.2.2.2.1 hP q0 1 ha rfl hv hdg (k H locs ls hP hD hS hl)
theorem k_iast (C : CU Γ own cc nL cI cT fr rc rs rl) (q0 : Nat) {a n : Nat} {f : Nat → Int32} {i x : Int32} (ha : ws[q0]? = some (a, .inl (cI, n, .inl f))) (hin : vp_in i n) (hdg : decode cc pc = .ok (.iastore, 1)) (k : U Γ nL (pc + 1) ll st (ws.set q0 (a, .inl (cI, n, .inl (upd f i.toNatClampNeg x)))) kc ks) : U Γ nL pc ll (.int x :: .int i :: .ref a :: st) ws kc ks := by
  obtain ⟨D, A, p, l, e, R, s, m, args, below, meth, c, Q⟩ := Γ
  exact fun H locs ls hP hD hS hl => va_iast C.1 C.2.1 C.2.2.2.2.2.1 hP hD hS q0 0 ha rfl hin hdg (fun H1 locs1 hP1 hD1 hS1 => k H1 locs1 ls hP1 hD1 hS1 hl)
theorem k_newT (C : CU Γ own cc nL cI cT fr rc rs rl) {idx : Nat} {v : Int32} {n : Nat} (hc : Cond.classLink own idx "BolsterBeds$Town" ∈ lw_good) (hn : ¬ v < 0) (hN : v.toNatClampNeg = n) (hb4 : n * 4 ≤ 536870912) (hkc : kc + 1 ≤ rc) (hks : ks + n ≤ rs) (hdg : decode cc pc = .ok (.anewarray idx, 3)) (k : ∀ q, U Γ nL (pc + 3) ll (.ref q :: st) (ws ++ [(q, .inl (cT, n, .inr (.inr (.inr (.inr (fun _ => none))))))]) (kc + 1) (ks + n)) : U Γ nL pc ll (.int v :: st) ws kc ks := by
  obtain ⟨D, A, p, l, e, R, s, m, args, below, meth, c, Q⟩ := Γ
  intro H locs ls hP hD hS hl
  obtain ⟨hx, hb, hml, hown, hts, hK, hNw, hA, h1, h2, h3, h4⟩ := C
  refine va_newq hx hb hown (hts _ hc) hNw.2 hK hP hD hS hA hn hN hb4 (by rw [h2]; exact hkc) (by rw [h3]; exact hks) hdg (fun q cA H1 hK1 hP1 hD1 hS1 => ?_)
  have e1 : cA = cT := by
    obtain ⟨_, _, _, _, _, f1⟩ := (hK1.2 2 (cA, .object "BolsterBeds$Town") rfl).2
    obtain ⟨_, _, _, _, _, f2⟩ := (hK.2 1 (cT, .object "BolsterBeds$Town") rfl).2
    rw [f1] at f2
    exact Option.some.inj f2
  subst e1
  exact k q H1 locs ls hP1 hD1 hS1 hl
theorem k_ast (C : CU Γ own cc nL cI cT fr rc rs rl) (q0 qk : Nat) {a v n : Nat} {vs : List Value} {f : Nat → Option Nat} {i : Int32} (ha : ws[q0]? = some (a, .inl (cT, n, .inr (.inr (.inr (.inr f)))))) (hv : ws[qk]? = some (v, .inr (7, vs))) (hin : vp_in i n) (hdg : decode cc pc = .ok (.aastore, 1)) (k : U Γ nL (pc + 1) ll st (ws.set q0 (a, .inl (cT, n, .inr (.inr (.inr (.inr (va_up f i.toNatClampNeg (some v)))))))) kc ks) : U Γ nL pc ll (.ref v :: .int i :: .ref a :: st) ws kc ks := by
  obtain ⟨D, A, p, l, e, R, s, m, args, below, meth, c, Q⟩ := Γ
  exact fun H locs ls hP hD hS hl => va_astq C.1 C.2.1 C.2.2.2.2.2.1 hP hD hS q0 1 qk 7 ha rfl hv rfl hin hdg (fun H1 locs1 hP1 hD1 hS1 => k H1 locs1 ls hP1 hD1 hS1 hl)
end MAKE5
/-- Arrays.fill on one array of ints -/
def Fl (l : Launch) (D : va_G) (cI cT : ClassId) : Prop := ∀ (q sz n : Nat) (g : Nat → Int32) (v : Int32), n < 2147483648 → Met l yJ7_fill_53178 (Cond.code yJ7_fill_53178 cJ7_fill_53178 4 none :: lw_good) ({ frames := 1, cells := 0, slots := 0, locals := 12 }) (va_Pc [.ref q, .int v] (fun U => U.heap.size = sz ∧ va_P D cls9 [(q, .inl (cI, n, .inl g))] U.heap ∧ va_K D cls9 (tysA cI cT) U ∧ NW U ∧ va_D (fun _ => True) [(q, (.inl (cI, n, .inl g) : va_E))])) (va_Qv (fun w : va_W => w = [(q, .inl (cI, n, .inl (fun j => if j < n then v else g j)))]) (fun w t => va_P D cls9 w t.heap ∧ va_D (va_A [(q, .inl (cI, n, .inl g))] sz) w) (va_A [(q, .inl (cI, n, .inl g))] sz)) 0 0 (va_A [(q, .inl (cI, n, .inl g))] sz)
theorem fl_of {l : Launch} {D : va_G} {cI cT : ClassId} : Fl l D cI cT := by
  intro q sz n g v hn31
  refine Met.ofW (cc := cJ7_fill_53178) (maxL := 4) (ret := none) (by decide +kernel) rfl ?_
  intro p e s m args below meth c s₁ B hml hv
  obtain ⟨rfl, hsz, hP, hK, hN, hD0⟩ := hv
  subst hsz
  have hts0 := atoms_spec (ws := Cond.code yJ7_fill_53178 cJ7_fill_53178 4 none :: lw_good) B.pre
  have hD := hD0.self (sz := s.heap.size)
  have hl := lv_entry [.ref q, .int v] (n := 4) (Nat.le_of_ble_eq_true rfl)
  rw [lg_entry_eq]
  let Γ : UU := (D, va_A [(q, .inl (cI, n, .inl g))] s.heap.size, p, l, e, (headSpec (Cond.code yJ7_fill_53178 cJ7_fill_53178 4 none :: lw_good) ({ frames := 1, cells := 0, slots := 0, locals := 12 } : Room)).room, s, m, [.ref q, .int v].toArray, below, meth, c, MQ below (va_Qv (fun w : va_W => w = [(q, .inl (cI, n, .inl (fun j => if j < n then v else g j)))]) (fun w t => va_P D cls9 w t.heap ∧ va_D (va_A [(q, .inl (cI, n, .inl g))] s.heap.size) w) (va_A [(q, .inl (cI, n, .inl g))] s.heap.size)) [.ref q, .int v].toArray s 0 0 (va_A [(q, .inl (cI, n, .inl g))] s.heap.size))
  have C : CU Γ RJ7 cJ7_fill_53178 4 cI cT 1 0 0 12 := ⟨B.exec, B.bytes, hml, findClass_of_methodNamed B.named, fun w hw => hts0 w (List.mem_cons_of_mem _ hw), hK, hN, fun q hq => Or.inr hq, rfl, rfl, rfl, rfl⟩
  refine (?_ : U Γ 4 0 [(0, .ref q), (1, .int v)] [] [(q, .inl (cI, n, .inl g))] 0 0) s.heap [] _ hP hD va_S.rf hl
  refine k_iconst C (n := 0) 0 (by decide +kernel) (by decide) ?_
  refine k_istore_n C (z := 2) 2 (ll' := [(2, .int 0), (0, .ref q), (1, .int v)]) (by decide +kernel) rfl (by decide) rfl ?_
  refine k_aload C (i := 0) 0 1 (by decide +kernel) rfl rfl ?_
  refine k_alen C 0 (n := n) (f := g) (v := Int32.ofNat n) rfl rfl (by decide +kernel) ?_
  refine k_istore_n C (z := 3) 3 (ll' := [(3, .int (Int32.ofNat n)), (2, .int 0), (0, .ref q), (1, .int v)]) (by decide +kernel) rfl (by decide) rfl ?_
  have key : ∀ d i : Nat, i + d = n → U Γ 4 5 [(2, .int (Int32.ofNat i)), (3, .int (Int32.ofNat n)), (0, .ref q), (1, .int v)] [] [(q, .inl (cI, n, .inl (fun j => if j < i then v else g j)))] 0 0 := by
    intro d
    induction d with
    | zero =>
      intro i hi
      have hi : i = n := hi
      subst hi
      refine k_iload C (i := 2) 2 0 (by decide +kernel) rfl rfl ?_
      refine k_iload C (i := 3) 3 1 (by decide +kernel) rfl rfl ?_
      refine k_icmp_ge C 20 (off := 13) (by decide +kernel) (by decide) (fun _ => ?_) (fun h => absurd (Int32.le_refl _) h)
      intro H locs ls hP hD hS hl
      exact W.vret (Qc := va_Qv (fun w : va_W => w = [(q, .inl (cI, i, .inl (fun j => if j < i then v else g j)))]) (fun w t => va_P D cls9 w t.heap ∧ va_D (va_A [(q, .inl (cI, i, .inl g))] s.heap.size) w) (va_A [(q, .inl (cI, i, .inl g))] s.heap.size)) C.1 C.2.1 B.returns (fun t ht _ => ⟨⟨_, rfl, rfl, by rw [ht]; exact hP, hD⟩, hS.F ht⟩) hS.2.2 (by decide +kernel) B.notSynchronized
    | succ d ih =>
      intro i hi
      have hlt : i < n := by omega
      have hi1 : (Int32.ofNat i).toInt = i := Int32.toInt_ofNat_of_lt (by show i < 2147483648; omega)
      have hn1 : (Int32.ofNat n).toInt = n := Int32.toInt_ofNat_of_lt hn31
      refine k_iload C (i := 2) 2 0 (by decide +kernel) rfl rfl ?_
      refine k_iload C (i := 3) 3 1 (by decide +kernel) rfl rfl ?_
      refine k_icmp_ge C 20 (off := 13) (by decide +kernel) (by decide) (fun h => absurd (Int32.le_iff_toInt_le.mp h) (by rw [hi1, hn1]; omega)) (fun _ => ?_)
      refine k_aload C (i := 0) 0 2 (by decide +kernel) rfl rfl ?_
      refine k_iload C (i := 2) 2 0 (by decide +kernel) rfl rfl ?_
      refine k_iload C (i := 1) 1 3 (by decide +kernel) rfl rfl ?_
      have hc : (Int32.ofNat i).toNatClampNeg = i := by show (Int32.ofNat i).toInt.toNat = i; rw [hi1]; rfl
      refine k_iast C 0 rfl (fun h => h.elim (fun h => by rw [Int32.lt_iff_toInt_lt, hi1] at h; have h : (i : Int) < 0 := h; omega) (fun h => by rw [hc] at h; omega)) (by decide +kernel) ?_
      refine k_iinc C (Int32.ofNat (i + 1)) 0 (i := 2) (n := 1) (ll' := [(2, .int (Int32.ofNat (i + 1))), (3, .int (Int32.ofNat n)), (0, .ref q), (1, .int v)]) (by decide +kernel) rfl (by rw [Int32.ofNat_add]; rfl) (by decide) rfl ?_
      refine k_goto C 5 (off := -12) (by decide +kernel) (by decide) ?_
      have hf : upd (fun j => if j < i then v else g j) (Int32.ofNat i).toNatClampNeg v = fun j => if j < i + 1 then v else g j := by
        funext j
        rw [hc]
        unfold upd
        by_cases h1 : j = i
        · subst h1; show (if j = j then v else _) = _; rw [if_pos rfl, if_pos (by omega)]
        · by_cases h2 : j < i
          · show (if j = i then v else if j < i then v else g j) = _; rw [if_neg h1, if_pos h2, if_pos (by omega)]
          · show (if j = i then v else if j < i then v else g j) = _; rw [if_neg h1, if_neg h2, if_neg (by omega)]
      show U Γ 4 5 _ [] [(q, .inl (cI, n, .inl (upd (fun j => if j < i then v else g j) (Int32.ofNat i).toNatClampNeg v)))] 0 0
      rw [hf]
      exact ih (i + 1) (by omega)
  refine k_loc C [1, 0, 2, 3] (ll' := [(2, .int 0), (3, .int (Int32.ofNat n)), (0, .ref q), (1, .int v)]) rfl ?_
  have h0 := key n 0 (by omega)
  have e0 : (fun j => if j < 0 then v else g j) = g := by funext j; rw [if_neg (by omega)]
  rw [e0] at h0
  exact h0

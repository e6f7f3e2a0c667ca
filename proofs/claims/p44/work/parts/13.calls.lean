/-! ===== calls over V, and what the library does ===== -/
theorem tnn {z : Int32} (h : 0 ≤ z.toInt) : z.toInt = (z.toNatClampNeg : Int) ∧ ¬ z < 0 := by
  refine ⟨?_, ?_⟩
  · have : z.toNatClampNeg = z.toInt.toNat := rfl
    omega
  · rw [Int32.lt_iff_toInt_lt]
    have : (0 : Int32).toInt = 0 := rfl
    omega
/-- a method that an object of its class is asked for; a static one -/
def MWi (ci : Nat) (y : MethodName) (cc : ByteArray) (nL : Nat) (ret : Option FieldType) (n : Nat) : Prop := Cond.instanceMethod y ∈ lw_good ∧ Cond.selects y.cls y y ∈ lw_good ∧ Cond.code y cc nL ret ∈ lw_good ∧ Cond.initialized y.cls ∈ lw_good ∧ (y.cls ≠ "java/lang/invoke/MethodHandle" ∧ y.cls ≠ "java/lang/invoke/VarHandle" ∧ (parseMethodDescriptor y.desc).map (fun d => d.parameters.length) = some n) ∧ nL ≤ 45 ∧ ∃ q : vw_C, cls9[ci]? = some q ∧ q.1 = y.cls
def MWs (y : MethodName) (cc : ByteArray) (nL : Nat) (ret : Option FieldType) (n : Nat) : Prop := Cond.static y ∈ lw_good ∧ Cond.code y cc nL ret ∈ lw_good ∧ Cond.initialized y.cls ∈ lw_good ∧ (y.cls ≠ "java/lang/invoke/MethodHandle" ∧ y.cls ≠ "java/lang/invoke/VarHandle" ∧ (parseMethodDescriptor y.desc).map (fun d => d.parameters.length) = some n) ∧ nL ≤ 45
def LK (own : String) (idx : Nat) (y : MethodName) : Prop := Cond.methodLink own idx y ∈ lw_good ∨ ∃ host, Cond.methodLinkNest own idx y host ∈ lw_nest
theorem good_in {y : MethodName} {cc : ByteArray} {nL : Nat} {ret : Option FieldType} (h : Cond.code y cc nL ret ∈ lw_good) : GoodIn lw_good (Cond.code y cc nL ret :: lw_good) := by
  intro w hw
  have hm : w ∈ lw_good := by
    rcases List.mem_cons.mp hw with e | e
    · rw [e]; exact h
    · exact e
  exact ⟨hm, good_of_word (good_all w hm)⟩
section CROWS
variable {Δ : DD} {Γ : GG} {own : String} {cc : ByteArray} {nL d pc : Nat} {ret : Option FieldType} {ll : List (Nat × Value)} {st : List Value} {σ : Mem}
/-- behind a call: the callee's answer on the stack, its numbers -/
theorem v_back {l : Launch} {D : va_G} {cI cT : ClassId} {ad : Nat → Nat} {tK : Nat} {p : Program} {e : Env} {R : Room} {s : State} {m : MethodId} {args : Array Value} {below : List Frame} {meth : Method} {c : Code} {kc ks : Nat} {Q : State → Prop} {H : Heap} {locs : List Loc} {ls : Array Slot} {st0 : List Value} {a : Array Value} {rv : Option Value} {σ' : Mem}
    (hr : va_Run p l e R s m args below meth c H locs kc ks 0 0 (F0 m pc ls st0) st (Pq (l, D, cI, cT, ad, tK) rv σ' a) (adA ad)) (hS : va_S (adA ad) s.heap H locs) (hl : lv_has ls nL ll)
    (kk : V (l, D, cI, cT, ad, tK) (p, e, R, s, m, args, below, meth, c, kc, ks, Q) nL (pc + 3) ll (rv.toList ++ st) σ') : W p l e R s m args below meth c H locs kc ks Q (F0 m pc ls st0) := by
  intro T hT X
  obtain ⟨v, st₀, t, T', L, h0, X', hL, e1, e2, ⟨hv, hP', hz, hk⟩, hst⟩ := hr T hT X
  have hv2 : v = rv := by cases hv; rfl
  subst hv2
  rw [h0] at hz hk
  obtain ⟨t2, a1, b1⟩ := kk T'.heap (locs ++ L) ls (by rw [e1]; exact hP') ⟨Nat.le_trans hS.1 (by rw [e1]; exact hz), fun q h1 h2 => by rw [e1, hk q (Nat.lt_of_lt_of_le h1 hS.1) h2]; exact hS.2.1 q h1 h2, fun q hq => by
      rcases List.mem_append.mp hq with h | h
      · exact hS.2.2 q h
      · exact hL q h⟩ hl T' rfl X'
  exact ⟨t2, hst t2 a1, b1⟩
theorem v_cV (C : Cx Δ Γ own cc nL d ret) {ci idx n k : Nat} {y : MethodName} {cc' : ByteArray} {nL' : Nat} {ret' : Option FieldType} (mw : MWi ci y cc' nL' ret' n) (lk : LK own idx y) (As : List Value) {rv : Option Value} {σ' : Mem} (hM : Mt Δ d y cc' nL' ret' (rf Δ k :: As) σ rv σ') (hK : isK ci k = true) {st0 : List Value} (hst : st0 = As.reverse ++ rf Δ k :: st) (hn : As.length = n) (hW : (st.map fun v => v.category).sum ≤ 8) (hdg : decode cc pc = .ok (.invokevirtual idx, 3)) (kk : V Δ Γ nL (pc + 3) ll (rv.toList ++ st) σ') : V Δ Γ nL pc ll st0 σ := by
  have hbl := Pp.blind Δ (rf Δ k :: As) σ
  obtain ⟨l, D, cI, cT, ad, tK⟩ := Δ; obtain ⟨p, e, R, s, m, args, below, meth, c, kc, ks, Q⟩ := Γ
  intro H locs ls hP hS hl
  obtain ⟨m1, m2, m3, m4, m5, m6, q, hq, hqc⟩ := mw
  obtain ⟨hx, hb, hml, hown, hts, hSt, -, -, hR1, hR2, hR3, hR4⟩ := C
  unfold isK at hK
  split at hK
  · next qk hs =>
    have hk : k < nW := shp_lo hs (by rw [show qk.1 = ci from by simpa using hK]; exact cls9_lt hq)
    have hci : qk.1 = ci := by simpa using hK
    have hrecv := va_recv hSt.1 hP (ci := ci) (q0 := k) (a := ad k) hq (by rw [wld_get hk, cel_obj hs, hci])
    rw [hqc] at hrecv
    have hpre : PreV s H y.cls (ad k) (Pp (l, D, cI, cT, ad, tK) (.ref (ad k) :: As) σ) As := ⟨hbl, hrecv, fun U hU hW => ⟨rfl, by rw [hU]; exact hP, by rw [hU]; exact hSt.go hS hW⟩⟩
    have hbase := callB_of (R := R) (own := own) (index := idx) (mc := 0) (ms := 0) (rm := rm d) n hts (good_in m3) rfl rfl rfl (hts _ m4)
    rcases lk with hw | ⟨host, hw⟩
    · have cw : CallW R s args own y.cls idx y cc' nL' ret' (Cond.code y cc' nL' ret' :: lw_good) (rm d) 0 0 n := ⟨hbase (hts _ hw) m5 ⟨hR1, by show 8 + (nL' + 11) + 64 * d ≤ R.locals; omega⟩, hts _ m1, hts _ m2⟩
      exact v_back (va_runV (As := As) (rest := st) (b := ad k) ⟨hx, hb, hml, hown, hts⟩ hM cw hpre rfl hn hl.1 hst (lv_room (m := m) (pc := pc) (ls := ls) (rest := st0) hW) hdg ⟨hR3, hR4⟩) hS hl kk
    · have cw := va_cnB (R := R) (own := own) (host := host) (index := idx) (mc := 0) (ms := 0) (rm := rm d) n hts (good_in m3) rfl rfl rfl (hSt.2.2.2 _ hw) (hts _ m4) m5 ⟨hR1, by show 8 + (nL' + 11) + 64 * d ≤ R.locals; omega⟩
      exact v_back (va_runVN (As := As) (rest := st) (b := ad k) ⟨hx, hb, hml, hown, hts⟩ hM ⟨cw, hts _ m1, hts _ m2⟩ hpre rfl hn hl.1 hst (lv_room (m := m) (pc := pc) (ls := ls) (rest := st0) hW) hdg ⟨hR3, hR4⟩) hS hl kk
  · cases hK
theorem v_cS (C : Cx Δ Γ own cc nL d ret) {idx n : Nat} {y : MethodName} {cc' : ByteArray} {nL' : Nat} {ret' : Option FieldType} (mw : MWs y cc' nL' ret' n) (lk : LK own idx y) (As : List Value) {rv : Option Value} {σ' : Mem} (hM : Mt Δ d y cc' nL' ret' As σ rv σ') {st0 : List Value} (hst : st0 = As.reverse ++ st) (hn : As.length = n) (hW : (st.map fun v => v.category).sum ≤ 8) (hdg : decode cc pc = .ok (.invokestatic idx, 3)) (kk : V Δ Γ nL (pc + 3) ll (rv.toList ++ st) σ') : V Δ Γ nL pc ll st0 σ := by
  have hbl := Pp.blind Δ As σ
  obtain ⟨l, D, cI, cT, ad, tK⟩ := Δ; obtain ⟨p, e, R, s, m, args, below, meth, c, kc, ks, Q⟩ := Γ
  intro H locs ls hP hS hl
  obtain ⟨m1, m3, m4, m5, m6⟩ := mw
  obtain ⟨hx, hb, hml, hown, hts, hSt, -, -, hR1, hR2, hR3, hR4⟩ := C
  have hpre : PreS s H (Pp (l, D, cI, cT, ad, tK) As σ) As := ⟨hbl, fun U hU hW => ⟨rfl, by rw [hU]; exact hP, by rw [hU]; exact hSt.go hS hW⟩⟩
  rcases lk with hw | ⟨host, hw⟩
  · have cw := callB_of (R := R) (own := own) (index := idx) (mc := 0) (ms := 0) (rm := rm d) n hts (good_in m3) rfl rfl rfl (hts _ m4) (hts _ hw) m5 ⟨hR1, by show 8 + (nL' + 11) + 64 * d ≤ R.locals; omega⟩
    exact v_back (va_runS (As := As) (rest := st) ⟨hx, hb, hml, hown, hts⟩ hM ⟨cw, hts _ m1⟩ hpre rfl hn hl.1 hst (lv_room (m := m) (pc := pc) (ls := ls) (rest := st0) hW) hdg ⟨hR3, hR4⟩) hS hl kk
  · have cw := va_cnB (R := R) (own := own) (host := host) (index := idx) (mc := 0) (ms := 0) (rm := rm d) n hts (good_in m3) rfl rfl rfl (hSt.2.2.2 _ hw) (hts _ m4) m5 ⟨hR1, by show 8 + (nL' + 11) + 64 * d ≤ R.locals; omega⟩
    exact v_back (va_runSN (As := As) (rest := st) ⟨hx, hb, hml, hown, hts⟩ hM ⟨cw, hts _ m1, trivial⟩ hpre rfl hn hl.1 hst (lv_room (m := m) (pc := pc) (ls := ls) (rest := st0) hW) hdg ⟨hR3, hR4⟩) hS hl kk
/-! Math.max, min, abs; System.arraycopy -/
theorem v_max (C : Cx Δ Γ own cc nL d ret) {idx : Nat} {x y : Int32} (hw : Cond.methodLink own idx Lib.Math.max.name ∈ lw_good) (hw2 : Cond.static Lib.Math.max.name ∈ lw_good) (hw3 : Cond.initialized "java/lang/Math" ∈ lw_good) (hw4 : Cond.code Lib.Math.max.name Lib.Math.max.code 2 (some .int) ∈ lw_good) (hW : (st.map fun v => v.category).sum ≤ 8) (hdg : decode cc pc = .ok (.invokestatic idx, 3)) (kk : V Δ Γ nL (pc + 3) ll (.int (if x < y then y else x) :: st) σ) : V Δ Γ nL pc ll (.int y :: .int x :: st) σ := by
  obtain ⟨l, D, cI, cT, ad, tK⟩ := Δ; obtain ⟨p, e, R, s, m, args, below, meth, c, kc, ks, Q⟩ := Γ
  obtain ⟨hx, hb, hml, hown, hts, hSt, -, -, hR1, hR2, hR3, hR4⟩ := C
  exact fun H locs ls hP hS hl => va_mmax hx hb (hml.trans hl.1.symm) hown (hts _ hw) (hts _ hw2) (hts _ hw3) (hts _ hw4) (by omega) (by omega) hR3 hR4 hdg (kk H locs ls hP hS hl)
theorem v_min (C : Cx Δ Γ own cc nL d ret) {idx : Nat} {x y : Int32} (hw : Cond.methodLink own idx Lib.Math.min.name ∈ lw_good) (hw2 : Cond.static Lib.Math.min.name ∈ lw_good) (hw3 : Cond.initialized "java/lang/Math" ∈ lw_good) (hw4 : Cond.code Lib.Math.min.name Lib.Math.min.code 2 (some .int) ∈ lw_good) (hW : (st.map fun v => v.category).sum ≤ 8) (hdg : decode cc pc = .ok (.invokestatic idx, 3)) (kk : V Δ Γ nL (pc + 3) ll (.int (if y < x then y else x) :: st) σ) : V Δ Γ nL pc ll (.int y :: .int x :: st) σ := by
  obtain ⟨l, D, cI, cT, ad, tK⟩ := Δ; obtain ⟨p, e, R, s, m, args, below, meth, c, kc, ks, Q⟩ := Γ
  obtain ⟨hx, hb, hml, hown, hts, hSt, -, -, hR1, hR2, hR3, hR4⟩ := C
  exact fun H locs ls hP hS hl => va_mmin hx hb (hml.trans hl.1.symm) hown (hts _ hw) (hts _ hw2) (hts _ hw3) (hts _ hw4) (by omega) (by omega) hR3 hR4 hdg (kk H locs ls hP hS hl)
theorem v_abs (C : Cx Δ Γ own cc nL d ret) {idx : Nat} {x : Int32} (hw : Cond.methodLink own idx Lib.Math.abs.name ∈ lw_good) (hw2 : Cond.static Lib.Math.abs.name ∈ lw_good) (hw3 : Cond.initialized "java/lang/Math" ∈ lw_good) (hw4 : Cond.code Lib.Math.abs.name Lib.Math.abs.code 1 (some .int) ∈ lw_good) (hW : (st.map fun v => v.category).sum ≤ 8) (hdg : decode cc pc = .ok (.invokestatic idx, 3)) (kk : V Δ Γ nL (pc + 3) ll (.int (if 0 ≤ x then x else 0 - x) :: st) σ) : V Δ Γ nL pc ll (.int x :: st) σ := by
  obtain ⟨l, D, cI, cT, ad, tK⟩ := Δ; obtain ⟨p, e, R, s, m, args, below, meth, c, kc, ks, Q⟩ := Γ
  obtain ⟨hx, hb, hml, hown, hts, hSt, -, -, hR1, hR2, hR3, hR4⟩ := C
  exact fun H locs ls hP hS hl => va_mabs hx hb (hml.trans hl.1.symm) hown (hts _ hw) (hts _ hw2) (hts _ hw3) (hts _ hw4) (by omega) (by omega) hR3 hR4 hdg (kk H locs ls hP hS hl)
theorem v_copy (C : Cx Δ Γ own cc nL d ret) {idx a b : Nat} {sp dp n : Int32} {σ' : Mem} (hw : Cond.methodLink own idx arraycopyName ∈ lw_good) (hw1 : Cond.native arraycopyName ∈ lw_good) (hw2 : Cond.static arraycopyName ∈ lw_good) (hw3 : Cond.initialized "java/lang/System" ∈ lw_good) (hg : cpI a sp b dp n σ = some σ') (hW : (st.map fun v => v.category).sum ≤ 8) (hdg : decode cc pc = .ok (.invokestatic idx, 3)) (kk : V Δ Γ nL (pc + 3) ll st σ') : V Δ Γ nL pc ll (.int n :: .int dp :: rf Δ b :: .int sp :: rf Δ a :: st) σ := by
  unfold cpI at hg
  split at hg
  · next n0 n1 hs0 hs1 =>
    split at hg
    · next hc =>
      obtain ⟨h1, h2, h3, h4, h5, ha, hb'⟩ := hc
      have e1 := tnn h1
      have e2 := tnn h2
      have e3 := tnn h3
      cases hg
      obtain ⟨l, D, cI, cT, ad, tK⟩ := Δ; obtain ⟨p, e, R, s, m, args, below, meth, c, kc, ks, Q⟩ := Γ
      obtain ⟨hx, hb, hml, hown, hts, hSt, -, -, hR1, hR2, hR3, hR4⟩ := C
      intro H locs ls hP hS hl
      have hD := wld_D (cI := cI) (cT := cT) (σ := σ) hSt.2.1
      have hws : (wld ad cI cT σ).set b (ad b, .inl (cI, n1, .inl (va_cpy (σ.1 a) (σ.1 b) sp.toNatClampNeg dp.toNatClampNeg n.toNatClampNeg))) = wld ad cI cT (fun x y => if x = b then va_cpy (σ.1 a) (σ.1 b) sp.toNatClampNeg dp.toNatClampNeg n.toNatClampNeg y else σ.1 x y, σ.2) := by
        refine wld_set hb' ?_ (fun i hi => cel_ext (fun y => by simp [hi]) (fun _ => rfl))
        rw [cel_arr hs1]
        congr 3
        congr 1
        funext y
        simp
      exact va_copyi hx hb (hml.trans hl.1.symm) hown (hts _ hw) (hts _ hw1) (hts _ hw2) (hts _ hw3) hSt.1 hP hD hS a b 0 0 (by rw [wld_get ha, cel_arr hs0]) (by rw [wld_get hb', cel_arr hs1]) rfl rfl rfl e1.2 e2.2 e3.2 (by omega) (by omega) (fun i _ => rfl) (by omega) (by
        have : nativeFrameWords "java/lang/System" "arraycopy" 5 ≤ 40 := by decide +kernel
        omega) hdg (fun H1 locs1 hP1 _ hS1 => kk H1 locs1 ls (by rw [← hws]; exact hP1) hS1 hl)
    · cases hg
  · cases hg
end CROWS

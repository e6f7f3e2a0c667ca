/-! ===== numbers and calls over V2 ===== -/
def isK2 (ci k : Nat) : Bool := ci == 8 && (k == 0 || k == 1)
def chk2 (ci k : Nat) : Option Unit := if isK2 ci k = true then some () else none
theorem chk2_k {ci k : Nat} {u : Unit} (h : chk2 ci k = some u) : isK2 ci k = true := by
  unfold chk2 at h
  split at h
  · assumption
  · cases h
def setV (σ : Mem2) (j : Nat) (v : Int32) : Mem2 := (σ.1, σ.2.1, upd σ.2.2.1 j v, σ.2.2.2)
def setU (σ : Mem2) (j : Nat) (v : Int32) : Mem2 := (σ.1, σ.2.1, σ.2.2.1, upd σ.2.2.2.1 j v, σ.2.2.2.2)
def aJ2 (k : Nat) (i : Int32) (σ : Mem2) : Option Int32 :=
  if k = 2 then (if 0 ≤ i.toInt ∧ i.toInt < (64 : Nat) then some (σ.2.2.1 i.toNatClampNeg) else none)
  else if k = 3 then (if 0 ≤ i.toInt ∧ i.toInt < (64 : Nat) then some (σ.2.2.2.1 i.toNatClampNeg) else none)
  else if k = 4 then (if 0 ≤ i.toInt ∧ i.toInt < σ.2.2.2.2.1 then some (σ.2.2.2.2.2 i.toNatClampNeg) else none) else none
def sJ2 (k : Nat) (i v : Int32) (σ : Mem2) : Option Mem2 :=
  if k = 2 then (if 0 ≤ i.toInt ∧ i.toInt < (64 : Nat) then some (setV σ i.toNatClampNeg v) else none)
  else if k = 3 then (if 0 ≤ i.toInt ∧ i.toInt < (64 : Nat) then some (setU σ i.toNatClampNeg v) else none) else none
def aN2 (k : Nat) (σ : Mem2) : Option Int32 := if k = 4 then some (Int32.ofNat σ.2.2.2.2.1) else none
section HROWS2
variable {Δ : DD2} {Γ : GG} {own : String} {cc : ByteArray} {nL d pc : Nat} {ret : Option FieldType} {ll : List (Nat × Value)} {st : List Value} {σ : Mem2}
theorem w_aI (C : Cx2 Δ Γ own cc nL d ret) {k : Nat} {i v : Int32} (hg : aJ2 k i σ = some v) (hdg : decode cc pc = .ok (.iaload, 1)) (kk : V2 Δ Γ nL (pc + 1) ll (.int v :: st) σ) : V2 Δ Γ nL pc ll (.int i :: rf2 Δ k :: st) σ := by
  obtain ⟨l, D, cI, cT, ad, tK⟩ := Δ; obtain ⟨p, e, R, s, m, args, below, meth, c, kc, ks, Q⟩ := Γ
  intro H locs ls hP hS hl
  unfold aJ2 at hg
  by_cases k2 : k = 2
  · subst k2
    rw [if_pos rfl] at hg
    split at hg
    · next hc =>
      cases hg
      exact va_iald C.1 C.2.1 C.2.2.2.2.2.1.1 hP.2 (nW + nW) 0 wl2_v rfl (in_of hc) hdg (kk H locs ls hP hS hl)
    · cases hg
  · rw [if_neg k2] at hg
    by_cases k3 : k = 3
    · subst k3
      rw [if_pos rfl] at hg
      split at hg
      · next hc =>
        cases hg
        exact va_iald C.1 C.2.1 C.2.2.2.2.2.1.1 hP.2 (nW + nW + 1) 0 wl2_u rfl (in_of hc) hdg (kk H locs ls hP hS hl)
      · cases hg
    · rw [if_neg k3] at hg
      by_cases k4 : k = 4
      · subst k4
        rw [if_pos rfl] at hg
        split at hg
        · next hc =>
          cases hg
          have e := hP.1
          exact va_ti C.1 C.2.1 C.2.2.2.2.2.1.2.2.1.2.2 hS (in_of (by rw [e] at hc; exact hc)) (by rw [e]) hdg (kk H locs ls hP hS hl)
        · cases hg
      · rw [if_neg k4] at hg
        cases hg
theorem w_sI (C : Cx2 Δ Γ own cc nL d ret) {k : Nat} {i v : Int32} {σ' : Mem2} (hg : sJ2 k i v σ = some σ') (hdg : decode cc pc = .ok (.iastore, 1)) (kk : V2 Δ Γ nL (pc + 1) ll st σ') : V2 Δ Γ nL pc ll (.int v :: .int i :: rf2 Δ k :: st) σ := by
  obtain ⟨l, D, cI, cT, ad, tK⟩ := Δ; obtain ⟨p, e, R, s, m, args, below, meth, c, kc, ks, Q⟩ := Γ
  intro H locs ls hP hS hl
  have hD := wl2_D (cI := cI) (cT := cT) (σ := σ) C.2.2.2.2.2.1.2.1
  unfold sJ2 at hg
  by_cases k2 : k = 2
  · subst k2
    rw [if_pos rfl] at hg
    split at hg
    · next hc =>
      cases hg
      exact va_iast C.1 C.2.1 C.2.2.2.2.2.1.1 hP.2 hD hS (nW + nW) 0 wl2_v rfl (in_of hc) hdg (fun H1 locs1 hP1 _ hS1 => kk H1 locs1 ls ⟨hP.1, by rw [wl2_setv] at hP1; exact hP1⟩ hS1 hl)
    · cases hg
  · rw [if_neg k2] at hg
    by_cases k3 : k = 3
    · subst k3
      rw [if_pos rfl] at hg
      split at hg
      · next hc =>
        cases hg
        exact va_iast C.1 C.2.1 C.2.2.2.2.2.1.1 hP.2 hD hS (nW + nW + 1) 0 wl2_u rfl (in_of hc) hdg (fun H1 locs1 hP1 _ hS1 => kk H1 locs1 ls ⟨hP.1, by rw [wl2_setu] at hP1; exact hP1⟩ hS1 hl)
      · cases hg
    · rw [if_neg k3] at hg
      cases hg
theorem w_aN (C : Cx2 Δ Γ own cc nL d ret) {k : Nat} {v : Int32} (hg : aN2 k σ = some v) (hdg : decode cc pc = .ok (.arraylength, 1)) (kk : V2 Δ Γ nL (pc + 1) ll (.int v :: st) σ) : V2 Δ Γ nL pc ll (rf2 Δ k :: st) σ := by
  obtain ⟨l, D, cI, cT, ad, tK⟩ := Δ; obtain ⟨p, e, R, s, m, args, below, meth, c, kc, ks, Q⟩ := Γ
  intro H locs ls hP hS hl
  unfold aN2 at hg
  split at hg
  · next k4 =>
    subst k4
    cases hg
    have e := hP.1
    exact va_tlen C.1 C.2.1 C.2.2.2.2.2.1.2.2.1.2.2 hS (by rw [e]) hdg (kk H locs ls hP hS hl)
  · cases hg
end HROWS2
def q0L : List (Option (Option Nat)) := match shp 0 with
  | .inl q => q.2
  | _ => []
theorem sh0_o : shp 0 = .inl (8, q0L) := rfl
theorem obj_o {ad : AD2} {cI cT : ClassId} {σ : Mem2} : (wl2 ad cI cT σ)[0]? = some (ad.1 0, (Sum.inr (8, fvs ad.1 σ.1 0 0 q0L) : va_E)) := by rw [wl2_o (by decide), cel_obj sh0_o]
theorem obj_q {ad : AD2} {cI cT : ClassId} {σ : Mem2} : (wl2 ad cI cT σ)[nW + 0]? = some (ad.2.1 0, (Sum.inr (8, fvs ad.2.1 σ.2.1 0 0 q0L) : va_E)) := by rw [wl2_q (by decide), cel_obj sh0_o]
section CROWS2
variable {Δ : DD2} {Γ : GG} {own : String} {cc : ByteArray} {nL d pc : Nat} {ret : Option FieldType} {ll : List (Nat × Value)} {st : List Value} {σ : Mem2}
/-- behind a call: the callee's answer on the stack, its numbers -/
theorem w_back {l : Launch} {D : va_G} {cI cT : ClassId} {ad : AD2} {tK : Nat × Nat × (Nat × (Nat → Int32))} {p : Program} {e : Env} {R : Room} {s : State} {m : MethodId} {args : Array Value} {below : List Frame} {meth : Method} {c : Code} {kc ks : Nat} {Q : State → Prop} {H : Heap} {locs : List Loc} {ls : Array Slot} {st0 : List Value} {a : Array Value} {rv : Option Value} {σ' : Mem2}
    (hr : va_Run p l e R s m args below meth c H locs kc ks 0 0 (F0 m pc ls st0) st (Pq2 (l, D, cI, cT, ad, tK) rv σ' a) (adA2 ad)) (hS : va_S (adA2 ad) s.heap H locs) (hl : lv_has ls nL ll)
    (kk : V2 (l, D, cI, cT, ad, tK) (p, e, R, s, m, args, below, meth, c, kc, ks, Q) nL (pc + 3) ll (rv.toList ++ st) σ') : W p l e R s m args below meth c H locs kc ks Q (F0 m pc ls st0) := by
  intro T hT X
  obtain ⟨v, st₀, t, T', L, h0, X', hL, e1, e2, ⟨hv, hP', hz, hk⟩, hst⟩ := hr T hT X
  have hv2 : v = rv := by cases hv; rfl
  subst hv2
  rw [h0] at hz hk
  obtain ⟨t2, a1, b1⟩ := kk T'.heap (locs ++ L) ls (by rw [e1]; exact hP') ⟨Nat.le_trans hS.1 (by rw [e1]; exact hz), fun q h1 h2 => by rw [e1, hk q (Nat.lt_of_lt_of_le h1 hS.1) h2]; exact hS.2.1 q h1 h2, fun q hq => by
      rcases List.mem_append.mp hq with h | h
      · exact hS.2.2 q h
      · exact hL q h⟩ hl T' rfl X'
  exact ⟨t2, hst t2 a1, b1⟩
theorem w_cV (C : Cx2 Δ Γ own cc nL d ret) {ci idx n k : Nat} {y : MethodName} {cc' : ByteArray} {nL' : Nat} {ret' : Option FieldType} (mw : MWi ci y cc' nL' ret' n) (lk : LK own idx y) (As : List Value) {rv : Option Value} {σ' : Mem2} (hM : Mt2 Δ d y cc' nL' ret' (rf2 Δ k :: As) σ rv σ') (hK : isK2 ci k = true) {st0 : List Value} (hst : st0 = As.reverse ++ rf2 Δ k :: st) (hn : As.length = n) (hW : (st.map fun v => v.category).sum ≤ 8) (hdg : decode cc pc = .ok (.invokevirtual idx, 3)) (kk : V2 Δ Γ nL (pc + 3) ll (rv.toList ++ st) σ') : V2 Δ Γ nL pc ll st0 σ := by
  have hbl := Pp2.blind Δ (rf2 Δ k :: As) σ
  obtain ⟨l, D, cI, cT, ad, tK⟩ := Δ; obtain ⟨p, e, R, s, m, args, below, meth, c, kc, ks, Q⟩ := Γ
  intro H locs ls hP hS hl
  obtain ⟨m1, m2, m3, m4, m5, m6, q, hq, hqc⟩ := mw
  obtain ⟨hx, hb, hml, hown, hts, hSt, -, -, hR1, hR2, hR3, hR4⟩ := C
  have hrecv : ∃ (q0 : Nat) (fs : List Value), (wl2 ad cI cT σ)[q0]? = some (ad2 (l, D, cI, cT, ad, tK) k, (Sum.inr (ci, fs) : va_E)) := by
    unfold isK2 at hK
    rcases (show ci = 8 ∧ (k = 0 ∨ k = 1) by simpa using hK) with ⟨rfl, rfl | rfl⟩
    · exact ⟨0, _, obj_o⟩
    · exact ⟨nW + 0, _, obj_q⟩
  obtain ⟨q0, fs, he⟩ := hrecv
  have hrecv := va_recv hSt.1 hP.2 (ci := ci) (q0 := q0) (a := ad2 (l, D, cI, cT, ad, tK) k) hq he
  rw [hqc] at hrecv
  have hpre : PreV s H y.cls (ad2 (l, D, cI, cT, ad, tK) k) (Pp2 (l, D, cI, cT, ad, tK) (.ref (ad2 (l, D, cI, cT, ad, tK) k) :: As) σ) As := ⟨hbl, hrecv, fun U hU hW => ⟨rfl, by rw [hU]; exact hP, by rw [hU]; exact hSt.go hS hW⟩⟩
  have hbase := callB_of (R := R) (own := own) (index := idx) (mc := 0) (ms := 0) (rm := rm d) n hts (good_in m3) rfl rfl rfl (hts _ m4)
  rcases lk with hw | ⟨host, hw⟩
  · have cw : CallW R s args own y.cls idx y cc' nL' ret' (Cond.code y cc' nL' ret' :: lw_good) (rm d) 0 0 n := ⟨hbase (hts _ hw) m5 ⟨hR1, by show 8 + (nL' + 11) + 64 * d ≤ R.locals; omega⟩, hts _ m1, hts _ m2⟩
    exact w_back (va_runV (As := As) (rest := st) (b := ad2 (l, D, cI, cT, ad, tK) k) ⟨hx, hb, hml, hown, hts⟩ hM cw hpre rfl hn hl.1 hst (lv_room (m := m) (pc := pc) (ls := ls) (rest := st0) hW) hdg ⟨hR3, hR4⟩) hS hl kk
  · have cw := va_cnB (R := R) (own := own) (host := host) (index := idx) (mc := 0) (ms := 0) (rm := rm d) n hts (good_in m3) rfl rfl rfl (hSt.2.2.2 _ hw) (hts _ m4) m5 ⟨hR1, by show 8 + (nL' + 11) + 64 * d ≤ R.locals; omega⟩
    exact w_back (va_runVN (As := As) (rest := st) (b := ad2 (l, D, cI, cT, ad, tK) k) ⟨hx, hb, hml, hown, hts⟩ hM ⟨cw, hts _ m1, hts _ m2⟩ hpre rfl hn hl.1 hst (lv_room (m := m) (pc := pc) (ls := ls) (rest := st0) hW) hdg ⟨hR3, hR4⟩) hS hl kk
theorem w_cS (C : Cx2 Δ Γ own cc nL d ret) {idx n : Nat} {y : MethodName} {cc' : ByteArray} {nL' : Nat} {ret' : Option FieldType} (mw : MWs y cc' nL' ret' n) (lk : LK own idx y) (As : List Value) {rv : Option Value} {σ' : Mem2} (hM : Mt2 Δ d y cc' nL' ret' As σ rv σ') {st0 : List Value} (hst : st0 = As.reverse ++ st) (hn : As.length = n) (hW : (st.map fun v => v.category).sum ≤ 8) (hdg : decode cc pc = .ok (.invokestatic idx, 3)) (kk : V2 Δ Γ nL (pc + 3) ll (rv.toList ++ st) σ') : V2 Δ Γ nL pc ll st0 σ := by
  have hbl := Pp2.blind Δ As σ
  obtain ⟨l, D, cI, cT, ad, tK⟩ := Δ; obtain ⟨p, e, R, s, m, args, below, meth, c, kc, ks, Q⟩ := Γ
  intro H locs ls hP hS hl
  obtain ⟨m1, m3, m4, m5, m6⟩ := mw
  obtain ⟨hx, hb, hml, hown, hts, hSt, -, -, hR1, hR2, hR3, hR4⟩ := C
  have hpre : PreS s H (Pp2 (l, D, cI, cT, ad, tK) As σ) As := ⟨hbl, fun U hU hW => ⟨rfl, by rw [hU]; exact hP, by rw [hU]; exact hSt.go hS hW⟩⟩
  rcases lk with hw | ⟨host, hw⟩
  · have cw := callB_of (R := R) (own := own) (index := idx) (mc := 0) (ms := 0) (rm := rm d) n hts (good_in m3) rfl rfl rfl (hts _ m4) (hts _ hw) m5 ⟨hR1, by show 8 + (nL' + 11) + 64 * d ≤ R.locals; omega⟩
    exact w_back (va_runS (As := As) (rest := st) ⟨hx, hb, hml, hown, hts⟩ hM ⟨cw, hts _ m1⟩ hpre rfl hn hl.1 hst (lv_room (m := m) (pc := pc) (ls := ls) (rest := st0) hW) hdg ⟨hR3, hR4⟩) hS hl kk
  · have cw := va_cnB (R := R) (own := own) (host := host) (index := idx) (mc := 0) (ms := 0) (rm := rm d) n hts (good_in m3) rfl rfl rfl (hSt.2.2.2 _ hw) (hts _ m4) m5 ⟨hR1, by show 8 + (nL' + 11) + 64 * d ≤ R.locals; omega⟩
    exact w_back (va_runSN (As := As) (rest := st) ⟨hx, hb, hml, hown, hts⟩ hM ⟨cw, hts _ m1, trivial⟩ hpre rfl hn hl.1 hst (lv_room (m := m) (pc := pc) (ls := ls) (rest := st0) hW) hdg ⟨hR3, hR4⟩) hS hl kk
end CROWS2
section MROWS2
variable {Δ : DD2} {Γ : GG} {own : String} {cc : ByteArray} {nL d pc : Nat} {ret : Option FieldType} {ll : List (Nat × Value)} {st : List Value} {σ : Mem2}
theorem w_sub (kz : List Nat) {ll' : List (Nat × Value)} (h : lv_pick ll kz = ll') (k : V2 Δ Γ nL pc ll' st σ) : V2 Δ Γ nL pc ll st σ := by
  obtain ⟨l, D, cI, cT, ad, tK⟩ := Δ; obtain ⟨p, e, R, s, m, args, below, meth, c, kc, ks, Q⟩ := Γ
  exact fun H locs ls hP hS hl => k H locs ls hP hS (lv_sub hl kz h)
theorem w_iretF (C : Cx2 Δ Γ own cc nL d (some .int)) {q : Int32 × Mem2} {v : Int32} (hq : RetQ2 Δ Γ (some (.int q.1)) q.2) (hK : (v, σ) = q) (hdg : decode cc pc = .ok (.ireturn, 1)) : V2 Δ Γ nL pc ll [.int v] σ := by
  subst hK
  exact w_iret C hq rfl rfl hdg
theorem w_iretP (C : Cx2 Δ Γ own cc nL d (some .int)) {q : Int32} {v : Int32} (hq : RetQ2 Δ Γ (some (.int q)) σ) (hK : v = q) (hdg : decode cc pc = .ok (.ireturn, 1)) : V2 Δ Γ nL pc ll [.int v] σ := by
  subst hK
  exact w_iret C hq rfl rfl hdg
theorem w_zretF (C : Cx2 Δ Γ own cc nL d (some .boolean)) {q : Int32 × Mem2} {v : Int32} (hq : RetQ2 Δ Γ (some (.int q.1)) q.2) (hK : (v, σ) = q) (hv : narrow .boolean (.int v) = .int v) (hdg : decode cc pc = .ok (.ireturn, 1)) : V2 Δ Γ nL pc ll [.int v] σ := by
  subst hK
  exact w_zret C hq hv rfl rfl hdg
theorem w_zretP (C : Cx2 Δ Γ own cc nL d (some .boolean)) {q : Int32} {v : Int32} (hq : RetQ2 Δ Γ (some (.int q)) σ) (hK : v = q) (hv : narrow .boolean (.int v) = .int v) (hdg : decode cc pc = .ok (.ireturn, 1)) : V2 Δ Γ nL pc ll [.int v] σ := by
  subst hK
  exact w_zret C hq hv rfl rfl hdg
theorem w_lretF (C : Cx2 Δ Γ own cc nL d (some .long)) {q : Int64 × Mem2} {v : Int64} (hq : RetQ2 Δ Γ (some (.long q.1)) q.2) (hK : (v, σ) = q) (hdg : decode cc pc = .ok (.lreturn, 1)) : V2 Δ Γ nL pc ll [.long v] σ := by
  subst hK
  exact w_lret C hq rfl rfl hdg
theorem w_lretP (C : Cx2 Δ Γ own cc nL d (some .long)) {q : Int64} {v : Int64} (hq : RetQ2 Δ Γ (some (.long q)) σ) (hK : v = q) (hdg : decode cc pc = .ok (.lreturn, 1)) : V2 Δ Γ nL pc ll [.long v] σ := by
  subst hK
  exact w_lret C hq rfl rfl hdg
theorem w_vretF (C : Cx2 Δ Γ own cc nL d none) {q : Mem2} (hq : RetQ2 Δ Γ none q) (hK : σ = q) (hdg : decode cc pc = .ok (.return_, 1)) : V2 Δ Γ nL pc ll [] σ := by
  subst hK
  exact w_vret C hq rfl rfl hdg
variable {ci idx n k : Nat} {y : MethodName} {cc' : ByteArray} {nL' : Nat} {ret' : Option FieldType} {σ' : Mem2} {st0 : List Value}
theorem w_cVi (C : Cx2 Δ Γ own cc nL d ret) (mw : MWi ci y cc' nL' ret' n) (lk : LK own idx y) (As : List Value) {r : Int32} (hM : Mt2 Δ d y cc' nL' ret' (rf2 Δ k :: As) σ (some (.int r)) σ') (hK : isK2 ci k = true) (hst : st0 = As.reverse ++ rf2 Δ k :: st) (hn : As.length = n) (hW : (st.map fun v => v.category).sum ≤ 8) (hdg : decode cc pc = .ok (.invokevirtual idx, 3)) (kk : V2 Δ Γ nL (pc + 3) ll (.int r :: st) σ') : V2 Δ Γ nL pc ll st0 σ := w_cV C mw lk As hM hK hst hn hW hdg kk
theorem w_cVl (C : Cx2 Δ Γ own cc nL d ret) (mw : MWi ci y cc' nL' ret' n) (lk : LK own idx y) (As : List Value) {r : Int64} (hM : Mt2 Δ d y cc' nL' ret' (rf2 Δ k :: As) σ (some (.long r)) σ') (hK : isK2 ci k = true) (hst : st0 = As.reverse ++ rf2 Δ k :: st) (hn : As.length = n) (hW : (st.map fun v => v.category).sum ≤ 8) (hdg : decode cc pc = .ok (.invokevirtual idx, 3)) (kk : V2 Δ Γ nL (pc + 3) ll (.long r :: st) σ') : V2 Δ Γ nL pc ll st0 σ := w_cV C mw lk As hM hK hst hn hW hdg kk
theorem w_cVv (C : Cx2 Δ Γ own cc nL d ret) (mw : MWi ci y cc' nL' ret' n) (lk : LK own idx y) (As : List Value) (hM : Mt2 Δ d y cc' nL' ret' (rf2 Δ k :: As) σ none σ') (hK : isK2 ci k = true) (hst : st0 = As.reverse ++ rf2 Δ k :: st) (hn : As.length = n) (hW : (st.map fun v => v.category).sum ≤ 8) (hdg : decode cc pc = .ok (.invokevirtual idx, 3)) (kk : V2 Δ Γ nL (pc + 3) ll st σ') : V2 Δ Γ nL pc ll st0 σ := w_cV C mw lk As hM hK hst hn hW hdg kk
theorem w_cSi (C : Cx2 Δ Γ own cc nL d ret) (mw : MWs y cc' nL' ret' n) (lk : LK own idx y) (As : List Value) {r : Int32} (hM : Mt2 Δ d y cc' nL' ret' As σ (some (.int r)) σ') (hst : st0 = As.reverse ++ st) (hn : As.length = n) (hW : (st.map fun v => v.category).sum ≤ 8) (hdg : decode cc pc = .ok (.invokestatic idx, 3)) (kk : V2 Δ Γ nL (pc + 3) ll (.int r :: st) σ') : V2 Δ Γ nL pc ll st0 σ := w_cS C mw lk As hM hst hn hW hdg kk
theorem w_cSl (C : Cx2 Δ Γ own cc nL d ret) (mw : MWs y cc' nL' ret' n) (lk : LK own idx y) (As : List Value) {r : Int64} (hM : Mt2 Δ d y cc' nL' ret' As σ (some (.long r)) σ') (hst : st0 = As.reverse ++ st) (hn : As.length = n) (hW : (st.map fun v => v.category).sum ≤ 8) (hdg : decode cc pc = .ok (.invokestatic idx, 3)) (kk : V2 Δ Γ nL (pc + 3) ll (.long r :: st) σ') : V2 Δ Γ nL pc ll st0 σ := w_cS C mw lk As hM hst hn hW hdg kk
theorem w_cSv (C : Cx2 Δ Γ own cc nL d ret) (mw : MWs y cc' nL' ret' n) (lk : LK own idx y) (As : List Value) (hM : Mt2 Δ d y cc' nL' ret' As σ none σ') (hst : st0 = As.reverse ++ st) (hn : As.length = n) (hW : (st.map fun v => v.category).sum ≤ 8) (hdg : decode cc pc = .ok (.invokestatic idx, 3)) (kk : V2 Δ Γ nL (pc + 3) ll st σ') : V2 Δ Γ nL pc ll st0 σ := w_cS C mw lk As hM hst hn hW hdg kk
end MROWS2

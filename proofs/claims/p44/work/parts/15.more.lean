/-! ===== rows in the forms that the printed walks use ===== -/
def chk (ci k : Nat) : Option Unit := if isK ci k = true then some () else none
theorem chk_k {ci k : Nat} {u : Unit} (h : chk ci k = some u) : isK ci k = true := by
  unfold chk at h
  split at h
  · assumption
  · cases h
def nz (y : Int32) : Option Unit := if y = 0 then none else some ()
def nzL (y : Int64) : Option Unit := if y = 0 then none else some ()
theorem nz_ne {y : Int32} {u : Unit} (h : nz y = some u) : ¬ y = 0 := by
  intro e
  unfold nz at h
  rw [if_pos e] at h
  cases h
theorem nzL_ne {y : Int64} {u : Unit} (h : nzL y = some u) : ¬ y = 0 := by
  intro e
  unfold nzL at h
  rw [if_pos e] at h
  cases h
/-- a truth value that is handed on: 0 or 1 -/
def bz (v : Int32) : Option Unit := if v &&& 1 = v then some () else none
theorem bz_nr {v : Int32} {u : Unit} (h : bz v = some u) : narrow .boolean (.int v) = .int v := by
  unfold bz at h
  split at h
  · next e => show Value.int (v &&& 1) = .int v; rw [e]
  · cases h
theorem mapd {α β : Type} {o : Option α} {f : α → β} {y : β} (h : o.map f = some y) : ∃ z, o = some z ∧ f z = y := by
  cases o with
  | none => cases h
  | some z => exact ⟨z, rfl, Option.some.inj h⟩
theorem ifc {α : Type} {c : Prop} [Decidable c] {a b : α} {r : α} (h : (if c then a else b) = r) : (c ∧ a = r) ∨ (¬ c ∧ b = r) := by
  by_cases hc : c
  · exact Or.inl ⟨hc, ifp h hc⟩
  · exact Or.inr ⟨hc, ifn h hc⟩
theorem inc_eq {x a b : Int32} (h : a = b) : x + a = x + b := by rw [h]
theorem lp_V {S T : Type} {f : S → Option (S ⊕ T)} {W : S → Prop} {K : T → Prop} {K' : S ⊕ T → Prop} (h1 : ∀ s, W s → K' (.inl s)) (h2 : ∀ t, K t → K' (.inr t)) (main : ∀ s y, f s = some y → K' y → W s) : ∀ s t, lp f s = some t → K t → W s :=
  fun s t h => lp_ind (P := fun s t => K t → W s) (fun s t hf hk => main s (.inr t) hf (h2 t hk)) (fun s s' t hf hp hk => main s (.inl s') hf (h1 s' (hp hk))) s t h
section MROWS
variable {Δ : DD} {Γ : GG} {own : String} {cc : ByteArray} {nL d pc : Nat} {ret : Option FieldType} {ll : List (Nat × Value)} {st : List Value} {σ : Mem}
theorem v_sub (kz : List Nat) {ll' : List (Nat × Value)} (h : lv_pick ll kz = ll') (k : V Δ Γ nL pc ll' st σ) : V Δ Γ nL pc ll st σ := by
  obtain ⟨l, D, cI, cT, ad, tK⟩ := Δ; obtain ⟨p, e, R, s, m, args, below, meth, c, kc, ks, Q⟩ := Γ
  exact fun H locs ls hP hS hl => k H locs ls hP hS (lv_sub hl kz h)
theorem v_iretF (C : Cx Δ Γ own cc nL d (some .int)) {q : Int32 × Mem} {v : Int32} (hq : RetQ Δ Γ (some (.int q.1)) q.2) (hK : (v, σ) = q) (hdg : decode cc pc = .ok (.ireturn, 1)) : V Δ Γ nL pc ll [.int v] σ := by
  subst hK
  exact v_iret C hq rfl rfl hdg
theorem v_iretP (C : Cx Δ Γ own cc nL d (some .int)) {q : Int32} {v : Int32} (hq : RetQ Δ Γ (some (.int q)) σ) (hK : v = q) (hdg : decode cc pc = .ok (.ireturn, 1)) : V Δ Γ nL pc ll [.int v] σ := by
  subst hK
  exact v_iret C hq rfl rfl hdg
theorem v_zretF (C : Cx Δ Γ own cc nL d (some .boolean)) {q : Int32 × Mem} {v : Int32} (hq : RetQ Δ Γ (some (.int q.1)) q.2) (hK : (v, σ) = q) (hv : narrow .boolean (.int v) = .int v) (hdg : decode cc pc = .ok (.ireturn, 1)) : V Δ Γ nL pc ll [.int v] σ := by
  subst hK
  exact v_zret C hq hv rfl rfl hdg
theorem v_zretP (C : Cx Δ Γ own cc nL d (some .boolean)) {q : Int32} {v : Int32} (hq : RetQ Δ Γ (some (.int q)) σ) (hK : v = q) (hv : narrow .boolean (.int v) = .int v) (hdg : decode cc pc = .ok (.ireturn, 1)) : V Δ Γ nL pc ll [.int v] σ := by
  subst hK
  exact v_zret C hq hv rfl rfl hdg
theorem v_lretF (C : Cx Δ Γ own cc nL d (some .long)) {q : Int64 × Mem} {v : Int64} (hq : RetQ Δ Γ (some (.long q.1)) q.2) (hK : (v, σ) = q) (hdg : decode cc pc = .ok (.lreturn, 1)) : V Δ Γ nL pc ll [.long v] σ := by
  subst hK
  exact v_lret C hq rfl rfl hdg
theorem v_lretP (C : Cx Δ Γ own cc nL d (some .long)) {q : Int64} {v : Int64} (hq : RetQ Δ Γ (some (.long q)) σ) (hK : v = q) (hdg : decode cc pc = .ok (.lreturn, 1)) : V Δ Γ nL pc ll [.long v] σ := by
  subst hK
  exact v_lret C hq rfl rfl hdg
theorem v_vretF (C : Cx Δ Γ own cc nL d none) {q : Mem} (hq : RetQ Δ Γ none q) (hK : σ = q) (hdg : decode cc pc = .ok (.return_, 1)) : V Δ Γ nL pc ll [] σ := by
  subst hK
  exact v_vret C hq rfl rfl hdg
theorem v_aretR {rt : String} (C : Cx Δ Γ own cc nL d (some (.object rt))) {q : Option Nat × Mem} {k : Nat} (hq : RetQ Δ Γ (some (vr Δ q.1)) q.2) (hK : (some k, σ) = q) (hdg : decode cc pc = .ok (.areturn, 1)) : V Δ Γ nL pc ll [rf Δ k] σ := by
  subst hK
  exact v_aret C hq rfl (Or.inr ⟨_, rfl⟩) rfl rfl hdg
theorem v_aretN {rt : String} (C : Cx Δ Γ own cc nL d (some (.object rt))) {q : Option Nat × Mem} (hq : RetQ Δ Γ (some (vr Δ q.1)) q.2) (hK : (none, σ) = q) (hdg : decode cc pc = .ok (.areturn, 1)) : V Δ Γ nL pc ll [.null] σ := by
  subst hK
  exact v_aret C hq rfl (Or.inl rfl) rfl rfl hdg
variable {ci idx n k : Nat} {y : MethodName} {cc' : ByteArray} {nL' : Nat} {ret' : Option FieldType} {σ' : Mem} {st0 : List Value}
theorem v_cVi (C : Cx Δ Γ own cc nL d ret) (mw : MWi ci y cc' nL' ret' n) (lk : LK own idx y) (As : List Value) {r : Int32} (hM : Mt Δ d y cc' nL' ret' (rf Δ k :: As) σ (some (.int r)) σ') (hK : isK ci k = true) (hst : st0 = As.reverse ++ rf Δ k :: st) (hn : As.length = n) (hW : (st.map fun v => v.category).sum ≤ 8) (hdg : decode cc pc = .ok (.invokevirtual idx, 3)) (kk : V Δ Γ nL (pc + 3) ll (.int r :: st) σ') : V Δ Γ nL pc ll st0 σ := v_cV C mw lk As hM hK hst hn hW hdg kk
theorem v_cVl (C : Cx Δ Γ own cc nL d ret) (mw : MWi ci y cc' nL' ret' n) (lk : LK own idx y) (As : List Value) {r : Int64} (hM : Mt Δ d y cc' nL' ret' (rf Δ k :: As) σ (some (.long r)) σ') (hK : isK ci k = true) (hst : st0 = As.reverse ++ rf Δ k :: st) (hn : As.length = n) (hW : (st.map fun v => v.category).sum ≤ 8) (hdg : decode cc pc = .ok (.invokevirtual idx, 3)) (kk : V Δ Γ nL (pc + 3) ll (.long r :: st) σ') : V Δ Γ nL pc ll st0 σ := v_cV C mw lk As hM hK hst hn hW hdg kk
theorem v_cVv (C : Cx Δ Γ own cc nL d ret) (mw : MWi ci y cc' nL' ret' n) (lk : LK own idx y) (As : List Value) (hM : Mt Δ d y cc' nL' ret' (rf Δ k :: As) σ none σ') (hK : isK ci k = true) (hst : st0 = As.reverse ++ rf Δ k :: st) (hn : As.length = n) (hW : (st.map fun v => v.category).sum ≤ 8) (hdg : decode cc pc = .ok (.invokevirtual idx, 3)) (kk : V Δ Γ nL (pc + 3) ll st σ') : V Δ Γ nL pc ll st0 σ := v_cV C mw lk As hM hK hst hn hW hdg kk
theorem v_cVR (C : Cx Δ Γ own cc nL d ret) (mw : MWi ci y cc' nL' ret' n) (lk : LK own idx y) (As : List Value) {r : Nat} (hM : Mt Δ d y cc' nL' ret' (rf Δ k :: As) σ (some (vr Δ (some r))) σ') (hK : isK ci k = true) (hst : st0 = As.reverse ++ rf Δ k :: st) (hn : As.length = n) (hW : (st.map fun v => v.category).sum ≤ 8) (hdg : decode cc pc = .ok (.invokevirtual idx, 3)) (kk : V Δ Γ nL (pc + 3) ll (rf Δ r :: st) σ') : V Δ Γ nL pc ll st0 σ := v_cV C mw lk As hM hK hst hn hW hdg kk
theorem v_cVN (C : Cx Δ Γ own cc nL d ret) (mw : MWi ci y cc' nL' ret' n) (lk : LK own idx y) (As : List Value) (hM : Mt Δ d y cc' nL' ret' (rf Δ k :: As) σ (some (vr Δ none)) σ') (hK : isK ci k = true) (hst : st0 = As.reverse ++ rf Δ k :: st) (hn : As.length = n) (hW : (st.map fun v => v.category).sum ≤ 8) (hdg : decode cc pc = .ok (.invokevirtual idx, 3)) (kk : V Δ Γ nL (pc + 3) ll (.null :: st) σ') : V Δ Γ nL pc ll st0 σ := v_cV C mw lk As hM hK hst hn hW hdg kk
theorem v_cSi (C : Cx Δ Γ own cc nL d ret) (mw : MWs y cc' nL' ret' n) (lk : LK own idx y) (As : List Value) {r : Int32} (hM : Mt Δ d y cc' nL' ret' As σ (some (.int r)) σ') (hst : st0 = As.reverse ++ st) (hn : As.length = n) (hW : (st.map fun v => v.category).sum ≤ 8) (hdg : decode cc pc = .ok (.invokestatic idx, 3)) (kk : V Δ Γ nL (pc + 3) ll (.int r :: st) σ') : V Δ Γ nL pc ll st0 σ := v_cS C mw lk As hM hst hn hW hdg kk
theorem v_cSl (C : Cx Δ Γ own cc nL d ret) (mw : MWs y cc' nL' ret' n) (lk : LK own idx y) (As : List Value) {r : Int64} (hM : Mt Δ d y cc' nL' ret' As σ (some (.long r)) σ') (hst : st0 = As.reverse ++ st) (hn : As.length = n) (hW : (st.map fun v => v.category).sum ≤ 8) (hdg : decode cc pc = .ok (.invokestatic idx, 3)) (kk : V Δ Γ nL (pc + 3) ll (.long r :: st) σ') : V Δ Γ nL pc ll st0 σ := v_cS C mw lk As hM hst hn hW hdg kk
theorem v_cSv (C : Cx Δ Γ own cc nL d ret) (mw : MWs y cc' nL' ret' n) (lk : LK own idx y) (As : List Value) (hM : Mt Δ d y cc' nL' ret' As σ none σ') (hst : st0 = As.reverse ++ st) (hn : As.length = n) (hW : (st.map fun v => v.category).sum ≤ 8) (hdg : decode cc pc = .ok (.invokestatic idx, 3)) (kk : V Δ Γ nL (pc + 3) ll st σ') : V Δ Γ nL pc ll st0 σ := v_cS C mw lk As hM hst hn hW hdg kk
end MROWS

/-! ===== fields, arrays, calls, over V ===== -/
def CW (ci : Nat) (C : String) (T : u_T) (N : Nat) (ty : Nat → FieldType) : Prop := cls9[ci]? = some (C, T, N) ∧ (∀ w ∈ u_ws C T N, w ∈ lw_good) ∧ (∀ k, k < N → parseFieldDescriptor (T k).2.2.1 = some (ty k)) ∧ ∀ a, a < N → ∀ b, b < N → a ≠ b → (T a).2.1 ≠ (T b).2.1
/-- a field as a class links it: by its own words (FU), by the nest's (FN); one that may be written (.. fty) -/
def FU (own : String) (idx ci j : Nat) : Prop := ∃ (C : String) (T : u_T) (N : Nat) (ty : Nat → FieldType), CW ci C T N ty ∧ j < N ∧ (T j).1 = C ∧ ((Cond.fieldLink own idx C (T j).2.1 (T j).2.2.1 ∈ lw_good) ∨ ∃ host, Cond.fieldLinkNest own idx C (T j).2.1 (T j).2.2.1 host ∈ lw_nest)
def FP (own : String) (idx ci j : Nat) (fty : FieldType) : Prop := ∃ (C : String) (T : u_T) (N : Nat) (ty : Nat → FieldType), CW ci C T N ty ∧ j < N ∧ (T j).1 = C ∧ ((Cond.fieldLink own idx C (T j).2.1 (T j).2.2.1 ∈ lw_good) ∨ ∃ host, Cond.fieldLinkNest own idx C (T j).2.1 (T j).2.2.1 host ∈ lw_nest) ∧ (T j).2.2.2 = false ∧ parseFieldDescriptor (T j).2.2.1 = some fty
theorem cel_obj {ad : Nat → Nat} {cI cT : ClassId} {σ : Mem} {k : Nat} {q : Nat × List (Option (Option Nat))} (h : shp k = .inl q) : cel ad cI cT σ k = .inr (q.1, fvs ad σ k 0 q.2) := by unfold cel; rw [h]
theorem cel_arr {ad : Nat → Nat} {cI cT : ClassId} {σ : Mem} {k n : Nat} (h : shp k = .inr (.inl n)) : cel ad cI cT σ k = .inl (cI, n, .inl (σ.1 k)) := by unfold cel; rw [h]
theorem cel_ref {ad : Nat → Nat} {cI cT : ClassId} {σ : Mem} {k : Nat} {l : List Nat} (h : shp k = .inr (.inr l)) : cel ad cI cT σ k = .inl (cT, l.length, .inr (.inr (.inr (.inr (fun j => (l[j]?).map ad))))) := by unfold cel; rw [h]
theorem in_of {i : Int32} {n : Nat} (h : 0 ≤ i.toInt ∧ i.toInt < n) : vp_in i n := vp_in_iff.mpr h
section HROWS
variable {Δ : DD} {Γ : GG} {own : String} {cc : ByteArray} {nL d pc : Nat} {ret : Option FieldType} {ll : List (Nat × Value)} {st : List Value} {σ : Mem}
theorem v_getf (C : Cx Δ Γ own cc nL d ret) {idx ci j k : Nat} {q : Nat × List (Option (Option Nat))} {f : Option (Option Nat)} (fu : FU own idx ci j) (hs : shp k = .inl q) (hc : q.1 = ci) (hf : q.2[j]? = some f) (hdg : decode cc pc = .ok (.getfield idx, 3)) (kk : V Δ Γ nL (pc + 3) ll (fvl Δ.2.2.2.2.1 σ k j f :: st) σ) : V Δ Γ nL pc ll (rf Δ k :: st) σ := by
  obtain ⟨l, D, cI, cT, ad, tK⟩ := Δ; obtain ⟨p, e, R, s, m, args, below, meth, c, kc, ks, Q⟩ := Γ
  intro H locs ls hP hS hl
  obtain ⟨Cn, T, N, ty, cw, hj, hT, hw⟩ := fu
  have hk : k < nW := shp_lo hs (by rw [hc]; exact cls9_lt cw.1)
  have he : (wld ad cI cT σ)[k]? = some (ad k, .inr (q.1, fvs ad σ k 0 q.2)) := by rw [wld_get hk, cel_obj hs]
  have hv : (fvs ad σ k 0 q.2)[j]? = some (fvl ad σ k j f) := by
    have := fvs_get ad σ k q.2 0 j f hf
    rwa [Nat.zero_add] at this
  subst hc
  rcases hw with hw | ⟨host, hw⟩
  · exact va_get C.1 C.2.1 C.2.2.2.2.1 cw.2.1 C.2.2.2.1 C.2.2.2.2.2.1.1 hP k he cw.1 j hj (C.2.2.2.2.1 _ hw) (fun x h => by rw [hT] at h; exact h) hv hdg (kk H locs ls hP hS hl)
  · exact va_getN C.1 C.2.1 C.2.2.2.2.1 cw.2.1 C.2.2.2.1 C.2.2.2.2.2.1.1 hP k he cw.1 j hj (va_Nw.use (nest_on hw) (C.2.2.2.2.2.1.2.2.2 _ hw)) (fun x h => by rw [hT] at h; exact h) hv hdg (kk H locs ls hP hS hl)
theorem v_gI (C : Cx Δ Γ own cc nL d ret) {idx ci j k : Nat} {v : Int32} (fu : FU own idx ci j) (hg : gI ci j k σ = some v) (hdg : decode cc pc = .ok (.getfield idx, 3)) (kk : V Δ Γ nL (pc + 3) ll (.int v :: st) σ) : V Δ Γ nL pc ll (rf Δ k :: st) σ := by
  unfold gI at hg
  split at hg
  · next q hs =>
    split at hg
    · next hc =>
      cases hg
      exact v_getf C fu hs hc.1 hc.2 hdg kk
    · cases hg
  · cases hg
theorem v_gL (C : Cx Δ Γ own cc nL d ret) {idx ci j k : Nat} {v : Int64} (fu : FU own idx ci j) (hg : gL ci j k σ = some v) (hdg : decode cc pc = .ok (.getfield idx, 3)) (kk : V Δ Γ nL (pc + 3) ll (.long v :: st) σ) : V Δ Γ nL pc ll (rf Δ k :: st) σ := by
  unfold gL at hg
  split at hg
  · next q hs =>
    split at hg
    · next hc =>
      cases hg
      exact v_getf C fu hs hc.1 hc.2 hdg kk
    · cases hg
  · cases hg
theorem v_gR (C : Cx Δ Γ own cc nL d ret) {idx ci j k a : Nat} (fu : FU own idx ci j) (hg : gR ci j k = some a) (hdg : decode cc pc = .ok (.getfield idx, 3)) (kk : V Δ Γ nL (pc + 3) ll (rf Δ a :: st) σ) : V Δ Γ nL pc ll (rf Δ k :: st) σ := by
  unfold gR at hg
  split at hg
  · next q hs =>
    split at hg
    · next hc =>
      split at hg
      · next p hf =>
        cases hg
        exact v_getf C fu hs hc hf hdg kk
      · cases hg
    · cases hg
  · cases hg
theorem v_putf (C : Cx Δ Γ own cc nL d ret) {idx ci j k : Nat} {q : Nat × List (Option (Option Nat))} {fty : FieldType} {v : Value} {σ' : Mem} (fu : FP own idx ci j fty) (hs : shp k = .inl q) (hc : q.1 = ci) (hj2 : j < q.2.length) (hn : narrow fty v = v) (hfit : fits fty v = true)
    (hset : (fvs Δ.2.2.2.2.1 σ k 0 q.2).set j v = fvs Δ.2.2.2.2.1 σ' k 0 q.2) (ho : ∀ i, i ≠ k → cel Δ.2.2.2.2.1 Δ.2.2.1 Δ.2.2.2.1 σ' i = cel Δ.2.2.2.2.1 Δ.2.2.1 Δ.2.2.2.1 σ i)
    (hdg : decode cc pc = .ok (.putfield idx, 3)) (kk : V Δ Γ nL (pc + 3) ll st σ') : V Δ Γ nL pc ll (v :: rf Δ k :: st) σ := by
  obtain ⟨l, D, cI, cT, ad, tK⟩ := Δ; obtain ⟨p, e, R, s, m, args, below, meth, c, kc, ks, Q⟩ := Γ
  intro H locs ls hP hS hl
  obtain ⟨Cn, T, N, ty, cw, hj, hT, hw, hfin, hd⟩ := fu
  have hk : k < nW := shp_lo hs (by rw [hc]; exact cls9_lt cw.1)
  have he : (wld ad cI cT σ)[k]? = some (ad k, .inr (q.1, fvs ad σ k 0 q.2)) := by rw [wld_get hk, cel_obj hs]
  have hD := wld_D (cI := cI) (cT := cT) (σ := σ) C.2.2.2.2.2.1.2.1
  have hws : (wld ad cI cT σ).set k (ad k, .inr (q.1, (fvs ad σ k 0 q.2).set j v)) = wld ad cI cT σ' := wld_set hk (by rw [cel_obj hs]; dsimp only at hset; rw [hset]) ho
  subst hc
  have hlen : j < (fvs ad σ k 0 q.2).length := by rw [fvs_len]; exact hj2
  rcases hw with hw | ⟨host, hw⟩
  · exact va_put C.1 C.2.1 C.2.2.2.2.1 cw.2.1 ty cw.2.2.1 cw.2.2.2 C.2.2.2.1 C.2.2.2.2.2.1.1 hP hD hS k he cw.1 j hj (C.2.2.2.2.1 _ hw) (fun x h => by rw [hT] at h; exact h) hfin hd hn hfit hlen hdg (fun H1 locs1 hP1 _ hS1 => kk H1 locs1 ls (by rw [← hws]; exact hP1) hS1 hl)
  · exact va_putN C.1 C.2.1 C.2.2.2.2.1 cw.2.1 ty cw.2.2.1 cw.2.2.2 C.2.2.2.1 C.2.2.2.2.2.1.1 hP hD hS k he cw.1 j hj (va_Nw.use (nest_on hw) (C.2.2.2.2.2.1.2.2.2 _ hw)) (fun x h => by rw [hT] at h; exact h) hfin hd hn hfit hlen hdg (fun H1 locs1 hP1 _ hS1 => kk H1 locs1 ls (by rw [← hws]; exact hP1) hS1 hl)
theorem v_pI (C : Cx Δ Γ own cc nL d ret) {idx ci j k : Nat} {v : Int32} {σ' : Mem} (fu : FP own idx ci j .int) (hg : pI ci j k v σ = some σ') (hdg : decode cc pc = .ok (.putfield idx, 3)) (kk : V Δ Γ nL (pc + 3) ll st σ') : V Δ Γ nL pc ll (.int v :: rf Δ k :: st) σ := by
  unfold pI at hg
  split at hg
  · next q hs =>
    split at hg
    · next hc =>
      cases hg
      exact v_putf C fu hs hc.1 (List.getElem?_eq_some_iff.mp hc.2).1 rfl rfl (fvs_setI q.2 0 j hc.2 (Nat.zero_add j)) (fun i hi => cel_setI_ne hi) hdg kk
    · cases hg
  · cases hg
theorem v_pL (C : Cx Δ Γ own cc nL d ret) {idx ci j k : Nat} {v : Int64} {σ' : Mem} (fu : FP own idx ci j .long) (hg : pL ci j k v σ = some σ') (hdg : decode cc pc = .ok (.putfield idx, 3)) (kk : V Δ Γ nL (pc + 3) ll st σ') : V Δ Γ nL pc ll (.long v :: rf Δ k :: st) σ := by
  unfold pL at hg
  split at hg
  · next q hs =>
    split at hg
    · next hc =>
      cases hg
      exact v_putf C fu hs hc.1 (List.getElem?_eq_some_iff.mp hc.2).1 rfl rfl (fvs_setL q.2 0 j hc.2 (Nat.zero_add j)) (fun i hi => cel_setL_ne hi) hdg kk
    · cases hg
  · cases hg
theorem v_aI (C : Cx Δ Γ own cc nL d ret) {k : Nat} {i v : Int32} (hg : aJ k i σ = some v) (hdg : decode cc pc = .ok (.iaload, 1)) (kk : V Δ Γ nL (pc + 1) ll (.int v :: st) σ) : V Δ Γ nL pc ll (.int i :: rf Δ k :: st) σ := by
  unfold aJ at hg
  split at hg
  case isFalse => cases hg
  next hk =>
  unfold aI at hg
  split at hg
  · next n hs =>
    split at hg
    · next hc =>
      cases hg
      obtain ⟨l, D, cI, cT, ad, tK⟩ := Δ; obtain ⟨p, e, R, s, m, args, below, meth, c, kc, ks, Q⟩ := Γ
      intro H locs ls hP hS hl
      exact va_iald C.1 C.2.1 C.2.2.2.2.2.1.1 hP k 0 (by rw [wld_get hk, cel_arr hs]) rfl (in_of hc) hdg (kk H locs ls hP hS hl)
    · cases hg
  · cases hg
theorem v_sI (C : Cx Δ Γ own cc nL d ret) {k : Nat} {i v : Int32} {σ' : Mem} (hg : sJ k i v σ = some σ') (hdg : decode cc pc = .ok (.iastore, 1)) (kk : V Δ Γ nL (pc + 1) ll st σ') : V Δ Γ nL pc ll (.int v :: .int i :: rf Δ k :: st) σ := by
  unfold sJ at hg
  split at hg
  case isFalse => cases hg
  next hk =>
  unfold sI at hg
  split at hg
  · next n hs =>
    split at hg
    · next hc =>
      cases hg
      obtain ⟨l, D, cI, cT, ad, tK⟩ := Δ; obtain ⟨p, e, R, s, m, args, below, meth, c, kc, ks, Q⟩ := Γ
      intro H locs ls hP hS hl
      have hD := wld_D (cI := cI) (cT := cT) (σ := σ) C.2.2.2.2.2.1.2.1
      have hws : (wld ad cI cT σ).set k (ad k, .inl (cI, n, .inl (upd (σ.1 k) i.toNatClampNeg v))) = wld ad cI cT (setI σ k i.toNatClampNeg v) := by
        refine wld_set hk ?_ (fun i hi => cel_setI_ne hi)
        rw [cel_arr hs]
        congr 3
        congr 1
        funext y
        simp [upd, setI]
      exact va_iast C.1 C.2.1 C.2.2.2.2.2.1.1 hP hD hS k 0 (by rw [wld_get hk, cel_arr hs]) rfl (in_of hc) hdg (fun H1 locs1 hP1 _ hS1 => kk H1 locs1 ls (by rw [← hws]; exact hP1) hS1 hl)
    · cases hg
  · cases hg
theorem v_aR (C : Cx Δ Γ own cc nL d ret) {k a : Nat} {i : Int32} (hg : aR k i = some a) (hdg : decode cc pc = .ok (.aaload, 1)) (kk : V Δ Γ nL (pc + 1) ll (rf Δ a :: st) σ) : V Δ Γ nL pc ll (.int i :: rf Δ k :: st) σ := by
  unfold aR at hg
  split at hg
  · next lst hs =>
    split at hg
    · next hc =>
      obtain ⟨l, D, cI, cT, ad, tK⟩ := Δ; obtain ⟨p, e, R, s, m, args, below, meth, c, kc, ks, Q⟩ := Γ
      intro H locs ls hP hS hl
      have hk : k < nW := shp_la hs
      refine va_aldq C.1 C.2.1 C.2.2.2.2.2.1.1 hP k 1 (by rw [wld_get hk, cel_ref hs]) rfl (in_of hc) hdg ?_
      rw [hg]
      exact kk H locs ls hP hS hl
    · cases hg
  · cases hg
theorem v_aN (C : Cx Δ Γ own cc nL d ret) {k : Nat} {v : Int32} (hg : aN k = some v) (hdg : decode cc pc = .ok (.arraylength, 1)) (kk : V Δ Γ nL (pc + 1) ll (.int v :: st) σ) : V Δ Γ nL pc ll (rf Δ k :: st) σ := by
  unfold aN at hg
  split at hg
  · next hk =>
    obtain ⟨l, D, cI, cT, ad, tK⟩ := Δ; obtain ⟨p, e, R, s, m, args, below, meth, c, kc, ks, Q⟩ := Γ
    intro H locs ls hP hS hl
    split at hg
    · next n hs =>
      cases hg
      exact va_alen C.1 C.2.1 C.2.2.2.2.2.1.1 hP k 0 (by rw [wld_get hk, cel_arr hs]) rfl rfl hdg (kk H locs ls hP hS hl)
    · next n hs =>
      cases hg
      exact va_alen C.1 C.2.1 C.2.2.2.2.2.1.1 hP k 1 (by rw [wld_get hk, cel_ref hs]) rfl rfl hdg (kk H locs ls hP hS hl)
    · cases hg
  · cases hg
/-- the letters of the kinds -/
def aK (i : Int32) : Option Int32 := if 0 ≤ i.toInt ∧ i.toInt < 6 then some (klv i.toNatClampNeg) else none
theorem v_gK (C : Cx Δ Γ own cc nL d ret) {idx : Nat} {host : String} (hw : Cond.fieldLinkNest own idx "BolsterBeds" "KIND_LETTERS" "[I" host ∈ lw_nest) (hdg : decode cc pc = .ok (.getstatic idx, 3)) (kk : V Δ Γ nL (pc + 3) ll (.ref Δ.2.2.2.2.2 :: st) σ) : V Δ Γ nL pc ll st σ := by
  obtain ⟨l, D, cI, cT, ad, tK⟩ := Δ; obtain ⟨p, e, R, s, m, args, below, meth, c, kc, ks, Q⟩ := Γ
  intro H locs ls hP hS hl
  exact va_getsN C.1 C.2.1 C.2.2.2.2.2.1.2.2.1.1 hS C.2.2.2.1 (va_Nw.use (nest_on hw) (C.2.2.2.2.2.1.2.2.2 _ hw)) (fun x h => h) hdg (kk H locs ls hP hS hl)
theorem v_aK (C : Cx Δ Γ own cc nL d ret) {i v : Int32} (hg : aK i = some v) (hdg : decode cc pc = .ok (.iaload, 1)) (kk : V Δ Γ nL (pc + 1) ll (.int v :: st) σ) : V Δ Γ nL pc ll (.int i :: .ref Δ.2.2.2.2.2 :: st) σ := by
  unfold aK at hg
  split at hg
  · next hc =>
    cases hg
    obtain ⟨l, D, cI, cT, ad, tK⟩ := Δ; obtain ⟨p, e, R, s, m, args, below, meth, c, kc, ks, Q⟩ := Γ
    intro H locs ls hP hS hl
    exact va_ti C.1 C.2.1 C.2.2.2.2.2.1.2.2.1.2 hS (in_of hc) rfl hdg (kk H locs ls hP hS hl)
  · cases hg
theorem v_nK (C : Cx Δ Γ own cc nL d ret) (hdg : decode cc pc = .ok (.arraylength, 1)) (kk : V Δ Γ nL (pc + 1) ll (.int 6 :: st) σ) : V Δ Γ nL pc ll (.ref Δ.2.2.2.2.2 :: st) σ := by
  obtain ⟨l, D, cI, cT, ad, tK⟩ := Δ; obtain ⟨p, e, R, s, m, args, below, meth, c, kc, ks, Q⟩ := Γ
  intro H locs ls hP hS hl
  exact va_tlen C.1 C.2.1 C.2.2.2.2.2.1.2.2.1.2 hS rfl hdg (kk H locs ls hP hS hl)
end HROWS

/-! ===== the law's start: both objects, both rows of numbers; then its body ===== -/
theorem lk_L_171 : LK RL 171 yX8_init := Or.inl (lw_g 44 (by decide +kernel) rfl)
theorem law_make {Γ : UU} {D : va_G} {l : Launch} {cI cT : ClassId} (hD : Γ.1 = D) (hl0 : Γ.2.2.2.1 = l) (C : CU Γ RL cL_law 10 cI cT 2048 600000 7302250 84000) {b : Nat} (K : ∀ (a8 a9 v u : Nat) (w8 w9 : va_W), pX8 cI cT a8 w8 → pX8 cI cT a9 w9 → U Γ 10 27 [(4, .ref u), (3, .ref v), (2, .ref a9), (1, .ref a8), (0, .ref b)] [] (((w8 ++ w9) ++ [zI v cI 64]) ++ [zI u cI 64]) 270 3172) : U Γ 10 0 [(0, .ref b)] [] [] 0 0 := by
  refine k_new C (idx := 10) kw_X8 (lw_g 42 (by decide +kernel) rfl) (lw_g 43 (by decide +kernel) rfl) (lw_g 29 (by decide +kernel) rfl) df_X8 (Nat.le_of_ble_eq_true rfl) (Nat.le_of_ble_eq_true rfl) dL_law_0 (fun a8 => ?_)
  refine k_dup C dL_law_3 ?_
  refine k_call (idx := 171) (pc := 4) (kc := 1) (ks := 18) (q := a8) (fs := [.null, .null, .null, .null, .null, .null, .null, .int 0, .null, .null, .null, .null, .null, .int 0, .long 0, .long 0, .int 0, .null]) (st := [.ref a8]) (st0 := [.ref a8, .ref a8]) (ll := [(0, .ref b)]) (pre := []) C hD hl0 (avs := []) (n := 0) cX8_make rfl (lw_g 45 (by decide +kernel) rfl) (lw_g 46 (by decide +kernel) rfl) (lw_g 29 (by decide +kernel) rfl) (by decide +kernel) lk_L_171 rfl rfl (Nat.le_of_ble_eq_true rfl) (by decide) (by decide) (Nat.le_of_ble_eq_true rfl) (Nat.le_of_ble_eq_true rfl) dL_law_4 (fun w8 hw8 => ?_)
  show U Γ 10 7 [(0, .ref b)] [.ref a8] w8 134 1522
  refine k_astore C 1 (ll' := [(1, .ref a8), (0, .ref b)]) dL_law_7 rfl (by decide) rfl ?_
  refine k_new C (idx := 10) kw_X8 (lw_g 42 (by decide +kernel) rfl) (lw_g 43 (by decide +kernel) rfl) (lw_g 29 (by decide +kernel) rfl) df_X8 (Nat.le_of_ble_eq_true rfl) (Nat.le_of_ble_eq_true rfl) dL_law_8 (fun a9 => ?_)
  refine k_dup C dL_law_11 ?_
  refine k_call (idx := 171) (pc := 12) (kc := 135) (ks := 1540) (q := a9) (fs := [.null, .null, .null, .null, .null, .null, .null, .int 0, .null, .null, .null, .null, .null, .int 0, .long 0, .long 0, .int 0, .null]) (st := [.ref a9]) (st0 := [.ref a9, .ref a9]) (ll := [(1, .ref a8), (0, .ref b)]) (pre := w8) C hD hl0 (avs := []) (n := 0) cX8_make rfl (lw_g 45 (by decide +kernel) rfl) (lw_g 46 (by decide +kernel) rfl) (lw_g 29 (by decide +kernel) rfl) (by decide +kernel) lk_L_171 rfl rfl (Nat.le_of_ble_eq_true rfl) (by decide) (by decide) (Nat.le_of_ble_eq_true rfl) (Nat.le_of_ble_eq_true rfl) dL_law_12 (fun w9 hw9 => ?_)
  show U Γ 10 15 [(1, .ref a8), (0, .ref b)] [.ref a9] (w8 ++ w9) 268 3044
  refine k_astore C 2 (ll' := [(2, .ref a9), (1, .ref a8), (0, .ref b)]) dL_law_15 rfl (by decide) rfl ?_
  refine k_bipush C 64 dL_law_16 (by decide) ?_
  refine k_newI C (n := 64) (lw_g 73 (by decide +kernel) rfl) (by decide) (by decide) (Nat.le_of_ble_eq_true rfl) (Nat.le_of_ble_eq_true rfl) (Nat.le_of_ble_eq_true rfl) dL_law_18 (fun v => ?_)
  refine k_astore C 3 (ll' := [(3, .ref v), (2, .ref a9), (1, .ref a8), (0, .ref b)]) dL_law_20 rfl (by decide) rfl ?_
  refine k_bipush C 64 dL_law_21 (by decide) ?_
  refine k_newI C (n := 64) (lw_g 73 (by decide +kernel) rfl) (by decide) (by decide) (Nat.le_of_ble_eq_true rfl) (Nat.le_of_ble_eq_true rfl) (Nat.le_of_ble_eq_true rfl) dL_law_23 (fun u => ?_)
  refine k_astorew C 4 (ll' := [(4, .ref u), (3, .ref v), (2, .ref a9), (1, .ref a8), (0, .ref b)]) dL_law_25 (by decide) rfl ?_
  exact K a8 a9 v u w8 w9 hw8 hw9
theorem dis_of {ad : AD2} {cI cT : ClassId} {σ : Mem2} {A : Nat → Prop} (h : va_D A (wl2 ad cI cT σ)) : Dis2 ad := by
  refine ⟨fun i j hi hj e => h.1 i j _ _ (wl2_o hi) (wl2_o hj) e, fun i j hi hj e => ?_, fun i j hi hj e => ?_, fun i hi => ⟨fun e => ?_, fun e => ?_, fun e => ?_, fun e => ?_⟩, fun e => ?_⟩
  · have := h.1 _ _ _ _ (wl2_q hi) (wl2_q hj) e; omega
  · have := h.1 _ _ _ _ (wl2_o hi) (wl2_q hj) e; omega
  · have := h.1 _ _ _ _ (wl2_o hi) wl2_v e; omega
  · have := h.1 _ _ _ _ (wl2_o hi) wl2_u e; omega
  · have := h.1 _ _ _ _ (wl2_q hi) wl2_v e; omega
  · have := h.1 _ _ _ _ (wl2_q hi) wl2_u e; omega
  · have := h.1 _ _ _ _ wl2_v wl2_u e; omega
theorem ads_of {ad : AD2} {cI cT : ClassId} {σ : Mem2} {A : Nat → Prop} (h : va_D A (wl2 ad cI cT σ)) : ∀ q, adA2 ad q → A q := by
  rintro q (⟨k, hk, rfl⟩ | ⟨k, hk, rfl⟩ | rfl | rfl)
  · exact h.2 _ _ (wl2_o hk)
  · exact h.2 _ _ (wl2_q hk)
  · exact h.2 _ _ wl2_v
  · exact h.2 _ _ wl2_u
theorem u_v2 {l : Launch} {D : va_G} {cI cT : ClassId} {ad : AD2} {tK : Nat × Nat × (Nat × (Nat → Int32))} {p : Program} {e : Env} {R : Room} {s : State} {m : MethodId} {args : Array Value} {below : List Frame} {meth : Method} {c : Code} {kc ks nL pc : Nat} {Q : State → Prop} {ll : List (Nat × Value)} {st : List Value} {σ : Mem2} (hsc : σ.2.2.2.2 = tK.2.2)
    (k : Dis2 ad → (∀ q, adA2 ad q → s.heap.size ≤ q) → V2 (l, D, cI, cT, ad, tK) (p, e, R, s, m, args, below, meth, c, kc, ks, Q) nL pc ll st σ) : U (D, (fun q => s.heap.size ≤ q), p, l, e, R, s, m, args, below, meth, c, Q) nL pc ll st (wl2 ad cI cT σ) kc ks := by
  intro H locs ls hP hD hS hl
  refine va_forget (fun q hq => hS.2.2 q hq) ?_
  exact k (dis_of hD) (ads_of hD) H [] ls ⟨hsc, hP⟩ ⟨hS.1, fun q h1 h2 => hS.2.1 q h1 (fun h3 => absurd h1 (Nat.not_lt.mpr h3)), fun _ h => by cases h⟩ hl
theorem scr_T {b L : Nat} {xs : Nat → Int32} {s : State} {A : Nat → Prop} (h : va_X b L xs s s.heap) (hA : ¬ A b) : va_T .int b L (fun j => .int (xs j)) A s s.heap := by
  obtain ⟨scr, h1, h2, h3, h4, h5⟩ := h
  exact ⟨scr, h1, h2, h3, Nat.le_of_eq h4.symm, by rw [h4], h5, hA⟩

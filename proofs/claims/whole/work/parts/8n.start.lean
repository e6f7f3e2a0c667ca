/-! ===== the law's start: both objects are made, then its loop ===== -/
theorem lk_L_9 : LK RL 9 yX8_init := Or.inl (lw_g 78 (by decide +kernel) rfl)
theorem lk_L_12 : LK RL 12 yX9_init := Or.inl (lw_g 889 (by decide +kernel) rfl)
theorem law_make {Γ : UU} {D : va_G} {l : Launch} {cI cT : ClassId} (hD : Γ.1 = D) (hl0 : Γ.2.2.2.1 = l) (C : CU Γ RL cL_law 4 cI cT 2048 600000 7302250 84000) {b : Nat} (K : ∀ (a8 a9 : Nat) (w8 w9 : va_W), pX8 cI cT a8 w8 → pX9 cI cT a9 w9 → U Γ 4 16 [(2, .ref a9), (1, .ref a8), (0, .ref b)] [] (w8 ++ w9) 145 11815) : U Γ 4 0 [(0, .ref b)] [] [] 0 0 := by
  refine k_new C (idx := 7) kw_X8 (lw_g 76 (by decide +kernel) rfl) (lw_g 77 (by decide +kernel) rfl) (lw_g 62 (by decide +kernel) rfl) df_X8 (Nat.le_of_ble_eq_true rfl) (Nat.le_of_ble_eq_true rfl) dL_law_0 (fun a8 => ?_)
  refine k_dup C dL_law_3 ?_
  refine k_call (idx := 9) (pc := 4) (kc := 1) (ks := 18) (q := a8) (fs := [.null, .null, .null, .null, .null, .null, .null, .int 0, .null, .null, .null, .null, .null, .int 0, .long 0, .long 0, .int 0, .null]) (st := [.ref a8]) (st0 := [.ref a8, .ref a8]) (ll := [(0, .ref b)]) (pre := []) C hD hl0 (avs := []) (n := 0) cX8_make rfl (lw_g 79 (by decide +kernel) rfl) (lw_g 80 (by decide +kernel) rfl) (lw_g 62 (by decide +kernel) rfl) (by decide +kernel) lk_L_9 rfl rfl (Nat.le_of_ble_eq_true rfl) (by decide) (by decide) (Nat.le_of_ble_eq_true rfl) (Nat.le_of_ble_eq_true rfl) dL_law_4 (fun w8 hw8 => ?_)
  show U Γ 4 7 [(0, .ref b)] [.ref a8] w8 134 1522
  refine k_astore C 1 (ll' := [(1, .ref a8), (0, .ref b)]) dL_law_7 rfl (by decide) rfl ?_
  refine k_new C (idx := 10) kw_X9 (lw_g 887 (by decide +kernel) rfl) (lw_g 888 (by decide +kernel) rfl) (lw_g 73 (by decide +kernel) rfl) df_X9 (Nat.le_of_ble_eq_true rfl) (Nat.le_of_ble_eq_true rfl) dL_law_8 (fun a9 => ?_)
  refine k_dup C dL_law_11 ?_
  refine k_call (idx := 12) (pc := 12) (kc := 135) (ks := 1539) (q := a9) (fs := [.null, .int 0, .null, .null, .null, .null, .null, .null, .int 0, .null, .int 0, .long 0, .long 0, .int 0, .null, .null, .long 0]) (st := [.ref a9]) (st0 := [.ref a9, .ref a9]) (ll := [(1, .ref a8), (0, .ref b)]) (pre := w8) C hD hl0 (avs := []) (n := 0) cX9_make rfl (lw_g 890 (by decide +kernel) rfl) (lw_g 891 (by decide +kernel) rfl) (lw_g 73 (by decide +kernel) rfl) (by decide +kernel) lk_L_12 rfl rfl (Nat.le_of_ble_eq_true rfl) (by decide) (by decide) (Nat.le_of_ble_eq_true rfl) (Nat.le_of_ble_eq_true rfl) dL_law_12 (fun w9 hw9 => ?_)
  refine k_astore C 2 (ll' := [(2, .ref a9), (1, .ref a8), (0, .ref b)]) dL_law_15 rfl (by decide) rfl ?_
  exact K a8 a9 w8 w9 hw8 hw9
theorem whole_start {p : Program} {e : Env} {s : State} {m : MethodId} {below : List Frame} {meth : Method} {c : Code} (l : Launch) (hflags : l.flags = flags0) {b L : Nat} {xs : Nat → Int32} (hL : L ≤ 3072) (C0 : lw_At p s m meth c b L xs) : W p l e room_1 s m #[Value.ref b] below meth c s.heap [] 0 0 (lw_Z below #[Value.ref b] s) (entryFrame m ([Value.ref b] : List Value).toArray 4) := by
  obtain ⟨hx, hb, hret, hml, hown, hts, hX, hbl, hlk, hgv⟩ := C0
  obtain ⟨D, cI, cT, hK⟩ := law_K hts
  obtain ⟨tK, hKL⟩ := law_KL hts hgv
  have hN := law_N hts
  have hg : ∀ w ∈ lw_good, w.before #[Value.ref b] s = true := fun w hw => hts w (List.mem_filter.mp hw).1
  have hl := lv_entry [Value.ref b] (n := 4) (Nat.le_of_ble_eq_true rfl)
  rw [lg_entry_eq]
  have CU0 : CU (D, (fun q => s.heap.size ≤ q), p, l, e, room_1, s, m, #[Value.ref b], below, meth, c, lw_Z below #[Value.ref b] s) RL cL_law 4 cI cT 2048 600000 7302250 84000 := ⟨hx, hb, hml, hown, hg, hK, hN, fun q h => h, rfl, rfl, rfl, rfl⟩
  have key : U (D, (fun q => s.heap.size ≤ q), p, l, e, room_1, s, m, #[Value.ref b], below, meth, c, lw_Z below #[Value.ref b] s) 4 0 [(0, .ref b)] [] [] 0 0 := by
    refine law_make rfl rfl CU0 (fun a8 a9 w8 w9 h8 h9 => ?_)
    obtain ⟨ad, e8, e9, ew⟩ := w0_of h8 h9
    rw [ew]
    subst e8
    subst e9
    refine u_v (tK := tK) (fun inj ge => ?_)
    have hSt : St D cI cT ad tK s s.heap := ⟨hK, inj, hKL ad ge, hN.1⟩
    have C : Cx (l, D, cI, cT, ad, tK) (p, e, room_1, s, m, #[Value.ref b], below, meth, c, 145, 11815, lw_Z below #[Value.ref b] s) RL cL_law 4 30 (some .boolean) := ⟨hx, hb, hml, hown, hg, hSt, hret, hlk, by decide, by decide, by decide, by decide⟩
    have hX' : SX (l, D, cI, cT, ad, tK) (p, e, room_1, s, m, #[Value.ref b], below, meth, c, 145, 11815, lw_Z below #[Value.ref b] s) b L xs := ⟨hX, hbl, fun ⟨k, hk, e⟩ => absurd (show s.heap.size ≤ b from e ▸ ge k hk) (Nat.not_le.mpr hbl)⟩
    refine v_iconst C 0 dL_law_16 rfl ?_
    refine v_istore_n C 3 dL_law_17 rfl (by decide) rfl ?_
    refine law_loop C hX' hL (fun x σ => ?_) L 0 σ0 (by omega) (Nat.zero_le _) inv0
    refine v_iconst C 1 dL_law_1324 rfl ?_
    intro H locs ls hP hS hl
    refine va_forget (fun q hq => ?_) ?_
    · obtain ⟨k, hk, e⟩ := hS.2.2 q hq
      rw [e]
      exact ge k hk
    · exact W.widen (k := 600000) (n := 7302250) (by decide) (by decide) (lw_ret hx hb hret hlk dL_law_1325)
  exact key s.heap [] _ (fun k q h => by simp at h) ⟨fun i j p q h => by simp at h, fun k q h => by simp at h⟩ va_S.rf hl

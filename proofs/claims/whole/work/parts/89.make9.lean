theorem kw_X9 : CW 9 RX9 TX9 17 tyX9 := ⟨rfl, by decide +kernel, tyX9_ok, nmX9⟩
theorem fc_X9_7 : FC0 RX9 7 9 0 (.array .int) := ⟨_, _, _, _, kw_X9, by decide, rfl, (lw_g 893 (by decide +kernel) rfl), rfl, by decide +kernel⟩
theorem fc_X9_13 : FC0 RX9 13 9 2 (.array .int) := ⟨_, _, _, _, kw_X9, by decide, rfl, (lw_g 895 (by decide +kernel) rfl), rfl, by decide +kernel⟩
theorem fc_X9_16 : FC0 RX9 16 9 3 (.array .int) := ⟨_, _, _, _, kw_X9, by decide, rfl, (lw_g 896 (by decide +kernel) rfl), rfl, by decide +kernel⟩
theorem fc_X9_19 : FC0 RX9 19 9 4 (.array .int) := ⟨_, _, _, _, kw_X9, by decide, rfl, (lw_g 897 (by decide +kernel) rfl), rfl, by decide +kernel⟩
theorem fc_X9_22 : FC0 RX9 22 9 5 (.array .int) := ⟨_, _, _, _, kw_X9, by decide, rfl, (lw_g 898 (by decide +kernel) rfl), rfl, by decide +kernel⟩
theorem fc_X9_25 : FC0 RX9 25 9 6 (.array .int) := ⟨_, _, _, _, kw_X9, by decide, rfl, (lw_g 899 (by decide +kernel) rfl), rfl, by decide +kernel⟩
theorem fc_X9_28 : FC0 RX9 28 9 7 (.array .int) := ⟨_, _, _, _, kw_X9, by decide, rfl, (lw_g 900 (by decide +kernel) rfl), rfl, by decide +kernel⟩
theorem fc_X9_31 : FC0 RX9 31 9 9 (.array .int) := ⟨_, _, _, _, kw_X9, by decide, rfl, (lw_g 902 (by decide +kernel) rfl), rfl, by decide +kernel⟩
theorem fc_X9_34 : FC0 RX9 34 9 12 .long := ⟨_, _, _, _, kw_X9, by decide, rfl, (lw_g 905 (by decide +kernel) rfl), rfl, by decide +kernel⟩
theorem fc_X9_38 : FC0 RX9 38 9 14 (.array .int) := ⟨_, _, _, _, kw_X9, by decide, rfl, (lw_g 907 (by decide +kernel) rfl), rfl, by decide +kernel⟩
theorem fc_X9_41 : FC0 RX9 41 9 15 (.array .int) := ⟨_, _, _, _, kw_X9, by decide, rfl, (lw_g 908 (by decide +kernel) rfl), rfl, by decide +kernel⟩
def pX9 (cI cT : ClassId) (a : Nat) (w : va_W) : Prop := ∃ (q1 : Nat) (q2 : Nat) (q3 : Nat) (q4 : Nat) (q5 : Nat) (q6 : Nat) (q7 : Nat) (q8 : Nat) (q9 : Nat) (q10 : Nat), w = [(a, .inr (9, [.ref q1, .int 0, .ref q2, .ref q3, .ref q4, .ref q5, .ref q6, .ref q7, .int 0, .ref q8, .int 0, .long 0, .long 1, .int 0, .ref q9, .ref q10, .long 0])), (q1, .inl (cI, 7304, .inl (fun _ => (0 : Int32)))), (q2, .inl (cI, 3, .inl (upd (upd (upd (fun _ => (0 : Int32)) 0 (-1)) 1 (-1)) 2 (-1)))), (q3, .inl (cI, 240, .inl (fun _ => (0 : Int32)))), (q4, .inl (cI, 6, .inl (upd (upd (upd (upd (upd (upd (fun _ => (0 : Int32)) 0 (-1)) 1 (-1)) 2 (-1)) 3 (-1)) 4 (-1)) 5 (-1)))), (q5, .inl (cI, 240, .inl (fun _ => (0 : Int32)))), (q6, .inl (cI, 4, .inl (upd (upd (upd (upd (fun _ => (0 : Int32)) 0 (-1)) 1 (-1)) 2 (-1)) 3 (-1)))), (q7, .inl (cI, 40, .inl (fun _ => (0 : Int32)))), (q8, .inl (cI, 6, .inl (fun _ => (0 : Int32)))), (q9, .inl (cI, 32, .inl (fun _ => (0 : Int32)))), (q10, .inl (cI, 2401, .inl (fun _ => (0 : Int32))))]
set_option maxRecDepth 8000 in
theorem cX9_make {l : Launch} {D : va_G} {cI cT : ClassId} : Mk l D cI cT yX9_init cX9_init 2 9 [.null, .int 0, .null, .null, .null, .null, .null, .null, .int 0, .null, .int 0, .long 0, .long 0, .int 0, .null, .null, .long 0] [] 1 10 10276 12 (pX9 cI cT) := by
  refine mk_of (by decide +kernel) rfl (fun a => Nat.le_of_ble_eq_true rfl) (fun Γ a hD hl0 C hr => ?_)
  show U Γ 2 0 [(0, .ref a)] [] [(a, .inr (9, [.null, .int 0, .null, .null, .null, .null, .null, .null, .int 0, .null, .int 0, .long 0, .long 0, .int 0, .null, .null, .long 0]))] 0 0
  refine k_aload C (i := 0) 0 0 (by decide +kernel) rfl rfl ?_
  refine k_obj C (idx := 1) (lw_g 892 (by decide +kernel) rfl) (lw_g 82 (by decide +kernel) rfl) (lw_g 83 (by decide +kernel) rfl) (by decide) (by decide) (by decide +kernel) ?_
  show U Γ 2 4 [(0, .ref a)] [] ([(a, .inr (9, [.null, .int 0, .null, .null, .null, .null, .null, .null, .int 0, .null, .int 0, .long 0, .long 0, .int 0, .null, .null, .long 0]))]) 0 0
  refine k_aload C (i := 0) 0 0 (by decide +kernel) rfl rfl ?_
  refine k_sipush C (n := 7304) (7304) (by decide +kernel) (by decide) ?_
  refine k_newI C (n := 7304) (lw_g 107 (by decide +kernel) rfl) (by decide) (by decide) (Nat.le_of_ble_eq_true rfl) (Nat.le_of_ble_eq_true rfl) (Nat.le_of_ble_eq_true rfl) (by decide +kernel) (fun q1 => ?_)
  show U Γ 2 10 [(0, .ref a)] [.ref q1, .ref a] ([(a, .inr (9, [.null, .int 0, .null, .null, .null, .null, .null, .null, .int 0, .null, .int 0, .long 0, .long 0, .int 0, .null, .null, .long 0])), (q1, .inl (cI, 7304, .inl (fun _ => (0 : Int32))))]) 1 7304
  refine k_put C hr (idx := 7) (q0 := 0) (fs := [.null, .int 0, .null, .null, .null, .null, .null, .null, .int 0, .null, .int 0, .long 0, .long 0, .int 0, .null, .null, .long 0]) fc_X9_7 rfl rfl rfl (Nat.le_of_ble_eq_true rfl) rfl (by decide +kernel) ?_
  show U Γ 2 13 [(0, .ref a)] [] ([(a, .inr (9, [.ref q1, .int 0, .null, .null, .null, .null, .null, .null, .int 0, .null, .int 0, .long 0, .long 0, .int 0, .null, .null, .long 0])), (q1, .inl (cI, 7304, .inl (fun _ => (0 : Int32))))]) 1 7304
  refine k_aload C (i := 0) 0 0 (by decide +kernel) rfl rfl ?_
  refine k_iconst C (n := 3) (3) (by decide +kernel) (by decide) ?_
  refine k_newI C (n := 3) (lw_g 107 (by decide +kernel) rfl) (by decide) (by decide) (Nat.le_of_ble_eq_true rfl) (Nat.le_of_ble_eq_true rfl) (Nat.le_of_ble_eq_true rfl) (by decide +kernel) (fun q2 => ?_)
  show U Γ 2 17 [(0, .ref a)] [.ref q2, .ref a] ([(a, .inr (9, [.ref q1, .int 0, .null, .null, .null, .null, .null, .null, .int 0, .null, .int 0, .long 0, .long 0, .int 0, .null, .null, .long 0])), (q1, .inl (cI, 7304, .inl (fun _ => (0 : Int32)))), (q2, .inl (cI, 3, .inl (fun _ => (0 : Int32))))]) 2 7307
  refine k_put C hr (idx := 13) (q0 := 0) (fs := [.ref q1, .int 0, .null, .null, .null, .null, .null, .null, .int 0, .null, .int 0, .long 0, .long 0, .int 0, .null, .null, .long 0]) fc_X9_13 rfl rfl rfl (Nat.le_of_ble_eq_true rfl) rfl (by decide +kernel) ?_
  show U Γ 2 20 [(0, .ref a)] [] ([(a, .inr (9, [.ref q1, .int 0, .ref q2, .null, .null, .null, .null, .null, .int 0, .null, .int 0, .long 0, .long 0, .int 0, .null, .null, .long 0])), (q1, .inl (cI, 7304, .inl (fun _ => (0 : Int32)))), (q2, .inl (cI, 3, .inl (fun _ => (0 : Int32))))]) 2 7307
  refine k_aload C (i := 0) 0 0 (by decide +kernel) rfl rfl ?_
  refine k_sipush C (n := 240) (240) (by decide +kernel) (by decide) ?_
  refine k_newI C (n := 240) (lw_g 107 (by decide +kernel) rfl) (by decide) (by decide) (Nat.le_of_ble_eq_true rfl) (Nat.le_of_ble_eq_true rfl) (Nat.le_of_ble_eq_true rfl) (by decide +kernel) (fun q3 => ?_)
  show U Γ 2 26 [(0, .ref a)] [.ref q3, .ref a] ([(a, .inr (9, [.ref q1, .int 0, .ref q2, .null, .null, .null, .null, .null, .int 0, .null, .int 0, .long 0, .long 0, .int 0, .null, .null, .long 0])), (q1, .inl (cI, 7304, .inl (fun _ => (0 : Int32)))), (q2, .inl (cI, 3, .inl (fun _ => (0 : Int32)))), (q3, .inl (cI, 240, .inl (fun _ => (0 : Int32))))]) 3 7547
  refine k_put C hr (idx := 16) (q0 := 0) (fs := [.ref q1, .int 0, .ref q2, .null, .null, .null, .null, .null, .int 0, .null, .int 0, .long 0, .long 0, .int 0, .null, .null, .long 0]) fc_X9_16 rfl rfl rfl (Nat.le_of_ble_eq_true rfl) rfl (by decide +kernel) ?_
  show U Γ 2 29 [(0, .ref a)] [] ([(a, .inr (9, [.ref q1, .int 0, .ref q2, .ref q3, .null, .null, .null, .null, .int 0, .null, .int 0, .long 0, .long 0, .int 0, .null, .null, .long 0])), (q1, .inl (cI, 7304, .inl (fun _ => (0 : Int32)))), (q2, .inl (cI, 3, .inl (fun _ => (0 : Int32)))), (q3, .inl (cI, 240, .inl (fun _ => (0 : Int32))))]) 3 7547
  refine k_aload C (i := 0) 0 0 (by decide +kernel) rfl rfl ?_
  refine k_bipush C (n := 6) (6) (by decide +kernel) (by decide) ?_
  refine k_newI C (n := 6) (lw_g 107 (by decide +kernel) rfl) (by decide) (by decide) (Nat.le_of_ble_eq_true rfl) (Nat.le_of_ble_eq_true rfl) (Nat.le_of_ble_eq_true rfl) (by decide +kernel) (fun q4 => ?_)
  show U Γ 2 34 [(0, .ref a)] [.ref q4, .ref a] ([(a, .inr (9, [.ref q1, .int 0, .ref q2, .ref q3, .null, .null, .null, .null, .int 0, .null, .int 0, .long 0, .long 0, .int 0, .null, .null, .long 0])), (q1, .inl (cI, 7304, .inl (fun _ => (0 : Int32)))), (q2, .inl (cI, 3, .inl (fun _ => (0 : Int32)))), (q3, .inl (cI, 240, .inl (fun _ => (0 : Int32)))), (q4, .inl (cI, 6, .inl (fun _ => (0 : Int32))))]) 4 7553
  refine k_put C hr (idx := 19) (q0 := 0) (fs := [.ref q1, .int 0, .ref q2, .ref q3, .null, .null, .null, .null, .int 0, .null, .int 0, .long 0, .long 0, .int 0, .null, .null, .long 0]) fc_X9_19 rfl rfl rfl (Nat.le_of_ble_eq_true rfl) rfl (by decide +kernel) ?_
  show U Γ 2 37 [(0, .ref a)] [] ([(a, .inr (9, [.ref q1, .int 0, .ref q2, .ref q3, .ref q4, .null, .null, .null, .int 0, .null, .int 0, .long 0, .long 0, .int 0, .null, .null, .long 0])), (q1, .inl (cI, 7304, .inl (fun _ => (0 : Int32)))), (q2, .inl (cI, 3, .inl (fun _ => (0 : Int32)))), (q3, .inl (cI, 240, .inl (fun _ => (0 : Int32)))), (q4, .inl (cI, 6, .inl (fun _ => (0 : Int32))))]) 4 7553
  refine k_aload C (i := 0) 0 0 (by decide +kernel) rfl rfl ?_
  refine k_sipush C (n := 240) (240) (by decide +kernel) (by decide) ?_
  refine k_newI C (n := 240) (lw_g 107 (by decide +kernel) rfl) (by decide) (by decide) (Nat.le_of_ble_eq_true rfl) (Nat.le_of_ble_eq_true rfl) (Nat.le_of_ble_eq_true rfl) (by decide +kernel) (fun q5 => ?_)
  show U Γ 2 43 [(0, .ref a)] [.ref q5, .ref a] ([(a, .inr (9, [.ref q1, .int 0, .ref q2, .ref q3, .ref q4, .null, .null, .null, .int 0, .null, .int 0, .long 0, .long 0, .int 0, .null, .null, .long 0])), (q1, .inl (cI, 7304, .inl (fun _ => (0 : Int32)))), (q2, .inl (cI, 3, .inl (fun _ => (0 : Int32)))), (q3, .inl (cI, 240, .inl (fun _ => (0 : Int32)))), (q4, .inl (cI, 6, .inl (fun _ => (0 : Int32)))), (q5, .inl (cI, 240, .inl (fun _ => (0 : Int32))))]) 5 7793
  refine k_put C hr (idx := 22) (q0 := 0) (fs := [.ref q1, .int 0, .ref q2, .ref q3, .ref q4, .null, .null, .null, .int 0, .null, .int 0, .long 0, .long 0, .int 0, .null, .null, .long 0]) fc_X9_22 rfl rfl rfl (Nat.le_of_ble_eq_true rfl) rfl (by decide +kernel) ?_
  show U Γ 2 46 [(0, .ref a)] [] ([(a, .inr (9, [.ref q1, .int 0, .ref q2, .ref q3, .ref q4, .ref q5, .null, .null, .int 0, .null, .int 0, .long 0, .long 0, .int 0, .null, .null, .long 0])), (q1, .inl (cI, 7304, .inl (fun _ => (0 : Int32)))), (q2, .inl (cI, 3, .inl (fun _ => (0 : Int32)))), (q3, .inl (cI, 240, .inl (fun _ => (0 : Int32)))), (q4, .inl (cI, 6, .inl (fun _ => (0 : Int32)))), (q5, .inl (cI, 240, .inl (fun _ => (0 : Int32))))]) 5 7793
  refine k_aload C (i := 0) 0 0 (by decide +kernel) rfl rfl ?_
  refine k_iconst C (n := 4) (4) (by decide +kernel) (by decide) ?_
  refine k_newI C (n := 4) (lw_g 107 (by decide +kernel) rfl) (by decide) (by decide) (Nat.le_of_ble_eq_true rfl) (Nat.le_of_ble_eq_true rfl) (Nat.le_of_ble_eq_true rfl) (by decide +kernel) (fun q6 => ?_)
  show U Γ 2 50 [(0, .ref a)] [.ref q6, .ref a] ([(a, .inr (9, [.ref q1, .int 0, .ref q2, .ref q3, .ref q4, .ref q5, .null, .null, .int 0, .null, .int 0, .long 0, .long 0, .int 0, .null, .null, .long 0])), (q1, .inl (cI, 7304, .inl (fun _ => (0 : Int32)))), (q2, .inl (cI, 3, .inl (fun _ => (0 : Int32)))), (q3, .inl (cI, 240, .inl (fun _ => (0 : Int32)))), (q4, .inl (cI, 6, .inl (fun _ => (0 : Int32)))), (q5, .inl (cI, 240, .inl (fun _ => (0 : Int32)))), (q6, .inl (cI, 4, .inl (fun _ => (0 : Int32))))]) 6 7797
  refine k_put C hr (idx := 25) (q0 := 0) (fs := [.ref q1, .int 0, .ref q2, .ref q3, .ref q4, .ref q5, .null, .null, .int 0, .null, .int 0, .long 0, .long 0, .int 0, .null, .null, .long 0]) fc_X9_25 rfl rfl rfl (Nat.le_of_ble_eq_true rfl) rfl (by decide +kernel) ?_
  show U Γ 2 53 [(0, .ref a)] [] ([(a, .inr (9, [.ref q1, .int 0, .ref q2, .ref q3, .ref q4, .ref q5, .ref q6, .null, .int 0, .null, .int 0, .long 0, .long 0, .int 0, .null, .null, .long 0])), (q1, .inl (cI, 7304, .inl (fun _ => (0 : Int32)))), (q2, .inl (cI, 3, .inl (fun _ => (0 : Int32)))), (q3, .inl (cI, 240, .inl (fun _ => (0 : Int32)))), (q4, .inl (cI, 6, .inl (fun _ => (0 : Int32)))), (q5, .inl (cI, 240, .inl (fun _ => (0 : Int32)))), (q6, .inl (cI, 4, .inl (fun _ => (0 : Int32))))]) 6 7797
  refine k_aload C (i := 0) 0 0 (by decide +kernel) rfl rfl ?_
  refine k_bipush C (n := 40) (40) (by decide +kernel) (by decide) ?_
  refine k_newI C (n := 40) (lw_g 107 (by decide +kernel) rfl) (by decide) (by decide) (Nat.le_of_ble_eq_true rfl) (Nat.le_of_ble_eq_true rfl) (Nat.le_of_ble_eq_true rfl) (by decide +kernel) (fun q7 => ?_)
  show U Γ 2 58 [(0, .ref a)] [.ref q7, .ref a] ([(a, .inr (9, [.ref q1, .int 0, .ref q2, .ref q3, .ref q4, .ref q5, .ref q6, .null, .int 0, .null, .int 0, .long 0, .long 0, .int 0, .null, .null, .long 0])), (q1, .inl (cI, 7304, .inl (fun _ => (0 : Int32)))), (q2, .inl (cI, 3, .inl (fun _ => (0 : Int32)))), (q3, .inl (cI, 240, .inl (fun _ => (0 : Int32)))), (q4, .inl (cI, 6, .inl (fun _ => (0 : Int32)))), (q5, .inl (cI, 240, .inl (fun _ => (0 : Int32)))), (q6, .inl (cI, 4, .inl (fun _ => (0 : Int32)))), (q7, .inl (cI, 40, .inl (fun _ => (0 : Int32))))]) 7 7837
  refine k_put C hr (idx := 28) (q0 := 0) (fs := [.ref q1, .int 0, .ref q2, .ref q3, .ref q4, .ref q5, .ref q6, .null, .int 0, .null, .int 0, .long 0, .long 0, .int 0, .null, .null, .long 0]) fc_X9_28 rfl rfl rfl (Nat.le_of_ble_eq_true rfl) rfl (by decide +kernel) ?_
  show U Γ 2 61 [(0, .ref a)] [] ([(a, .inr (9, [.ref q1, .int 0, .ref q2, .ref q3, .ref q4, .ref q5, .ref q6, .ref q7, .int 0, .null, .int 0, .long 0, .long 0, .int 0, .null, .null, .long 0])), (q1, .inl (cI, 7304, .inl (fun _ => (0 : Int32)))), (q2, .inl (cI, 3, .inl (fun _ => (0 : Int32)))), (q3, .inl (cI, 240, .inl (fun _ => (0 : Int32)))), (q4, .inl (cI, 6, .inl (fun _ => (0 : Int32)))), (q5, .inl (cI, 240, .inl (fun _ => (0 : Int32)))), (q6, .inl (cI, 4, .inl (fun _ => (0 : Int32)))), (q7, .inl (cI, 40, .inl (fun _ => (0 : Int32))))]) 7 7837
  refine k_aload C (i := 0) 0 0 (by decide +kernel) rfl rfl ?_
  refine k_bipush C (n := 6) (6) (by decide +kernel) (by decide) ?_
  refine k_newI C (n := 6) (lw_g 107 (by decide +kernel) rfl) (by decide) (by decide) (Nat.le_of_ble_eq_true rfl) (Nat.le_of_ble_eq_true rfl) (Nat.le_of_ble_eq_true rfl) (by decide +kernel) (fun q8 => ?_)
  show U Γ 2 66 [(0, .ref a)] [.ref q8, .ref a] ([(a, .inr (9, [.ref q1, .int 0, .ref q2, .ref q3, .ref q4, .ref q5, .ref q6, .ref q7, .int 0, .null, .int 0, .long 0, .long 0, .int 0, .null, .null, .long 0])), (q1, .inl (cI, 7304, .inl (fun _ => (0 : Int32)))), (q2, .inl (cI, 3, .inl (fun _ => (0 : Int32)))), (q3, .inl (cI, 240, .inl (fun _ => (0 : Int32)))), (q4, .inl (cI, 6, .inl (fun _ => (0 : Int32)))), (q5, .inl (cI, 240, .inl (fun _ => (0 : Int32)))), (q6, .inl (cI, 4, .inl (fun _ => (0 : Int32)))), (q7, .inl (cI, 40, .inl (fun _ => (0 : Int32)))), (q8, .inl (cI, 6, .inl (fun _ => (0 : Int32))))]) 8 7843
  refine k_put C hr (idx := 31) (q0 := 0) (fs := [.ref q1, .int 0, .ref q2, .ref q3, .ref q4, .ref q5, .ref q6, .ref q7, .int 0, .null, .int 0, .long 0, .long 0, .int 0, .null, .null, .long 0]) fc_X9_31 rfl rfl rfl (Nat.le_of_ble_eq_true rfl) rfl (by decide +kernel) ?_
  show U Γ 2 69 [(0, .ref a)] [] ([(a, .inr (9, [.ref q1, .int 0, .ref q2, .ref q3, .ref q4, .ref q5, .ref q6, .ref q7, .int 0, .ref q8, .int 0, .long 0, .long 0, .int 0, .null, .null, .long 0])), (q1, .inl (cI, 7304, .inl (fun _ => (0 : Int32)))), (q2, .inl (cI, 3, .inl (fun _ => (0 : Int32)))), (q3, .inl (cI, 240, .inl (fun _ => (0 : Int32)))), (q4, .inl (cI, 6, .inl (fun _ => (0 : Int32)))), (q5, .inl (cI, 240, .inl (fun _ => (0 : Int32)))), (q6, .inl (cI, 4, .inl (fun _ => (0 : Int32)))), (q7, .inl (cI, 40, .inl (fun _ => (0 : Int32)))), (q8, .inl (cI, 6, .inl (fun _ => (0 : Int32))))]) 8 7843
  refine k_aload C (i := 0) 0 0 (by decide +kernel) rfl rfl ?_
  refine k_lconst C (n := 1) 1 (by decide +kernel) (by decide) ?_
  refine k_put C hr (idx := 34) (q0 := 0) (fs := [.ref q1, .int 0, .ref q2, .ref q3, .ref q4, .ref q5, .ref q6, .ref q7, .int 0, .ref q8, .int 0, .long 0, .long 0, .int 0, .null, .null, .long 0]) fc_X9_34 rfl rfl rfl (Nat.le_of_ble_eq_true rfl) rfl (by decide +kernel) ?_
  show U Γ 2 74 [(0, .ref a)] [] ([(a, .inr (9, [.ref q1, .int 0, .ref q2, .ref q3, .ref q4, .ref q5, .ref q6, .ref q7, .int 0, .ref q8, .int 0, .long 0, .long 1, .int 0, .null, .null, .long 0])), (q1, .inl (cI, 7304, .inl (fun _ => (0 : Int32)))), (q2, .inl (cI, 3, .inl (fun _ => (0 : Int32)))), (q3, .inl (cI, 240, .inl (fun _ => (0 : Int32)))), (q4, .inl (cI, 6, .inl (fun _ => (0 : Int32)))), (q5, .inl (cI, 240, .inl (fun _ => (0 : Int32)))), (q6, .inl (cI, 4, .inl (fun _ => (0 : Int32)))), (q7, .inl (cI, 40, .inl (fun _ => (0 : Int32)))), (q8, .inl (cI, 6, .inl (fun _ => (0 : Int32))))]) 8 7843
  refine k_aload C (i := 0) 0 0 (by decide +kernel) rfl rfl ?_
  refine k_bipush C (n := 32) (32) (by decide +kernel) (by decide) ?_
  refine k_newI C (n := 32) (lw_g 107 (by decide +kernel) rfl) (by decide) (by decide) (Nat.le_of_ble_eq_true rfl) (Nat.le_of_ble_eq_true rfl) (Nat.le_of_ble_eq_true rfl) (by decide +kernel) (fun q9 => ?_)
  show U Γ 2 79 [(0, .ref a)] [.ref q9, .ref a] ([(a, .inr (9, [.ref q1, .int 0, .ref q2, .ref q3, .ref q4, .ref q5, .ref q6, .ref q7, .int 0, .ref q8, .int 0, .long 0, .long 1, .int 0, .null, .null, .long 0])), (q1, .inl (cI, 7304, .inl (fun _ => (0 : Int32)))), (q2, .inl (cI, 3, .inl (fun _ => (0 : Int32)))), (q3, .inl (cI, 240, .inl (fun _ => (0 : Int32)))), (q4, .inl (cI, 6, .inl (fun _ => (0 : Int32)))), (q5, .inl (cI, 240, .inl (fun _ => (0 : Int32)))), (q6, .inl (cI, 4, .inl (fun _ => (0 : Int32)))), (q7, .inl (cI, 40, .inl (fun _ => (0 : Int32)))), (q8, .inl (cI, 6, .inl (fun _ => (0 : Int32)))), (q9, .inl (cI, 32, .inl (fun _ => (0 : Int32))))]) 9 7875
  refine k_put C hr (idx := 38) (q0 := 0) (fs := [.ref q1, .int 0, .ref q2, .ref q3, .ref q4, .ref q5, .ref q6, .ref q7, .int 0, .ref q8, .int 0, .long 0, .long 1, .int 0, .null, .null, .long 0]) fc_X9_38 rfl rfl rfl (Nat.le_of_ble_eq_true rfl) rfl (by decide +kernel) ?_
  show U Γ 2 82 [(0, .ref a)] [] ([(a, .inr (9, [.ref q1, .int 0, .ref q2, .ref q3, .ref q4, .ref q5, .ref q6, .ref q7, .int 0, .ref q8, .int 0, .long 0, .long 1, .int 0, .ref q9, .null, .long 0])), (q1, .inl (cI, 7304, .inl (fun _ => (0 : Int32)))), (q2, .inl (cI, 3, .inl (fun _ => (0 : Int32)))), (q3, .inl (cI, 240, .inl (fun _ => (0 : Int32)))), (q4, .inl (cI, 6, .inl (fun _ => (0 : Int32)))), (q5, .inl (cI, 240, .inl (fun _ => (0 : Int32)))), (q6, .inl (cI, 4, .inl (fun _ => (0 : Int32)))), (q7, .inl (cI, 40, .inl (fun _ => (0 : Int32)))), (q8, .inl (cI, 6, .inl (fun _ => (0 : Int32)))), (q9, .inl (cI, 32, .inl (fun _ => (0 : Int32))))]) 9 7875
  refine k_aload C (i := 0) 0 0 (by decide +kernel) rfl rfl ?_
  refine k_sipush C (n := 2401) (2401) (by decide +kernel) (by decide) ?_
  refine k_newI C (n := 2401) (lw_g 107 (by decide +kernel) rfl) (by decide) (by decide) (Nat.le_of_ble_eq_true rfl) (Nat.le_of_ble_eq_true rfl) (Nat.le_of_ble_eq_true rfl) (by decide +kernel) (fun q10 => ?_)
  show U Γ 2 88 [(0, .ref a)] [.ref q10, .ref a] ([(a, .inr (9, [.ref q1, .int 0, .ref q2, .ref q3, .ref q4, .ref q5, .ref q6, .ref q7, .int 0, .ref q8, .int 0, .long 0, .long 1, .int 0, .ref q9, .null, .long 0])), (q1, .inl (cI, 7304, .inl (fun _ => (0 : Int32)))), (q2, .inl (cI, 3, .inl (fun _ => (0 : Int32)))), (q3, .inl (cI, 240, .inl (fun _ => (0 : Int32)))), (q4, .inl (cI, 6, .inl (fun _ => (0 : Int32)))), (q5, .inl (cI, 240, .inl (fun _ => (0 : Int32)))), (q6, .inl (cI, 4, .inl (fun _ => (0 : Int32)))), (q7, .inl (cI, 40, .inl (fun _ => (0 : Int32)))), (q8, .inl (cI, 6, .inl (fun _ => (0 : Int32)))), (q9, .inl (cI, 32, .inl (fun _ => (0 : Int32)))), (q10, .inl (cI, 2401, .inl (fun _ => (0 : Int32))))]) 10 10276
  refine k_put C hr (idx := 41) (q0 := 0) (fs := [.ref q1, .int 0, .ref q2, .ref q3, .ref q4, .ref q5, .ref q6, .ref q7, .int 0, .ref q8, .int 0, .long 0, .long 1, .int 0, .ref q9, .null, .long 0]) fc_X9_41 rfl rfl rfl (Nat.le_of_ble_eq_true rfl) rfl (by decide +kernel) ?_
  show U Γ 2 91 [(0, .ref a)] [] ([(a, .inr (9, [.ref q1, .int 0, .ref q2, .ref q3, .ref q4, .ref q5, .ref q6, .ref q7, .int 0, .ref q8, .int 0, .long 0, .long 1, .int 0, .ref q9, .ref q10, .long 0])), (q1, .inl (cI, 7304, .inl (fun _ => (0 : Int32)))), (q2, .inl (cI, 3, .inl (fun _ => (0 : Int32)))), (q3, .inl (cI, 240, .inl (fun _ => (0 : Int32)))), (q4, .inl (cI, 6, .inl (fun _ => (0 : Int32)))), (q5, .inl (cI, 240, .inl (fun _ => (0 : Int32)))), (q6, .inl (cI, 4, .inl (fun _ => (0 : Int32)))), (q7, .inl (cI, 40, .inl (fun _ => (0 : Int32)))), (q8, .inl (cI, 6, .inl (fun _ => (0 : Int32)))), (q9, .inl (cI, 32, .inl (fun _ => (0 : Int32)))), (q10, .inl (cI, 2401, .inl (fun _ => (0 : Int32))))]) 10 10276
  refine k_iconst C (n := 0) (0) (by decide +kernel) (by decide) ?_
  refine k_istore_n C (z := 1) 1 (ll' := [(1, .int 0), (0, .ref a)]) (by decide +kernel) rfl (by decide) rfl ?_
  refine k_iload C (i := 1) 1 0 (by decide +kernel) rfl rfl ?_
  refine k_bipush C (n := 6) (6) (by decide +kernel) (by decide) ?_
  refine k_icmp_ge C 112 (off := 16) (by decide +kernel) (by decide) (fun h => absurd h (show ¬ (6 : Int32) ≤ 0 by decide)) (fun _ => ?_)
  refine k_aload C (i := 0) 0 1 (by decide +kernel) rfl rfl ?_
  refine k_getf C (idx := 19) (q0 := 0) (fs := [.ref q1, .int 0, .ref q2, .ref q3, .ref q4, .ref q5, .ref q6, .ref q7, .int 0, .ref q8, .int 0, .long 0, .long 1, .int 0, .ref q9, .ref q10, .long 0]) (v := .ref q4) fc_X9_19 rfl rfl (by decide +kernel) ?_
  refine k_iload C (i := 1) 1 0 (by decide +kernel) rfl rfl ?_
  refine k_iconst C (n := -1) (-1) (by decide +kernel) (by decide) ?_
  refine k_iastv C 4 0 (n := 6) (f := fun _ => (0 : Int32)) (by decide) rfl (show ¬ (_ ∨ _) by decide) (by decide +kernel) ?_
  show U Γ 2 106 [(1, .int 0), (0, .ref a)] [] ([(a, .inr (9, [.ref q1, .int 0, .ref q2, .ref q3, .ref q4, .ref q5, .ref q6, .ref q7, .int 0, .ref q8, .int 0, .long 0, .long 1, .int 0, .ref q9, .ref q10, .long 0])), (q1, .inl (cI, 7304, .inl (fun _ => (0 : Int32)))), (q2, .inl (cI, 3, .inl (fun _ => (0 : Int32)))), (q3, .inl (cI, 240, .inl (fun _ => (0 : Int32)))), (q4, .inl (cI, 6, .inl (upd (fun _ => (0 : Int32)) 0 (-1)))), (q5, .inl (cI, 240, .inl (fun _ => (0 : Int32)))), (q6, .inl (cI, 4, .inl (fun _ => (0 : Int32)))), (q7, .inl (cI, 40, .inl (fun _ => (0 : Int32)))), (q8, .inl (cI, 6, .inl (fun _ => (0 : Int32)))), (q9, .inl (cI, 32, .inl (fun _ => (0 : Int32)))), (q10, .inl (cI, 2401, .inl (fun _ => (0 : Int32))))]) 10 10276
  refine k_iinc C (1) 0 (i := 1) (n := 1) (ll' := [(1, .int 1), (0, .ref a)]) (by decide +kernel) rfl (by decide) (by decide) rfl ?_
  refine k_goto C 93 (off := -16) (by decide +kernel) (by decide) ?_
  refine k_iload C (i := 1) 1 0 (by decide +kernel) rfl rfl ?_
  refine k_bipush C (n := 6) (6) (by decide +kernel) (by decide) ?_
  refine k_icmp_ge C 112 (off := 16) (by decide +kernel) (by decide) (fun h => absurd h (show ¬ (6 : Int32) ≤ 1 by decide)) (fun _ => ?_)
  refine k_aload C (i := 0) 0 1 (by decide +kernel) rfl rfl ?_
  refine k_getf C (idx := 19) (q0 := 0) (fs := [.ref q1, .int 0, .ref q2, .ref q3, .ref q4, .ref q5, .ref q6, .ref q7, .int 0, .ref q8, .int 0, .long 0, .long 1, .int 0, .ref q9, .ref q10, .long 0]) (v := .ref q4) fc_X9_19 rfl rfl (by decide +kernel) ?_
  refine k_iload C (i := 1) 1 0 (by decide +kernel) rfl rfl ?_
  refine k_iconst C (n := -1) (-1) (by decide +kernel) (by decide) ?_
  refine k_iastv C 4 1 (n := 6) (f := upd (fun _ => (0 : Int32)) 0 (-1)) (by decide) rfl (show ¬ (_ ∨ _) by decide) (by decide +kernel) ?_
  show U Γ 2 106 [(1, .int 1), (0, .ref a)] [] ([(a, .inr (9, [.ref q1, .int 0, .ref q2, .ref q3, .ref q4, .ref q5, .ref q6, .ref q7, .int 0, .ref q8, .int 0, .long 0, .long 1, .int 0, .ref q9, .ref q10, .long 0])), (q1, .inl (cI, 7304, .inl (fun _ => (0 : Int32)))), (q2, .inl (cI, 3, .inl (fun _ => (0 : Int32)))), (q3, .inl (cI, 240, .inl (fun _ => (0 : Int32)))), (q4, .inl (cI, 6, .inl (upd (upd (fun _ => (0 : Int32)) 0 (-1)) 1 (-1)))), (q5, .inl (cI, 240, .inl (fun _ => (0 : Int32)))), (q6, .inl (cI, 4, .inl (fun _ => (0 : Int32)))), (q7, .inl (cI, 40, .inl (fun _ => (0 : Int32)))), (q8, .inl (cI, 6, .inl (fun _ => (0 : Int32)))), (q9, .inl (cI, 32, .inl (fun _ => (0 : Int32)))), (q10, .inl (cI, 2401, .inl (fun _ => (0 : Int32))))]) 10 10276
  refine k_iinc C (2) 0 (i := 1) (n := 1) (ll' := [(1, .int 2), (0, .ref a)]) (by decide +kernel) rfl (by decide) (by decide) rfl ?_
  refine k_goto C 93 (off := -16) (by decide +kernel) (by decide) ?_
  refine k_iload C (i := 1) 1 0 (by decide +kernel) rfl rfl ?_
  refine k_bipush C (n := 6) (6) (by decide +kernel) (by decide) ?_
  refine k_icmp_ge C 112 (off := 16) (by decide +kernel) (by decide) (fun h => absurd h (show ¬ (6 : Int32) ≤ 2 by decide)) (fun _ => ?_)
  refine k_aload C (i := 0) 0 1 (by decide +kernel) rfl rfl ?_
  refine k_getf C (idx := 19) (q0 := 0) (fs := [.ref q1, .int 0, .ref q2, .ref q3, .ref q4, .ref q5, .ref q6, .ref q7, .int 0, .ref q8, .int 0, .long 0, .long 1, .int 0, .ref q9, .ref q10, .long 0]) (v := .ref q4) fc_X9_19 rfl rfl (by decide +kernel) ?_
  refine k_iload C (i := 1) 1 0 (by decide +kernel) rfl rfl ?_
  refine k_iconst C (n := -1) (-1) (by decide +kernel) (by decide) ?_
  refine k_iastv C 4 2 (n := 6) (f := upd (upd (fun _ => (0 : Int32)) 0 (-1)) 1 (-1)) (by decide) rfl (show ¬ (_ ∨ _) by decide) (by decide +kernel) ?_
  show U Γ 2 106 [(1, .int 2), (0, .ref a)] [] ([(a, .inr (9, [.ref q1, .int 0, .ref q2, .ref q3, .ref q4, .ref q5, .ref q6, .ref q7, .int 0, .ref q8, .int 0, .long 0, .long 1, .int 0, .ref q9, .ref q10, .long 0])), (q1, .inl (cI, 7304, .inl (fun _ => (0 : Int32)))), (q2, .inl (cI, 3, .inl (fun _ => (0 : Int32)))), (q3, .inl (cI, 240, .inl (fun _ => (0 : Int32)))), (q4, .inl (cI, 6, .inl (upd (upd (upd (fun _ => (0 : Int32)) 0 (-1)) 1 (-1)) 2 (-1)))), (q5, .inl (cI, 240, .inl (fun _ => (0 : Int32)))), (q6, .inl (cI, 4, .inl (fun _ => (0 : Int32)))), (q7, .inl (cI, 40, .inl (fun _ => (0 : Int32)))), (q8, .inl (cI, 6, .inl (fun _ => (0 : Int32)))), (q9, .inl (cI, 32, .inl (fun _ => (0 : Int32)))), (q10, .inl (cI, 2401, .inl (fun _ => (0 : Int32))))]) 10 10276
  refine k_iinc C (3) 0 (i := 1) (n := 1) (ll' := [(1, .int 3), (0, .ref a)]) (by decide +kernel) rfl (by decide) (by decide) rfl ?_
  refine k_goto C 93 (off := -16) (by decide +kernel) (by decide) ?_
  refine k_iload C (i := 1) 1 0 (by decide +kernel) rfl rfl ?_
  refine k_bipush C (n := 6) (6) (by decide +kernel) (by decide) ?_
  refine k_icmp_ge C 112 (off := 16) (by decide +kernel) (by decide) (fun h => absurd h (show ¬ (6 : Int32) ≤ 3 by decide)) (fun _ => ?_)
  refine k_aload C (i := 0) 0 1 (by decide +kernel) rfl rfl ?_
  refine k_getf C (idx := 19) (q0 := 0) (fs := [.ref q1, .int 0, .ref q2, .ref q3, .ref q4, .ref q5, .ref q6, .ref q7, .int 0, .ref q8, .int 0, .long 0, .long 1, .int 0, .ref q9, .ref q10, .long 0]) (v := .ref q4) fc_X9_19 rfl rfl (by decide +kernel) ?_
  refine k_iload C (i := 1) 1 0 (by decide +kernel) rfl rfl ?_
  refine k_iconst C (n := -1) (-1) (by decide +kernel) (by decide) ?_
  refine k_iastv C 4 3 (n := 6) (f := upd (upd (upd (fun _ => (0 : Int32)) 0 (-1)) 1 (-1)) 2 (-1)) (by decide) rfl (show ¬ (_ ∨ _) by decide) (by decide +kernel) ?_
  show U Γ 2 106 [(1, .int 3), (0, .ref a)] [] ([(a, .inr (9, [.ref q1, .int 0, .ref q2, .ref q3, .ref q4, .ref q5, .ref q6, .ref q7, .int 0, .ref q8, .int 0, .long 0, .long 1, .int 0, .ref q9, .ref q10, .long 0])), (q1, .inl (cI, 7304, .inl (fun _ => (0 : Int32)))), (q2, .inl (cI, 3, .inl (fun _ => (0 : Int32)))), (q3, .inl (cI, 240, .inl (fun _ => (0 : Int32)))), (q4, .inl (cI, 6, .inl (upd (upd (upd (upd (fun _ => (0 : Int32)) 0 (-1)) 1 (-1)) 2 (-1)) 3 (-1)))), (q5, .inl (cI, 240, .inl (fun _ => (0 : Int32)))), (q6, .inl (cI, 4, .inl (fun _ => (0 : Int32)))), (q7, .inl (cI, 40, .inl (fun _ => (0 : Int32)))), (q8, .inl (cI, 6, .inl (fun _ => (0 : Int32)))), (q9, .inl (cI, 32, .inl (fun _ => (0 : Int32)))), (q10, .inl (cI, 2401, .inl (fun _ => (0 : Int32))))]) 10 10276
  refine k_iinc C (4) 0 (i := 1) (n := 1) (ll' := [(1, .int 4), (0, .ref a)]) (by decide +kernel) rfl (by decide) (by decide) rfl ?_
  refine k_goto C 93 (off := -16) (by decide +kernel) (by decide) ?_
  refine k_iload C (i := 1) 1 0 (by decide +kernel) rfl rfl ?_
  refine k_bipush C (n := 6) (6) (by decide +kernel) (by decide) ?_
  refine k_icmp_ge C 112 (off := 16) (by decide +kernel) (by decide) (fun h => absurd h (show ¬ (6 : Int32) ≤ 4 by decide)) (fun _ => ?_)
  refine k_aload C (i := 0) 0 1 (by decide +kernel) rfl rfl ?_
  refine k_getf C (idx := 19) (q0 := 0) (fs := [.ref q1, .int 0, .ref q2, .ref q3, .ref q4, .ref q5, .ref q6, .ref q7, .int 0, .ref q8, .int 0, .long 0, .long 1, .int 0, .ref q9, .ref q10, .long 0]) (v := .ref q4) fc_X9_19 rfl rfl (by decide +kernel) ?_
  refine k_iload C (i := 1) 1 0 (by decide +kernel) rfl rfl ?_
  refine k_iconst C (n := -1) (-1) (by decide +kernel) (by decide) ?_
  refine k_iastv C 4 4 (n := 6) (f := upd (upd (upd (upd (fun _ => (0 : Int32)) 0 (-1)) 1 (-1)) 2 (-1)) 3 (-1)) (by decide) rfl (show ¬ (_ ∨ _) by decide) (by decide +kernel) ?_
  show U Γ 2 106 [(1, .int 4), (0, .ref a)] [] ([(a, .inr (9, [.ref q1, .int 0, .ref q2, .ref q3, .ref q4, .ref q5, .ref q6, .ref q7, .int 0, .ref q8, .int 0, .long 0, .long 1, .int 0, .ref q9, .ref q10, .long 0])), (q1, .inl (cI, 7304, .inl (fun _ => (0 : Int32)))), (q2, .inl (cI, 3, .inl (fun _ => (0 : Int32)))), (q3, .inl (cI, 240, .inl (fun _ => (0 : Int32)))), (q4, .inl (cI, 6, .inl (upd (upd (upd (upd (upd (fun _ => (0 : Int32)) 0 (-1)) 1 (-1)) 2 (-1)) 3 (-1)) 4 (-1)))), (q5, .inl (cI, 240, .inl (fun _ => (0 : Int32)))), (q6, .inl (cI, 4, .inl (fun _ => (0 : Int32)))), (q7, .inl (cI, 40, .inl (fun _ => (0 : Int32)))), (q8, .inl (cI, 6, .inl (fun _ => (0 : Int32)))), (q9, .inl (cI, 32, .inl (fun _ => (0 : Int32)))), (q10, .inl (cI, 2401, .inl (fun _ => (0 : Int32))))]) 10 10276
  refine k_iinc C (5) 0 (i := 1) (n := 1) (ll' := [(1, .int 5), (0, .ref a)]) (by decide +kernel) rfl (by decide) (by decide) rfl ?_
  refine k_goto C 93 (off := -16) (by decide +kernel) (by decide) ?_
  refine k_iload C (i := 1) 1 0 (by decide +kernel) rfl rfl ?_
  refine k_bipush C (n := 6) (6) (by decide +kernel) (by decide) ?_
  refine k_icmp_ge C 112 (off := 16) (by decide +kernel) (by decide) (fun h => absurd h (show ¬ (6 : Int32) ≤ 5 by decide)) (fun _ => ?_)
  refine k_aload C (i := 0) 0 1 (by decide +kernel) rfl rfl ?_
  refine k_getf C (idx := 19) (q0 := 0) (fs := [.ref q1, .int 0, .ref q2, .ref q3, .ref q4, .ref q5, .ref q6, .ref q7, .int 0, .ref q8, .int 0, .long 0, .long 1, .int 0, .ref q9, .ref q10, .long 0]) (v := .ref q4) fc_X9_19 rfl rfl (by decide +kernel) ?_
  refine k_iload C (i := 1) 1 0 (by decide +kernel) rfl rfl ?_
  refine k_iconst C (n := -1) (-1) (by decide +kernel) (by decide) ?_
  refine k_iastv C 4 5 (n := 6) (f := upd (upd (upd (upd (upd (fun _ => (0 : Int32)) 0 (-1)) 1 (-1)) 2 (-1)) 3 (-1)) 4 (-1)) (by decide) rfl (show ¬ (_ ∨ _) by decide) (by decide +kernel) ?_
  show U Γ 2 106 [(1, .int 5), (0, .ref a)] [] ([(a, .inr (9, [.ref q1, .int 0, .ref q2, .ref q3, .ref q4, .ref q5, .ref q6, .ref q7, .int 0, .ref q8, .int 0, .long 0, .long 1, .int 0, .ref q9, .ref q10, .long 0])), (q1, .inl (cI, 7304, .inl (fun _ => (0 : Int32)))), (q2, .inl (cI, 3, .inl (fun _ => (0 : Int32)))), (q3, .inl (cI, 240, .inl (fun _ => (0 : Int32)))), (q4, .inl (cI, 6, .inl (upd (upd (upd (upd (upd (upd (fun _ => (0 : Int32)) 0 (-1)) 1 (-1)) 2 (-1)) 3 (-1)) 4 (-1)) 5 (-1)))), (q5, .inl (cI, 240, .inl (fun _ => (0 : Int32)))), (q6, .inl (cI, 4, .inl (fun _ => (0 : Int32)))), (q7, .inl (cI, 40, .inl (fun _ => (0 : Int32)))), (q8, .inl (cI, 6, .inl (fun _ => (0 : Int32)))), (q9, .inl (cI, 32, .inl (fun _ => (0 : Int32)))), (q10, .inl (cI, 2401, .inl (fun _ => (0 : Int32))))]) 10 10276
  refine k_iinc C (6) 0 (i := 1) (n := 1) (ll' := [(1, .int 6), (0, .ref a)]) (by decide +kernel) rfl (by decide) (by decide) rfl ?_
  refine k_goto C 93 (off := -16) (by decide +kernel) (by decide) ?_
  refine k_iload C (i := 1) 1 0 (by decide +kernel) rfl rfl ?_
  refine k_bipush C (n := 6) (6) (by decide +kernel) (by decide) ?_
  refine k_icmp_ge C 112 (off := 16) (by decide +kernel) (by decide) (fun _ => ?_) (fun h => absurd (show (6 : Int32) ≤ 6 by decide) h)
  refine k_iconst C (n := 0) (0) (by decide +kernel) (by decide) ?_
  refine k_istore_n C (z := 1) 1 (ll' := [(1, .int 0), (0, .ref a)]) (by decide +kernel) rfl (by decide) rfl ?_
  refine k_iload C (i := 1) 1 0 (by decide +kernel) rfl rfl ?_
  refine k_iconst C (n := 4) (4) (by decide +kernel) (by decide) ?_
  refine k_icmp_ge C 132 (off := 16) (by decide +kernel) (by decide) (fun h => absurd h (show ¬ (4 : Int32) ≤ 0 by decide)) (fun _ => ?_)
  refine k_aload C (i := 0) 0 1 (by decide +kernel) rfl rfl ?_
  refine k_getf C (idx := 25) (q0 := 0) (fs := [.ref q1, .int 0, .ref q2, .ref q3, .ref q4, .ref q5, .ref q6, .ref q7, .int 0, .ref q8, .int 0, .long 0, .long 1, .int 0, .ref q9, .ref q10, .long 0]) (v := .ref q6) fc_X9_25 rfl rfl (by decide +kernel) ?_
  refine k_iload C (i := 1) 1 0 (by decide +kernel) rfl rfl ?_
  refine k_iconst C (n := -1) (-1) (by decide +kernel) (by decide) ?_
  refine k_iastv C 6 0 (n := 4) (f := fun _ => (0 : Int32)) (by decide) rfl (show ¬ (_ ∨ _) by decide) (by decide +kernel) ?_
  show U Γ 2 126 [(1, .int 0), (0, .ref a)] [] ([(a, .inr (9, [.ref q1, .int 0, .ref q2, .ref q3, .ref q4, .ref q5, .ref q6, .ref q7, .int 0, .ref q8, .int 0, .long 0, .long 1, .int 0, .ref q9, .ref q10, .long 0])), (q1, .inl (cI, 7304, .inl (fun _ => (0 : Int32)))), (q2, .inl (cI, 3, .inl (fun _ => (0 : Int32)))), (q3, .inl (cI, 240, .inl (fun _ => (0 : Int32)))), (q4, .inl (cI, 6, .inl (upd (upd (upd (upd (upd (upd (fun _ => (0 : Int32)) 0 (-1)) 1 (-1)) 2 (-1)) 3 (-1)) 4 (-1)) 5 (-1)))), (q5, .inl (cI, 240, .inl (fun _ => (0 : Int32)))), (q6, .inl (cI, 4, .inl (upd (fun _ => (0 : Int32)) 0 (-1)))), (q7, .inl (cI, 40, .inl (fun _ => (0 : Int32)))), (q8, .inl (cI, 6, .inl (fun _ => (0 : Int32)))), (q9, .inl (cI, 32, .inl (fun _ => (0 : Int32)))), (q10, .inl (cI, 2401, .inl (fun _ => (0 : Int32))))]) 10 10276
  refine k_iinc C (1) 0 (i := 1) (n := 1) (ll' := [(1, .int 1), (0, .ref a)]) (by decide +kernel) rfl (by decide) (by decide) rfl ?_
  refine k_goto C 114 (off := -15) (by decide +kernel) (by decide) ?_
  refine k_iload C (i := 1) 1 0 (by decide +kernel) rfl rfl ?_
  refine k_iconst C (n := 4) (4) (by decide +kernel) (by decide) ?_
  refine k_icmp_ge C 132 (off := 16) (by decide +kernel) (by decide) (fun h => absurd h (show ¬ (4 : Int32) ≤ 1 by decide)) (fun _ => ?_)
  refine k_aload C (i := 0) 0 1 (by decide +kernel) rfl rfl ?_
  refine k_getf C (idx := 25) (q0 := 0) (fs := [.ref q1, .int 0, .ref q2, .ref q3, .ref q4, .ref q5, .ref q6, .ref q7, .int 0, .ref q8, .int 0, .long 0, .long 1, .int 0, .ref q9, .ref q10, .long 0]) (v := .ref q6) fc_X9_25 rfl rfl (by decide +kernel) ?_
  refine k_iload C (i := 1) 1 0 (by decide +kernel) rfl rfl ?_
  refine k_iconst C (n := -1) (-1) (by decide +kernel) (by decide) ?_
  refine k_iastv C 6 1 (n := 4) (f := upd (fun _ => (0 : Int32)) 0 (-1)) (by decide) rfl (show ¬ (_ ∨ _) by decide) (by decide +kernel) ?_
  show U Γ 2 126 [(1, .int 1), (0, .ref a)] [] ([(a, .inr (9, [.ref q1, .int 0, .ref q2, .ref q3, .ref q4, .ref q5, .ref q6, .ref q7, .int 0, .ref q8, .int 0, .long 0, .long 1, .int 0, .ref q9, .ref q10, .long 0])), (q1, .inl (cI, 7304, .inl (fun _ => (0 : Int32)))), (q2, .inl (cI, 3, .inl (fun _ => (0 : Int32)))), (q3, .inl (cI, 240, .inl (fun _ => (0 : Int32)))), (q4, .inl (cI, 6, .inl (upd (upd (upd (upd (upd (upd (fun _ => (0 : Int32)) 0 (-1)) 1 (-1)) 2 (-1)) 3 (-1)) 4 (-1)) 5 (-1)))), (q5, .inl (cI, 240, .inl (fun _ => (0 : Int32)))), (q6, .inl (cI, 4, .inl (upd (upd (fun _ => (0 : Int32)) 0 (-1)) 1 (-1)))), (q7, .inl (cI, 40, .inl (fun _ => (0 : Int32)))), (q8, .inl (cI, 6, .inl (fun _ => (0 : Int32)))), (q9, .inl (cI, 32, .inl (fun _ => (0 : Int32)))), (q10, .inl (cI, 2401, .inl (fun _ => (0 : Int32))))]) 10 10276
  refine k_iinc C (2) 0 (i := 1) (n := 1) (ll' := [(1, .int 2), (0, .ref a)]) (by decide +kernel) rfl (by decide) (by decide) rfl ?_
  refine k_goto C 114 (off := -15) (by decide +kernel) (by decide) ?_
  refine k_iload C (i := 1) 1 0 (by decide +kernel) rfl rfl ?_
  refine k_iconst C (n := 4) (4) (by decide +kernel) (by decide) ?_
  refine k_icmp_ge C 132 (off := 16) (by decide +kernel) (by decide) (fun h => absurd h (show ¬ (4 : Int32) ≤ 2 by decide)) (fun _ => ?_)
  refine k_aload C (i := 0) 0 1 (by decide +kernel) rfl rfl ?_
  refine k_getf C (idx := 25) (q0 := 0) (fs := [.ref q1, .int 0, .ref q2, .ref q3, .ref q4, .ref q5, .ref q6, .ref q7, .int 0, .ref q8, .int 0, .long 0, .long 1, .int 0, .ref q9, .ref q10, .long 0]) (v := .ref q6) fc_X9_25 rfl rfl (by decide +kernel) ?_
  refine k_iload C (i := 1) 1 0 (by decide +kernel) rfl rfl ?_
  refine k_iconst C (n := -1) (-1) (by decide +kernel) (by decide) ?_
  refine k_iastv C 6 2 (n := 4) (f := upd (upd (fun _ => (0 : Int32)) 0 (-1)) 1 (-1)) (by decide) rfl (show ¬ (_ ∨ _) by decide) (by decide +kernel) ?_
  show U Γ 2 126 [(1, .int 2), (0, .ref a)] [] ([(a, .inr (9, [.ref q1, .int 0, .ref q2, .ref q3, .ref q4, .ref q5, .ref q6, .ref q7, .int 0, .ref q8, .int 0, .long 0, .long 1, .int 0, .ref q9, .ref q10, .long 0])), (q1, .inl (cI, 7304, .inl (fun _ => (0 : Int32)))), (q2, .inl (cI, 3, .inl (fun _ => (0 : Int32)))), (q3, .inl (cI, 240, .inl (fun _ => (0 : Int32)))), (q4, .inl (cI, 6, .inl (upd (upd (upd (upd (upd (upd (fun _ => (0 : Int32)) 0 (-1)) 1 (-1)) 2 (-1)) 3 (-1)) 4 (-1)) 5 (-1)))), (q5, .inl (cI, 240, .inl (fun _ => (0 : Int32)))), (q6, .inl (cI, 4, .inl (upd (upd (upd (fun _ => (0 : Int32)) 0 (-1)) 1 (-1)) 2 (-1)))), (q7, .inl (cI, 40, .inl (fun _ => (0 : Int32)))), (q8, .inl (cI, 6, .inl (fun _ => (0 : Int32)))), (q9, .inl (cI, 32, .inl (fun _ => (0 : Int32)))), (q10, .inl (cI, 2401, .inl (fun _ => (0 : Int32))))]) 10 10276
  refine k_iinc C (3) 0 (i := 1) (n := 1) (ll' := [(1, .int 3), (0, .ref a)]) (by decide +kernel) rfl (by decide) (by decide) rfl ?_
  refine k_goto C 114 (off := -15) (by decide +kernel) (by decide) ?_
  refine k_iload C (i := 1) 1 0 (by decide +kernel) rfl rfl ?_
  refine k_iconst C (n := 4) (4) (by decide +kernel) (by decide) ?_
  refine k_icmp_ge C 132 (off := 16) (by decide +kernel) (by decide) (fun h => absurd h (show ¬ (4 : Int32) ≤ 3 by decide)) (fun _ => ?_)
  refine k_aload C (i := 0) 0 1 (by decide +kernel) rfl rfl ?_
  refine k_getf C (idx := 25) (q0 := 0) (fs := [.ref q1, .int 0, .ref q2, .ref q3, .ref q4, .ref q5, .ref q6, .ref q7, .int 0, .ref q8, .int 0, .long 0, .long 1, .int 0, .ref q9, .ref q10, .long 0]) (v := .ref q6) fc_X9_25 rfl rfl (by decide +kernel) ?_
  refine k_iload C (i := 1) 1 0 (by decide +kernel) rfl rfl ?_
  refine k_iconst C (n := -1) (-1) (by decide +kernel) (by decide) ?_
  refine k_iastv C 6 3 (n := 4) (f := upd (upd (upd (fun _ => (0 : Int32)) 0 (-1)) 1 (-1)) 2 (-1)) (by decide) rfl (show ¬ (_ ∨ _) by decide) (by decide +kernel) ?_
  show U Γ 2 126 [(1, .int 3), (0, .ref a)] [] ([(a, .inr (9, [.ref q1, .int 0, .ref q2, .ref q3, .ref q4, .ref q5, .ref q6, .ref q7, .int 0, .ref q8, .int 0, .long 0, .long 1, .int 0, .ref q9, .ref q10, .long 0])), (q1, .inl (cI, 7304, .inl (fun _ => (0 : Int32)))), (q2, .inl (cI, 3, .inl (fun _ => (0 : Int32)))), (q3, .inl (cI, 240, .inl (fun _ => (0 : Int32)))), (q4, .inl (cI, 6, .inl (upd (upd (upd (upd (upd (upd (fun _ => (0 : Int32)) 0 (-1)) 1 (-1)) 2 (-1)) 3 (-1)) 4 (-1)) 5 (-1)))), (q5, .inl (cI, 240, .inl (fun _ => (0 : Int32)))), (q6, .inl (cI, 4, .inl (upd (upd (upd (upd (fun _ => (0 : Int32)) 0 (-1)) 1 (-1)) 2 (-1)) 3 (-1)))), (q7, .inl (cI, 40, .inl (fun _ => (0 : Int32)))), (q8, .inl (cI, 6, .inl (fun _ => (0 : Int32)))), (q9, .inl (cI, 32, .inl (fun _ => (0 : Int32)))), (q10, .inl (cI, 2401, .inl (fun _ => (0 : Int32))))]) 10 10276
  refine k_iinc C (4) 0 (i := 1) (n := 1) (ll' := [(1, .int 4), (0, .ref a)]) (by decide +kernel) rfl (by decide) (by decide) rfl ?_
  refine k_goto C 114 (off := -15) (by decide +kernel) (by decide) ?_
  refine k_iload C (i := 1) 1 0 (by decide +kernel) rfl rfl ?_
  refine k_iconst C (n := 4) (4) (by decide +kernel) (by decide) ?_
  refine k_icmp_ge C 132 (off := 16) (by decide +kernel) (by decide) (fun _ => ?_) (fun h => absurd (show (4 : Int32) ≤ 4 by decide) h)
  refine k_iconst C (n := 0) (0) (by decide +kernel) (by decide) ?_
  refine k_istore_n C (z := 1) 1 (ll' := [(1, .int 0), (0, .ref a)]) (by decide +kernel) rfl (by decide) rfl ?_
  refine k_iload C (i := 1) 1 0 (by decide +kernel) rfl rfl ?_
  refine k_iconst C (n := 3) (3) (by decide +kernel) (by decide) ?_
  refine k_icmp_ge C 152 (off := 16) (by decide +kernel) (by decide) (fun h => absurd h (show ¬ (3 : Int32) ≤ 0 by decide)) (fun _ => ?_)
  refine k_aload C (i := 0) 0 1 (by decide +kernel) rfl rfl ?_
  refine k_getf C (idx := 13) (q0 := 0) (fs := [.ref q1, .int 0, .ref q2, .ref q3, .ref q4, .ref q5, .ref q6, .ref q7, .int 0, .ref q8, .int 0, .long 0, .long 1, .int 0, .ref q9, .ref q10, .long 0]) (v := .ref q2) fc_X9_13 rfl rfl (by decide +kernel) ?_
  refine k_iload C (i := 1) 1 0 (by decide +kernel) rfl rfl ?_
  refine k_iconst C (n := -1) (-1) (by decide +kernel) (by decide) ?_
  refine k_iastv C 2 0 (n := 3) (f := fun _ => (0 : Int32)) (by decide) rfl (show ¬ (_ ∨ _) by decide) (by decide +kernel) ?_
  show U Γ 2 146 [(1, .int 0), (0, .ref a)] [] ([(a, .inr (9, [.ref q1, .int 0, .ref q2, .ref q3, .ref q4, .ref q5, .ref q6, .ref q7, .int 0, .ref q8, .int 0, .long 0, .long 1, .int 0, .ref q9, .ref q10, .long 0])), (q1, .inl (cI, 7304, .inl (fun _ => (0 : Int32)))), (q2, .inl (cI, 3, .inl (upd (fun _ => (0 : Int32)) 0 (-1)))), (q3, .inl (cI, 240, .inl (fun _ => (0 : Int32)))), (q4, .inl (cI, 6, .inl (upd (upd (upd (upd (upd (upd (fun _ => (0 : Int32)) 0 (-1)) 1 (-1)) 2 (-1)) 3 (-1)) 4 (-1)) 5 (-1)))), (q5, .inl (cI, 240, .inl (fun _ => (0 : Int32)))), (q6, .inl (cI, 4, .inl (upd (upd (upd (upd (fun _ => (0 : Int32)) 0 (-1)) 1 (-1)) 2 (-1)) 3 (-1)))), (q7, .inl (cI, 40, .inl (fun _ => (0 : Int32)))), (q8, .inl (cI, 6, .inl (fun _ => (0 : Int32)))), (q9, .inl (cI, 32, .inl (fun _ => (0 : Int32)))), (q10, .inl (cI, 2401, .inl (fun _ => (0 : Int32))))]) 10 10276
  refine k_iinc C (1) 0 (i := 1) (n := 1) (ll' := [(1, .int 1), (0, .ref a)]) (by decide +kernel) rfl (by decide) (by decide) rfl ?_
  refine k_goto C 134 (off := -15) (by decide +kernel) (by decide) ?_
  refine k_iload C (i := 1) 1 0 (by decide +kernel) rfl rfl ?_
  refine k_iconst C (n := 3) (3) (by decide +kernel) (by decide) ?_
  refine k_icmp_ge C 152 (off := 16) (by decide +kernel) (by decide) (fun h => absurd h (show ¬ (3 : Int32) ≤ 1 by decide)) (fun _ => ?_)
  refine k_aload C (i := 0) 0 1 (by decide +kernel) rfl rfl ?_
  refine k_getf C (idx := 13) (q0 := 0) (fs := [.ref q1, .int 0, .ref q2, .ref q3, .ref q4, .ref q5, .ref q6, .ref q7, .int 0, .ref q8, .int 0, .long 0, .long 1, .int 0, .ref q9, .ref q10, .long 0]) (v := .ref q2) fc_X9_13 rfl rfl (by decide +kernel) ?_
  refine k_iload C (i := 1) 1 0 (by decide +kernel) rfl rfl ?_
  refine k_iconst C (n := -1) (-1) (by decide +kernel) (by decide) ?_
  refine k_iastv C 2 1 (n := 3) (f := upd (fun _ => (0 : Int32)) 0 (-1)) (by decide) rfl (show ¬ (_ ∨ _) by decide) (by decide +kernel) ?_
  show U Γ 2 146 [(1, .int 1), (0, .ref a)] [] ([(a, .inr (9, [.ref q1, .int 0, .ref q2, .ref q3, .ref q4, .ref q5, .ref q6, .ref q7, .int 0, .ref q8, .int 0, .long 0, .long 1, .int 0, .ref q9, .ref q10, .long 0])), (q1, .inl (cI, 7304, .inl (fun _ => (0 : Int32)))), (q2, .inl (cI, 3, .inl (upd (upd (fun _ => (0 : Int32)) 0 (-1)) 1 (-1)))), (q3, .inl (cI, 240, .inl (fun _ => (0 : Int32)))), (q4, .inl (cI, 6, .inl (upd (upd (upd (upd (upd (upd (fun _ => (0 : Int32)) 0 (-1)) 1 (-1)) 2 (-1)) 3 (-1)) 4 (-1)) 5 (-1)))), (q5, .inl (cI, 240, .inl (fun _ => (0 : Int32)))), (q6, .inl (cI, 4, .inl (upd (upd (upd (upd (fun _ => (0 : Int32)) 0 (-1)) 1 (-1)) 2 (-1)) 3 (-1)))), (q7, .inl (cI, 40, .inl (fun _ => (0 : Int32)))), (q8, .inl (cI, 6, .inl (fun _ => (0 : Int32)))), (q9, .inl (cI, 32, .inl (fun _ => (0 : Int32)))), (q10, .inl (cI, 2401, .inl (fun _ => (0 : Int32))))]) 10 10276
  refine k_iinc C (2) 0 (i := 1) (n := 1) (ll' := [(1, .int 2), (0, .ref a)]) (by decide +kernel) rfl (by decide) (by decide) rfl ?_
  refine k_goto C 134 (off := -15) (by decide +kernel) (by decide) ?_
  refine k_iload C (i := 1) 1 0 (by decide +kernel) rfl rfl ?_
  refine k_iconst C (n := 3) (3) (by decide +kernel) (by decide) ?_
  refine k_icmp_ge C 152 (off := 16) (by decide +kernel) (by decide) (fun h => absurd h (show ¬ (3 : Int32) ≤ 2 by decide)) (fun _ => ?_)
  refine k_aload C (i := 0) 0 1 (by decide +kernel) rfl rfl ?_
  refine k_getf C (idx := 13) (q0 := 0) (fs := [.ref q1, .int 0, .ref q2, .ref q3, .ref q4, .ref q5, .ref q6, .ref q7, .int 0, .ref q8, .int 0, .long 0, .long 1, .int 0, .ref q9, .ref q10, .long 0]) (v := .ref q2) fc_X9_13 rfl rfl (by decide +kernel) ?_
  refine k_iload C (i := 1) 1 0 (by decide +kernel) rfl rfl ?_
  refine k_iconst C (n := -1) (-1) (by decide +kernel) (by decide) ?_
  refine k_iastv C 2 2 (n := 3) (f := upd (upd (fun _ => (0 : Int32)) 0 (-1)) 1 (-1)) (by decide) rfl (show ¬ (_ ∨ _) by decide) (by decide +kernel) ?_
  show U Γ 2 146 [(1, .int 2), (0, .ref a)] [] ([(a, .inr (9, [.ref q1, .int 0, .ref q2, .ref q3, .ref q4, .ref q5, .ref q6, .ref q7, .int 0, .ref q8, .int 0, .long 0, .long 1, .int 0, .ref q9, .ref q10, .long 0])), (q1, .inl (cI, 7304, .inl (fun _ => (0 : Int32)))), (q2, .inl (cI, 3, .inl (upd (upd (upd (fun _ => (0 : Int32)) 0 (-1)) 1 (-1)) 2 (-1)))), (q3, .inl (cI, 240, .inl (fun _ => (0 : Int32)))), (q4, .inl (cI, 6, .inl (upd (upd (upd (upd (upd (upd (fun _ => (0 : Int32)) 0 (-1)) 1 (-1)) 2 (-1)) 3 (-1)) 4 (-1)) 5 (-1)))), (q5, .inl (cI, 240, .inl (fun _ => (0 : Int32)))), (q6, .inl (cI, 4, .inl (upd (upd (upd (upd (fun _ => (0 : Int32)) 0 (-1)) 1 (-1)) 2 (-1)) 3 (-1)))), (q7, .inl (cI, 40, .inl (fun _ => (0 : Int32)))), (q8, .inl (cI, 6, .inl (fun _ => (0 : Int32)))), (q9, .inl (cI, 32, .inl (fun _ => (0 : Int32)))), (q10, .inl (cI, 2401, .inl (fun _ => (0 : Int32))))]) 10 10276
  refine k_iinc C (3) 0 (i := 1) (n := 1) (ll' := [(1, .int 3), (0, .ref a)]) (by decide +kernel) rfl (by decide) (by decide) rfl ?_
  refine k_goto C 134 (off := -15) (by decide +kernel) (by decide) ?_
  refine k_iload C (i := 1) 1 0 (by decide +kernel) rfl rfl ?_
  refine k_iconst C (n := 3) (3) (by decide +kernel) (by decide) ?_
  refine k_icmp_ge C 152 (off := 16) (by decide +kernel) (by decide) (fun _ => ?_) (fun h => absurd (show (3 : Int32) ≤ 3 by decide) h)
  exact k_ret C hr ⟨q1, q2, q3, q4, q5, q6, q7, q8, q9, q10, rfl⟩ (Nat.le_of_ble_eq_true rfl) (Nat.le_of_ble_eq_true rfl) (by decide +kernel)


theorem kw_X7 : CW 7 RX7 TX7 10 tyX7 := ⟨rfl, by decide +kernel, tyX7_ok, nmX7⟩
theorem fc_X7_9 : FC0 RX7 9 7 0 (.array .int) := ⟨_, _, _, _, kw_X7, by decide, rfl, (lw_g 80 (by decide +kernel) rfl), rfl, by decide +kernel⟩
theorem fc_X7_15 : FC0 RX7 15 7 1 (.array .int) := ⟨_, _, _, _, kw_X7, by decide, rfl, (lw_g 82 (by decide +kernel) rfl), rfl, by decide +kernel⟩
theorem fc_X7_18 : FC0 RX7 18 7 2 (.array .int) := ⟨_, _, _, _, kw_X7, by decide, rfl, (lw_g 83 (by decide +kernel) rfl), rfl, by decide +kernel⟩
theorem fc_X7_21 : FC0 RX7 21 7 3 (.array .int) := ⟨_, _, _, _, kw_X7, by decide, rfl, (lw_g 84 (by decide +kernel) rfl), rfl, by decide +kernel⟩
theorem fc_X7_24 : FC0 RX7 24 7 4 (.array .int) := ⟨_, _, _, _, kw_X7, by decide, rfl, (lw_g 85 (by decide +kernel) rfl), rfl, by decide +kernel⟩
theorem fc_X7_27 : FC0 RX7 27 7 5 (.array .int) := ⟨_, _, _, _, kw_X7, by decide, rfl, (lw_g 86 (by decide +kernel) rfl), rfl, by decide +kernel⟩
theorem fc_X7_30 : FC0 RX7 30 7 6 (.array .int) := ⟨_, _, _, _, kw_X7, by decide, rfl, (lw_g 87 (by decide +kernel) rfl), rfl, by decide +kernel⟩
theorem fc_X7_33 : FC0 RX7 33 7 7 .int := ⟨_, _, _, _, kw_X7, by decide, rfl, (lw_g 88 (by decide +kernel) rfl), rfl, by decide +kernel⟩
theorem fc_X7_37 : FC0 RX7 37 7 8 .int := ⟨_, _, _, _, kw_X7, by decide, rfl, (lw_g 90 (by decide +kernel) rfl), rfl, by decide +kernel⟩
theorem fc_X7_40 : FC0 RX7 40 7 9 .int := ⟨_, _, _, _, kw_X7, by decide, rfl, (lw_g 96 (by decide +kernel) rfl), rfl, by decide +kernel⟩
theorem kw_X3 : CW 3 RX3 TX3 3 tyX3 := ⟨rfl, by decide +kernel, tyX3_ok, nmX3⟩
theorem fc_X3_9 : FC0 RX3 9 3 0 (.array .int) := ⟨_, _, _, _, kw_X3, by decide, rfl, (lw_g 181 (by decide +kernel) rfl), rfl, by decide +kernel⟩
theorem fc_X3_15 : FC0 RX3 15 3 1 (.array .int) := ⟨_, _, _, _, kw_X3, by decide, rfl, (lw_g 183 (by decide +kernel) rfl), rfl, by decide +kernel⟩
theorem fc_X3_18 : FC0 RX3 18 3 2 .int := ⟨_, _, _, _, kw_X3, by decide, rfl, (lw_g 184 (by decide +kernel) rfl), rfl, by decide +kernel⟩
theorem kw_X0 : CW 0 RX0 TX0 6 tyX0 := ⟨rfl, by decide +kernel, tyX0_ok, nmX0⟩
theorem fc_X0_9 : FC0 RX0 9 0 0 (.array .int) := ⟨_, _, _, _, kw_X0, by decide, rfl, (lw_g 198 (by decide +kernel) rfl), rfl, by decide +kernel⟩
theorem fc_X0_15 : FC0 RX0 15 0 1 (.array .int) := ⟨_, _, _, _, kw_X0, by decide, rfl, (lw_g 199 (by decide +kernel) rfl), rfl, by decide +kernel⟩
theorem fc_X0_18 : FC0 RX0 18 0 2 (.array .int) := ⟨_, _, _, _, kw_X0, by decide, rfl, (lw_g 200 (by decide +kernel) rfl), rfl, by decide +kernel⟩
theorem fc_X0_21 : FC0 RX0 21 0 3 (.array .int) := ⟨_, _, _, _, kw_X0, by decide, rfl, (lw_g 201 (by decide +kernel) rfl), rfl, by decide +kernel⟩
theorem fc_X0_24 : FC0 RX0 24 0 4 .int := ⟨_, _, _, _, kw_X0, by decide, rfl, (lw_g 202 (by decide +kernel) rfl), rfl, by decide +kernel⟩
theorem fc_X0_28 : FC0 RX0 28 0 5 .int := ⟨_, _, _, _, kw_X0, by decide, rfl, (lw_g 203 (by decide +kernel) rfl), rfl, by decide +kernel⟩
theorem df_X7 : ∀ j, j < 10 → defaultValue (tyX7 j) = vp_V [.null, .null, .null, .null, .null, .null, .null, .int 0, .int 0, .int 0] j := by
  intro j hj
  have c : j = 0 ∨ j = 1 ∨ j = 2 ∨ j = 3 ∨ j = 4 ∨ j = 5 ∨ j = 6 ∨ j = 7 ∨ j = 8 ∨ j = 9 := by omega
  rcases c with rfl | rfl | rfl | rfl | rfl | rfl | rfl | rfl | rfl | rfl <;> rfl
theorem lk_X4_11m : LK RX4 11 yX7_init := Or.inr ⟨"BolsterBeds", (lw_n 126 (by decide +kernel) rfl)⟩
theorem kw_X4 : CW 4 RX4 TX4 4 tyX4 := ⟨rfl, by decide +kernel, tyX4_ok, nmX4⟩
theorem fc_X4_12 : FC0 RX4 12 4 0 (.object "BolsterBeds$Town") := ⟨_, _, _, _, kw_X4, by decide, rfl, (lw_g 127 (by decide +kernel) rfl), rfl, by decide +kernel⟩
theorem fc_X4_18 : FC0 RX4 18 4 1 (.array .int) := ⟨_, _, _, _, kw_X4, by decide, rfl, (lw_g 129 (by decide +kernel) rfl), rfl, by decide +kernel⟩
theorem fc_X4_22 : FC0 RX4 22 4 2 .int := ⟨_, _, _, _, kw_X4, by decide, rfl, (lw_g 130 (by decide +kernel) rfl), rfl, by decide +kernel⟩
theorem fc_X4_26 : FC0 RX4 26 4 3 .int := ⟨_, _, _, _, kw_X4, by decide, rfl, (lw_g 131 (by decide +kernel) rfl), rfl, by decide +kernel⟩
def pX7 (cI cT : ClassId) (a : Nat) (w : va_W) : Prop := ∃ (q1 : Nat) (q2 : Nat) (q3 : Nat) (q4 : Nat) (q5 : Nat) (q6 : Nat) (q7 : Nat), w = [(a, .inr (7, [.ref q1, .ref q2, .ref q3, .ref q4, .ref q5, .ref q6, .ref q7, .int 1, .int 0, .int 0]))] ++ [zI q1 cI 4] ++ [zI q2 cI 6] ++ [zI q3 cI 6] ++ [zI q4 cI 6] ++ [zI q5 cI 6] ++ [zI q6 cI 6] ++ [zI q7 cI 6]
theorem cX7_make {l : Launch} {D : va_G} {cI cT : ClassId} : Mk l D cI cT yX7_init cX7_init 1 7 [.null, .null, .null, .null, .null, .null, .null, .int 0, .int 0, .int 0] [] 1 7 40 12 (pX7 cI cT) := by
  refine mk_of (by decide +kernel) rfl (fun a => Nat.le_of_ble_eq_true rfl) (fun Γ a hD hl0 C hr => ?_)
  show U Γ 1 0 [(0, .ref a)] [] [(a, .inr (7, [.null, .null, .null, .null, .null, .null, .null, .int 0, .int 0, .int 0]))] 0 0
  refine k_aload C (i := 0) 0 0 (by decide +kernel) rfl rfl ?_
  refine k_obj C (idx := 3) (lw_g 79 (by decide +kernel) rfl) (lw_g 48 (by decide +kernel) rfl) (lw_g 49 (by decide +kernel) rfl) (by decide) (by decide) (by decide +kernel) ?_
  show U Γ 1 4 [(0, .ref a)] [] ([(a, .inr (7, [.null, .null, .null, .null, .null, .null, .null, .int 0, .int 0, .int 0]))]) 0 0
  refine k_aload C (i := 0) 0 0 (by decide +kernel) rfl rfl ?_
  refine k_iconst C (n := 4) (4) (by decide +kernel) (by decide) ?_
  refine k_newI C (n := 4) (lw_g 73 (by decide +kernel) rfl) (by decide) (by decide) (Nat.le_of_ble_eq_true rfl) (Nat.le_of_ble_eq_true rfl) (Nat.le_of_ble_eq_true rfl) (by decide +kernel) (fun q1 => ?_)
  show U Γ 1 8 [(0, .ref a)] [.ref q1, .ref a] ([(a, .inr (7, [.null, .null, .null, .null, .null, .null, .null, .int 0, .int 0, .int 0]))] ++ [zI q1 cI 4]) 1 4
  refine k_put C hr (idx := 9) (q0 := 0) (fs := [.null, .null, .null, .null, .null, .null, .null, .int 0, .int 0, .int 0]) fc_X7_9 rfl rfl rfl (Nat.le_of_ble_eq_true rfl) rfl (by decide +kernel) ?_
  show U Γ 1 11 [(0, .ref a)] [] ([(a, .inr (7, [.ref q1, .null, .null, .null, .null, .null, .null, .int 0, .int 0, .int 0]))] ++ [zI q1 cI 4]) 1 4
  refine k_aload C (i := 0) 0 0 (by decide +kernel) rfl rfl ?_
  refine k_bipush C (n := 6) (6) (by decide +kernel) (by decide) ?_
  refine k_newI C (n := 6) (lw_g 73 (by decide +kernel) rfl) (by decide) (by decide) (Nat.le_of_ble_eq_true rfl) (Nat.le_of_ble_eq_true rfl) (Nat.le_of_ble_eq_true rfl) (by decide +kernel) (fun q2 => ?_)
  show U Γ 1 16 [(0, .ref a)] [.ref q2, .ref a] ([(a, .inr (7, [.ref q1, .null, .null, .null, .null, .null, .null, .int 0, .int 0, .int 0]))] ++ [zI q1 cI 4] ++ [zI q2 cI 6]) 2 10
  refine k_put C hr (idx := 15) (q0 := 0) (fs := [.ref q1, .null, .null, .null, .null, .null, .null, .int 0, .int 0, .int 0]) fc_X7_15 rfl rfl rfl (Nat.le_of_ble_eq_true rfl) rfl (by decide +kernel) ?_
  show U Γ 1 19 [(0, .ref a)] [] ([(a, .inr (7, [.ref q1, .ref q2, .null, .null, .null, .null, .null, .int 0, .int 0, .int 0]))] ++ [zI q1 cI 4] ++ [zI q2 cI 6]) 2 10
  refine k_aload C (i := 0) 0 0 (by decide +kernel) rfl rfl ?_
  refine k_bipush C (n := 6) (6) (by decide +kernel) (by decide) ?_
  refine k_newI C (n := 6) (lw_g 73 (by decide +kernel) rfl) (by decide) (by decide) (Nat.le_of_ble_eq_true rfl) (Nat.le_of_ble_eq_true rfl) (Nat.le_of_ble_eq_true rfl) (by decide +kernel) (fun q3 => ?_)
  show U Γ 1 24 [(0, .ref a)] [.ref q3, .ref a] ([(a, .inr (7, [.ref q1, .ref q2, .null, .null, .null, .null, .null, .int 0, .int 0, .int 0]))] ++ [zI q1 cI 4] ++ [zI q2 cI 6] ++ [zI q3 cI 6]) 3 16
  refine k_put C hr (idx := 18) (q0 := 0) (fs := [.ref q1, .ref q2, .null, .null, .null, .null, .null, .int 0, .int 0, .int 0]) fc_X7_18 rfl rfl rfl (Nat.le_of_ble_eq_true rfl) rfl (by decide +kernel) ?_
  show U Γ 1 27 [(0, .ref a)] [] ([(a, .inr (7, [.ref q1, .ref q2, .ref q3, .null, .null, .null, .null, .int 0, .int 0, .int 0]))] ++ [zI q1 cI 4] ++ [zI q2 cI 6] ++ [zI q3 cI 6]) 3 16
  refine k_aload C (i := 0) 0 0 (by decide +kernel) rfl rfl ?_
  refine k_bipush C (n := 6) (6) (by decide +kernel) (by decide) ?_
  refine k_newI C (n := 6) (lw_g 73 (by decide +kernel) rfl) (by decide) (by decide) (Nat.le_of_ble_eq_true rfl) (Nat.le_of_ble_eq_true rfl) (Nat.le_of_ble_eq_true rfl) (by decide +kernel) (fun q4 => ?_)
  show U Γ 1 32 [(0, .ref a)] [.ref q4, .ref a] ([(a, .inr (7, [.ref q1, .ref q2, .ref q3, .null, .null, .null, .null, .int 0, .int 0, .int 0]))] ++ [zI q1 cI 4] ++ [zI q2 cI 6] ++ [zI q3 cI 6] ++ [zI q4 cI 6]) 4 22
  refine k_put C hr (idx := 21) (q0 := 0) (fs := [.ref q1, .ref q2, .ref q3, .null, .null, .null, .null, .int 0, .int 0, .int 0]) fc_X7_21 rfl rfl rfl (Nat.le_of_ble_eq_true rfl) rfl (by decide +kernel) ?_
  show U Γ 1 35 [(0, .ref a)] [] ([(a, .inr (7, [.ref q1, .ref q2, .ref q3, .ref q4, .null, .null, .null, .int 0, .int 0, .int 0]))] ++ [zI q1 cI 4] ++ [zI q2 cI 6] ++ [zI q3 cI 6] ++ [zI q4 cI 6]) 4 22
  refine k_aload C (i := 0) 0 0 (by decide +kernel) rfl rfl ?_
  refine k_bipush C (n := 6) (6) (by decide +kernel) (by decide) ?_
  refine k_newI C (n := 6) (lw_g 73 (by decide +kernel) rfl) (by decide) (by decide) (Nat.le_of_ble_eq_true rfl) (Nat.le_of_ble_eq_true rfl) (Nat.le_of_ble_eq_true rfl) (by decide +kernel) (fun q5 => ?_)
  show U Γ 1 40 [(0, .ref a)] [.ref q5, .ref a] ([(a, .inr (7, [.ref q1, .ref q2, .ref q3, .ref q4, .null, .null, .null, .int 0, .int 0, .int 0]))] ++ [zI q1 cI 4] ++ [zI q2 cI 6] ++ [zI q3 cI 6] ++ [zI q4 cI 6] ++ [zI q5 cI 6]) 5 28
  refine k_put C hr (idx := 24) (q0 := 0) (fs := [.ref q1, .ref q2, .ref q3, .ref q4, .null, .null, .null, .int 0, .int 0, .int 0]) fc_X7_24 rfl rfl rfl (Nat.le_of_ble_eq_true rfl) rfl (by decide +kernel) ?_
  show U Γ 1 43 [(0, .ref a)] [] ([(a, .inr (7, [.ref q1, .ref q2, .ref q3, .ref q4, .ref q5, .null, .null, .int 0, .int 0, .int 0]))] ++ [zI q1 cI 4] ++ [zI q2 cI 6] ++ [zI q3 cI 6] ++ [zI q4 cI 6] ++ [zI q5 cI 6]) 5 28
  refine k_aload C (i := 0) 0 0 (by decide +kernel) rfl rfl ?_
  refine k_bipush C (n := 6) (6) (by decide +kernel) (by decide) ?_
  refine k_newI C (n := 6) (lw_g 73 (by decide +kernel) rfl) (by decide) (by decide) (Nat.le_of_ble_eq_true rfl) (Nat.le_of_ble_eq_true rfl) (Nat.le_of_ble_eq_true rfl) (by decide +kernel) (fun q6 => ?_)
  show U Γ 1 48 [(0, .ref a)] [.ref q6, .ref a] ([(a, .inr (7, [.ref q1, .ref q2, .ref q3, .ref q4, .ref q5, .null, .null, .int 0, .int 0, .int 0]))] ++ [zI q1 cI 4] ++ [zI q2 cI 6] ++ [zI q3 cI 6] ++ [zI q4 cI 6] ++ [zI q5 cI 6] ++ [zI q6 cI 6]) 6 34
  refine k_put C hr (idx := 27) (q0 := 0) (fs := [.ref q1, .ref q2, .ref q3, .ref q4, .ref q5, .null, .null, .int 0, .int 0, .int 0]) fc_X7_27 rfl rfl rfl (Nat.le_of_ble_eq_true rfl) rfl (by decide +kernel) ?_
  show U Γ 1 51 [(0, .ref a)] [] ([(a, .inr (7, [.ref q1, .ref q2, .ref q3, .ref q4, .ref q5, .ref q6, .null, .int 0, .int 0, .int 0]))] ++ [zI q1 cI 4] ++ [zI q2 cI 6] ++ [zI q3 cI 6] ++ [zI q4 cI 6] ++ [zI q5 cI 6] ++ [zI q6 cI 6]) 6 34
  refine k_aload C (i := 0) 0 0 (by decide +kernel) rfl rfl ?_
  refine k_bipush C (n := 6) (6) (by decide +kernel) (by decide) ?_
  refine k_newI C (n := 6) (lw_g 73 (by decide +kernel) rfl) (by decide) (by decide) (Nat.le_of_ble_eq_true rfl) (Nat.le_of_ble_eq_true rfl) (Nat.le_of_ble_eq_true rfl) (by decide +kernel) (fun q7 => ?_)
  show U Γ 1 56 [(0, .ref a)] [.ref q7, .ref a] ([(a, .inr (7, [.ref q1, .ref q2, .ref q3, .ref q4, .ref q5, .ref q6, .null, .int 0, .int 0, .int 0]))] ++ [zI q1 cI 4] ++ [zI q2 cI 6] ++ [zI q3 cI 6] ++ [zI q4 cI 6] ++ [zI q5 cI 6] ++ [zI q6 cI 6] ++ [zI q7 cI 6]) 7 40
  refine k_put C hr (idx := 30) (q0 := 0) (fs := [.ref q1, .ref q2, .ref q3, .ref q4, .ref q5, .ref q6, .null, .int 0, .int 0, .int 0]) fc_X7_30 rfl rfl rfl (Nat.le_of_ble_eq_true rfl) rfl (by decide +kernel) ?_
  show U Γ 1 59 [(0, .ref a)] [] ([(a, .inr (7, [.ref q1, .ref q2, .ref q3, .ref q4, .ref q5, .ref q6, .ref q7, .int 0, .int 0, .int 0]))] ++ [zI q1 cI 4] ++ [zI q2 cI 6] ++ [zI q3 cI 6] ++ [zI q4 cI 6] ++ [zI q5 cI 6] ++ [zI q6 cI 6] ++ [zI q7 cI 6]) 7 40
  refine k_aload C (i := 0) 0 0 (by decide +kernel) rfl rfl ?_
  refine k_iconst C (n := 1) (1) (by decide +kernel) (by decide) ?_
  refine k_put C hr (idx := 33) (q0 := 0) (fs := [.ref q1, .ref q2, .ref q3, .ref q4, .ref q5, .ref q6, .ref q7, .int 0, .int 0, .int 0]) fc_X7_33 rfl rfl rfl (Nat.le_of_ble_eq_true rfl) rfl (by decide +kernel) ?_
  show U Γ 1 64 [(0, .ref a)] [] ([(a, .inr (7, [.ref q1, .ref q2, .ref q3, .ref q4, .ref q5, .ref q6, .ref q7, .int 1, .int 0, .int 0]))] ++ [zI q1 cI 4] ++ [zI q2 cI 6] ++ [zI q3 cI 6] ++ [zI q4 cI 6] ++ [zI q5 cI 6] ++ [zI q6 cI 6] ++ [zI q7 cI 6]) 7 40
  refine k_aload C (i := 0) 0 0 (by decide +kernel) rfl rfl ?_
  refine k_iconst C (n := 0) (0) (by decide +kernel) (by decide) ?_
  refine k_put C hr (idx := 37) (q0 := 0) (fs := [.ref q1, .ref q2, .ref q3, .ref q4, .ref q5, .ref q6, .ref q7, .int 1, .int 0, .int 0]) fc_X7_37 rfl rfl rfl (Nat.le_of_ble_eq_true rfl) rfl (by decide +kernel) ?_
  show U Γ 1 69 [(0, .ref a)] [] ([(a, .inr (7, [.ref q1, .ref q2, .ref q3, .ref q4, .ref q5, .ref q6, .ref q7, .int 1, .int 0, .int 0]))] ++ [zI q1 cI 4] ++ [zI q2 cI 6] ++ [zI q3 cI 6] ++ [zI q4 cI 6] ++ [zI q5 cI 6] ++ [zI q6 cI 6] ++ [zI q7 cI 6]) 7 40
  refine k_aload C (i := 0) 0 0 (by decide +kernel) rfl rfl ?_
  refine k_iconst C (n := 0) (0) (by decide +kernel) (by decide) ?_
  refine k_put C hr (idx := 40) (q0 := 0) (fs := [.ref q1, .ref q2, .ref q3, .ref q4, .ref q5, .ref q6, .ref q7, .int 1, .int 0, .int 0]) fc_X7_40 rfl rfl rfl (Nat.le_of_ble_eq_true rfl) rfl (by decide +kernel) ?_
  show U Γ 1 74 [(0, .ref a)] [] ([(a, .inr (7, [.ref q1, .ref q2, .ref q3, .ref q4, .ref q5, .ref q6, .ref q7, .int 1, .int 0, .int 0]))] ++ [zI q1 cI 4] ++ [zI q2 cI 6] ++ [zI q3 cI 6] ++ [zI q4 cI 6] ++ [zI q5 cI 6] ++ [zI q6 cI 6] ++ [zI q7 cI 6]) 7 40
  exact k_ret C hr ⟨q1, q2, q3, q4, q5, q6, q7, rfl⟩ (Nat.le_of_ble_eq_true rfl) (Nat.le_of_ble_eq_true rfl) (by decide +kernel)

def pX3 (cI cT : ClassId) (a : Nat) (w : va_W) : Prop := ∃ (q1 : Nat) (q2 : Nat), w = [(a, .inr (3, [.ref q1, .ref q2, .int 0]))] ++ [zI q1 cI 6] ++ [zI q2 cI 6]
theorem cX3_make {l : Launch} {D : va_G} {cI cT : ClassId} : Mk l D cI cT yX3_init cX3_init 1 3 [.null, .null, .int 0] [] 1 2 12 12 (pX3 cI cT) := by
  refine mk_of (by decide +kernel) rfl (fun a => Nat.le_of_ble_eq_true rfl) (fun Γ a hD hl0 C hr => ?_)
  show U Γ 1 0 [(0, .ref a)] [] [(a, .inr (3, [.null, .null, .int 0]))] 0 0
  refine k_aload C (i := 0) 0 0 (by decide +kernel) rfl rfl ?_
  refine k_obj C (idx := 3) (lw_g 180 (by decide +kernel) rfl) (lw_g 48 (by decide +kernel) rfl) (lw_g 49 (by decide +kernel) rfl) (by decide) (by decide) (by decide +kernel) ?_
  show U Γ 1 4 [(0, .ref a)] [] ([(a, .inr (3, [.null, .null, .int 0]))]) 0 0
  refine k_aload C (i := 0) 0 0 (by decide +kernel) rfl rfl ?_
  refine k_bipush C (n := 6) (6) (by decide +kernel) (by decide) ?_
  refine k_newI C (n := 6) (lw_g 73 (by decide +kernel) rfl) (by decide) (by decide) (Nat.le_of_ble_eq_true rfl) (Nat.le_of_ble_eq_true rfl) (Nat.le_of_ble_eq_true rfl) (by decide +kernel) (fun q1 => ?_)
  show U Γ 1 9 [(0, .ref a)] [.ref q1, .ref a] ([(a, .inr (3, [.null, .null, .int 0]))] ++ [zI q1 cI 6]) 1 6
  refine k_put C hr (idx := 9) (q0 := 0) (fs := [.null, .null, .int 0]) fc_X3_9 rfl rfl rfl (Nat.le_of_ble_eq_true rfl) rfl (by decide +kernel) ?_
  show U Γ 1 12 [(0, .ref a)] [] ([(a, .inr (3, [.ref q1, .null, .int 0]))] ++ [zI q1 cI 6]) 1 6
  refine k_aload C (i := 0) 0 0 (by decide +kernel) rfl rfl ?_
  refine k_bipush C (n := 6) (6) (by decide +kernel) (by decide) ?_
  refine k_newI C (n := 6) (lw_g 73 (by decide +kernel) rfl) (by decide) (by decide) (Nat.le_of_ble_eq_true rfl) (Nat.le_of_ble_eq_true rfl) (Nat.le_of_ble_eq_true rfl) (by decide +kernel) (fun q2 => ?_)
  show U Γ 1 17 [(0, .ref a)] [.ref q2, .ref a] ([(a, .inr (3, [.ref q1, .null, .int 0]))] ++ [zI q1 cI 6] ++ [zI q2 cI 6]) 2 12
  refine k_put C hr (idx := 15) (q0 := 0) (fs := [.ref q1, .null, .int 0]) fc_X3_15 rfl rfl rfl (Nat.le_of_ble_eq_true rfl) rfl (by decide +kernel) ?_
  show U Γ 1 20 [(0, .ref a)] [] ([(a, .inr (3, [.ref q1, .ref q2, .int 0]))] ++ [zI q1 cI 6] ++ [zI q2 cI 6]) 2 12
  refine k_aload C (i := 0) 0 0 (by decide +kernel) rfl rfl ?_
  refine k_iconst C (n := 0) (0) (by decide +kernel) (by decide) ?_
  refine k_put C hr (idx := 18) (q0 := 0) (fs := [.ref q1, .ref q2, .int 0]) fc_X3_18 rfl rfl rfl (Nat.le_of_ble_eq_true rfl) rfl (by decide +kernel) ?_
  show U Γ 1 25 [(0, .ref a)] [] ([(a, .inr (3, [.ref q1, .ref q2, .int 0]))] ++ [zI q1 cI 6] ++ [zI q2 cI 6]) 2 12
  exact k_ret C hr ⟨q1, q2, rfl⟩ (Nat.le_of_ble_eq_true rfl) (Nat.le_of_ble_eq_true rfl) (by decide +kernel)

def pX0 (cI cT : ClassId) (a : Nat) (w : va_W) : Prop := ∃ (q1 : Nat) (q2 : Nat) (q3 : Nat) (q4 : Nat), w = [(a, .inr (0, [.ref q1, .ref q2, .ref q3, .ref q4, .int 0, .int 0]))] ++ [zI q1 cI 20] ++ [zI q2 cI 20] ++ [zI q3 cI 6] ++ [zI q4 cI 31]
theorem cX0_make {l : Launch} {D : va_G} {cI cT : ClassId} : Mk l D cI cT yX0_init cX0_init 1 0 [.null, .null, .null, .null, .int 0, .int 0] [] 1 4 77 12 (pX0 cI cT) := by
  refine mk_of (by decide +kernel) rfl (fun a => Nat.le_of_ble_eq_true rfl) (fun Γ a hD hl0 C hr => ?_)
  show U Γ 1 0 [(0, .ref a)] [] [(a, .inr (0, [.null, .null, .null, .null, .int 0, .int 0]))] 0 0
  refine k_aload C (i := 0) 0 0 (by decide +kernel) rfl rfl ?_
  refine k_obj C (idx := 3) (lw_g 197 (by decide +kernel) rfl) (lw_g 48 (by decide +kernel) rfl) (lw_g 49 (by decide +kernel) rfl) (by decide) (by decide) (by decide +kernel) ?_
  show U Γ 1 4 [(0, .ref a)] [] ([(a, .inr (0, [.null, .null, .null, .null, .int 0, .int 0]))]) 0 0
  refine k_aload C (i := 0) 0 0 (by decide +kernel) rfl rfl ?_
  refine k_bipush C (n := 20) (20) (by decide +kernel) (by decide) ?_
  refine k_newI C (n := 20) (lw_g 73 (by decide +kernel) rfl) (by decide) (by decide) (Nat.le_of_ble_eq_true rfl) (Nat.le_of_ble_eq_true rfl) (Nat.le_of_ble_eq_true rfl) (by decide +kernel) (fun q1 => ?_)
  show U Γ 1 9 [(0, .ref a)] [.ref q1, .ref a] ([(a, .inr (0, [.null, .null, .null, .null, .int 0, .int 0]))] ++ [zI q1 cI 20]) 1 20
  refine k_put C hr (idx := 9) (q0 := 0) (fs := [.null, .null, .null, .null, .int 0, .int 0]) fc_X0_9 rfl rfl rfl (Nat.le_of_ble_eq_true rfl) rfl (by decide +kernel) ?_
  show U Γ 1 12 [(0, .ref a)] [] ([(a, .inr (0, [.ref q1, .null, .null, .null, .int 0, .int 0]))] ++ [zI q1 cI 20]) 1 20
  refine k_aload C (i := 0) 0 0 (by decide +kernel) rfl rfl ?_
  refine k_bipush C (n := 20) (20) (by decide +kernel) (by decide) ?_
  refine k_newI C (n := 20) (lw_g 73 (by decide +kernel) rfl) (by decide) (by decide) (Nat.le_of_ble_eq_true rfl) (Nat.le_of_ble_eq_true rfl) (Nat.le_of_ble_eq_true rfl) (by decide +kernel) (fun q2 => ?_)
  show U Γ 1 17 [(0, .ref a)] [.ref q2, .ref a] ([(a, .inr (0, [.ref q1, .null, .null, .null, .int 0, .int 0]))] ++ [zI q1 cI 20] ++ [zI q2 cI 20]) 2 40
  refine k_put C hr (idx := 15) (q0 := 0) (fs := [.ref q1, .null, .null, .null, .int 0, .int 0]) fc_X0_15 rfl rfl rfl (Nat.le_of_ble_eq_true rfl) rfl (by decide +kernel) ?_
  show U Γ 1 20 [(0, .ref a)] [] ([(a, .inr (0, [.ref q1, .ref q2, .null, .null, .int 0, .int 0]))] ++ [zI q1 cI 20] ++ [zI q2 cI 20]) 2 40
  refine k_aload C (i := 0) 0 0 (by decide +kernel) rfl rfl ?_
  refine k_bipush C (n := 6) (6) (by decide +kernel) (by decide) ?_
  refine k_newI C (n := 6) (lw_g 73 (by decide +kernel) rfl) (by decide) (by decide) (Nat.le_of_ble_eq_true rfl) (Nat.le_of_ble_eq_true rfl) (Nat.le_of_ble_eq_true rfl) (by decide +kernel) (fun q3 => ?_)
  show U Γ 1 25 [(0, .ref a)] [.ref q3, .ref a] ([(a, .inr (0, [.ref q1, .ref q2, .null, .null, .int 0, .int 0]))] ++ [zI q1 cI 20] ++ [zI q2 cI 20] ++ [zI q3 cI 6]) 3 46
  refine k_put C hr (idx := 18) (q0 := 0) (fs := [.ref q1, .ref q2, .null, .null, .int 0, .int 0]) fc_X0_18 rfl rfl rfl (Nat.le_of_ble_eq_true rfl) rfl (by decide +kernel) ?_
  show U Γ 1 28 [(0, .ref a)] [] ([(a, .inr (0, [.ref q1, .ref q2, .ref q3, .null, .int 0, .int 0]))] ++ [zI q1 cI 20] ++ [zI q2 cI 20] ++ [zI q3 cI 6]) 3 46
  refine k_aload C (i := 0) 0 0 (by decide +kernel) rfl rfl ?_
  refine k_bipush C (n := 31) (31) (by decide +kernel) (by decide) ?_
  refine k_newI C (n := 31) (lw_g 73 (by decide +kernel) rfl) (by decide) (by decide) (Nat.le_of_ble_eq_true rfl) (Nat.le_of_ble_eq_true rfl) (Nat.le_of_ble_eq_true rfl) (by decide +kernel) (fun q4 => ?_)
  show U Γ 1 33 [(0, .ref a)] [.ref q4, .ref a] ([(a, .inr (0, [.ref q1, .ref q2, .ref q3, .null, .int 0, .int 0]))] ++ [zI q1 cI 20] ++ [zI q2 cI 20] ++ [zI q3 cI 6] ++ [zI q4 cI 31]) 4 77
  refine k_put C hr (idx := 21) (q0 := 0) (fs := [.ref q1, .ref q2, .ref q3, .null, .int 0, .int 0]) fc_X0_21 rfl rfl rfl (Nat.le_of_ble_eq_true rfl) rfl (by decide +kernel) ?_
  show U Γ 1 36 [(0, .ref a)] [] ([(a, .inr (0, [.ref q1, .ref q2, .ref q3, .ref q4, .int 0, .int 0]))] ++ [zI q1 cI 20] ++ [zI q2 cI 20] ++ [zI q3 cI 6] ++ [zI q4 cI 31]) 4 77
  refine k_aload C (i := 0) 0 0 (by decide +kernel) rfl rfl ?_
  refine k_iconst C (n := 0) (0) (by decide +kernel) (by decide) ?_
  refine k_put C hr (idx := 24) (q0 := 0) (fs := [.ref q1, .ref q2, .ref q3, .ref q4, .int 0, .int 0]) fc_X0_24 rfl rfl rfl (Nat.le_of_ble_eq_true rfl) rfl (by decide +kernel) ?_
  show U Γ 1 41 [(0, .ref a)] [] ([(a, .inr (0, [.ref q1, .ref q2, .ref q3, .ref q4, .int 0, .int 0]))] ++ [zI q1 cI 20] ++ [zI q2 cI 20] ++ [zI q3 cI 6] ++ [zI q4 cI 31]) 4 77
  refine k_aload C (i := 0) 0 0 (by decide +kernel) rfl rfl ?_
  refine k_iconst C (n := 0) (0) (by decide +kernel) (by decide) ?_
  refine k_put C hr (idx := 28) (q0 := 0) (fs := [.ref q1, .ref q2, .ref q3, .ref q4, .int 0, .int 0]) fc_X0_28 rfl rfl rfl (Nat.le_of_ble_eq_true rfl) rfl (by decide +kernel) ?_
  show U Γ 1 46 [(0, .ref a)] [] ([(a, .inr (0, [.ref q1, .ref q2, .ref q3, .ref q4, .int 0, .int 0]))] ++ [zI q1 cI 20] ++ [zI q2 cI 20] ++ [zI q3 cI 6] ++ [zI q4 cI 31]) 4 77
  exact k_ret C hr ⟨q1, q2, q3, q4, rfl⟩ (Nat.le_of_ble_eq_true rfl) (Nat.le_of_ble_eq_true rfl) (by decide +kernel)

def pX4 (cI cT : ClassId) (a : Nat) (w : va_W) : Prop := ∃ (q1 : Nat) (w1 : va_W) (q2 : Nat), pX7 cI cT q1 w1 ∧ w = [(a, .inr (4, [.ref q1, .ref q2, .int 0, .int 0]))] ++ w1 ++ [zI q2 cI 60]
theorem cX4_make {l : Launch} {D : va_G} {cI cT : ClassId} : Mk l D cI cT yX4_init cX4_init 1 4 [.null, .null, .int 0, .int 0] [] 2 9 110 32 (pX4 cI cT) := by
  refine mk_of (by decide +kernel) rfl (fun a => Nat.le_of_ble_eq_true rfl) (fun Γ a hD hl0 C hr => ?_)
  show U Γ 1 0 [(0, .ref a)] [] [(a, .inr (4, [.null, .null, .int 0, .int 0]))] 0 0
  refine k_aload C (i := 0) 0 0 (by decide +kernel) rfl rfl ?_
  refine k_obj C (idx := 3) (lw_g 124 (by decide +kernel) rfl) (lw_g 48 (by decide +kernel) rfl) (lw_g 49 (by decide +kernel) rfl) (by decide) (by decide) (by decide +kernel) ?_
  show U Γ 1 4 [(0, .ref a)] [] ([(a, .inr (4, [.null, .null, .int 0, .int 0]))]) 0 0
  refine k_aload C (i := 0) 0 0 (by decide +kernel) rfl rfl ?_
  refine k_new C (idx := 9) kw_X7 (lw_g 125 (by decide +kernel) rfl) (lw_g 75 (by decide +kernel) rfl) (lw_g 33 (by decide +kernel) rfl) df_X7 (Nat.le_of_ble_eq_true rfl) (Nat.le_of_ble_eq_true rfl) (by decide +kernel) (fun q1 => ?_)
  show U Γ 1 8 [(0, .ref a)] [.ref q1, .ref a] ([(a, .inr (4, [.null, .null, .int 0, .int 0]))] ++ [(q1, .inr (7, [.null, .null, .null, .null, .null, .null, .null, .int 0, .int 0, .int 0]))]) 1 10
  refine k_dup C (by decide +kernel) ?_
  refine k_call (idx := 11) (pre := [(a, .inr (4, [.null, .null, .int 0, .int 0]))]) C hD hl0 (avs := []) (n := 0) cX7_make rfl (lw_g 77 (by decide +kernel) rfl) (lw_g 78 (by decide +kernel) rfl) (lw_g 33 (by decide +kernel) rfl) (by decide +kernel) lk_X4_11m rfl rfl (Nat.le_of_ble_eq_true rfl) (by decide) (by decide) (Nat.le_of_ble_eq_true rfl) (Nat.le_of_ble_eq_true rfl) (by decide +kernel) (fun w1 hw1 => ?_)
  show U Γ 1 12 [(0, .ref a)] [.ref q1, .ref a] ([(a, .inr (4, [.null, .null, .int 0, .int 0]))] ++ w1) 8 50
  refine k_put C hr (idx := 12) (q0 := 0) (fs := [.null, .null, .int 0, .int 0]) fc_X4_12 rfl rfl rfl (Nat.le_of_ble_eq_true rfl) rfl (by decide +kernel) ?_
  show U Γ 1 15 [(0, .ref a)] [] ([(a, .inr (4, [.ref q1, .null, .int 0, .int 0]))] ++ w1) 8 50
  refine k_aload C (i := 0) 0 0 (by decide +kernel) rfl rfl ?_
  refine k_bipush C (n := 60) (60) (by decide +kernel) (by decide) ?_
  refine k_newI C (n := 60) (lw_g 73 (by decide +kernel) rfl) (by decide) (by decide) (Nat.le_of_ble_eq_true rfl) (Nat.le_of_ble_eq_true rfl) (Nat.le_of_ble_eq_true rfl) (by decide +kernel) (fun q2 => ?_)
  show U Γ 1 20 [(0, .ref a)] [.ref q2, .ref a] ([(a, .inr (4, [.ref q1, .null, .int 0, .int 0]))] ++ w1 ++ [zI q2 cI 60]) 9 110
  refine k_put C hr (idx := 18) (q0 := 0) (fs := [.ref q1, .null, .int 0, .int 0]) fc_X4_18 rfl rfl rfl (Nat.le_of_ble_eq_true rfl) rfl (by decide +kernel) ?_
  show U Γ 1 23 [(0, .ref a)] [] ([(a, .inr (4, [.ref q1, .ref q2, .int 0, .int 0]))] ++ w1 ++ [zI q2 cI 60]) 9 110
  refine k_aload C (i := 0) 0 0 (by decide +kernel) rfl rfl ?_
  refine k_iconst C (n := 0) (0) (by decide +kernel) (by decide) ?_
  refine k_put C hr (idx := 22) (q0 := 0) (fs := [.ref q1, .ref q2, .int 0, .int 0]) fc_X4_22 rfl rfl rfl (Nat.le_of_ble_eq_true rfl) rfl (by decide +kernel) ?_
  show U Γ 1 28 [(0, .ref a)] [] ([(a, .inr (4, [.ref q1, .ref q2, .int 0, .int 0]))] ++ w1 ++ [zI q2 cI 60]) 9 110
  refine k_aload C (i := 0) 0 0 (by decide +kernel) rfl rfl ?_
  refine k_iconst C (n := 0) (0) (by decide +kernel) (by decide) ?_
  refine k_put C hr (idx := 26) (q0 := 0) (fs := [.ref q1, .ref q2, .int 0, .int 0]) fc_X4_26 rfl rfl rfl (Nat.le_of_ble_eq_true rfl) rfl (by decide +kernel) ?_
  show U Γ 1 33 [(0, .ref a)] [] ([(a, .inr (4, [.ref q1, .ref q2, .int 0, .int 0]))] ++ w1 ++ [zI q2 cI 60]) 9 110
  exact k_ret C hr ⟨q1, w1, q2, hw1, rfl⟩ (Nat.le_of_ble_eq_true rfl) (Nat.le_of_ble_eq_true rfl) (by decide +kernel)


theorem df_X2 : ∀ j, j < 1 → defaultValue (tyX2 j) = vp_V [.null] j := by
  intro j hj
  have c : j = 0 := by omega
  rcases c with rfl <;> rfl
theorem lk_X5_11m : LK RX5 11 yX2_init := Or.inl (lw_g 149 (by decide +kernel) rfl)
theorem kw_X5 : CW 5 RX5 TX5 4 tyX5 := ⟨rfl, by decide +kernel, tyX5_ok, nmX5⟩
theorem fc_X5_14 : FC0 RX5 14 5 0 (.object "BolsterBeds$Levels") := ⟨_, _, _, _, kw_X5, by decide, rfl, (lw_g 161 (by decide +kernel) rfl), rfl, by decide +kernel⟩
theorem fc_X5_20 : FC0 RX5 20 5 1 (.array .int) := ⟨_, _, _, _, kw_X5, by decide, rfl, (lw_g 162 (by decide +kernel) rfl), rfl, by decide +kernel⟩
theorem fc_X5_24 : FC0 RX5 24 5 2 (.array .int) := ⟨_, _, _, _, kw_X5, by decide, rfl, (lw_g 164 (by decide +kernel) rfl), rfl, by decide +kernel⟩
theorem fc_X5_27 : FC0 RX5 27 5 3 .int := ⟨_, _, _, _, kw_X5, by decide, rfl, (lw_g 165 (by decide +kernel) rfl), rfl, by decide +kernel⟩
theorem lk_X1_11m : LK RX1 11 yX2_init := Or.inl (lw_g 225 (by decide +kernel) rfl)
theorem kw_X1 : CW 1 RX1 TX1 1 tyX1 := ⟨rfl, by decide +kernel, tyX1_ok, nmX1⟩
theorem fc_X1_14 : FC0 RX1 14 1 0 (.object "BolsterBeds$Levels") := ⟨_, _, _, _, kw_X1, by decide, rfl, (lw_g 226 (by decide +kernel) rfl), rfl, by decide +kernel⟩
def pX5 (cI cT : ClassId) (a : Nat) (w : va_W) : Prop := ∃ (q1 : Nat) (w1 : va_W) (q2 : Nat) (q3 : Nat), pX2_5 cI cT q1 w1 ∧ w = [(a, .inr (5, [.ref q1, .ref q2, .ref q3, .int 0]))] ++ w1 ++ [zI q2 cI 4] ++ [zI q3 cI 4]
theorem cX5_make {l : Launch} {D : va_G} {cI cT : ClassId} : Mk l D cI cT yX5_init cX5_init 1 5 [.null, .null, .null, .int 0] [] 3 44 264 54 (pX5 cI cT) := by
  refine mk_of (by decide +kernel) rfl (fun a => Nat.le_of_ble_eq_true rfl) (fun Γ a hD hl0 C hr => ?_)
  show U Γ 1 0 [(0, .ref a)] [] [(a, .inr (5, [.null, .null, .null, .int 0]))] 0 0
  refine k_aload C (i := 0) 0 0 (by decide +kernel) rfl rfl ?_
  refine k_obj C (idx := 3) (lw_g 146 (by decide +kernel) rfl) (lw_g 48 (by decide +kernel) rfl) (lw_g 49 (by decide +kernel) rfl) (by decide) (by decide) (by decide +kernel) ?_
  show U Γ 1 4 [(0, .ref a)] [] ([(a, .inr (5, [.null, .null, .null, .int 0]))]) 0 0
  refine k_aload C (i := 0) 0 0 (by decide +kernel) rfl rfl ?_
  refine k_new C (idx := 9) kw_X2 (lw_g 147 (by decide +kernel) rfl) (lw_g 148 (by decide +kernel) rfl) (lw_g 36 (by decide +kernel) rfl) df_X2 (Nat.le_of_ble_eq_true rfl) (Nat.le_of_ble_eq_true rfl) (by decide +kernel) (fun q1 => ?_)
  show U Γ 1 8 [(0, .ref a)] [.ref q1, .ref a] ([(a, .inr (5, [.null, .null, .null, .int 0]))] ++ [(q1, .inr (2, [.null]))]) 1 1
  refine k_dup C (by decide +kernel) ?_
  refine k_iconst C (n := 5) (5) (by decide +kernel) (by decide) ?_
  refine k_call (idx := 11) (pre := [(a, .inr (5, [.null, .null, .null, .int 0]))]) C hD hl0 (avs := [.int 5]) (n := 1) cX2_5_make rfl (lw_g 150 (by decide +kernel) rfl) (lw_g 151 (by decide +kernel) rfl) (lw_g 36 (by decide +kernel) rfl) (by decide +kernel) lk_X5_11m rfl rfl (Nat.le_of_ble_eq_true rfl) (by decide) (by decide) (Nat.le_of_ble_eq_true rfl) (Nat.le_of_ble_eq_true rfl) (by decide +kernel) (fun w1 hw1 => ?_)
  show U Γ 1 13 [(0, .ref a)] [.ref q1, .ref a] ([(a, .inr (5, [.null, .null, .null, .int 0]))] ++ w1) 42 256
  refine k_put C hr (idx := 14) (q0 := 0) (fs := [.null, .null, .null, .int 0]) fc_X5_14 rfl rfl rfl (Nat.le_of_ble_eq_true rfl) rfl (by decide +kernel) ?_
  show U Γ 1 16 [(0, .ref a)] [] ([(a, .inr (5, [.ref q1, .null, .null, .int 0]))] ++ w1) 42 256
  refine k_aload C (i := 0) 0 0 (by decide +kernel) rfl rfl ?_
  refine k_iconst C (n := 4) (4) (by decide +kernel) (by decide) ?_
  refine k_newI C (n := 4) (lw_g 73 (by decide +kernel) rfl) (by decide) (by decide) (Nat.le_of_ble_eq_true rfl) (Nat.le_of_ble_eq_true rfl) (Nat.le_of_ble_eq_true rfl) (by decide +kernel) (fun q2 => ?_)
  show U Γ 1 20 [(0, .ref a)] [.ref q2, .ref a] ([(a, .inr (5, [.ref q1, .null, .null, .int 0]))] ++ w1 ++ [zI q2 cI 4]) 43 260
  refine k_put C hr (idx := 20) (q0 := 0) (fs := [.ref q1, .null, .null, .int 0]) fc_X5_20 rfl rfl rfl (Nat.le_of_ble_eq_true rfl) rfl (by decide +kernel) ?_
  show U Γ 1 23 [(0, .ref a)] [] ([(a, .inr (5, [.ref q1, .ref q2, .null, .int 0]))] ++ w1 ++ [zI q2 cI 4]) 43 260
  refine k_aload C (i := 0) 0 0 (by decide +kernel) rfl rfl ?_
  refine k_iconst C (n := 4) (4) (by decide +kernel) (by decide) ?_
  refine k_newI C (n := 4) (lw_g 73 (by decide +kernel) rfl) (by decide) (by decide) (Nat.le_of_ble_eq_true rfl) (Nat.le_of_ble_eq_true rfl) (Nat.le_of_ble_eq_true rfl) (by decide +kernel) (fun q3 => ?_)
  show U Γ 1 27 [(0, .ref a)] [.ref q3, .ref a] ([(a, .inr (5, [.ref q1, .ref q2, .null, .int 0]))] ++ w1 ++ [zI q2 cI 4] ++ [zI q3 cI 4]) 44 264
  refine k_put C hr (idx := 24) (q0 := 0) (fs := [.ref q1, .ref q2, .null, .int 0]) fc_X5_24 rfl rfl rfl (Nat.le_of_ble_eq_true rfl) rfl (by decide +kernel) ?_
  show U Γ 1 30 [(0, .ref a)] [] ([(a, .inr (5, [.ref q1, .ref q2, .ref q3, .int 0]))] ++ w1 ++ [zI q2 cI 4] ++ [zI q3 cI 4]) 44 264
  refine k_aload C (i := 0) 0 0 (by decide +kernel) rfl rfl ?_
  refine k_iconst C (n := 0) (0) (by decide +kernel) (by decide) ?_
  refine k_put C hr (idx := 27) (q0 := 0) (fs := [.ref q1, .ref q2, .ref q3, .int 0]) fc_X5_27 rfl rfl rfl (Nat.le_of_ble_eq_true rfl) rfl (by decide +kernel) ?_
  show U Γ 1 35 [(0, .ref a)] [] ([(a, .inr (5, [.ref q1, .ref q2, .ref q3, .int 0]))] ++ w1 ++ [zI q2 cI 4] ++ [zI q3 cI 4]) 44 264
  exact k_ret C hr ⟨q1, w1, q2, q3, hw1, rfl⟩ (Nat.le_of_ble_eq_true rfl) (Nat.le_of_ble_eq_true rfl) (by decide +kernel)

def pX1 (cI cT : ClassId) (a : Nat) (w : va_W) : Prop := ∃ (q1 : Nat) (w1 : va_W), pX2_4 cI cT q1 w1 ∧ w = [(a, .inr (1, [.ref q1]))] ++ w1
theorem cX1_make {l : Launch} {D : va_G} {cI cT : ClassId} : Mk l D cI cT yX1_init cX1_init 1 1 [.null] [] 3 34 205 54 (pX1 cI cT) := by
  refine mk_of (by decide +kernel) rfl (fun a => Nat.le_of_ble_eq_true rfl) (fun Γ a hD hl0 C hr => ?_)
  show U Γ 1 0 [(0, .ref a)] [] [(a, .inr (1, [.null]))] 0 0
  refine k_aload C (i := 0) 0 0 (by decide +kernel) rfl rfl ?_
  refine k_obj C (idx := 3) (lw_g 223 (by decide +kernel) rfl) (lw_g 48 (by decide +kernel) rfl) (lw_g 49 (by decide +kernel) rfl) (by decide) (by decide) (by decide +kernel) ?_
  show U Γ 1 4 [(0, .ref a)] [] ([(a, .inr (1, [.null]))]) 0 0
  refine k_aload C (i := 0) 0 0 (by decide +kernel) rfl rfl ?_
  refine k_new C (idx := 9) kw_X2 (lw_g 224 (by decide +kernel) rfl) (lw_g 148 (by decide +kernel) rfl) (lw_g 36 (by decide +kernel) rfl) df_X2 (Nat.le_of_ble_eq_true rfl) (Nat.le_of_ble_eq_true rfl) (by decide +kernel) (fun q1 => ?_)
  show U Γ 1 8 [(0, .ref a)] [.ref q1, .ref a] ([(a, .inr (1, [.null]))] ++ [(q1, .inr (2, [.null]))]) 1 1
  refine k_dup C (by decide +kernel) ?_
  refine k_iconst C (n := 4) (4) (by decide +kernel) (by decide) ?_
  refine k_call (idx := 11) (pre := [(a, .inr (1, [.null]))]) C hD hl0 (avs := [.int 4]) (n := 1) cX2_4_make rfl (lw_g 150 (by decide +kernel) rfl) (lw_g 151 (by decide +kernel) rfl) (lw_g 36 (by decide +kernel) rfl) (by decide +kernel) lk_X1_11m rfl rfl (Nat.le_of_ble_eq_true rfl) (by decide) (by decide) (Nat.le_of_ble_eq_true rfl) (Nat.le_of_ble_eq_true rfl) (by decide +kernel) (fun w1 hw1 => ?_)
  show U Γ 1 13 [(0, .ref a)] [.ref q1, .ref a] ([(a, .inr (1, [.null]))] ++ w1) 34 205
  refine k_put C hr (idx := 14) (q0 := 0) (fs := [.null]) fc_X1_14 rfl rfl rfl (Nat.le_of_ble_eq_true rfl) rfl (by decide +kernel) ?_
  show U Γ 1 16 [(0, .ref a)] [] ([(a, .inr (1, [.ref q1]))] ++ w1) 34 205
  exact k_ret C hr ⟨q1, w1, hw1, rfl⟩ (Nat.le_of_ble_eq_true rfl) (Nat.le_of_ble_eq_true rfl) (by decide +kernel)


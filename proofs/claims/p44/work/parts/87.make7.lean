theorem kw_X6 : CW 6 RX6 TX6 3 tyX6 := ⟨rfl, by decide +kernel, tyX6_ok, nmX6⟩
theorem fc_X6_15 : FC0 RX6 15 6 0 .int := ⟨_, _, _, _, kw_X6, by decide, rfl, (lw_g 62 (by decide +kernel) rfl), rfl, by decide +kernel⟩
theorem fc_X6_21 : FC0 RX6 21 6 1 (.array .int) := ⟨_, _, _, _, kw_X6, by decide, rfl, (lw_g 64 (by decide +kernel) rfl), rfl, by decide +kernel⟩
theorem fc_X6_25 : FC0 RX6 25 6 2 (.array .int) := ⟨_, _, _, _, kw_X6, by decide, rfl, (lw_g 65 (by decide +kernel) rfl), rfl, by decide +kernel⟩
section MAKE7
variable {Γ : UU} {own : String} {cc : ByteArray} {nL pc kc ks fr rc rs rl : Nat} {cI cT : ClassId} {ll : List (Nat × Value)} {st : List Value} {ws : va_W}
theorem k_imulv (C : CU Γ own cc nL cI cT fr rc rs rl) {x y v : Int32} (hv : x * y = v) (hdg : decode cc pc = .ok (.imul, 1)) (k : U Γ nL (pc + 1) ll (.int v :: st) ws kc ks) : U Γ nL pc ll (.int y :: .int x :: st) ws kc ks := by
  subst hv
  exact k_imul C hdg k
theorem k_iastv (C : CU Γ own cc nL cI cT fr rc rs rl) (q0 j : Nat) {a n : Nat} {f : Nat → Int32} {i x : Int32} (hj : i.toNatClampNeg = j) (ha : ws[q0]? = some (a, .inl (cI, n, .inl f))) (hin : ¬ (i < 0 ∨ n ≤ i.toNatClampNeg)) (hdg : decode cc pc = .ok (.iastore, 1)) (k : U Γ nL (pc + 1) ll st (ws.set q0 (a, .inl (cI, n, .inl (upd f j x)))) kc ks) : U Γ nL pc ll (.int x :: .int i :: .ref a :: st) ws kc ks := by
  subst hj
  exact k_iast C q0 ha hin hdg k
theorem k_astv (C : CU Γ own cc nL cI cT fr rc rs rl) (q0 qk j : Nat) {a v n : Nat} {vs : List Value} {f : Nat → Option Nat} {i : Int32} (hj : i.toNatClampNeg = j) (ha : ws[q0]? = some (a, .inl (cT, n, .inr (.inr (.inr (.inr f)))))) (hv : ws[qk]? = some (v, .inr (7, vs))) (hin : ¬ (i < 0 ∨ n ≤ i.toNatClampNeg)) (hdg : decode cc pc = .ok (.aastore, 1)) (k : U Γ nL (pc + 1) ll st (ws.set q0 (a, .inl (cT, n, .inr (.inr (.inr (.inr (va_up f j (some v)))))))) kc ks) : U Γ nL pc ll (.ref v :: .int i :: .ref a :: st) ws kc ks := by
  subst hj
  exact k_ast C q0 qk ha hv hin hdg k
end MAKE7
def pX6_6_40 (cI cT : ClassId) (a : Nat) (w : va_W) : Prop := ∃ (q1 : Nat) (q2 : Nat), w = [(a, .inr (6, [.int 40, .ref q1, .ref q2])), (q1, .inl (cI, 6, .inl (fun j => if j < 6 then (-1) else (fun _ => (0 : Int32)) j))), (q2, .inl (cI, 240, .inl (fun _ => (0 : Int32))))]
set_option maxRecDepth 8000 in
theorem cX6_6_40_make {l : Launch} {D : va_G} {cI cT : ClassId} : Mk l D cI cT yX6_init cX6_init 3 6 [.int 0, .null, .null] [.int 6, .int 40] 2 2 246 35 (pX6_6_40 cI cT) := by
  refine mk_of (by decide +kernel) rfl (fun a => Nat.le_of_ble_eq_true rfl) (fun Γ a hD hl0 C hr => ?_)
  show U Γ 3 0 [(0, .ref a), (1, .int 6), (2, .int 40)] [] [(a, .inr (6, [.int 0, .null, .null]))] 0 0
  refine k_aload C (i := 0) 0 0 (by decide +kernel) rfl rfl ?_
  refine k_obj C (idx := 3) (lw_g 55 (by decide +kernel) rfl) (lw_g 48 (by decide +kernel) rfl) (lw_g 49 (by decide +kernel) rfl) (by decide) (by decide) (by decide +kernel) ?_
  show U Γ 3 4 [(0, .ref a), (1, .int 6), (2, .int 40)] [] ([(a, .inr (6, [.int 0, .null, .null]))]) 0 0
  refine k_aload C (i := 0) 0 0 (by decide +kernel) rfl rfl ?_
  refine k_iconst C (n := 0) (0) (by decide +kernel) (by decide) ?_
  refine k_iload C (i := 2) 2 2 (by decide +kernel) rfl rfl ?_
  refine k_max C (idx := 9) (v := 40) (lw_g 56 (by decide +kernel) rfl) (lw_g 57 (by decide +kernel) rfl) (lw_g 31 (by decide +kernel) rfl) (lw_g 58 (by decide +kernel) rfl) (Nat.le_of_ble_eq_true rfl) (by decide) (by decide) (Nat.le_of_ble_eq_true rfl) (Nat.le_of_ble_eq_true rfl) (by decide) (by decide +kernel) ?_
  refine k_put C hr (idx := 15) (q0 := 0) (fs := [.int 0, .null, .null]) fc_X6_15 rfl rfl rfl (Nat.le_of_ble_eq_true rfl) rfl (by decide +kernel) ?_
  show U Γ 3 13 [(0, .ref a), (1, .int 6), (2, .int 40)] [] ([(a, .inr (6, [.int 40, .null, .null]))]) 0 0
  refine k_aload C (i := 0) 0 0 (by decide +kernel) rfl rfl ?_
  refine k_iconst C (n := 0) (0) (by decide +kernel) (by decide) ?_
  refine k_iload C (i := 1) 1 1 (by decide +kernel) rfl rfl ?_
  refine k_max C (idx := 9) (v := 6) (lw_g 56 (by decide +kernel) rfl) (lw_g 57 (by decide +kernel) rfl) (lw_g 31 (by decide +kernel) rfl) (lw_g 58 (by decide +kernel) rfl) (Nat.le_of_ble_eq_true rfl) (by decide) (by decide) (Nat.le_of_ble_eq_true rfl) (Nat.le_of_ble_eq_true rfl) (by decide) (by decide +kernel) ?_
  refine k_newI C (n := 6) (lw_g 73 (by decide +kernel) rfl) (by decide) (by decide) (Nat.le_of_ble_eq_true rfl) (Nat.le_of_ble_eq_true rfl) (Nat.le_of_ble_eq_true rfl) (by decide +kernel) (fun q1 => ?_)
  show U Γ 3 21 [(0, .ref a), (1, .int 6), (2, .int 40)] [.ref q1, .ref a] ([(a, .inr (6, [.int 40, .null, .null])), (q1, .inl (cI, 6, .inl (fun _ => (0 : Int32))))]) 1 6
  refine k_put C hr (idx := 21) (q0 := 0) (fs := [.int 40, .null, .null]) fc_X6_21 rfl rfl rfl (Nat.le_of_ble_eq_true rfl) rfl (by decide +kernel) ?_
  show U Γ 3 24 [(0, .ref a), (1, .int 6), (2, .int 40)] [] ([(a, .inr (6, [.int 40, .ref q1, .null])), (q1, .inl (cI, 6, .inl (fun _ => (0 : Int32))))]) 1 6
  refine k_aload C (i := 0) 0 0 (by decide +kernel) rfl rfl ?_
  refine k_iconst C (n := 0) (0) (by decide +kernel) (by decide) ?_
  refine k_iload C (i := 1) 1 1 (by decide +kernel) rfl rfl ?_
  refine k_iload C (i := 2) 2 2 (by decide +kernel) rfl rfl ?_
  refine k_imulv C (v := 240) (by decide) (by decide +kernel) ?_
  refine k_max C (idx := 9) (v := 240) (lw_g 56 (by decide +kernel) rfl) (lw_g 57 (by decide +kernel) rfl) (lw_g 31 (by decide +kernel) rfl) (lw_g 58 (by decide +kernel) rfl) (Nat.le_of_ble_eq_true rfl) (by decide) (by decide) (Nat.le_of_ble_eq_true rfl) (Nat.le_of_ble_eq_true rfl) (by decide) (by decide +kernel) ?_
  refine k_newI C (n := 240) (lw_g 73 (by decide +kernel) rfl) (by decide) (by decide) (Nat.le_of_ble_eq_true rfl) (Nat.le_of_ble_eq_true rfl) (Nat.le_of_ble_eq_true rfl) (by decide +kernel) (fun q2 => ?_)
  show U Γ 3 34 [(0, .ref a), (1, .int 6), (2, .int 40)] [.ref q2, .ref a] ([(a, .inr (6, [.int 40, .ref q1, .null])), (q1, .inl (cI, 6, .inl (fun _ => (0 : Int32)))), (q2, .inl (cI, 240, .inl (fun _ => (0 : Int32))))]) 2 246
  refine k_put C hr (idx := 25) (q0 := 0) (fs := [.int 40, .ref q1, .null]) fc_X6_25 rfl rfl rfl (Nat.le_of_ble_eq_true rfl) rfl (by decide +kernel) ?_
  show U Γ 3 37 [(0, .ref a), (1, .int 6), (2, .int 40)] [] ([(a, .inr (6, [.int 40, .ref q1, .ref q2])), (q1, .inl (cI, 6, .inl (fun _ => (0 : Int32)))), (q2, .inl (cI, 240, .inl (fun _ => (0 : Int32))))]) 2 246
  refine k_aload C (i := 0) 0 0 (by decide +kernel) rfl rfl ?_
  refine k_getf C (idx := 21) (q0 := 0) (fs := [.int 40, .ref q1, .ref q2]) (v := .ref q1) fc_X6_21 rfl rfl (by decide +kernel) ?_
  refine k_iconst C (n := -1) (-1) (by decide +kernel) (by decide) ?_
  refine k_fill C (idx := 28) (q0 := 1) (n := 6) (g := fun _ => (0 : Int32)) rfl (by decide) (lw_g 59 (by decide +kernel) rfl) (lw_g 60 (by decide +kernel) rfl) (lw_g 61 (by decide +kernel) rfl) (lw_g 32 (by decide +kernel) rfl) (Nat.le_of_ble_eq_true rfl) (by decide) (by decide) (Nat.le_of_ble_eq_true rfl) (Nat.le_of_ble_eq_true rfl) (by decide +kernel) ?_
  show U Γ 3 45 [(0, .ref a), (1, .int 6), (2, .int 40)] [] ([(a, .inr (6, [.int 40, .ref q1, .ref q2])), (q1, .inl (cI, 6, .inl (fun j => if j < 6 then (-1) else (fun _ => (0 : Int32)) j))), (q2, .inl (cI, 240, .inl (fun _ => (0 : Int32))))]) 2 246
  exact k_ret C hr ⟨q1, q2, rfl⟩ (Nat.le_of_ble_eq_true rfl) (Nat.le_of_ble_eq_true rfl) (by decide +kernel)

def pX6_4_60 (cI cT : ClassId) (a : Nat) (w : va_W) : Prop := ∃ (q1 : Nat) (q2 : Nat), w = [(a, .inr (6, [.int 60, .ref q1, .ref q2])), (q1, .inl (cI, 4, .inl (fun j => if j < 4 then (-1) else (fun _ => (0 : Int32)) j))), (q2, .inl (cI, 240, .inl (fun _ => (0 : Int32))))]
set_option maxRecDepth 8000 in
theorem cX6_4_60_make {l : Launch} {D : va_G} {cI cT : ClassId} : Mk l D cI cT yX6_init cX6_init 3 6 [.int 0, .null, .null] [.int 4, .int 60] 2 2 244 35 (pX6_4_60 cI cT) := by
  refine mk_of (by decide +kernel) rfl (fun a => Nat.le_of_ble_eq_true rfl) (fun Γ a hD hl0 C hr => ?_)
  show U Γ 3 0 [(0, .ref a), (1, .int 4), (2, .int 60)] [] [(a, .inr (6, [.int 0, .null, .null]))] 0 0
  refine k_aload C (i := 0) 0 0 (by decide +kernel) rfl rfl ?_
  refine k_obj C (idx := 3) (lw_g 55 (by decide +kernel) rfl) (lw_g 48 (by decide +kernel) rfl) (lw_g 49 (by decide +kernel) rfl) (by decide) (by decide) (by decide +kernel) ?_
  show U Γ 3 4 [(0, .ref a), (1, .int 4), (2, .int 60)] [] ([(a, .inr (6, [.int 0, .null, .null]))]) 0 0
  refine k_aload C (i := 0) 0 0 (by decide +kernel) rfl rfl ?_
  refine k_iconst C (n := 0) (0) (by decide +kernel) (by decide) ?_
  refine k_iload C (i := 2) 2 2 (by decide +kernel) rfl rfl ?_
  refine k_max C (idx := 9) (v := 60) (lw_g 56 (by decide +kernel) rfl) (lw_g 57 (by decide +kernel) rfl) (lw_g 31 (by decide +kernel) rfl) (lw_g 58 (by decide +kernel) rfl) (Nat.le_of_ble_eq_true rfl) (by decide) (by decide) (Nat.le_of_ble_eq_true rfl) (Nat.le_of_ble_eq_true rfl) (by decide) (by decide +kernel) ?_
  refine k_put C hr (idx := 15) (q0 := 0) (fs := [.int 0, .null, .null]) fc_X6_15 rfl rfl rfl (Nat.le_of_ble_eq_true rfl) rfl (by decide +kernel) ?_
  show U Γ 3 13 [(0, .ref a), (1, .int 4), (2, .int 60)] [] ([(a, .inr (6, [.int 60, .null, .null]))]) 0 0
  refine k_aload C (i := 0) 0 0 (by decide +kernel) rfl rfl ?_
  refine k_iconst C (n := 0) (0) (by decide +kernel) (by decide) ?_
  refine k_iload C (i := 1) 1 1 (by decide +kernel) rfl rfl ?_
  refine k_max C (idx := 9) (v := 4) (lw_g 56 (by decide +kernel) rfl) (lw_g 57 (by decide +kernel) rfl) (lw_g 31 (by decide +kernel) rfl) (lw_g 58 (by decide +kernel) rfl) (Nat.le_of_ble_eq_true rfl) (by decide) (by decide) (Nat.le_of_ble_eq_true rfl) (Nat.le_of_ble_eq_true rfl) (by decide) (by decide +kernel) ?_
  refine k_newI C (n := 4) (lw_g 73 (by decide +kernel) rfl) (by decide) (by decide) (Nat.le_of_ble_eq_true rfl) (Nat.le_of_ble_eq_true rfl) (Nat.le_of_ble_eq_true rfl) (by decide +kernel) (fun q1 => ?_)
  show U Γ 3 21 [(0, .ref a), (1, .int 4), (2, .int 60)] [.ref q1, .ref a] ([(a, .inr (6, [.int 60, .null, .null])), (q1, .inl (cI, 4, .inl (fun _ => (0 : Int32))))]) 1 4
  refine k_put C hr (idx := 21) (q0 := 0) (fs := [.int 60, .null, .null]) fc_X6_21 rfl rfl rfl (Nat.le_of_ble_eq_true rfl) rfl (by decide +kernel) ?_
  show U Γ 3 24 [(0, .ref a), (1, .int 4), (2, .int 60)] [] ([(a, .inr (6, [.int 60, .ref q1, .null])), (q1, .inl (cI, 4, .inl (fun _ => (0 : Int32))))]) 1 4
  refine k_aload C (i := 0) 0 0 (by decide +kernel) rfl rfl ?_
  refine k_iconst C (n := 0) (0) (by decide +kernel) (by decide) ?_
  refine k_iload C (i := 1) 1 1 (by decide +kernel) rfl rfl ?_
  refine k_iload C (i := 2) 2 2 (by decide +kernel) rfl rfl ?_
  refine k_imulv C (v := 240) (by decide) (by decide +kernel) ?_
  refine k_max C (idx := 9) (v := 240) (lw_g 56 (by decide +kernel) rfl) (lw_g 57 (by decide +kernel) rfl) (lw_g 31 (by decide +kernel) rfl) (lw_g 58 (by decide +kernel) rfl) (Nat.le_of_ble_eq_true rfl) (by decide) (by decide) (Nat.le_of_ble_eq_true rfl) (Nat.le_of_ble_eq_true rfl) (by decide) (by decide +kernel) ?_
  refine k_newI C (n := 240) (lw_g 73 (by decide +kernel) rfl) (by decide) (by decide) (Nat.le_of_ble_eq_true rfl) (Nat.le_of_ble_eq_true rfl) (Nat.le_of_ble_eq_true rfl) (by decide +kernel) (fun q2 => ?_)
  show U Γ 3 34 [(0, .ref a), (1, .int 4), (2, .int 60)] [.ref q2, .ref a] ([(a, .inr (6, [.int 60, .ref q1, .null])), (q1, .inl (cI, 4, .inl (fun _ => (0 : Int32)))), (q2, .inl (cI, 240, .inl (fun _ => (0 : Int32))))]) 2 244
  refine k_put C hr (idx := 25) (q0 := 0) (fs := [.int 60, .ref q1, .null]) fc_X6_25 rfl rfl rfl (Nat.le_of_ble_eq_true rfl) rfl (by decide +kernel) ?_
  show U Γ 3 37 [(0, .ref a), (1, .int 4), (2, .int 60)] [] ([(a, .inr (6, [.int 60, .ref q1, .ref q2])), (q1, .inl (cI, 4, .inl (fun _ => (0 : Int32)))), (q2, .inl (cI, 240, .inl (fun _ => (0 : Int32))))]) 2 244
  refine k_aload C (i := 0) 0 0 (by decide +kernel) rfl rfl ?_
  refine k_getf C (idx := 21) (q0 := 0) (fs := [.int 60, .ref q1, .ref q2]) (v := .ref q1) fc_X6_21 rfl rfl (by decide +kernel) ?_
  refine k_iconst C (n := -1) (-1) (by decide +kernel) (by decide) ?_
  refine k_fill C (idx := 28) (q0 := 1) (n := 4) (g := fun _ => (0 : Int32)) rfl (by decide) (lw_g 59 (by decide +kernel) rfl) (lw_g 60 (by decide +kernel) rfl) (lw_g 61 (by decide +kernel) rfl) (lw_g 32 (by decide +kernel) rfl) (Nat.le_of_ble_eq_true rfl) (by decide) (by decide) (Nat.le_of_ble_eq_true rfl) (Nat.le_of_ble_eq_true rfl) (by decide +kernel) ?_
  show U Γ 3 45 [(0, .ref a), (1, .int 4), (2, .int 60)] [] ([(a, .inr (6, [.int 60, .ref q1, .ref q2])), (q1, .inl (cI, 4, .inl (fun j => if j < 4 then (-1) else (fun _ => (0 : Int32)) j))), (q2, .inl (cI, 240, .inl (fun _ => (0 : Int32))))]) 2 244
  exact k_ret C hr ⟨q1, q2, rfl⟩ (Nat.le_of_ble_eq_true rfl) (Nat.le_of_ble_eq_true rfl) (by decide +kernel)

def pX6_3_40 (cI cT : ClassId) (a : Nat) (w : va_W) : Prop := ∃ (q1 : Nat) (q2 : Nat), w = [(a, .inr (6, [.int 40, .ref q1, .ref q2])), (q1, .inl (cI, 3, .inl (fun j => if j < 3 then (-1) else (fun _ => (0 : Int32)) j))), (q2, .inl (cI, 120, .inl (fun _ => (0 : Int32))))]
set_option maxRecDepth 8000 in
theorem cX6_3_40_make {l : Launch} {D : va_G} {cI cT : ClassId} : Mk l D cI cT yX6_init cX6_init 3 6 [.int 0, .null, .null] [.int 3, .int 40] 2 2 123 35 (pX6_3_40 cI cT) := by
  refine mk_of (by decide +kernel) rfl (fun a => Nat.le_of_ble_eq_true rfl) (fun Γ a hD hl0 C hr => ?_)
  show U Γ 3 0 [(0, .ref a), (1, .int 3), (2, .int 40)] [] [(a, .inr (6, [.int 0, .null, .null]))] 0 0
  refine k_aload C (i := 0) 0 0 (by decide +kernel) rfl rfl ?_
  refine k_obj C (idx := 3) (lw_g 55 (by decide +kernel) rfl) (lw_g 48 (by decide +kernel) rfl) (lw_g 49 (by decide +kernel) rfl) (by decide) (by decide) (by decide +kernel) ?_
  show U Γ 3 4 [(0, .ref a), (1, .int 3), (2, .int 40)] [] ([(a, .inr (6, [.int 0, .null, .null]))]) 0 0
  refine k_aload C (i := 0) 0 0 (by decide +kernel) rfl rfl ?_
  refine k_iconst C (n := 0) (0) (by decide +kernel) (by decide) ?_
  refine k_iload C (i := 2) 2 2 (by decide +kernel) rfl rfl ?_
  refine k_max C (idx := 9) (v := 40) (lw_g 56 (by decide +kernel) rfl) (lw_g 57 (by decide +kernel) rfl) (lw_g 31 (by decide +kernel) rfl) (lw_g 58 (by decide +kernel) rfl) (Nat.le_of_ble_eq_true rfl) (by decide) (by decide) (Nat.le_of_ble_eq_true rfl) (Nat.le_of_ble_eq_true rfl) (by decide) (by decide +kernel) ?_
  refine k_put C hr (idx := 15) (q0 := 0) (fs := [.int 0, .null, .null]) fc_X6_15 rfl rfl rfl (Nat.le_of_ble_eq_true rfl) rfl (by decide +kernel) ?_
  show U Γ 3 13 [(0, .ref a), (1, .int 3), (2, .int 40)] [] ([(a, .inr (6, [.int 40, .null, .null]))]) 0 0
  refine k_aload C (i := 0) 0 0 (by decide +kernel) rfl rfl ?_
  refine k_iconst C (n := 0) (0) (by decide +kernel) (by decide) ?_
  refine k_iload C (i := 1) 1 1 (by decide +kernel) rfl rfl ?_
  refine k_max C (idx := 9) (v := 3) (lw_g 56 (by decide +kernel) rfl) (lw_g 57 (by decide +kernel) rfl) (lw_g 31 (by decide +kernel) rfl) (lw_g 58 (by decide +kernel) rfl) (Nat.le_of_ble_eq_true rfl) (by decide) (by decide) (Nat.le_of_ble_eq_true rfl) (Nat.le_of_ble_eq_true rfl) (by decide) (by decide +kernel) ?_
  refine k_newI C (n := 3) (lw_g 73 (by decide +kernel) rfl) (by decide) (by decide) (Nat.le_of_ble_eq_true rfl) (Nat.le_of_ble_eq_true rfl) (Nat.le_of_ble_eq_true rfl) (by decide +kernel) (fun q1 => ?_)
  show U Γ 3 21 [(0, .ref a), (1, .int 3), (2, .int 40)] [.ref q1, .ref a] ([(a, .inr (6, [.int 40, .null, .null])), (q1, .inl (cI, 3, .inl (fun _ => (0 : Int32))))]) 1 3
  refine k_put C hr (idx := 21) (q0 := 0) (fs := [.int 40, .null, .null]) fc_X6_21 rfl rfl rfl (Nat.le_of_ble_eq_true rfl) rfl (by decide +kernel) ?_
  show U Γ 3 24 [(0, .ref a), (1, .int 3), (2, .int 40)] [] ([(a, .inr (6, [.int 40, .ref q1, .null])), (q1, .inl (cI, 3, .inl (fun _ => (0 : Int32))))]) 1 3
  refine k_aload C (i := 0) 0 0 (by decide +kernel) rfl rfl ?_
  refine k_iconst C (n := 0) (0) (by decide +kernel) (by decide) ?_
  refine k_iload C (i := 1) 1 1 (by decide +kernel) rfl rfl ?_
  refine k_iload C (i := 2) 2 2 (by decide +kernel) rfl rfl ?_
  refine k_imulv C (v := 120) (by decide) (by decide +kernel) ?_
  refine k_max C (idx := 9) (v := 120) (lw_g 56 (by decide +kernel) rfl) (lw_g 57 (by decide +kernel) rfl) (lw_g 31 (by decide +kernel) rfl) (lw_g 58 (by decide +kernel) rfl) (Nat.le_of_ble_eq_true rfl) (by decide) (by decide) (Nat.le_of_ble_eq_true rfl) (Nat.le_of_ble_eq_true rfl) (by decide) (by decide +kernel) ?_
  refine k_newI C (n := 120) (lw_g 73 (by decide +kernel) rfl) (by decide) (by decide) (Nat.le_of_ble_eq_true rfl) (Nat.le_of_ble_eq_true rfl) (Nat.le_of_ble_eq_true rfl) (by decide +kernel) (fun q2 => ?_)
  show U Γ 3 34 [(0, .ref a), (1, .int 3), (2, .int 40)] [.ref q2, .ref a] ([(a, .inr (6, [.int 40, .ref q1, .null])), (q1, .inl (cI, 3, .inl (fun _ => (0 : Int32)))), (q2, .inl (cI, 120, .inl (fun _ => (0 : Int32))))]) 2 123
  refine k_put C hr (idx := 25) (q0 := 0) (fs := [.int 40, .ref q1, .null]) fc_X6_25 rfl rfl rfl (Nat.le_of_ble_eq_true rfl) rfl (by decide +kernel) ?_
  show U Γ 3 37 [(0, .ref a), (1, .int 3), (2, .int 40)] [] ([(a, .inr (6, [.int 40, .ref q1, .ref q2])), (q1, .inl (cI, 3, .inl (fun _ => (0 : Int32)))), (q2, .inl (cI, 120, .inl (fun _ => (0 : Int32))))]) 2 123
  refine k_aload C (i := 0) 0 0 (by decide +kernel) rfl rfl ?_
  refine k_getf C (idx := 21) (q0 := 0) (fs := [.int 40, .ref q1, .ref q2]) (v := .ref q1) fc_X6_21 rfl rfl (by decide +kernel) ?_
  refine k_iconst C (n := -1) (-1) (by decide +kernel) (by decide) ?_
  refine k_fill C (idx := 28) (q0 := 1) (n := 3) (g := fun _ => (0 : Int32)) rfl (by decide) (lw_g 59 (by decide +kernel) rfl) (lw_g 60 (by decide +kernel) rfl) (lw_g 61 (by decide +kernel) rfl) (lw_g 32 (by decide +kernel) rfl) (Nat.le_of_ble_eq_true rfl) (by decide) (by decide) (Nat.le_of_ble_eq_true rfl) (Nat.le_of_ble_eq_true rfl) (by decide +kernel) ?_
  show U Γ 3 45 [(0, .ref a), (1, .int 3), (2, .int 40)] [] ([(a, .inr (6, [.int 40, .ref q1, .ref q2])), (q1, .inl (cI, 3, .inl (fun j => if j < 3 then (-1) else (fun _ => (0 : Int32)) j))), (q2, .inl (cI, 120, .inl (fun _ => (0 : Int32))))]) 2 123
  exact k_ret C hr ⟨q1, q2, rfl⟩ (Nat.le_of_ble_eq_true rfl) (Nat.le_of_ble_eq_true rfl) (by decide +kernel)


def K_X9_triesNights_2 (Δ : DD) (Γ : GG) (q : Mem) (x0 : Nat) (x1 : Int32) (y : (Int32 × Mem) ⊕ Mem) : Prop := match y with
  | .inl s => V Δ Γ 3 2 [(0, rf Δ (x0)), (1, .int (x1)), (2, .int (s.1))] [] s.2
  | .inr t => (t = q)
set_option maxRecDepth 20000 in
set_option maxHeartbeats 2000000 in
theorem W_X9_triesNights_2 {Δ : DD} {Γ : GG} {d : Nat} {q : Mem} {x0 : Nat} {x1 : Int32} (C : Cx Δ Γ RX9 cX9_triesNights 3 d none) (hq : RetQ Δ Γ none q) (h0 : isK 9 x0 = true) (hd : 4 ≤ d) {s : Int32 × Mem} (hF : F_X9_triesNights_2 x0 x1  s = some q) : V Δ Γ 3 2 [(0, rf Δ (x0)), (1, .int (x1)), (2, .int (s.1))] [] s.2 := by
  have hF : F_X9_triesNights_2 x0 x1  s = some q := hF
  refine lp_V (W := fun (s : Int32 × Mem) => V Δ Γ 3 2 [(0, rf Δ (x0)), (1, .int (x1)), (2, .int (s.1))] [] s.2) (K := fun t => t = q) (K' := K_X9_triesNights_2 Δ Γ q x0 x1 ) (fun _ h => h) (fun _ h => h) ?_ s q hF rfl
  clear hF
  intro s z hF hK
  refine v_iload_n C 2 2 dX9_triesNights_2 rfl rfl ?_
  refine v_iload_n C 1 1 dX9_triesNights_3 rfl rfl ?_
  refine v_icmp_ge C 21 dX9_triesNights_4 (by decide) (fun c1 => ?_) (fun c1 => ?_)
  · have hF := ifp hF c1
    cases hF
    exact v_vretF C hq hK dX9_triesNights_21
  · have hF := ifn hF c1
    refine v_aload_n C 0 0 dX9_triesNights_7 rfl rfl ?_
    refine v_sipush C (7260) dX9_triesNights_8 (by decide) ?_
    obtain ⟨q2, g3, hF⟩ := bnd hF
    refine v_cVi C mw_X9_passes lk_X9_160 _ (M_X9_passes (by omega) h0 g3) h0 rfl rfl (Nat.le_of_ble_eq_true rfl) dX9_triesNights_11 ?_
    refine v_pop C dX9_triesNights_14 rfl ?_
    refine v_iinc C (_ + (1 : Int32)) 2 (ll' := [(2, _), (0, _), (1, _)]) dX9_triesNights_15 rfl (inc_eq (by decide)) (by decide) rfl ?_
    refine v_goto C 2 dX9_triesNights_18 (by decide) ?_
    refine v_sub [1, 2, 0] (ll' := [(0, _), (1, _), (2, _)]) rfl ?_
    cases hF
    exact hK
set_option maxRecDepth 20000 in
set_option maxHeartbeats 2000000 in
theorem M_X9_triesNights {Δ : DD} {d : Nat} {x0 : Nat} {x1 : Int32} {σ : Mem} {q : Mem} (hd : 5 ≤ d) (h0 : isK 9 x0 = true) (hF : F_X9_triesNights x0 x1 σ = some q) : Mt Δ d yX9_triesNights cX9_triesNights 3 none [rf Δ x0, .int x1] σ none q := by
  obtain ⟨d, rfl⟩ : ∃ e, d = e + 1 := ⟨d - 1, by omega⟩
  have hd : 4 ≤ d := by omega
  refine mt_of (by decide) rfl (Nat.le_of_ble_eq_true rfl) (fun Γ C hq => ?_)
  unfold F_X9_triesNights at hF
  show V Δ Γ 3 0 [(0, rf Δ (x0)), (1, .int (x1))] [] σ
  refine v_iconst C (0) dX9_triesNights_0 (by decide) ?_
  refine v_istore_n C 2 (ll' := [(2, _), (0, _), (1, _)]) dX9_triesNights_1 rfl (by decide) rfl ?_
  refine v_sub [1, 2, 0] (ll' := [(0, _), (1, _), (2, _)]) rfl ?_
  exact W_X9_triesNights_2 C hq h0 hd hF
set_option maxRecDepth 20000 in
set_option maxHeartbeats 2000000 in
theorem M_X9_then {Δ : DD} {d : Nat} {x0 : Nat} {x1 : Int32} {x2 : Int32} {σ : Mem} {q : (Int32 × Mem)} (hd : 6 ≤ d) (h0 : isK 9 x0 = true) (hF : F_X9_then x0 x1 x2 σ = some q) : Mt Δ d yX9_then cX9_then 3 (some .int) [rf Δ x0, .int x1, .int x2] σ (some (.int q.1)) q.2 := by
  obtain ⟨d, rfl⟩ : ∃ e, d = e + 1 := ⟨d - 1, by omega⟩
  have hd : 5 ≤ d := by omega
  refine mt_of (by decide) rfl (Nat.le_of_ble_eq_true rfl) (fun Γ C hq => ?_)
  unfold F_X9_then at hF
  show V Δ Γ 3 0 [(0, rf Δ (x0)), (1, .int (x1)), (2, .int (x2))] [] σ
  refine v_aload_n C 0 0 dX9_then_0 rfl rfl ?_
  refine v_iload_n C 1 1 dX9_then_1 rfl rfl ?_
  obtain ⟨q1, g2, hF⟩ := bnd hF
  refine v_cVi C mw_X9_isBed lk_X9_140 _ (M_X9_isBed (by omega) h0 g2) h0 rfl rfl (Nat.le_of_ble_eq_true rfl) dX9_then_2 ?_
  refine v_if_eq C 20 dX9_then_5 (by decide) (fun c3 => ?_) (fun c3 => ?_)
  · have hF := ifp hF c3
    refine v_iconst C (-1) dX9_then_20 (by decide) ?_
    exact v_iretF C hq (Option.some.inj hF) dX9_then_21
  · have hF := ifn hF c3
    refine v_iload_n C 2 2 dX9_then_8 rfl rfl ?_
    refine v_i2l C dX9_then_9 ?_
    refine v_lconst C 0 dX9_then_10 (by decide) ?_
    refine v_ldc2 C (40) kl_X9_171 dX9_then_11 ?_
    obtain ⟨q4, g5, hF⟩ := bnd hF
    refine v_cSi C mw_X9_in lk_X9_53 _ (M_X9_in (by omega) g5) rfl rfl (Nat.le_of_ble_eq_true rfl) dX9_then_14 ?_
    refine v_if_ne C 22 dX9_then_17 (by decide) (fun c6 => ?_) (fun c6 => ?_)
    · have hF := ifn hF c6
      refine v_aload_n C 0 0 dX9_then_22 rfl rfl ?_
      obtain ⟨q7, g8, hF⟩ := bnd hF
      refine v_cVv C mw_X9_tries lk_X9_173 _ (M_X9_tries (by omega) h0 g8) h0 rfl rfl (Nat.le_of_ble_eq_true rfl) dX9_then_23 ?_
      refine v_aload_n C 0 0 dX9_then_26 rfl rfl ?_
      refine v_iload_n C 2 2 dX9_then_27 rfl rfl ?_
      obtain ⟨q9, g10, hF⟩ := bnd hF
      refine v_cVv C mw_X9_triesNights lk_X9_176 _ (M_X9_triesNights (by omega) h0 g10) h0 rfl rfl (Nat.le_of_ble_eq_true rfl) dX9_then_28 ?_
      refine v_aload_n C 0 0 dX9_then_31 rfl rfl ?_
      refine v_aload_n C 0 0 dX9_then_32 rfl rfl ?_
      obtain ⟨p12, g11, hF⟩ := bnd hF
      refine v_gR C fu_X9_7 g11 dX9_then_33 ?_
      refine v_sipush C (7281) dX9_then_36 (by decide) ?_
      refine v_iload_n C 1 1 dX9_then_39 rfl rfl ?_
      refine v_iadd C dX9_then_40 ?_
      obtain ⟨v13, g14, hF⟩ := bnd hF
      refine v_aI C g14 dX9_then_41 ?_
      refine v_aload_n C 0 0 dX9_then_42 rfl rfl ?_
      obtain ⟨p16, g15, hF⟩ := bnd hF
      refine v_gR C fu_X9_7 g15 dX9_then_43 ?_
      refine v_sipush C (7287) dX9_then_46 (by decide) ?_
      refine v_iload_n C 1 1 dX9_then_49 rfl rfl ?_
      refine v_iadd C dX9_then_50 ?_
      obtain ⟨v17, g18, hF⟩ := bnd hF
      refine v_aI C g18 dX9_then_51 ?_
      obtain ⟨q19, g20, hF⟩ := bnd hF
      refine v_cVi C mw_X9_tells lk_X9_75 _ (M_X9_tells (by omega) h0 g20) h0 rfl rfl (Nat.le_of_ble_eq_true rfl) dX9_then_52 ?_
      exact v_iretF C hq (Option.some.inj hF) dX9_then_55
    · have hF := ifp hF c6
      refine v_iconst C (-1) dX9_then_20 (by decide) ?_
      exact v_iretF C hq (Option.some.inj hF) dX9_then_21
def K_X9_when_16 (Δ : DD) (Γ : GG) (q : (Int32 × Mem)) (x0 : Nat) (x1 : Int32) (y : (Int32 × Mem) ⊕ (Int32 × Mem)) : Prop := match y with
  | .inl s => V Δ Γ 3 16 [(0, rf Δ (x0)), (1, .int (x1)), (2, .int (s.1))] [] s.2
  | .inr t => (t = q)
set_option maxRecDepth 20000 in
set_option maxHeartbeats 2000000 in
theorem W_X9_when_16 {Δ : DD} {Γ : GG} {d : Nat} {q : (Int32 × Mem)} {x0 : Nat} {x1 : Int32} (C : Cx Δ Γ RX9 cX9_when 3 d (some .int)) (hq : RetQ Δ Γ (some (.int q.1)) q.2) (h0 : isK 9 x0 = true) (hd : 4 ≤ d) {s : Int32 × Mem} (hF : F_X9_when_16 x0 x1  s = some q) : V Δ Γ 3 16 [(0, rf Δ (x0)), (1, .int (x1)), (2, .int (s.1))] [] s.2 := by
  have hF : F_X9_when_16 x0 x1  s = some q := hF
  refine lp_V (W := fun (s : Int32 × Mem) => V Δ Γ 3 16 [(0, rf Δ (x0)), (1, .int (x1)), (2, .int (s.1))] [] s.2) (K := fun t => t = q) (K' := K_X9_when_16 Δ Γ q x0 x1 ) (fun _ h => h) (fun _ h => h) ?_ s q hF rfl
  clear hF
  intro s z hF hK
  refine v_iload_n C 2 2 dX9_when_16 rfl rfl ?_
  refine v_bipush C (40) dX9_when_17 (by decide) ?_
  refine v_icmp_gt C 49 dX9_when_19 (by decide) (fun c1 => ?_) (fun c1 => ?_)
  · have hF := ifp hF c1
    refine v_bipush C (-9) dX9_when_49 (by decide) ?_
    cases hF
    exact v_iretF C hq hK dX9_when_51
  · have hF := ifn hF c1
    refine v_aload_n C 0 0 dX9_when_22 rfl rfl ?_
    refine v_sipush C (7260) dX9_when_23 (by decide) ?_
    refine v_iload_n C 1 1 dX9_when_26 rfl rfl ?_
    obtain ⟨q2, g3, hF⟩ := bnd hF
    refine v_cVi C mw_X9_isDue lk_X9_136 _ (M_X9_isDue (by omega) h0 g3) h0 rfl rfl (Nat.le_of_ble_eq_true rfl) dX9_when_27 ?_
    refine v_if_eq C 35 dX9_when_30 (by decide) (fun c4 => ?_) (fun c4 => ?_)
    · have hF := ifp hF c4
      refine v_aload_n C 0 0 dX9_when_35 rfl rfl ?_
      refine v_sipush C (7260) dX9_when_36 (by decide) ?_
      obtain ⟨q5, g6, hF⟩ := bnd hF
      refine v_cVi C mw_X9_passes lk_X9_160 _ (M_X9_passes (by omega) h0 g6) h0 rfl rfl (Nat.le_of_ble_eq_true rfl) dX9_when_39 ?_
      refine v_pop C dX9_when_42 rfl ?_
      refine v_iinc C (_ + (1 : Int32)) 2 (ll' := [(2, _), (0, _), (1, _)]) dX9_when_43 rfl (inc_eq (by decide)) (by decide) rfl ?_
      refine v_goto C 16 dX9_when_46 (by decide) ?_
      refine v_sub [1, 2, 0] (ll' := [(0, _), (1, _), (2, _)]) rfl ?_
      cases hF
      exact hK
    · have hF := ifn hF c4
      refine v_iload_n C 2 2 dX9_when_33 rfl rfl ?_
      cases hF
      exact v_iretF C hq hK dX9_when_34
set_option maxRecDepth 20000 in
set_option maxHeartbeats 2000000 in
theorem M_X9_when {Δ : DD} {d : Nat} {x0 : Nat} {x1 : Int32} {σ : Mem} {q : (Int32 × Mem)} (hd : 5 ≤ d) (h0 : isK 9 x0 = true) (hF : F_X9_when x0 x1 σ = some q) : Mt Δ d yX9_when cX9_when 3 (some .int) [rf Δ x0, .int x1] σ (some (.int q.1)) q.2 := by
  obtain ⟨d, rfl⟩ : ∃ e, d = e + 1 := ⟨d - 1, by omega⟩
  have hd : 4 ≤ d := by omega
  refine mt_of (by decide) rfl (Nat.le_of_ble_eq_true rfl) (fun Γ C hq => ?_)
  unfold F_X9_when at hF
  show V Δ Γ 3 0 [(0, rf Δ (x0)), (1, .int (x1))] [] σ
  refine v_aload_n C 0 0 dX9_when_0 rfl rfl ?_
  refine v_iload_n C 1 1 dX9_when_1 rfl rfl ?_
  obtain ⟨q7, g8, hF⟩ := bnd hF
  refine v_cVi C mw_X9_isBed lk_X9_140 _ (M_X9_isBed (by omega) h0 g8) h0 rfl rfl (Nat.le_of_ble_eq_true rfl) dX9_when_2 ?_
  refine v_if_ne C 10 dX9_when_5 (by decide) (fun c9 => ?_) (fun c9 => ?_)
  · have hF := ifn hF c9
    refine v_aload_n C 0 0 dX9_when_10 rfl rfl ?_
    obtain ⟨q10, g11, hF⟩ := bnd hF
    refine v_cVv C mw_X9_tries lk_X9_173 _ (M_X9_tries (by omega) h0 g11) h0 rfl rfl (Nat.le_of_ble_eq_true rfl) dX9_when_11 ?_
    refine v_iconst C (0) dX9_when_14 (by decide) ?_
    refine v_istore_n C 2 (ll' := [(2, _), (0, _), (1, _)]) dX9_when_15 rfl (by decide) rfl ?_
    refine v_sub [1, 2, 0] (ll' := [(0, _), (1, _), (2, _)]) rfl ?_
    exact W_X9_when_16 C hq h0 hd hF
  · have hF := ifp hF c9
    refine v_iconst C (-1) dX9_when_8 (by decide) ?_
    exact v_iretF C hq (Option.some.inj hF) dX9_when_9
def K_X9_least_24 (Δ : DD) (Γ : GG) (q : (Int32 × Mem)) (x0 : Nat) (x1 : Int32) (x2 : Int32) (y : (Int32 × Mem) ⊕ (Int32 × Mem)) : Prop := match y with
  | .inl s => V Δ Γ 4 24 [(0, rf Δ (x0)), (1, .int (x1)), (2, .int (x2)), (3, .int (s.1))] [] s.2
  | .inr t => (t = q)
set_option maxRecDepth 20000 in
set_option maxHeartbeats 2000000 in
theorem W_X9_least_24 {Δ : DD} {Γ : GG} {d : Nat} {q : (Int32 × Mem)} {x0 : Nat} {x1 : Int32} {x2 : Int32} (C : Cx Δ Γ RX9 cX9_least 4 d (some .int)) (hq : RetQ Δ Γ (some (.int q.1)) q.2) (h0 : isK 9 x0 = true) (hd : 5 ≤ d) {s : Int32 × Mem} (hF : F_X9_least_24 x0 x1 x2  s = some q) : V Δ Γ 4 24 [(0, rf Δ (x0)), (1, .int (x1)), (2, .int (x2)), (3, .int (s.1))] [] s.2 := by
  have hF : F_X9_least_24 x0 x1 x2  s = some q := hF
  refine lp_V (W := fun (s : Int32 × Mem) => V Δ Γ 4 24 [(0, rf Δ (x0)), (1, .int (x1)), (2, .int (x2)), (3, .int (s.1))] [] s.2) (K := fun t => t = q) (K' := K_X9_least_24 Δ Γ q x0 x1 x2 ) (fun _ h => h) (fun _ h => h) ?_ s q hF rfl
  clear hF
  intro s z hF hK
  refine v_iload_n C 3 3 dX9_least_24 rfl rfl ?_
  refine v_aload_n C 0 0 dX9_least_25 rfl rfl ?_
  obtain ⟨p2, g1, hF⟩ := bnd hF
  refine v_gR C fu_X9_7 g1 dX9_least_26 ?_
  refine v_bipush C (21) dX9_least_29 (by decide) ?_
  refine v_iload_n C 1 1 dX9_least_31 rfl rfl ?_
  refine v_iadd C dX9_least_32 ?_
  obtain ⟨v3, g4, hF⟩ := bnd hF
  refine v_aI C g4 dX9_least_33 ?_
  refine v_icmp_gt C 79 dX9_least_34 (by decide) (fun c5 => ?_) (fun c5 => ?_)
  · have hF := ifp hF c5
    refine v_bipush C (-9) dX9_least_79 (by decide) ?_
    cases hF
    exact v_iretF C hq hK dX9_least_81
  · have hF := ifn hF c5
    refine v_aload_n C 0 0 dX9_least_37 rfl rfl ?_
    obtain ⟨q6, g7, hF⟩ := bnd hF
    refine v_cVv C mw_X9_tries lk_X9_173 _ (M_X9_tries (by omega) h0 g7) h0 rfl rfl (Nat.le_of_ble_eq_true rfl) dX9_least_38 ?_
    refine v_aload_n C 0 0 dX9_least_41 rfl rfl ?_
    obtain ⟨p9, g8, hF⟩ := bnd hF
    refine v_gR C fu_X9_7 g8 dX9_least_42 ?_
    refine v_sipush C (7281) dX9_least_45 (by decide) ?_
    refine v_iload_n C 1 1 dX9_least_48 rfl rfl ?_
    refine v_iadd C dX9_least_49 ?_
    refine v_dup2 C dX9_least_50 rfl rfl ?_
    obtain ⟨v10, g11, hF⟩ := bnd hF
    refine v_aI C g11 dX9_least_51 ?_
    refine v_iload_n C 3 3 dX9_least_52 rfl rfl ?_
    refine v_isub C dX9_least_53 ?_
    obtain ⟨m12, g13, hF⟩ := bnd hF
    refine v_sI C g13 dX9_least_54 ?_
    refine v_aload_n C 0 0 dX9_least_55 rfl rfl ?_
    refine v_iload_n C 2 2 dX9_least_56 rfl rfl ?_
    obtain ⟨q14, g15, hF⟩ := bnd hF
    refine v_cVv C mw_X9_triesNights lk_X9_176 _ (M_X9_triesNights (by omega) h0 g15) h0 rfl rfl (Nat.le_of_ble_eq_true rfl) dX9_least_57 ?_
    refine v_aload_n C 0 0 dX9_least_60 rfl rfl ?_
    refine v_sipush C (7260) dX9_least_61 (by decide) ?_
    refine v_iload_n C 1 1 dX9_least_64 rfl rfl ?_
    obtain ⟨q16, g17, hF⟩ := bnd hF
    refine v_cVi C mw_X9_isDue lk_X9_136 _ (M_X9_isDue (by omega) h0 g17) h0 rfl rfl (Nat.le_of_ble_eq_true rfl) dX9_least_65 ?_
    refine v_if_eq C 73 dX9_least_68 (by decide) (fun c18 => ?_) (fun c18 => ?_)
    · have hF := ifp hF c18
      refine v_iinc C (_ + (1 : Int32)) 3 (ll' := [(3, _), (0, _), (1, _), (2, _)]) dX9_least_73 rfl (inc_eq (by decide)) (by decide) rfl ?_
      refine v_goto C 24 dX9_least_76 (by decide) ?_
      refine v_sub [1, 2, 3, 0] (ll' := [(0, _), (1, _), (2, _), (3, _)]) rfl ?_
      cases hF
      exact hK
    · have hF := ifn hF c18
      refine v_iload_n C 3 3 dX9_least_71 rfl rfl ?_
      cases hF
      exact v_iretF C hq hK dX9_least_72
set_option maxRecDepth 20000 in
set_option maxHeartbeats 2000000 in
theorem M_X9_least {Δ : DD} {d : Nat} {x0 : Nat} {x1 : Int32} {x2 : Int32} {σ : Mem} {q : (Int32 × Mem)} (hd : 6 ≤ d) (h0 : isK 9 x0 = true) (hF : F_X9_least x0 x1 x2 σ = some q) : Mt Δ d yX9_least cX9_least 4 (some .int) [rf Δ x0, .int x1, .int x2] σ (some (.int q.1)) q.2 := by
  obtain ⟨d, rfl⟩ : ∃ e, d = e + 1 := ⟨d - 1, by omega⟩
  have hd : 5 ≤ d := by omega
  refine mt_of (by decide) rfl (Nat.le_of_ble_eq_true rfl) (fun Γ C hq => ?_)
  unfold F_X9_least at hF
  show V Δ Γ 4 0 [(0, rf Δ (x0)), (1, .int (x1)), (2, .int (x2))] [] σ
  refine v_aload_n C 0 0 dX9_least_0 rfl rfl ?_
  refine v_iload_n C 1 1 dX9_least_1 rfl rfl ?_
  obtain ⟨q19, g20, hF⟩ := bnd hF
  refine v_cVi C mw_X9_isBed lk_X9_140 _ (M_X9_isBed (by omega) h0 g20) h0 rfl rfl (Nat.le_of_ble_eq_true rfl) dX9_least_2 ?_
  refine v_if_eq C 20 dX9_least_5 (by decide) (fun c21 => ?_) (fun c21 => ?_)
  · have hF := ifp hF c21
    refine v_iconst C (-1) dX9_least_20 (by decide) ?_
    exact v_iretF C hq (Option.some.inj hF) dX9_least_21
  · have hF := ifn hF c21
    refine v_iload_n C 2 2 dX9_least_8 rfl rfl ?_
    refine v_i2l C dX9_least_9 ?_
    refine v_lconst C 0 dX9_least_10 (by decide) ?_
    refine v_ldc2 C (40) kl_X9_171 dX9_least_11 ?_
    obtain ⟨q22, g23, hF⟩ := bnd hF
    refine v_cSi C mw_X9_in lk_X9_53 _ (M_X9_in (by omega) g23) rfl rfl (Nat.le_of_ble_eq_true rfl) dX9_least_14 ?_
    refine v_if_ne C 22 dX9_least_17 (by decide) (fun c24 => ?_) (fun c24 => ?_)
    · have hF := ifn hF c24
      refine v_iconst C (0) dX9_least_22 (by decide) ?_
      refine v_istore_n C 3 (ll' := [(3, _), (0, _), (1, _), (2, _)]) dX9_least_23 rfl (by decide) rfl ?_
      refine v_sub [1, 2, 3, 0] (ll' := [(0, _), (1, _), (2, _), (3, _)]) rfl ?_
      exact W_X9_least_24 C hq h0 hd hF
    · have hF := ifp hF c24
      refine v_iconst C (-1) dX9_least_20 (by decide) ?_
      exact v_iretF C hq (Option.some.inj hF) dX9_least_21
def K_X9_round_36 (Δ : DD) (Γ : GG) (q : (Int32 × Mem)) (x0 : Nat) (x1 : Int32) (x2 : Int32) (σ : Mem) (y : (Int32 × Int32) ⊕ (Int32 × Mem)) : Prop := match y with
  | .inl s => V Δ Γ 11 36 [(0, rf Δ (x0)), (1, .int (x1)), (2, .int (x2)), (3, .int (s.1)), (4, .int (s.2))] [] σ
  | .inr t => (t = q)
def K_X9_round_68 (Δ : DD) (Γ : GG) (q : (Int32 × Mem)) (x0 : Nat) (x1 : Int32) (x2 : Int32) (x3 : Int32) (y : (Int32 × Int32 × Int32 × Mem) ⊕ (Int32 × Mem)) : Prop := match y with
  | .inl s => V Δ Γ 11 68 [(0, rf Δ (x0)), (1, .int (x1)), (2, .int (x2)), (3, .int (x3)), (4, .int (s.1)), (5, .int (s.2.1)), (6, .int (s.2.2.1))] [] s.2.2.2
  | .inr t => (t = q)
def K_X9_round_214 (Δ : DD) (Γ : GG) (q : (Int32 × Mem)) (x0 : Nat) (x2 : Int32) (x5 : Int32) (y : (Int32 × Int32 × Mem) ⊕ (Int32 × Mem)) : Prop := match y with
  | .inl s => V Δ Γ 11 214 [(0, rf Δ (x0)), (2, .int (x2)), (5, .int (x5)), (6, .int (s.1)), (7, .int (s.2.1))] [] s.2.2
  | .inr t => (t = q)
def K_X9_round_87 (Δ : DD) (Γ : GG) (q : (Int32 × Mem)) (x0 : Nat) (x1 : Int32) (x2 : Int32) (x3 : Int32) (x4 : Int32) (x5 : Int32) (x6 : Int32) (y : (Int32 × Int32 × Int32 × Mem) ⊕ ((Int32 × Int32 × Int32 × Mem) ⊕ (Int32 × Mem))) : Prop := match y with
  | .inl s => V Δ Γ 11 87 [(0, rf Δ (x0)), (1, .int (x1)), (2, .int (x2)), (3, .int (x3)), (4, .int (x4)), (5, .int (x5)), (6, .int (x6)), (7, .int (s.1)), (8, .int (s.2.1)), (9, .int (s.2.2.1))] [] s.2.2.2
  | .inr t => (K_X9_round_68 Δ Γ q x0 x1 x2 x3 t)
set_option maxRecDepth 20000 in
set_option maxHeartbeats 2000000 in
theorem W_X9_round_152 {Δ : DD} {Γ : GG} {d : Nat} {q : (Int32 × Mem)} {x0 : Nat} {x1 : Int32} {x2 : Int32} {x3 : Int32} {x4 : Int32} {x5 : Int32} {x6 : Int32} {x8 : Int32} {x9 : Int32} {y0 : Int32} {y1 : Int32} {σ : Mem} {y : ((Int32 × Int32 × Int32 × Mem) ⊕ ((Int32 × Int32 × Int32 × Mem) ⊕ (Int32 × Mem)))} (C : Cx Δ Γ RX9 cX9_round 11 d (some .int)) (hq : RetQ Δ Γ (some (.int q.1)) q.2) (h0 : isK 9 x0 = true) (hd : 4 ≤ d) (hF : F_X9_round_152 x0 x1 x2 x3 x4 x5 x6 x8 x9 y0 y1 σ = some y) (hK : (K_X9_round_87 Δ Γ q x0 x1 x2 x3 x4 x5 x6 y)) : V Δ Γ 11 152 [(0, rf Δ (x0)), (1, .int (x1)), (2, .int (x2)), (3, .int (x3)), (4, .int (x4)), (5, .int (x5)), (6, .int (x6)), (8, .int (x8)), (9, .int (x9))] [.int (y0), .int (y1)] σ := by
  unfold F_X9_round_152 at hF
  refine v_iadd C dX9_round_152 ?_
  refine v_istore C 7 (ll' := [(7, _), (0, _), (1, _), (2, _), (3, _), (4, _), (5, _), (6, _), (8, _), (9, _)]) dX9_round_153 (by decide) rfl ?_
  refine v_iinc C (_ + (1 : Int32)) 9 (ll' := [(9, _), (7, _), (0, _), (1, _), (2, _), (3, _), (4, _), (5, _), (6, _), (8, _)]) dX9_round_155 rfl (inc_eq (by decide)) (by decide) rfl ?_
  refine v_goto C 87 dX9_round_158 (by decide) ?_
  refine v_sub [2, 3, 4, 5, 6, 7, 8, 1, 9, 0] (ll' := [(0, _), (1, _), (2, _), (3, _), (4, _), (5, _), (6, _), (7, _), (8, _), (9, _)]) rfl ?_
  cases hF
  exact hK
set_option maxRecDepth 20000 in
set_option maxHeartbeats 2000000 in
theorem W_X9_round_175 {Δ : DD} {Γ : GG} {d : Nat} {q : (Int32 × Mem)} {x0 : Nat} {x1 : Int32} {x2 : Int32} {x3 : Int32} {x5 : Int32} {x6 : Int32} {x7 : Int32} {y0 : Int32} {σ : Mem} {y : ((Int32 × Int32 × Int32 × Mem) ⊕ (Int32 × Mem))} (C : Cx Δ Γ RX9 cX9_round 11 d (some .int)) (hq : RetQ Δ Γ (some (.int q.1)) q.2) (h0 : isK 9 x0 = true) (hd : 4 ≤ d) (hF : F_X9_round_175 x0 x1 x2 x3 x5 x6 x7 y0 σ = some y) (hK : (K_X9_round_68 Δ Γ q x0 x1 x2 x3 y)) : V Δ Γ 11 175 [(0, rf Δ (x0)), (1, .int (x1)), (2, .int (x2)), (3, .int (x3)), (5, .int (x5)), (6, .int (x6)), (7, .int (x7))] [.int (y0)] σ := by
  unfold F_X9_round_175 at hF
  refine v_istore C 4 (ll' := [(4, _), (0, _), (1, _), (2, _), (3, _), (5, _), (6, _), (7, _)]) dX9_round_175 (by decide) rfl ?_
  refine v_iload C 7 7 dX9_round_177 rfl ?_
  refine v_iload C 5 5 dX9_round_179 rfl ?_
  refine v_icmp_le C 189 dX9_round_181 (by decide) (fun c30 => ?_) (fun c30 => ?_)
  · have hF := ifp hF c30
    refine v_iload C 5 5 dX9_round_189 rfl ?_
    refine v_istore C 5 (ll' := [(5, _), (4, _), (0, _), (1, _), (2, _), (3, _), (6, _), (7, _)]) dX9_round_191 (by decide) rfl ?_
    refine v_iinc C (_ + (1 : Int32)) 6 (ll' := [(6, _), (5, _), (4, _), (0, _), (1, _), (2, _), (3, _), (7, _)]) dX9_round_193 rfl (inc_eq (by decide)) (by decide) rfl ?_
    refine v_goto C 68 dX9_round_196 (by decide) ?_
    refine v_sub [3, 4, 5, 6, 2, 1, 0] (ll' := [(0, _), (1, _), (2, _), (3, _), (4, _), (5, _), (6, _)]) rfl ?_
    cases hF
    exact hK
  · have hF := ifn hF c30
    refine v_iload C 7 7 dX9_round_184 rfl ?_
    refine v_goto C 191 dX9_round_186 (by decide) ?_
    refine v_istore C 5 (ll' := [(5, _), (4, _), (0, _), (1, _), (2, _), (3, _), (6, _), (7, _)]) dX9_round_191 (by decide) rfl ?_
    refine v_iinc C (_ + (1 : Int32)) 6 (ll' := [(6, _), (5, _), (4, _), (0, _), (1, _), (2, _), (3, _), (7, _)]) dX9_round_193 rfl (inc_eq (by decide)) (by decide) rfl ?_
    refine v_goto C 68 dX9_round_196 (by decide) ?_
    refine v_sub [3, 4, 5, 6, 2, 1, 0] (ll' := [(0, _), (1, _), (2, _), (3, _), (4, _), (5, _), (6, _)]) rfl ?_
    cases hF
    exact hK
set_option maxRecDepth 20000 in
set_option maxHeartbeats 2000000 in
theorem W_X9_round_87 {Δ : DD} {Γ : GG} {d : Nat} {q : (Int32 × Mem)} {x0 : Nat} {x1 : Int32} {x2 : Int32} {x3 : Int32} {x4 : Int32} {x5 : Int32} {x6 : Int32} (C : Cx Δ Γ RX9 cX9_round 11 d (some .int)) (hq : RetQ Δ Γ (some (.int q.1)) q.2) (h0 : isK 9 x0 = true) (hd : 4 ≤ d) {s : Int32 × Int32 × Int32 × Mem} {y : ((Int32 × Int32 × Int32 × Mem) ⊕ (Int32 × Mem))} (hF : F_X9_round_87 x0 x1 x2 x3 x4 x5 x6  s = some y) (hK : (K_X9_round_68 Δ Γ q x0 x1 x2 x3 y)) : V Δ Γ 11 87 [(0, rf Δ (x0)), (1, .int (x1)), (2, .int (x2)), (3, .int (x3)), (4, .int (x4)), (5, .int (x5)), (6, .int (x6)), (7, .int (s.1)), (8, .int (s.2.1)), (9, .int (s.2.2.1))] [] s.2.2.2 := by
  refine lp_V (W := fun (s : Int32 × Int32 × Int32 × Mem) => V Δ Γ 11 87 [(0, rf Δ (x0)), (1, .int (x1)), (2, .int (x2)), (3, .int (x3)), (4, .int (x4)), (5, .int (x5)), (6, .int (x6)), (7, .int (s.1)), (8, .int (s.2.1)), (9, .int (s.2.2.1))] [] s.2.2.2) (K := fun (t : ((Int32 × Int32 × Int32 × Mem) ⊕ (Int32 × Mem))) => (K_X9_round_68 Δ Γ q x0 x1 x2 x3 t)) (K' := K_X9_round_87 Δ Γ q x0 x1 x2 x3 x4 x5 x6 ) (fun _ h => h) (fun _ h => h) ?_ s y hF hK
  clear hF hK
  intro s z hF hK
  refine v_iload C 9 9 dX9_round_87 rfl ?_
  refine v_iload_n C 1 1 dX9_round_89 rfl rfl ?_
  refine v_icmp_ge C 161 dX9_round_90 (by decide) (fun c11 => ?_) (fun c11 => ?_)
  · have hF := ifp hF c11
    refine v_iload C 7 7 dX9_round_161 rfl ?_
    refine v_iload C 5 5 dX9_round_163 rfl ?_
    refine v_icmp_le C 173 dX9_round_165 (by decide) (fun c12 => ?_) (fun c12 => ?_)
    · have hF := ifp hF c12
      refine v_iload C 4 4 dX9_round_173 rfl ?_
      refine v_sub [0, 1, 2, 3, 5, 6, 7] (ll' := [(0, _), (1, _), (2, _), (3, _), (5, _), (6, _), (7, _)]) rfl ?_
      obtain ⟨z, hz, e⟩ := mapd hF
      subst e
      exact W_X9_round_175 C hq h0 hd hz hK
    · have hF := ifn hF c12
      refine v_iload C 6 6 dX9_round_168 rfl ?_
      refine v_goto C 175 dX9_round_170 (by decide) ?_
      refine v_sub [0, 1, 2, 3, 5, 6, 7] (ll' := [(0, _), (1, _), (2, _), (3, _), (5, _), (6, _), (7, _)]) rfl ?_
      obtain ⟨z, hz, e⟩ := mapd hF
      subst e
      exact W_X9_round_175 C hq h0 hd hz hK
  · have hF := ifn hF c11
    refine v_iload C 8 8 dX9_round_93 rfl ?_
    refine v_aload_n C 0 0 dX9_round_95 rfl rfl ?_
    obtain ⟨p14, g13, hF⟩ := bnd hF
    refine v_gR C fu_X9_7 g13 dX9_round_96 ?_
    refine v_iconst C (0) dX9_round_99 (by decide) ?_
    obtain ⟨v15, g16, hF⟩ := bnd hF
    refine v_aI C g16 dX9_round_100 ?_
    refine v_iconst C (1) dX9_round_101 (by decide) ?_
    refine v_iadd C dX9_round_102 ?_
    obtain ⟨_, g17, hF⟩ := bnd hF
    refine v_idiv C dX9_round_103 (nz_ne g17) ?_
    refine v_istore C 8 (ll' := [(8, _), (0, _), (1, _), (2, _), (3, _), (4, _), (5, _), (6, _), (7, _), (9, _)]) dX9_round_104 (by decide) rfl ?_
    refine v_iload C 6 7 dX9_round_106 rfl ?_
    refine v_iload C 8 0 dX9_round_108 rfl ?_
    obtain ⟨_, g18, hF⟩ := bnd hF
    refine v_idiv C dX9_round_110 (nz_ne g18) ?_
    refine v_aload_n C 0 1 dX9_round_111 rfl rfl ?_
    obtain ⟨p20, g19, hF⟩ := bnd hF
    refine v_gR C fu_X9_7 g19 dX9_round_112 ?_
    refine v_iconst C (0) dX9_round_115 (by decide) ?_
    obtain ⟨v21, g22, hF⟩ := bnd hF
    refine v_aI C g22 dX9_round_116 ?_
    refine v_iconst C (1) dX9_round_117 (by decide) ?_
    refine v_iadd C dX9_round_118 ?_
    obtain ⟨_, g23, hF⟩ := bnd hF
    refine v_irem C dX9_round_119 (nz_ne g23) ?_
    refine v_iconst C (1) dX9_round_120 (by decide) ?_
    refine v_isub C dX9_round_121 ?_
    refine v_istore C 10 (ll' := [(10, _), (8, _), (0, _), (1, _), (2, _), (3, _), (4, _), (5, _), (6, _), (7, _), (9, _)]) dX9_round_122 (by decide) rfl ?_
    refine v_aload_n C 0 2 dX9_round_124 rfl rfl ?_
    refine v_sipush C (7260) dX9_round_125 (by decide) ?_
    obtain ⟨q25, g26, hF⟩ := bnd hF
    refine v_cVi C mw_X9_passes lk_X9_160 _ (M_X9_passes (by omega) h0 g26) h0 rfl rfl (Nat.le_of_ble_eq_true rfl) dX9_round_128 ?_
    refine v_pop C dX9_round_131 rfl ?_
    refine v_iload C 7 9 dX9_round_132 rfl ?_
    refine v_iload C 10 0 dX9_round_134 rfl ?_
    refine v_if_ge C 143 dX9_round_136 (by decide) (fun c27 => ?_) (fun c27 => ?_)
    · have hF := ifp hF c27
      refine v_aload_n C 0 2 dX9_round_143 rfl rfl ?_
      refine v_sipush C (7260) dX9_round_144 (by decide) ?_
      refine v_iload C 10 0 dX9_round_147 rfl ?_
      obtain ⟨q28, g29, hF⟩ := bnd hF
      refine v_cVi C mw_X9_inspects lk_X9_163 _ (M_X9_inspects (by omega) h0 g29) h0 rfl rfl (Nat.le_of_ble_eq_true rfl) dX9_round_149 ?_
      refine v_sub [2, 3, 4, 5, 6, 7, 8, 1, 10] (ll' := [(0, _), (1, _), (2, _), (3, _), (4, _), (5, _), (6, _), (8, _), (9, _)]) rfl ?_
      exact W_X9_round_152 C hq h0 hd hF hK
    · have hF := ifn hF c27
      refine v_iconst C (0) dX9_round_139 (by decide) ?_
      refine v_goto C 152 dX9_round_140 (by decide) ?_
      refine v_sub [2, 3, 4, 5, 6, 7, 8, 1, 10] (ll' := [(0, _), (1, _), (2, _), (3, _), (4, _), (5, _), (6, _), (8, _), (9, _)]) rfl ?_
      exact W_X9_round_152 C hq h0 hd hF hK
set_option maxRecDepth 20000 in
set_option maxHeartbeats 2000000 in
theorem W_X9_round_257 {Δ : DD} {Γ : GG} {d : Nat} {q : (Int32 × Mem)} {x0 : Nat} {x2 : Int32} {x5 : Int32} {x6 : Int32} {x7 : Int32} {y0 : Int32} {y1 : Int32} {y2 : Nat} {σ : Mem} {y : ((Int32 × Int32 × Mem) ⊕ (Int32 × Mem))} (C : Cx Δ Γ RX9 cX9_round 11 d (some .int)) (hq : RetQ Δ Γ (some (.int q.1)) q.2) (h0 : isK 9 x0 = true) (hd : 4 ≤ d) (hF : F_X9_round_257 x0 x2 x5 x6 x7 y0 y1 y2 σ = some y) (hK : (K_X9_round_214 Δ Γ q x0 x2 x5 y)) : V Δ Γ 11 257 [(0, rf Δ (x0)), (2, .int (x2)), (5, .int (x5)), (6, .int (x6)), (7, .int (x7))] [.int (y0), .int (y1), rf Δ (y2)] σ := by
  unfold F_X9_round_257 at hF
  obtain ⟨m41, g42, hF⟩ := bnd hF
  refine v_sI C g42 dX9_round_257 ?_
  refine v_iload C 6 3 dX9_round_258 rfl ?_
  refine v_aload_n C 0 0 dX9_round_260 rfl rfl ?_
  obtain ⟨p44, g43, hF⟩ := bnd hF
  refine v_gR C fu_X9_7 g43 dX9_round_261 ?_
  refine v_iconst C (0) dX9_round_264 (by decide) ?_
  obtain ⟨v45, g46, hF⟩ := bnd hF
  refine v_aI C g46 dX9_round_265 ?_
  refine v_iconst C (1) dX9_round_266 (by decide) ?_
  refine v_iadd C dX9_round_267 ?_
  obtain ⟨_, g47, hF⟩ := bnd hF
  refine v_idiv C dX9_round_268 (nz_ne g47) ?_
  refine v_istore C 6 (ll' := [(6, _), (0, _), (2, _), (5, _), (7, _)]) dX9_round_269 (by decide) rfl ?_
  refine v_iinc C (_ + (-1 : Int32)) 4 (ll' := [(7, _), (6, _), (0, _), (2, _), (5, _)]) dX9_round_271 rfl (inc_eq (by decide)) (by decide) rfl ?_
  refine v_goto C 214 dX9_round_274 (by decide) ?_
  refine v_sub [2, 3, 4, 1, 0] (ll' := [(0, _), (2, _), (5, _), (6, _), (7, _)]) rfl ?_
  cases hF
  exact hK
set_option maxRecDepth 20000 in
set_option maxHeartbeats 2000000 in
theorem W_X9_round_214 {Δ : DD} {Γ : GG} {d : Nat} {q : (Int32 × Mem)} {x0 : Nat} {x2 : Int32} {x5 : Int32} (C : Cx Δ Γ RX9 cX9_round 11 d (some .int)) (hq : RetQ Δ Γ (some (.int q.1)) q.2) (h0 : isK 9 x0 = true) (hd : 4 ≤ d) {s : Int32 × Int32 × Mem} (hF : F_X9_round_214 x0 x2 x5  s = some q) : V Δ Γ 11 214 [(0, rf Δ (x0)), (2, .int (x2)), (5, .int (x5)), (6, .int (s.1)), (7, .int (s.2.1))] [] s.2.2 := by
  have hF : F_X9_round_214 x0 x2 x5  s = some q := hF
  refine lp_V (W := fun (s : Int32 × Int32 × Mem) => V Δ Γ 11 214 [(0, rf Δ (x0)), (2, .int (x2)), (5, .int (x5)), (6, .int (s.1)), (7, .int (s.2.1))] [] s.2.2) (K := fun t => t = q) (K' := K_X9_round_214 Δ Γ q x0 x2 x5 ) (fun _ h => h) (fun _ h => h) ?_ s q hF rfl
  clear hF
  intro s z hF hK
  refine v_iload C 7 4 dX9_round_214 rfl ?_
  refine v_if_lt C 277 dX9_round_216 (by decide) (fun c31 => ?_) (fun c31 => ?_)
  · have hF := ifp hF c31
    refine v_iload C 5 2 dX9_round_277 rfl ?_
    cases hF
    exact v_iretF C hq hK dX9_round_279
  · have hF := ifn hF c31
    refine v_iload C 6 3 dX9_round_219 rfl ?_
    refine v_aload_n C 0 0 dX9_round_221 rfl rfl ?_
    obtain ⟨p33, g32, hF⟩ := bnd hF
    refine v_gR C fu_X9_7 g32 dX9_round_222 ?_
    refine v_iconst C (0) dX9_round_225 (by decide) ?_
    obtain ⟨v34, g35, hF⟩ := bnd hF
    refine v_aI C g35 dX9_round_226 ?_
    refine v_iconst C (1) dX9_round_227 (by decide) ?_
    refine v_iadd C dX9_round_228 ?_
    obtain ⟨_, g36, hF⟩ := bnd hF
    refine v_irem C dX9_round_229 (nz_ne g36) ?_
    refine v_iconst C (1) dX9_round_230 (by decide) ?_
    refine v_isub C dX9_round_231 ?_
    refine v_istore C 8 (ll' := [(8, _), (0, _), (2, _), (5, _), (6, _), (7, _)]) dX9_round_232 (by decide) rfl ?_
    refine v_aload_n C 0 1 dX9_round_234 rfl rfl ?_
    obtain ⟨p39, g38, hF⟩ := bnd hF
    refine v_gR C fu_X9_16 g38 dX9_round_235 ?_
    refine v_bipush C (40) dX9_round_238 (by decide) ?_
    refine v_iload_n C 2 2 dX9_round_240 rfl rfl ?_
    refine v_imul C dX9_round_241 ?_
    refine v_iload C 7 5 dX9_round_242 rfl ?_
    refine v_iadd C dX9_round_244 ?_
    refine v_iload C 8 0 dX9_round_245 rfl ?_
    refine v_if_ge C 255 dX9_round_247 (by decide) (fun c40 => ?_) (fun c40 => ?_)
    · have hF := ifp hF c40
      refine v_iload C 8 0 dX9_round_255 rfl ?_
      refine v_sub [1, 2, 3, 4, 5] (ll' := [(0, _), (2, _), (5, _), (6, _), (7, _)]) rfl ?_
      exact W_X9_round_257 C hq h0 hd hF hK
    · have hF := ifn hF c40
      refine v_bipush C (-9) dX9_round_250 (by decide) ?_
      refine v_goto C 257 dX9_round_252 (by decide) ?_
      refine v_sub [1, 2, 3, 4, 5] (ll' := [(0, _), (2, _), (5, _), (6, _), (7, _)]) rfl ?_
      exact W_X9_round_257 C hq h0 hd hF hK
set_option maxRecDepth 20000 in
set_option maxHeartbeats 2000000 in
theorem W_X9_round_68 {Δ : DD} {Γ : GG} {d : Nat} {q : (Int32 × Mem)} {x0 : Nat} {x1 : Int32} {x2 : Int32} {x3 : Int32} (C : Cx Δ Γ RX9 cX9_round 11 d (some .int)) (hq : RetQ Δ Γ (some (.int q.1)) q.2) (h0 : isK 9 x0 = true) (hd : 4 ≤ d) {s : Int32 × Int32 × Int32 × Mem} (hF : F_X9_round_68 x0 x1 x2 x3  s = some q) : V Δ Γ 11 68 [(0, rf Δ (x0)), (1, .int (x1)), (2, .int (x2)), (3, .int (x3)), (4, .int (s.1)), (5, .int (s.2.1)), (6, .int (s.2.2.1))] [] s.2.2.2 := by
  have hF : F_X9_round_68 x0 x1 x2 x3  s = some q := hF
  refine lp_V (W := fun (s : Int32 × Int32 × Int32 × Mem) => V Δ Γ 11 68 [(0, rf Δ (x0)), (1, .int (x1)), (2, .int (x2)), (3, .int (x3)), (4, .int (s.1)), (5, .int (s.2.1)), (6, .int (s.2.2.1))] [] s.2.2.2) (K := fun t => t = q) (K' := K_X9_round_68 Δ Γ q x0 x1 x2 x3 ) (fun _ h => h) (fun _ h => h) ?_ s q hF rfl
  clear hF
  intro s z hF hK
  refine v_iload C 6 6 dX9_round_68 rfl ?_
  refine v_iload_n C 3 3 dX9_round_70 rfl rfl ?_
  refine v_icmp_ge C 199 dX9_round_71 (by decide) (fun c6 => ?_) (fun c6 => ?_)
  · have hF := ifp hF c6
    refine v_aload_n C 0 0 dX9_round_199 rfl rfl ?_
    refine v_iload_n C 2 2 dX9_round_200 rfl rfl ?_
    refine v_iload_n C 1 1 dX9_round_201 rfl rfl ?_
    obtain ⟨q7, g8, hF⟩ := bnd hF
    refine v_cVv C mw_X9_anew lk_X9_67 _ (M_X9_anew (by omega) h0 g8) h0 rfl rfl (Nat.le_of_ble_eq_true rfl) dX9_round_202 ?_
    refine v_iload C 4 4 dX9_round_205 rfl ?_
    refine v_istore C 6 (ll' := [(6, _), (0, _), (1, _), (2, _), (3, _), (4, _), (5, _)]) dX9_round_207 (by decide) rfl ?_
    refine v_iload_n C 1 2 dX9_round_209 rfl rfl ?_
    refine v_iconst C (1) dX9_round_210 (by decide) ?_
    refine v_isub C dX9_round_211 ?_
    refine v_istore C 7 (ll' := [(7, _), (6, _), (0, _), (1, _), (2, _), (3, _), (4, _), (5, _)]) dX9_round_212 (by decide) rfl ?_
    refine v_sub [2, 4, 7, 1, 0] (ll' := [(0, _), (2, _), (5, _), (6, _), (7, _)]) rfl ?_
    obtain ⟨z, hz, e⟩ := mapd hF
    subst e
    exact W_X9_round_214 C hq h0 hd (hz.trans (congrArg some hK))
  · have hF := ifn hF c6
    refine v_aload_n C 0 0 dX9_round_74 rfl rfl ?_
    obtain ⟨q9, g10, hF⟩ := bnd hF
    refine v_cVv C mw_X9_tries lk_X9_173 _ (M_X9_tries (by omega) h0 g10) h0 rfl rfl (Nat.le_of_ble_eq_true rfl) dX9_round_75 ?_
    refine v_iconst C (0) dX9_round_78 (by decide) ?_
    refine v_istore C 7 (ll' := [(7, _), (0, _), (1, _), (2, _), (3, _), (4, _), (5, _), (6, _)]) dX9_round_79 (by decide) rfl ?_
    refine v_iload_n C 3 4 dX9_round_81 rfl rfl ?_
    refine v_istore C 8 (ll' := [(8, _), (7, _), (0, _), (1, _), (2, _), (3, _), (4, _), (5, _), (6, _)]) dX9_round_82 (by decide) rfl ?_
    refine v_iconst C (0) dX9_round_84 (by decide) ?_
    refine v_istore C 9 (ll' := [(9, _), (8, _), (7, _), (0, _), (1, _), (2, _), (3, _), (4, _), (5, _), (6, _)]) dX9_round_85 (by decide) rfl ?_
    refine v_sub [3, 4, 5, 6, 7, 8, 9, 2, 1, 0] (ll' := [(0, _), (1, _), (2, _), (3, _), (4, _), (5, _), (6, _), (7, _), (8, _), (9, _)]) rfl ?_
    exact W_X9_round_87 C hq h0 hd hF hK
set_option maxRecDepth 20000 in
set_option maxHeartbeats 2000000 in
theorem W_X9_round_36 {Δ : DD} {Γ : GG} {d : Nat} {q : (Int32 × Mem)} {x0 : Nat} {x1 : Int32} {x2 : Int32} {σ : Mem} (C : Cx Δ Γ RX9 cX9_round 11 d (some .int)) (hq : RetQ Δ Γ (some (.int q.1)) q.2) (h0 : isK 9 x0 = true) (hd : 4 ≤ d) {s : Int32 × Int32} (hF : F_X9_round_36 x0 x1 x2 σ s = some q) : V Δ Γ 11 36 [(0, rf Δ (x0)), (1, .int (x1)), (2, .int (x2)), (3, .int (s.1)), (4, .int (s.2))] [] σ := by
  have hF : F_X9_round_36 x0 x1 x2 σ s = some q := hF
  refine lp_V (W := fun (s : Int32 × Int32) => V Δ Γ 11 36 [(0, rf Δ (x0)), (1, .int (x1)), (2, .int (x2)), (3, .int (s.1)), (4, .int (s.2))] [] σ) (K := fun t => t = q) (K' := K_X9_round_36 Δ Γ q x0 x1 x2 σ) (fun _ h => h) (fun _ h => h) ?_ s q hF rfl
  clear hF
  intro s z hF hK
  refine v_iload C 4 4 dX9_round_36 rfl ?_
  refine v_iload_n C 1 1 dX9_round_38 rfl rfl ?_
  refine v_icmp_ge C 59 dX9_round_39 (by decide) (fun c1 => ?_) (fun c1 => ?_)
  · have hF := ifp hF c1
    refine v_iconst C (0) dX9_round_59 (by decide) ?_
    refine v_istore C 4 (ll' := [(4, _), (0, _), (1, _), (2, _), (3, _)]) dX9_round_60 (by decide) rfl ?_
    refine v_iconst C (-1) dX9_round_62 (by decide) ?_
    refine v_istore C 5 (ll' := [(5, _), (4, _), (0, _), (1, _), (2, _), (3, _)]) dX9_round_63 (by decide) rfl ?_
    refine v_iconst C (0) dX9_round_65 (by decide) ?_
    refine v_istore C 6 (ll' := [(6, _), (5, _), (4, _), (0, _), (1, _), (2, _), (3, _)]) dX9_round_66 (by decide) rfl ?_
    refine v_sub [3, 4, 5, 6, 2, 1, 0] (ll' := [(0, _), (1, _), (2, _), (3, _), (4, _), (5, _), (6, _)]) rfl ?_
    obtain ⟨z, hz, e⟩ := mapd hF
    subst e
    exact W_X9_round_68 C hq h0 hd (hz.trans (congrArg some hK))
  · have hF := ifn hF c1
    refine v_iload_n C 3 3 dX9_round_42 rfl rfl ?_
    refine v_aload_n C 0 0 dX9_round_43 rfl rfl ?_
    obtain ⟨p3, g2, hF⟩ := bnd hF
    refine v_gR C fu_X9_7 g2 dX9_round_44 ?_
    refine v_iconst C (0) dX9_round_47 (by decide) ?_
    obtain ⟨v4, g5, hF⟩ := bnd hF
    refine v_aI C g5 dX9_round_48 ?_
    refine v_iconst C (1) dX9_round_49 (by decide) ?_
    refine v_iadd C dX9_round_50 ?_
    refine v_imul C dX9_round_51 ?_
    refine v_istore_n C 3 (ll' := [(3, _), (0, _), (1, _), (2, _), (4, _)]) dX9_round_52 rfl (by decide) rfl ?_
    refine v_iinc C (_ + (1 : Int32)) 4 (ll' := [(4, _), (3, _), (0, _), (1, _), (2, _)]) dX9_round_53 rfl (inc_eq (by decide)) (by decide) rfl ?_
    refine v_goto C 36 dX9_round_56 (by decide) ?_
    refine v_sub [2, 3, 4, 1, 0] (ll' := [(0, _), (1, _), (2, _), (3, _), (4, _)]) rfl ?_
    cases hF
    exact hK
set_option maxRecDepth 20000 in
set_option maxHeartbeats 2000000 in
theorem M_X9_round {Δ : DD} {d : Nat} {x0 : Nat} {x1 : Int32} {x2 : Int32} {σ : Mem} {q : (Int32 × Mem)} (hd : 5 ≤ d) (h0 : isK 9 x0 = true) (hF : F_X9_round x0 x1 x2 σ = some q) : Mt Δ d yX9_round cX9_round 11 (some .int) [rf Δ x0, .int x1, .int x2] σ (some (.int q.1)) q.2 := by
  obtain ⟨d, rfl⟩ : ∃ e, d = e + 1 := ⟨d - 1, by omega⟩
  have hd : 4 ≤ d := by omega
  refine mt_of (by decide) rfl (Nat.le_of_ble_eq_true rfl) (fun Γ C hq => ?_)
  unfold F_X9_round at hF
  show V Δ Γ 11 0 [(0, rf Δ (x0)), (1, .int (x1)), (2, .int (x2))] [] σ
  refine v_iload_n C 1 1 dX9_round_0 rfl rfl ?_
  refine v_i2l C dX9_round_1 ?_
  refine v_lconst C 0 dX9_round_2 (by decide) ?_
  refine v_ldc2 C (4) kl_X9_179 dX9_round_3 ?_
  obtain ⟨q48, g49, hF⟩ := bnd hF
  refine v_cSi C mw_X9_in lk_X9_53 _ (M_X9_in (by omega) g49) rfl rfl (Nat.le_of_ble_eq_true rfl) dX9_round_6 ?_
  refine v_if_eq C 19 dX9_round_9 (by decide) (fun c50 => ?_) (fun c50 => ?_)
  · have hF := ifp hF c50
    refine v_iconst C (-1) dX9_round_19 (by decide) ?_
    exact v_iretF C hq (Option.some.inj hF) dX9_round_20
  · have hF := ifn hF c50
    refine v_iload_n C 2 2 dX9_round_12 rfl rfl ?_
    obtain ⟨q51, g52, hF⟩ := bnd hF
    refine v_cSi C mw_X9_isRow lk_X9_59 _ (M_X9_isRow (by omega) g52) rfl rfl (Nat.le_of_ble_eq_true rfl) dX9_round_13 ?_
    refine v_if_ne C 21 dX9_round_16 (by decide) (fun c53 => ?_) (fun c53 => ?_)
    · have hF := ifn hF c53
      refine v_aload_n C 0 0 dX9_round_21 rfl rfl ?_
      obtain ⟨q54, g55, hF⟩ := bnd hF
      refine v_cVi C mw_X9_isTown lk_X9_153 _ (M_X9_isTown (by omega) h0 g55) h0 rfl rfl (Nat.le_of_ble_eq_true rfl) dX9_round_22 ?_
      refine v_if_ne C 31 dX9_round_25 (by decide) (fun c56 => ?_) (fun c56 => ?_)
      · have hF := ifn hF c56
        refine v_iconst C (1) dX9_round_31 (by decide) ?_
        refine v_istore_n C 3 (ll' := [(3, _), (0, _), (1, _), (2, _)]) dX9_round_32 rfl (by decide) rfl ?_
        refine v_iconst C (0) dX9_round_33 (by decide) ?_
        refine v_istore C 4 (ll' := [(4, _), (3, _), (0, _), (1, _), (2, _)]) dX9_round_34 (by decide) rfl ?_
        refine v_sub [2, 3, 4, 1, 0] (ll' := [(0, _), (1, _), (2, _), (3, _), (4, _)]) rfl ?_
        exact W_X9_round_36 C hq h0 hd hF
      · have hF := ifp hF c56
        refine v_bipush C (-4) dX9_round_28 (by decide) ?_
        exact v_iretF C hq (Option.some.inj hF) dX9_round_30
    · have hF := ifp hF c53
      refine v_iconst C (-1) dX9_round_19 (by decide) ?_
      exact v_iretF C hq (Option.some.inj hF) dX9_round_20
def K_X9_brings_53 (Δ : DD) (Γ : GG) (q : (Int32 × Mem)) (x0 : Nat) (x1 : Int32) (σ : Mem) (y : (Int32) ⊕ (Int32 × Mem)) : Prop := match y with
  | .inl s => V Δ Γ 4 53 [(0, rf Δ (x0)), (1, .int (x1)), (2, .int (s))] [] σ
  | .inr t => (t = q)
def K_X9_brings_117 (Δ : DD) (Γ : GG) (q : (Int32 × Mem)) (x0 : Nat) (x1 : Int32) (y : (Int32 × Int32 × Mem) ⊕ (Int32 × Mem)) : Prop := match y with
  | .inl s => V Δ Γ 4 117 [(0, rf Δ (x0)), (1, .int (x1)), (2, .int (s.1)), (3, .int (s.2.1))] [] s.2.2
  | .inr t => (t = q)
set_option maxRecDepth 20000 in
set_option maxHeartbeats 2000000 in
theorem W_X9_brings_174 {Δ : DD} {Γ : GG} {d : Nat} {q : (Int32 × Mem)} {x0 : Nat} {x1 : Int32} {x3 : Int32} {y0 : Int32} {y1 : Int32} {σ : Mem} {y : ((Int32 × Int32 × Mem) ⊕ (Int32 × Mem))} (C : Cx Δ Γ RX9 cX9_brings 4 d (some .int)) (hq : RetQ Δ Γ (some (.int q.1)) q.2) (h0 : isK 9 x0 = true) (hd : 4 ≤ d) (hF : F_X9_brings_174 x0 x1 x3 y0 y1 σ = some y) (hK : (K_X9_brings_117 Δ Γ q x0 x1 y)) : V Δ Γ 4 174 [(0, rf Δ (x0)), (1, .int (x1)), (3, .int (x3))] [.int (y0), .int (y1)] σ := by
  unfold F_X9_brings_174 at hF
  refine v_iadd C dX9_brings_174 ?_
  refine v_istore_n C 2 (ll' := [(2, _), (0, _), (1, _), (3, _)]) dX9_brings_175 rfl (by decide) rfl ?_
  refine v_iinc C (_ + (1 : Int32)) 3 (ll' := [(3, _), (2, _), (0, _), (1, _)]) dX9_brings_176 rfl (inc_eq (by decide)) (by decide) rfl ?_
  refine v_goto C 117 dX9_brings_179 (by decide) ?_
  refine v_sub [2, 3, 1, 0] (ll' := [(0, _), (1, _), (2, _), (3, _)]) rfl ?_
  cases hF
  exact hK
set_option maxRecDepth 20000 in
set_option maxHeartbeats 2000000 in
theorem W_X9_brings_117 {Δ : DD} {Γ : GG} {d : Nat} {q : (Int32 × Mem)} {x0 : Nat} {x1 : Int32} (C : Cx Δ Γ RX9 cX9_brings 4 d (some .int)) (hq : RetQ Δ Γ (some (.int q.1)) q.2) (h0 : isK 9 x0 = true) (hd : 4 ≤ d) {s : Int32 × Int32 × Mem} (hF : F_X9_brings_117 x0 x1  s = some q) : V Δ Γ 4 117 [(0, rf Δ (x0)), (1, .int (x1)), (2, .int (s.1)), (3, .int (s.2.1))] [] s.2.2 := by
  have hF : F_X9_brings_117 x0 x1  s = some q := hF
  refine lp_V (W := fun (s : Int32 × Int32 × Mem) => V Δ Γ 4 117 [(0, rf Δ (x0)), (1, .int (x1)), (2, .int (s.1)), (3, .int (s.2.1))] [] s.2.2) (K := fun t => t = q) (K' := K_X9_brings_117 Δ Γ q x0 x1 ) (fun _ h => h) (fun _ h => h) ?_ s q hF rfl
  clear hF
  intro s z hF hK
  refine v_iload_n C 3 3 dX9_brings_117 rfl rfl ?_
  refine v_aload_n C 0 0 dX9_brings_118 rfl rfl ?_
  obtain ⟨p23, g22, hF⟩ := bnd hF
  refine v_gR C fu_X9_19 g22 dX9_brings_119 ?_
  refine v_iload_n C 1 1 dX9_brings_122 rfl rfl ?_
  obtain ⟨v24, g25, hF⟩ := bnd hF
  refine v_aI C g25 dX9_brings_123 ?_
  refine v_icmp_ge C 182 dX9_brings_124 (by decide) (fun c26 => ?_) (fun c26 => ?_)
  · have hF := ifp hF c26
    refine v_aload_n C 0 0 dX9_brings_182 rfl rfl ?_
    refine v_aload_n C 0 0 dX9_brings_183 rfl rfl ?_
    obtain ⟨p28, g27, hF⟩ := bnd hF
    refine v_gR C fu_X9_7 g27 dX9_brings_184 ?_
    refine v_sipush C (7262) dX9_brings_187 (by decide) ?_
    obtain ⟨v29, g30, hF⟩ := bnd hF
    refine v_aI C g30 dX9_brings_190 ?_
    refine v_aload_n C 0 0 dX9_brings_191 rfl rfl ?_
    obtain ⟨p32, g31, hF⟩ := bnd hF
    refine v_gR C fu_X9_7 g31 dX9_brings_192 ?_
    refine v_iconst C (2) dX9_brings_195 (by decide) ?_
    obtain ⟨v33, g34, hF⟩ := bnd hF
    refine v_aI C g34 dX9_brings_196 ?_
    refine v_isub C dX9_brings_197 ?_
    refine v_iload_n C 2 2 dX9_brings_198 rfl rfl ?_
    obtain ⟨q35, g36, hF⟩ := bnd hF
    refine v_cVi C mw_X9_tells lk_X9_75 _ (M_X9_tells (by omega) h0 g36) h0 rfl rfl (Nat.le_of_ble_eq_true rfl) dX9_brings_199 ?_
    cases hF
    exact v_iretF C hq hK dX9_brings_202
  · have hF := ifn hF c26
    refine v_aload_n C 0 0 dX9_brings_127 rfl rfl ?_
    refine v_sipush C (7260) dX9_brings_128 (by decide) ?_
    obtain ⟨q37, g38, hF⟩ := bnd hF
    refine v_cVi C mw_X9_passes lk_X9_160 _ (M_X9_passes (by omega) h0 g38) h0 rfl rfl (Nat.le_of_ble_eq_true rfl) dX9_brings_131 ?_
    refine v_pop C dX9_brings_134 rfl ?_
    refine v_iload_n C 2 2 dX9_brings_135 rfl rfl ?_
    refine v_aload_n C 0 0 dX9_brings_136 rfl rfl ?_
    obtain ⟨p40, g39, hF⟩ := bnd hF
    refine v_gR C fu_X9_16 g39 dX9_brings_137 ?_
    refine v_bipush C (40) dX9_brings_140 (by decide) ?_
    refine v_iload_n C 1 1 dX9_brings_142 rfl rfl ?_
    refine v_imul C dX9_brings_143 ?_
    refine v_iload_n C 3 3 dX9_brings_144 rfl rfl ?_
    refine v_iadd C dX9_brings_145 ?_
    obtain ⟨v41, g42, hF⟩ := bnd hF
    refine v_aI C g42 dX9_brings_146 ?_
    refine v_bipush C (-9) dX9_brings_147 (by decide) ?_
    refine v_icmp_ne C 156 dX9_brings_149 (by decide) (fun c43 => ?_) (fun c43 => ?_)
    · have hF := ifn hF c43
      refine v_aload_n C 0 0 dX9_brings_156 rfl rfl ?_
      refine v_sipush C (7260) dX9_brings_157 (by decide) ?_
      refine v_aload_n C 0 0 dX9_brings_160 rfl rfl ?_
      obtain ⟨p45, g44, hF⟩ := bnd hF
      refine v_gR C fu_X9_16 g44 dX9_brings_161 ?_
      refine v_bipush C (40) dX9_brings_164 (by decide) ?_
      refine v_iload_n C 1 1 dX9_brings_166 rfl rfl ?_
      refine v_imul C dX9_brings_167 ?_
      refine v_iload_n C 3 3 dX9_brings_168 rfl rfl ?_
      refine v_iadd C dX9_brings_169 ?_
      obtain ⟨v46, g47, hF⟩ := bnd hF
      refine v_aI C g47 dX9_brings_170 ?_
      obtain ⟨q48, g49, hF⟩ := bnd hF
      refine v_cVi C mw_X9_inspects lk_X9_163 _ (M_X9_inspects (by omega) h0 g49) h0 rfl rfl (Nat.le_of_ble_eq_true rfl) dX9_brings_171 ?_
      refine v_sub [0, 1, 3] (ll' := [(0, _), (1, _), (3, _)]) rfl ?_
      exact W_X9_brings_174 C hq h0 hd hF hK
    · have hF := ifp hF c43
      refine v_iconst C (0) dX9_brings_152 (by decide) ?_
      refine v_goto C 174 dX9_brings_153 (by decide) ?_
      refine v_sub [0, 1, 3] (ll' := [(0, _), (1, _), (3, _)]) rfl ?_
      exact W_X9_brings_174 C hq h0 hd hF hK
set_option maxRecDepth 20000 in
set_option maxHeartbeats 2000000 in
theorem W_X9_brings_53 {Δ : DD} {Γ : GG} {d : Nat} {q : (Int32 × Mem)} {x0 : Nat} {x1 : Int32} {σ : Mem} (C : Cx Δ Γ RX9 cX9_brings 4 d (some .int)) (hq : RetQ Δ Γ (some (.int q.1)) q.2) (h0 : isK 9 x0 = true) (hd : 4 ≤ d) {s : Int32} (hF : F_X9_brings_53 x0 x1 σ s = some q) : V Δ Γ 4 53 [(0, rf Δ (x0)), (1, .int (x1)), (2, .int (s))] [] σ := by
  have hF : F_X9_brings_53 x0 x1 σ s = some q := hF
  refine lp_V (W := fun (s : Int32) => V Δ Γ 4 53 [(0, rf Δ (x0)), (1, .int (x1)), (2, .int (s))] [] σ) (K := fun t => t = q) (K' := K_X9_brings_53 Δ Γ q x0 x1 σ) (fun _ h => h) (fun _ h => h) ?_ s q hF rfl
  clear hF
  intro s z hF hK
  refine v_iload_n C 2 2 dX9_brings_53 rfl rfl ?_
  refine v_aload_n C 0 0 dX9_brings_54 rfl rfl ?_
  obtain ⟨p2, g1, hF⟩ := bnd hF
  refine v_gR C fu_X9_19 g1 dX9_brings_55 ?_
  refine v_iload_n C 1 1 dX9_brings_58 rfl rfl ?_
  obtain ⟨v3, g4, hF⟩ := bnd hF
  refine v_aI C g4 dX9_brings_59 ?_
  refine v_icmp_ge C 109 dX9_brings_60 (by decide) (fun c5 => ?_) (fun c5 => ?_)
  · have hF := ifp hF c5
    refine v_aload_n C 0 0 dX9_brings_109 rfl rfl ?_
    obtain ⟨q6, g7, hF⟩ := bnd hF
    refine v_cVv C mw_X9_tries lk_X9_173 _ (M_X9_tries (by omega) h0 g7) h0 rfl rfl (Nat.le_of_ble_eq_true rfl) dX9_brings_110 ?_
    refine v_iconst C (0) dX9_brings_113 (by decide) ?_
    refine v_istore_n C 2 (ll' := [(2, _), (0, _), (1, _)]) dX9_brings_114 rfl (by decide) rfl ?_
    refine v_iconst C (0) dX9_brings_115 (by decide) ?_
    refine v_istore_n C 3 (ll' := [(3, _), (2, _), (0, _), (1, _)]) dX9_brings_116 rfl (by decide) rfl ?_
    refine v_sub [2, 3, 1, 0] (ll' := [(0, _), (1, _), (2, _), (3, _)]) rfl ?_
    obtain ⟨z, hz, e⟩ := mapd hF
    subst e
    exact W_X9_brings_117 C hq h0 hd (hz.trans (congrArg some hK))
  · have hF := ifn hF c5
    refine v_aload_n C 0 0 dX9_brings_63 rfl rfl ?_
    obtain ⟨p9, g8, hF⟩ := bnd hF
    refine v_gR C fu_X9_16 g8 dX9_brings_64 ?_
    refine v_bipush C (40) dX9_brings_67 (by decide) ?_
    refine v_iload_n C 1 1 dX9_brings_69 rfl rfl ?_
    refine v_imul C dX9_brings_70 ?_
    refine v_iload_n C 2 2 dX9_brings_71 rfl rfl ?_
    refine v_iadd C dX9_brings_72 ?_
    obtain ⟨v10, g11, hF⟩ := bnd hF
    refine v_aI C g11 dX9_brings_73 ?_
    refine v_bipush C (-9) dX9_brings_74 (by decide) ?_
    refine v_icmp_eq C 103 dX9_brings_76 (by decide) (fun c12 => ?_) (fun c12 => ?_)
    · have hF := ifp hF c12
      refine v_iinc C (_ + (1 : Int32)) 2 (ll' := [(2, _), (0, _), (1, _)]) dX9_brings_103 rfl (inc_eq (by decide)) (by decide) rfl ?_
      refine v_goto C 53 dX9_brings_106 (by decide) ?_
      refine v_sub [1, 2, 0] (ll' := [(0, _), (1, _), (2, _)]) rfl ?_
      cases hF
      exact hK
    · have hF := ifn hF c12
      refine v_aload_n C 0 0 dX9_brings_79 rfl rfl ?_
      refine v_aload_n C 0 0 dX9_brings_80 rfl rfl ?_
      obtain ⟨p14, g13, hF⟩ := bnd hF
      refine v_gR C fu_X9_16 g13 dX9_brings_81 ?_
      refine v_bipush C (40) dX9_brings_84 (by decide) ?_
      refine v_iload_n C 1 1 dX9_brings_86 rfl rfl ?_
      refine v_imul C dX9_brings_87 ?_
      refine v_iload_n C 2 2 dX9_brings_88 rfl rfl ?_
      refine v_iadd C dX9_brings_89 ?_
      obtain ⟨v15, g16, hF⟩ := bnd hF
      refine v_aI C g16 dX9_brings_90 ?_
      obtain ⟨q17, g18, hF⟩ := bnd hF
      refine v_cVi C mw_X9_isBed lk_X9_140 _ (M_X9_isBed (by omega) h0 g18) h0 rfl rfl (Nat.le_of_ble_eq_true rfl) dX9_brings_91 ?_
      refine v_if_ne C 103 dX9_brings_94 (by decide) (fun c19 => ?_) (fun c19 => ?_)
      · have hF := ifn hF c19
        refine v_iinc C (_ + (1 : Int32)) 2 (ll' := [(2, _), (0, _), (1, _)]) dX9_brings_103 rfl (inc_eq (by decide)) (by decide) rfl ?_
        refine v_goto C 53 dX9_brings_106 (by decide) ?_
        refine v_sub [1, 2, 0] (ll' := [(0, _), (1, _), (2, _)]) rfl ?_
        cases hF
        exact hK
      · have hF := ifp hF c19
        refine v_aload_n C 0 0 dX9_brings_97 rfl rfl ?_
        refine v_iconst C (3) dX9_brings_98 (by decide) ?_
        obtain ⟨q20, g21, hF⟩ := bnd hF
        refine v_cVi C mw_X9_found lk_X9_63 _ (M_X9_found (by omega) h0 g21) h0 rfl rfl (Nat.le_of_ble_eq_true rfl) dX9_brings_99 ?_
        cases hF
        exact v_iretF C hq hK dX9_brings_102
set_option maxRecDepth 20000 in
set_option maxHeartbeats 2000000 in
theorem M_X9_brings {Δ : DD} {d : Nat} {x0 : Nat} {x1 : Int32} {σ : Mem} {q : (Int32 × Mem)} (hd : 5 ≤ d) (h0 : isK 9 x0 = true) (hF : F_X9_brings x0 x1 σ = some q) : Mt Δ d yX9_brings cX9_brings 4 (some .int) [rf Δ x0, .int x1] σ (some (.int q.1)) q.2 := by
  obtain ⟨d, rfl⟩ : ∃ e, d = e + 1 := ⟨d - 1, by omega⟩
  have hd : 4 ≤ d := by omega
  refine mt_of (by decide) rfl (Nat.le_of_ble_eq_true rfl) (fun Γ C hq => ?_)
  unfold F_X9_brings at hF
  show V Δ Γ 4 0 [(0, rf Δ (x0)), (1, .int (x1))] [] σ
  refine v_iload_n C 1 1 dX9_brings_0 rfl rfl ?_
  obtain ⟨q50, g51, hF⟩ := bnd hF
  refine v_cSi C mw_X9_isRow lk_X9_59 _ (M_X9_isRow (by omega) g51) rfl rfl (Nat.le_of_ble_eq_true rfl) dX9_brings_1 ?_
  refine v_if_ne C 9 dX9_brings_4 (by decide) (fun c52 => ?_) (fun c52 => ?_)
  · have hF := ifn hF c52
    refine v_aload_n C 0 0 dX9_brings_9 rfl rfl ?_
    obtain ⟨q53, g54, hF⟩ := bnd hF
    refine v_cVi C mw_X9_isTown lk_X9_153 _ (M_X9_isTown (by omega) h0 g54) h0 rfl rfl (Nat.le_of_ble_eq_true rfl) dX9_brings_10 ?_
    refine v_if_ne C 19 dX9_brings_13 (by decide) (fun c55 => ?_) (fun c55 => ?_)
    · have hF := ifn hF c55
      refine v_aload_n C 0 0 dX9_brings_19 rfl rfl ?_
      obtain ⟨p57, g56, hF⟩ := bnd hF
      refine v_gR C fu_X9_19 g56 dX9_brings_20 ?_
      refine v_iload_n C 1 1 dX9_brings_23 rfl rfl ?_
      obtain ⟨v58, g59, hF⟩ := bnd hF
      refine v_aI C g59 dX9_brings_24 ?_
      refine v_if_ge C 34 dX9_brings_25 (by decide) (fun c60 => ?_) (fun c60 => ?_)
      · have hF := ifp hF c60
        refine v_aload_n C 0 0 dX9_brings_34 rfl rfl ?_
        obtain ⟨p62, g61, hF⟩ := bnd hF
        refine v_gR C fu_X9_19 g61 dX9_brings_35 ?_
        refine v_iload_n C 1 1 dX9_brings_38 rfl rfl ?_
        obtain ⟨v63, g64, hF⟩ := bnd hF
        refine v_aI C g64 dX9_brings_39 ?_
        refine v_bipush C (10) dX9_brings_40 (by decide) ?_
        refine v_icmp_le C 51 dX9_brings_42 (by decide) (fun c65 => ?_) (fun c65 => ?_)
        · have hF := ifp hF c65
          refine v_iconst C (0) dX9_brings_51 (by decide) ?_
          refine v_istore_n C 2 (ll' := [(2, _), (0, _), (1, _)]) dX9_brings_52 rfl (by decide) rfl ?_
          refine v_sub [1, 2, 0] (ll' := [(0, _), (1, _), (2, _)]) rfl ?_
          exact W_X9_brings_53 C hq h0 hd hF
        · have hF := ifn hF c65
          refine v_aload_n C 0 0 dX9_brings_45 rfl rfl ?_
          refine v_iconst C (5) dX9_brings_46 (by decide) ?_
          obtain ⟨q66, g67, hF⟩ := bnd hF
          refine v_cVi C mw_X9_found lk_X9_63 _ (M_X9_found (by omega) h0 g67) h0 rfl rfl (Nat.le_of_ble_eq_true rfl) dX9_brings_47 ?_
          exact v_iretF C hq (Option.some.inj hF) dX9_brings_50
      · have hF := ifn hF c60
        refine v_aload_n C 0 0 dX9_brings_28 rfl rfl ?_
        refine v_iconst C (1) dX9_brings_29 (by decide) ?_
        obtain ⟨q68, g69, hF⟩ := bnd hF
        refine v_cVi C mw_X9_found lk_X9_63 _ (M_X9_found (by omega) h0 g69) h0 rfl rfl (Nat.le_of_ble_eq_true rfl) dX9_brings_30 ?_
        exact v_iretF C hq (Option.some.inj hF) dX9_brings_33
    · have hF := ifp hF c55
      refine v_bipush C (-4) dX9_brings_16 (by decide) ?_
      exact v_iretF C hq (Option.some.inj hF) dX9_brings_18
  · have hF := ifp hF c52
    refine v_iconst C (-1) dX9_brings_7 (by decide) ?_
    exact v_iretF C hq (Option.some.inj hF) dX9_brings_8
set_option maxRecDepth 20000 in
set_option maxHeartbeats 2000000 in
theorem M_X9_crossWith {Δ : DD} {d : Nat} {x0 : Nat} {x1 : Int32} {x2 : Int32} {σ : Mem} {q : Int32} (hd : 3 ≤ d) (h0 : isK 9 x0 = true) (hF : F_X9_crossWith x0 x1 x2 σ = some q) : Mt Δ d yX9_crossWith cX9_crossWith 3 (some .int) [rf Δ x0, .int x1, .int x2] σ (some (.int q)) σ := by
  obtain ⟨d, rfl⟩ : ∃ e, d = e + 1 := ⟨d - 1, by omega⟩
  have hd : 2 ≤ d := by omega
  refine mt_of (by decide) rfl (Nat.le_of_ble_eq_true rfl) (fun Γ C hq => ?_)
  unfold F_X9_crossWith at hF
  show V Δ Γ 3 0 [(0, rf Δ (x0)), (1, .int (x1)), (2, .int (x2))] [] σ
  refine v_aload_n C 0 0 dX9_crossWith_0 rfl rfl ?_
  refine v_aload_n C 0 0 dX9_crossWith_1 rfl rfl ?_
  obtain ⟨p2, g1, hF⟩ := bnd hF
  refine v_gR C fu_X9_7 g1 dX9_crossWith_2 ?_
  refine v_iconst C (3) dX9_crossWith_5 (by decide) ?_
  refine v_iload_n C 1 1 dX9_crossWith_6 rfl rfl ?_
  refine v_iadd C dX9_crossWith_7 ?_
  obtain ⟨v3, g4, hF⟩ := bnd hF
  refine v_aI C g4 dX9_crossWith_8 ?_
  refine v_aload_n C 0 0 dX9_crossWith_9 rfl rfl ?_
  obtain ⟨p6, g5, hF⟩ := bnd hF
  refine v_gR C fu_X9_7 g5 dX9_crossWith_10 ?_
  refine v_bipush C (21) dX9_crossWith_13 (by decide) ?_
  refine v_iload_n C 1 1 dX9_crossWith_15 rfl rfl ?_
  refine v_iadd C dX9_crossWith_16 ?_
  obtain ⟨v7, g8, hF⟩ := bnd hF
  refine v_aI C g8 dX9_crossWith_17 ?_
  refine v_aload_n C 0 0 dX9_crossWith_18 rfl rfl ?_
  obtain ⟨p10, g9, hF⟩ := bnd hF
  refine v_gR C fu_X9_7 g9 dX9_crossWith_19 ?_
  refine v_bipush C (9) dX9_crossWith_22 (by decide) ?_
  refine v_iload_n C 1 1 dX9_crossWith_24 rfl rfl ?_
  refine v_iadd C dX9_crossWith_25 ?_
  obtain ⟨v11, g12, hF⟩ := bnd hF
  refine v_aI C g12 dX9_crossWith_26 ?_
  refine v_aload_n C 0 0 dX9_crossWith_27 rfl rfl ?_
  obtain ⟨p14, g13, hF⟩ := bnd hF
  refine v_gR C fu_X9_7 g13 dX9_crossWith_28 ?_
  refine v_bipush C (15) dX9_crossWith_31 (by decide) ?_
  refine v_iload_n C 2 2 dX9_crossWith_33 rfl rfl ?_
  refine v_iadd C dX9_crossWith_34 ?_
  obtain ⟨v15, g16, hF⟩ := bnd hF
  refine v_aI C g16 dX9_crossWith_35 ?_
  obtain ⟨q17, g18, hF⟩ := bnd hF
  refine v_cSi C mw_X9_off lk_X9_123 _ (M_X9_off (by omega) g18) rfl rfl (Nat.le_of_ble_eq_true rfl) dX9_crossWith_36 ?_
  refine v_aload_n C 0 0 dX9_crossWith_39 rfl rfl ?_
  obtain ⟨p20, g19, hF⟩ := bnd hF
  refine v_gR C fu_X9_7 g19 dX9_crossWith_40 ?_
  refine v_iconst C (1) dX9_crossWith_43 (by decide) ?_
  obtain ⟨v21, g22, hF⟩ := bnd hF
  refine v_aI C g22 dX9_crossWith_44 ?_
  obtain ⟨q23, g24, hF⟩ := bnd hF
  refine v_cVi C mw_X9_crossBy lk_X9_129 _ (M_X9_crossBy (by omega) h0 g24) h0 rfl rfl (Nat.le_of_ble_eq_true rfl) dX9_crossWith_45 ?_
  exact v_iretP C hq (Option.some.inj hF) dX9_crossWith_48
def K_X9_marry_23 (Δ : DD) (Γ : GG) (q : (Int32 × Mem)) (x0 : Nat) (x1 : Int32) (σ : Mem) (y : (Int32 × Int32) ⊕ (Int32 × Mem)) : Prop := match y with
  | .inl s => V Δ Γ 10 23 [(0, rf Δ (x0)), (1, .int (x1)), (2, .int (s.1)), (3, .int (s.2))] [] σ
  | .inr t => (t = q)
def K_X9_marry_57 (Δ : DD) (Γ : GG) (q : (Int32 × Mem)) (x0 : Nat) (x1 : Int32) (x2 : Int32) (σ : Mem) (y : (Int32 × Int32 × Int32) ⊕ (Int32 × Mem)) : Prop := match y with
  | .inl s => V Δ Γ 10 57 [(0, rf Δ (x0)), (1, .int (x1)), (2, .int (x2)), (3, .int (s.1)), (4, .int (s.2.1)), (5, .int (s.2.2))] [] σ
  | .inr t => (t = q)
def K_X9_marry_226 (Δ : DD) (Γ : GG) (q : (Int32 × Mem)) (x0 : Nat) (x1 : Int32) (x4 : Int32) (y : (Int32 × Int32 × Mem) ⊕ (Int32 × Mem)) : Prop := match y with
  | .inl s => V Δ Γ 10 226 [(0, rf Δ (x0)), (1, .int (x1)), (4, .int (x4)), (5, .int (s.1)), (6, .int (s.2.1))] [] s.2.2
  | .inr t => (t = q)
def K_X9_marry_83 (Δ : DD) (Γ : GG) (q : (Int32 × Mem)) (x0 : Nat) (x1 : Int32) (x2 : Int32) (x3 : Int32) (x4 : Int32) (x5 : Int32) (σ : Mem) (y : (Int32 × Int32 × Int32 × Int32) ⊕ ((Int32 × Int32 × Int32) ⊕ (Int32 × Mem))) : Prop := match y with
  | .inl s => V Δ Γ 10 83 [(0, rf Δ (x0)), (1, .int (x1)), (2, .int (x2)), (3, .int (x3)), (4, .int (x4)), (5, .int (x5)), (6, .int (s.1)), (7, .int (s.2.1)), (8, .int (s.2.2.1)), (9, .int (s.2.2.2))] [] σ
  | .inr t => (K_X9_marry_57 Δ Γ q x0 x1 x2 σ t)
set_option maxRecDepth 20000 in
set_option maxHeartbeats 2000000 in
theorem W_X9_marry_181 {Δ : DD} {Γ : GG} {d : Nat} {q : (Int32 × Mem)} {x0 : Nat} {x1 : Int32} {x2 : Int32} {x4 : Int32} {x5 : Int32} {x8 : Int32} {x9 : Int32} {y0 : Int32} {σ : Mem} {y : ((Int32 × Int32 × Int32) ⊕ (Int32 × Mem))} (C : Cx Δ Γ RX9 cX9_marry 10 d (some .int)) (hq : RetQ Δ Γ (some (.int q.1)) q.2) (h0 : isK 9 x0 = true) (hd : 3 ≤ d) (hF : F_X9_marry_181 x0 x1 x2 x4 x5 x8 x9 y0 σ = some y) (hK : (K_X9_marry_57 Δ Γ q x0 x1 x2 σ y)) : V Δ Γ 10 181 [(0, rf Δ (x0)), (1, .int (x1)), (2, .int (x2)), (4, .int (x4)), (5, .int (x5)), (8, .int (x8)), (9, .int (x9))] [.int (y0)] σ := by
  unfold F_X9_marry_181 at hF
  refine v_istore_n C 3 (ll' := [(3, _), (0, _), (1, _), (2, _), (4, _), (5, _), (8, _), (9, _)]) dX9_marry_181 rfl (by decide) rfl ?_
  refine v_iload C 9 7 dX9_marry_182 rfl ?_
  refine v_if_eq C 192 dX9_marry_184 (by decide) (fun c51 => ?_) (fun c51 => ?_)
  · have hF := ifp hF c51
    refine v_iload C 4 4 dX9_marry_192 rfl ?_
    refine v_istore C 4 (ll' := [(4, _), (3, _), (0, _), (1, _), (2, _), (5, _), (8, _), (9, _)]) dX9_marry_194 (by decide) rfl ?_
    refine v_iinc C (_ + (1 : Int32)) 5 (ll' := [(5, _), (4, _), (3, _), (0, _), (1, _), (2, _), (8, _), (9, _)]) dX9_marry_196 rfl (inc_eq (by decide)) (by decide) rfl ?_
    refine v_goto C 57 dX9_marry_199 (by decide) ?_
    refine v_sub [3, 4, 5, 2, 1, 0] (ll' := [(0, _), (1, _), (2, _), (3, _), (4, _), (5, _)]) rfl ?_
    cases hF
    exact hK
  · have hF := ifn hF c51
    refine v_iload C 8 6 dX9_marry_187 rfl ?_
    refine v_goto C 194 dX9_marry_189 (by decide) ?_
    refine v_istore C 4 (ll' := [(4, _), (3, _), (0, _), (1, _), (2, _), (5, _), (8, _), (9, _)]) dX9_marry_194 (by decide) rfl ?_
    refine v_iinc C (_ + (1 : Int32)) 5 (ll' := [(5, _), (4, _), (3, _), (0, _), (1, _), (2, _), (8, _), (9, _)]) dX9_marry_196 rfl (inc_eq (by decide)) (by decide) rfl ?_
    refine v_goto C 57 dX9_marry_199 (by decide) ?_
    refine v_sub [3, 4, 5, 2, 1, 0] (ll' := [(0, _), (1, _), (2, _), (3, _), (4, _), (5, _)]) rfl ?_
    cases hF
    exact hK
set_option maxRecDepth 20000 in
set_option maxHeartbeats 2000000 in
theorem W_X9_marry_168 {Δ : DD} {Γ : GG} {d : Nat} {q : (Int32 × Mem)} {x0 : Nat} {x1 : Int32} {x2 : Int32} {x3 : Int32} {x4 : Int32} {x5 : Int32} {x8 : Int32} {y0 : Int32} {σ : Mem} {y : ((Int32 × Int32 × Int32) ⊕ (Int32 × Mem))} (C : Cx Δ Γ RX9 cX9_marry 10 d (some .int)) (hq : RetQ Δ Γ (some (.int q.1)) q.2) (h0 : isK 9 x0 = true) (hd : 3 ≤ d) (hF : F_X9_marry_168 x0 x1 x2 x3 x4 x5 x8 y0 σ = some y) (hK : (K_X9_marry_57 Δ Γ q x0 x1 x2 σ y)) : V Δ Γ 10 168 [(0, rf Δ (x0)), (1, .int (x1)), (2, .int (x2)), (3, .int (x3)), (4, .int (x4)), (5, .int (x5)), (8, .int (x8))] [.int (y0)] σ := by
  unfold F_X9_marry_168 at hF
  refine v_istore C 9 (ll' := [(9, _), (0, _), (1, _), (2, _), (3, _), (4, _), (5, _), (8, _)]) dX9_marry_168 (by decide) rfl ?_
  refine v_iload C 9 0 dX9_marry_170 rfl ?_
  refine v_if_eq C 180 dX9_marry_172 (by decide) (fun c50 => ?_) (fun c50 => ?_)
  · have hF := ifp hF c50
    refine v_iload_n C 3 4 dX9_marry_180 rfl rfl ?_
    refine v_sub [1, 2, 3, 5, 6, 7, 0] (ll' := [(0, _), (1, _), (2, _), (4, _), (5, _), (8, _), (9, _)]) rfl ?_
    exact W_X9_marry_181 C hq h0 hd hF hK
  · have hF := ifn hF c50
    refine v_iload C 5 6 dX9_marry_175 rfl ?_
    refine v_goto C 181 dX9_marry_177 (by decide) ?_
    refine v_sub [1, 2, 3, 5, 6, 7, 0] (ll' := [(0, _), (1, _), (2, _), (4, _), (5, _), (8, _), (9, _)]) rfl ?_
    exact W_X9_marry_181 C hq h0 hd hF hK
set_option maxRecDepth 20000 in
set_option maxHeartbeats 2000000 in
theorem W_X9_marry_167 {Δ : DD} {Γ : GG} {d : Nat} {q : (Int32 × Mem)} {x0 : Nat} {x1 : Int32} {x2 : Int32} {x3 : Int32} {x4 : Int32} {x5 : Int32} {x8 : Int32}  {σ : Mem} {y : ((Int32 × Int32 × Int32) ⊕ (Int32 × Mem))} (C : Cx Δ Γ RX9 cX9_marry 10 d (some .int)) (hq : RetQ Δ Γ (some (.int q.1)) q.2) (h0 : isK 9 x0 = true) (hd : 3 ≤ d) (hF : F_X9_marry_167 x0 x1 x2 x3 x4 x5 x8  σ = some y) (hK : (K_X9_marry_57 Δ Γ q x0 x1 x2 σ y)) : V Δ Γ 10 167 [(0, rf Δ (x0)), (1, .int (x1)), (2, .int (x2)), (3, .int (x3)), (4, .int (x4)), (5, .int (x5)), (8, .int (x8))] [] σ := by
  unfold F_X9_marry_167 at hF
  refine v_iconst C (0) dX9_marry_167 (by decide) ?_
  exact W_X9_marry_168 C hq h0 hd hF hK
set_option maxRecDepth 20000 in
set_option maxHeartbeats 2000000 in
theorem W_X9_marry_83 {Δ : DD} {Γ : GG} {d : Nat} {q : (Int32 × Mem)} {x0 : Nat} {x1 : Int32} {x2 : Int32} {x3 : Int32} {x4 : Int32} {x5 : Int32} {σ : Mem} (C : Cx Δ Γ RX9 cX9_marry 10 d (some .int)) (hq : RetQ Δ Γ (some (.int q.1)) q.2) (h0 : isK 9 x0 = true) (hd : 3 ≤ d) {s : Int32 × Int32 × Int32 × Int32} {y : ((Int32 × Int32 × Int32) ⊕ (Int32 × Mem))} (hF : F_X9_marry_83 x0 x1 x2 x3 x4 x5 σ s = some y) (hK : (K_X9_marry_57 Δ Γ q x0 x1 x2 σ y)) : V Δ Γ 10 83 [(0, rf Δ (x0)), (1, .int (x1)), (2, .int (x2)), (3, .int (x3)), (4, .int (x4)), (5, .int (x5)), (6, .int (s.1)), (7, .int (s.2.1)), (8, .int (s.2.2.1)), (9, .int (s.2.2.2))] [] σ := by
  refine lp_V (W := fun (s : Int32 × Int32 × Int32 × Int32) => V Δ Γ 10 83 [(0, rf Δ (x0)), (1, .int (x1)), (2, .int (x2)), (3, .int (x3)), (4, .int (x4)), (5, .int (x5)), (6, .int (s.1)), (7, .int (s.2.1)), (8, .int (s.2.2.1)), (9, .int (s.2.2.2))] [] σ) (K := fun (t : ((Int32 × Int32 × Int32) ⊕ (Int32 × Mem))) => (K_X9_marry_57 Δ Γ q x0 x1 x2 σ t)) (K' := K_X9_marry_83 Δ Γ q x0 x1 x2 x3 x4 x5 σ) (fun _ h => h) (fun _ h => h) ?_ s y hF hK
  clear hF hK
  intro s z hF hK
  refine v_iload C 9 9 dX9_marry_83 rfl ?_
  refine v_if_lt C 141 dX9_marry_85 (by decide) (fun c25 => ?_) (fun c25 => ?_)
  · have hF := ifp hF c25
    refine v_iload C 7 7 dX9_marry_141 rfl ?_
    refine v_iconst C (1) dX9_marry_143 (by decide) ?_
    refine v_aload_n C 0 0 dX9_marry_144 rfl rfl ?_
    obtain ⟨p27, g26, hF⟩ := bnd hF
    refine v_gR C fu_X9_7 g26 dX9_marry_145 ?_
    refine v_iconst C (0) dX9_marry_148 (by decide) ?_
    obtain ⟨v28, g29, hF⟩ := bnd hF
    refine v_aI C g29 dX9_marry_149 ?_
    refine v_ishl C dX9_marry_150 ?_
    refine v_iconst C (1) dX9_marry_151 (by decide) ?_
    refine v_isub C dX9_marry_152 ?_
    refine v_icmp_ne C 167 dX9_marry_153 (by decide) (fun c30 => ?_) (fun c30 => ?_)
    · have hF := ifn hF c30
      refine v_sub [0, 1, 2, 3, 4, 5, 8] (ll' := [(0, _), (1, _), (2, _), (3, _), (4, _), (5, _), (8, _)]) rfl ?_
      obtain ⟨z, hz, e⟩ := mapd hF
      subst e
      exact W_X9_marry_167 C hq h0 hd hz hK
    · have hF := ifp hF c30
      refine v_iload C 8 8 dX9_marry_156 rfl ?_
      refine v_iload C 4 4 dX9_marry_158 rfl ?_
      refine v_icmp_ge C 167 dX9_marry_160 (by decide) (fun c31 => ?_) (fun c31 => ?_)
      · have hF := ifp hF c31
        refine v_sub [0, 1, 2, 3, 4, 5, 8] (ll' := [(0, _), (1, _), (2, _), (3, _), (4, _), (5, _), (8, _)]) rfl ?_
        obtain ⟨z, hz, e⟩ := mapd hF
        subst e
        exact W_X9_marry_167 C hq h0 hd hz hK
      · have hF := ifn hF c31
        refine v_iconst C (1) dX9_marry_163 (by decide) ?_
        refine v_goto C 168 dX9_marry_164 (by decide) ?_
        refine v_sub [0, 1, 2, 3, 4, 5, 8] (ll' := [(0, _), (1, _), (2, _), (3, _), (4, _), (5, _), (8, _)]) rfl ?_
        obtain ⟨z, hz, e⟩ := mapd hF
        subst e
        exact W_X9_marry_168 C hq h0 hd hz hK
  · have hF := ifn hF c25
    refine v_iload C 7 7 dX9_marry_88 rfl ?_
    refine v_iconst C (1) dX9_marry_90 (by decide) ?_
    refine v_iload C 6 6 dX9_marry_91 rfl ?_
    refine v_aload_n C 0 0 dX9_marry_93 rfl rfl ?_
    obtain ⟨p33, g32, hF⟩ := bnd hF
    refine v_gR C fu_X9_7 g32 dX9_marry_94 ?_
    refine v_iconst C (0) dX9_marry_97 (by decide) ?_
    obtain ⟨v34, g35, hF⟩ := bnd hF
    refine v_aI C g35 dX9_marry_98 ?_
    obtain ⟨_, g36, hF⟩ := bnd hF
    refine v_irem C dX9_marry_99 (nz_ne g36) ?_
    refine v_ishl C dX9_marry_100 ?_
    refine v_ior C dX9_marry_101 ?_
    refine v_istore C 7 (ll' := [(7, _), (0, _), (1, _), (2, _), (3, _), (4, _), (5, _), (6, _), (8, _), (9, _)]) dX9_marry_102 (by decide) rfl ?_
    refine v_iload C 8 8 dX9_marry_104 rfl ?_
    refine v_aload_n C 0 1 dX9_marry_106 rfl rfl ?_
    refine v_iload C 9 9 dX9_marry_107 rfl ?_
    refine v_iload C 6 7 dX9_marry_109 rfl ?_
    refine v_aload_n C 0 1 dX9_marry_111 rfl rfl ?_
    obtain ⟨p39, g38, hF⟩ := bnd hF
    refine v_gR C fu_X9_7 g38 dX9_marry_112 ?_
    refine v_iconst C (0) dX9_marry_115 (by decide) ?_
    obtain ⟨v40, g41, hF⟩ := bnd hF
    refine v_aI C g41 dX9_marry_116 ?_
    obtain ⟨_, g42, hF⟩ := bnd hF
    refine v_irem C dX9_marry_117 (nz_ne g42) ?_
    obtain ⟨q43, g44, hF⟩ := bnd hF
    refine v_cVi C mw_X9_crossWith lk_X9_182 _ (M_X9_crossWith (by omega) h0 g44) h0 rfl rfl (Nat.le_of_ble_eq_true rfl) dX9_marry_118 ?_
    refine v_iadd C dX9_marry_121 ?_
    refine v_istore C 8 (ll' := [(8, _), (7, _), (0, _), (1, _), (2, _), (3, _), (4, _), (5, _), (6, _), (9, _)]) dX9_marry_122 (by decide) rfl ?_
    refine v_iload C 6 8 dX9_marry_124 rfl ?_
    refine v_aload_n C 0 2 dX9_marry_126 rfl rfl ?_
    obtain ⟨p46, g45, hF⟩ := bnd hF
    refine v_gR C fu_X9_7 g45 dX9_marry_127 ?_
    refine v_iconst C (0) dX9_marry_130 (by decide) ?_
    obtain ⟨v47, g48, hF⟩ := bnd hF
    refine v_aI C g48 dX9_marry_131 ?_
    obtain ⟨_, g49, hF⟩ := bnd hF
    refine v_idiv C dX9_marry_132 (nz_ne g49) ?_
    refine v_istore C 6 (ll' := [(6, _), (8, _), (7, _), (0, _), (1, _), (2, _), (3, _), (4, _), (5, _), (9, _)]) dX9_marry_133 (by decide) rfl ?_
    refine v_iinc C (_ + (-1 : Int32)) 9 (ll' := [(9, _), (6, _), (8, _), (7, _), (0, _), (1, _), (2, _), (3, _), (4, _), (5, _)]) dX9_marry_135 rfl (inc_eq (by decide)) (by decide) rfl ?_
    refine v_goto C 83 dX9_marry_138 (by decide) ?_
    refine v_sub [4, 5, 6, 7, 8, 9, 1, 3, 2, 0] (ll' := [(0, _), (1, _), (2, _), (3, _), (4, _), (5, _), (6, _), (7, _), (8, _), (9, _)]) rfl ?_
    cases hF
    exact hK
set_option maxRecDepth 20000 in
set_option maxHeartbeats 2000000 in
theorem W_X9_marry_226 {Δ : DD} {Γ : GG} {d : Nat} {q : (Int32 × Mem)} {x0 : Nat} {x1 : Int32} {x4 : Int32} (C : Cx Δ Γ RX9 cX9_marry 10 d (some .int)) (hq : RetQ Δ Γ (some (.int q.1)) q.2) (h0 : isK 9 x0 = true) (hd : 3 ≤ d) {s : Int32 × Int32 × Mem} (hF : F_X9_marry_226 x0 x1 x4  s = some q) : V Δ Γ 10 226 [(0, rf Δ (x0)), (1, .int (x1)), (4, .int (x4)), (5, .int (s.1)), (6, .int (s.2.1))] [] s.2.2 := by
  have hF : F_X9_marry_226 x0 x1 x4  s = some q := hF
  refine lp_V (W := fun (s : Int32 × Int32 × Mem) => V Δ Γ 10 226 [(0, rf Δ (x0)), (1, .int (x1)), (4, .int (x4)), (5, .int (s.1)), (6, .int (s.2.1))] [] s.2.2) (K := fun t => t = q) (K' := K_X9_marry_226 Δ Γ q x0 x1 x4 ) (fun _ h => h) (fun _ h => h) ?_ s q hF rfl
  clear hF
  intro s z hF hK
  refine v_iload C 6 4 dX9_marry_226 rfl ?_
  refine v_if_lt C 269 dX9_marry_228 (by decide) (fun c52 => ?_) (fun c52 => ?_)
  · have hF := ifp hF c52
    refine v_iload C 4 2 dX9_marry_269 rfl ?_
    cases hF
    exact v_iretF C hq hK dX9_marry_271
  · have hF := ifn hF c52
    refine v_aload_n C 0 0 dX9_marry_231 rfl rfl ?_
    obtain ⟨p54, g53, hF⟩ := bnd hF
    refine v_gR C fu_X9_16 g53 dX9_marry_232 ?_
    refine v_bipush C (40) dX9_marry_235 (by decide) ?_
    refine v_iload_n C 1 1 dX9_marry_237 rfl rfl ?_
    refine v_imul C dX9_marry_238 ?_
    refine v_iload C 6 4 dX9_marry_239 rfl ?_
    refine v_iadd C dX9_marry_241 ?_
    refine v_iload C 5 3 dX9_marry_242 rfl ?_
    refine v_aload_n C 0 0 dX9_marry_244 rfl rfl ?_
    obtain ⟨p56, g55, hF⟩ := bnd hF
    refine v_gR C fu_X9_7 g55 dX9_marry_245 ?_
    refine v_iconst C (0) dX9_marry_248 (by decide) ?_
    obtain ⟨v57, g58, hF⟩ := bnd hF
    refine v_aI C g58 dX9_marry_249 ?_
    obtain ⟨_, g59, hF⟩ := bnd hF
    refine v_irem C dX9_marry_250 (nz_ne g59) ?_
    obtain ⟨m60, g61, hF⟩ := bnd hF
    refine v_sI C g61 dX9_marry_251 ?_
    refine v_iload C 5 3 dX9_marry_252 rfl ?_
    refine v_aload_n C 0 0 dX9_marry_254 rfl rfl ?_
    obtain ⟨p63, g62, hF⟩ := bnd hF
    refine v_gR C fu_X9_7 g62 dX9_marry_255 ?_
    refine v_iconst C (0) dX9_marry_258 (by decide) ?_
    obtain ⟨v64, g65, hF⟩ := bnd hF
    refine v_aI C g65 dX9_marry_259 ?_
    obtain ⟨_, g66, hF⟩ := bnd hF
    refine v_idiv C dX9_marry_260 (nz_ne g66) ?_
    refine v_istore C 5 (ll' := [(5, _), (0, _), (1, _), (4, _), (6, _)]) dX9_marry_261 (by decide) rfl ?_
    refine v_iinc C (_ + (-1 : Int32)) 4 (ll' := [(6, _), (5, _), (0, _), (1, _), (4, _)]) dX9_marry_263 rfl (inc_eq (by decide)) (by decide) rfl ?_
    refine v_goto C 226 dX9_marry_266 (by decide) ?_
    refine v_sub [2, 3, 4, 1, 0] (ll' := [(0, _), (1, _), (4, _), (5, _), (6, _)]) rfl ?_
    cases hF
    exact hK
set_option maxRecDepth 20000 in
set_option maxHeartbeats 2000000 in
theorem W_X9_marry_57 {Δ : DD} {Γ : GG} {d : Nat} {q : (Int32 × Mem)} {x0 : Nat} {x1 : Int32} {x2 : Int32} {σ : Mem} (C : Cx Δ Γ RX9 cX9_marry 10 d (some .int)) (hq : RetQ Δ Γ (some (.int q.1)) q.2) (h0 : isK 9 x0 = true) (hd : 3 ≤ d) {s : Int32 × Int32 × Int32} (hF : F_X9_marry_57 x0 x1 x2 σ s = some q) : V Δ Γ 10 57 [(0, rf Δ (x0)), (1, .int (x1)), (2, .int (x2)), (3, .int (s.1)), (4, .int (s.2.1)), (5, .int (s.2.2))] [] σ := by
  have hF : F_X9_marry_57 x0 x1 x2 σ s = some q := hF
  refine lp_V (W := fun (s : Int32 × Int32 × Int32) => V Δ Γ 10 57 [(0, rf Δ (x0)), (1, .int (x1)), (2, .int (x2)), (3, .int (s.1)), (4, .int (s.2.1)), (5, .int (s.2.2))] [] σ) (K := fun t => t = q) (K' := K_X9_marry_57 Δ Γ q x0 x1 x2 σ) (fun _ h => h) (fun _ h => h) ?_ s q hF rfl
  clear hF
  intro s z hF hK
  refine v_iload C 5 5 dX9_marry_57 rfl ?_
  refine v_iload_n C 2 2 dX9_marry_59 rfl rfl ?_
  refine v_icmp_ge C 202 dX9_marry_60 (by decide) (fun c10 => ?_) (fun c10 => ?_)
  · have hF := ifp hF c10
    refine v_aload_n C 0 0 dX9_marry_202 rfl rfl ?_
    refine v_iload_n C 1 1 dX9_marry_203 rfl rfl ?_
    refine v_aload_n C 0 0 dX9_marry_204 rfl rfl ?_
    obtain ⟨p12, g11, hF⟩ := bnd hF
    refine v_gR C fu_X9_7 g11 dX9_marry_205 ?_
    refine v_iconst C (0) dX9_marry_208 (by decide) ?_
    obtain ⟨v13, g14, hF⟩ := bnd hF
    refine v_aI C g14 dX9_marry_209 ?_
    obtain ⟨q15, g16, hF⟩ := bnd hF
    refine v_cVv C mw_X9_anew lk_X9_67 _ (M_X9_anew (by omega) h0 g16) h0 rfl rfl (Nat.le_of_ble_eq_true rfl) dX9_marry_210 ?_
    refine v_iload_n C 3 3 dX9_marry_213 rfl rfl ?_
    refine v_istore C 5 (ll' := [(5, _), (0, _), (1, _), (2, _), (3, _), (4, _)]) dX9_marry_214 (by decide) rfl ?_
    refine v_aload_n C 0 1 dX9_marry_216 rfl rfl ?_
    obtain ⟨p18, g17, hF⟩ := bnd hF
    refine v_gR C fu_X9_7 g17 dX9_marry_217 ?_
    refine v_iconst C (0) dX9_marry_220 (by decide) ?_
    obtain ⟨v19, g20, hF⟩ := bnd hF
    refine v_aI C g20 dX9_marry_221 ?_
    refine v_iconst C (1) dX9_marry_222 (by decide) ?_
    refine v_isub C dX9_marry_223 ?_
    refine v_istore C 6 (ll' := [(6, _), (5, _), (0, _), (1, _), (2, _), (3, _), (4, _)]) dX9_marry_224 (by decide) rfl ?_
    refine v_sub [2, 3, 6, 1, 0] (ll' := [(0, _), (1, _), (4, _), (5, _), (6, _)]) rfl ?_
    obtain ⟨z, hz, e⟩ := mapd hF
    subst e
    exact W_X9_marry_226 C hq h0 hd (hz.trans (congrArg some hK))
  · have hF := ifn hF c10
    refine v_iload C 5 5 dX9_marry_63 rfl ?_
    refine v_istore C 6 (ll' := [(6, _), (0, _), (1, _), (2, _), (3, _), (4, _), (5, _)]) dX9_marry_65 (by decide) rfl ?_
    refine v_iconst C (0) dX9_marry_67 (by decide) ?_
    refine v_istore C 7 (ll' := [(7, _), (6, _), (0, _), (1, _), (2, _), (3, _), (4, _), (5, _)]) dX9_marry_68 (by decide) rfl ?_
    refine v_iconst C (0) dX9_marry_70 (by decide) ?_
    refine v_istore C 8 (ll' := [(8, _), (7, _), (6, _), (0, _), (1, _), (2, _), (3, _), (4, _), (5, _)]) dX9_marry_71 (by decide) rfl ?_
    refine v_aload_n C 0 3 dX9_marry_73 rfl rfl ?_
    obtain ⟨p22, g21, hF⟩ := bnd hF
    refine v_gR C fu_X9_7 g21 dX9_marry_74 ?_
    refine v_iconst C (0) dX9_marry_77 (by decide) ?_
    obtain ⟨v23, g24, hF⟩ := bnd hF
    refine v_aI C g24 dX9_marry_78 ?_
    refine v_iconst C (1) dX9_marry_79 (by decide) ?_
    refine v_isub C dX9_marry_80 ?_
    refine v_istore C 9 (ll' := [(9, _), (8, _), (7, _), (6, _), (0, _), (1, _), (2, _), (3, _), (4, _), (5, _)]) dX9_marry_81 (by decide) rfl ?_
    refine v_sub [4, 5, 6, 7, 8, 9, 3, 2, 1, 0] (ll' := [(0, _), (1, _), (2, _), (3, _), (4, _), (5, _), (6, _), (7, _), (8, _), (9, _)]) rfl ?_
    exact W_X9_marry_83 C hq h0 hd hF hK
set_option maxRecDepth 20000 in
set_option maxHeartbeats 2000000 in
theorem W_X9_marry_23 {Δ : DD} {Γ : GG} {d : Nat} {q : (Int32 × Mem)} {x0 : Nat} {x1 : Int32} {σ : Mem} (C : Cx Δ Γ RX9 cX9_marry 10 d (some .int)) (hq : RetQ Δ Γ (some (.int q.1)) q.2) (h0 : isK 9 x0 = true) (hd : 3 ≤ d) {s : Int32 × Int32} (hF : F_X9_marry_23 x0 x1 σ s = some q) : V Δ Γ 10 23 [(0, rf Δ (x0)), (1, .int (x1)), (2, .int (s.1)), (3, .int (s.2))] [] σ := by
  have hF : F_X9_marry_23 x0 x1 σ s = some q := hF
  refine lp_V (W := fun (s : Int32 × Int32) => V Δ Γ 10 23 [(0, rf Δ (x0)), (1, .int (x1)), (2, .int (s.1)), (3, .int (s.2))] [] σ) (K := fun t => t = q) (K' := K_X9_marry_23 Δ Γ q x0 x1 σ) (fun _ h => h) (fun _ h => h) ?_ s q hF rfl
  clear hF
  intro s z hF hK
  refine v_iload_n C 3 3 dX9_marry_23 rfl rfl ?_
  refine v_aload_n C 0 0 dX9_marry_24 rfl rfl ?_
  obtain ⟨p2, g1, hF⟩ := bnd hF
  refine v_gR C fu_X9_7 g1 dX9_marry_25 ?_
  refine v_iconst C (0) dX9_marry_28 (by decide) ?_
  obtain ⟨v3, g4, hF⟩ := bnd hF
  refine v_aI C g4 dX9_marry_29 ?_
  refine v_icmp_ge C 48 dX9_marry_30 (by decide) (fun c5 => ?_) (fun c5 => ?_)
  · have hF := ifp hF c5
    refine v_iconst C (0) dX9_marry_48 (by decide) ?_
    refine v_istore_n C 3 (ll' := [(3, _), (0, _), (1, _), (2, _)]) dX9_marry_49 rfl (by decide) rfl ?_
    refine v_ldc C (1000000) kc_X9_181 dX9_marry_50 ?_
    refine v_istore C 4 (ll' := [(4, _), (3, _), (0, _), (1, _), (2, _)]) dX9_marry_52 (by decide) rfl ?_
    refine v_iconst C (0) dX9_marry_54 (by decide) ?_
    refine v_istore C 5 (ll' := [(5, _), (4, _), (3, _), (0, _), (1, _), (2, _)]) dX9_marry_55 (by decide) rfl ?_
    refine v_sub [3, 4, 5, 2, 1, 0] (ll' := [(0, _), (1, _), (2, _), (3, _), (4, _), (5, _)]) rfl ?_
    obtain ⟨z, hz, e⟩ := mapd hF
    subst e
    exact W_X9_marry_57 C hq h0 hd (hz.trans (congrArg some hK))
  · have hF := ifn hF c5
    refine v_iload_n C 2 2 dX9_marry_33 rfl rfl ?_
    refine v_aload_n C 0 0 dX9_marry_34 rfl rfl ?_
    obtain ⟨p7, g6, hF⟩ := bnd hF
    refine v_gR C fu_X9_7 g6 dX9_marry_35 ?_
    refine v_iconst C (0) dX9_marry_38 (by decide) ?_
    obtain ⟨v8, g9, hF⟩ := bnd hF
    refine v_aI C g9 dX9_marry_39 ?_
    refine v_imul C dX9_marry_40 ?_
    refine v_istore_n C 2 (ll' := [(2, _), (0, _), (1, _), (3, _)]) dX9_marry_41 rfl (by decide) rfl ?_
    refine v_iinc C (_ + (1 : Int32)) 3 (ll' := [(3, _), (2, _), (0, _), (1, _)]) dX9_marry_42 rfl (inc_eq (by decide)) (by decide) rfl ?_
    refine v_goto C 23 dX9_marry_45 (by decide) ?_
    refine v_sub [2, 3, 1, 0] (ll' := [(0, _), (1, _), (2, _), (3, _)]) rfl ?_
    cases hF
    exact hK
set_option maxRecDepth 20000 in
set_option maxHeartbeats 2000000 in
theorem M_X9_marry {Δ : DD} {d : Nat} {x0 : Nat} {x1 : Int32} {σ : Mem} {q : (Int32 × Mem)} (hd : 4 ≤ d) (h0 : isK 9 x0 = true) (hF : F_X9_marry x0 x1 σ = some q) : Mt Δ d yX9_marry cX9_marry 10 (some .int) [rf Δ x0, .int x1] σ (some (.int q.1)) q.2 := by
  obtain ⟨d, rfl⟩ : ∃ e, d = e + 1 := ⟨d - 1, by omega⟩
  have hd : 3 ≤ d := by omega
  refine mt_of (by decide) rfl (Nat.le_of_ble_eq_true rfl) (fun Γ C hq => ?_)
  unfold F_X9_marry at hF
  show V Δ Γ 10 0 [(0, rf Δ (x0)), (1, .int (x1))] [] σ
  refine v_iload_n C 1 1 dX9_marry_0 rfl rfl ?_
  obtain ⟨q67, g68, hF⟩ := bnd hF
  refine v_cSi C mw_X9_isRow lk_X9_59 _ (M_X9_isRow (by omega) g68) rfl rfl (Nat.le_of_ble_eq_true rfl) dX9_marry_1 ?_
  refine v_if_ne C 9 dX9_marry_4 (by decide) (fun c69 => ?_) (fun c69 => ?_)
  · have hF := ifn hF c69
    refine v_aload_n C 0 0 dX9_marry_9 rfl rfl ?_
    obtain ⟨q70, g71, hF⟩ := bnd hF
    refine v_cVi C mw_X9_isTown lk_X9_153 _ (M_X9_isTown (by omega) h0 g71) h0 rfl rfl (Nat.le_of_ble_eq_true rfl) dX9_marry_10 ?_
    refine v_if_ne C 19 dX9_marry_13 (by decide) (fun c72 => ?_) (fun c72 => ?_)
    · have hF := ifn hF c72
      refine v_iconst C (1) dX9_marry_19 (by decide) ?_
      refine v_istore_n C 2 (ll' := [(2, _), (0, _), (1, _)]) dX9_marry_20 rfl (by decide) rfl ?_
      refine v_iconst C (0) dX9_marry_21 (by decide) ?_
      refine v_istore_n C 3 (ll' := [(3, _), (2, _), (0, _), (1, _)]) dX9_marry_22 rfl (by decide) rfl ?_
      refine v_sub [2, 3, 1, 0] (ll' := [(0, _), (1, _), (2, _), (3, _)]) rfl ?_
      exact W_X9_marry_23 C hq h0 hd hF
    · have hF := ifp hF c72
      refine v_bipush C (-4) dX9_marry_16 (by decide) ?_
      exact v_iretF C hq (Option.some.inj hF) dX9_marry_18
  · have hF := ifp hF c69
    refine v_iconst C (-1) dX9_marry_7 (by decide) ?_
    exact v_iretF C hq (Option.some.inj hF) dX9_marry_8
set_option maxRecDepth 20000 in
set_option maxHeartbeats 2000000 in
theorem M_X9_wantsRight {Δ : DD} {d : Nat} {x0 : Nat} {x1 : Int32} {x2 : Int32} {σ : Mem} {q : Int32} (hd : 3 ≤ d) (h0 : isK 9 x0 = true) (hF : F_X9_wantsRight x0 x1 x2 σ = some q) : Mt Δ d yX9_wantsRight cX9_wantsRight 3 (some .boolean) [rf Δ x0, .int x1, .int x2] σ (some (.int q)) σ := by
  obtain ⟨d, rfl⟩ : ∃ e, d = e + 1 := ⟨d - 1, by omega⟩
  have hd : 2 ≤ d := by omega
  refine mt_of (by decide) rfl (Nat.le_of_ble_eq_true rfl) (fun Γ C hq => ?_)
  unfold F_X9_wantsRight at hF
  show V Δ Γ 3 0 [(0, rf Δ (x0)), (1, .int (x1)), (2, .int (x2))] [] σ
  refine v_aload_n C 0 0 dX9_wantsRight_0 rfl rfl ?_
  obtain ⟨p2, g1, hF⟩ := bnd hF
  refine v_gR C fu_X9_7 g1 dX9_wantsRight_1 ?_
  refine v_bipush C (9) dX9_wantsRight_4 (by decide) ?_
  refine v_iload_n C 1 1 dX9_wantsRight_6 rfl rfl ?_
  refine v_iadd C dX9_wantsRight_7 ?_
  obtain ⟨v3, g4, hF⟩ := bnd hF
  refine v_aI C g4 dX9_wantsRight_8 ?_
  refine v_aload_n C 0 0 dX9_wantsRight_9 rfl rfl ?_
  obtain ⟨p6, g5, hF⟩ := bnd hF
  refine v_gR C fu_X9_7 g5 dX9_wantsRight_10 ?_
  refine v_bipush C (15) dX9_wantsRight_13 (by decide) ?_
  refine v_iload_n C 2 2 dX9_wantsRight_15 rfl rfl ?_
  refine v_iadd C dX9_wantsRight_16 ?_
  obtain ⟨v7, g8, hF⟩ := bnd hF
  refine v_aI C g8 dX9_wantsRight_17 ?_
  obtain ⟨q9, g10, hF⟩ := bnd hF
  refine v_cSi C mw_X9_off lk_X9_123 _ (M_X9_off (by omega) g10) rfl rfl (Nat.le_of_ble_eq_true rfl) dX9_wantsRight_18 ?_
  refine v_aload_n C 0 0 dX9_wantsRight_21 rfl rfl ?_
  refine v_iconst C (0) dX9_wantsRight_22 (by decide) ?_
  refine v_iload_n C 1 1 dX9_wantsRight_23 rfl rfl ?_
  obtain ⟨q11, g12, hF⟩ := bnd hF
  refine v_cVi C mw_X9_gapIn lk_X9_126 _ (M_X9_gapIn (by omega) h0 g12) h0 rfl rfl (Nat.le_of_ble_eq_true rfl) dX9_wantsRight_24 ?_
  refine v_icmp_ge C 34 dX9_wantsRight_27 (by decide) (fun c13 => ?_) (fun c13 => ?_)
  · have hF := ifp hF c13
    refine v_iconst C (0) dX9_wantsRight_34 (by decide) ?_
    exact v_zretP C hq (Option.some.inj hF) rfl dX9_wantsRight_35
  · have hF := ifn hF c13
    refine v_iconst C (1) dX9_wantsRight_30 (by decide) ?_
    refine v_goto C 35 dX9_wantsRight_31 (by decide) ?_
    exact v_zretP C hq (Option.some.inj hF) rfl dX9_wantsRight_35
def K_X9_rather_17 (Δ : DD) (Γ : GG) (q : (Int32 × Mem)) (x0 : Nat) (σ : Mem) (y : (Int32 × Int32 × Int32) ⊕ (Int32 × Mem)) : Prop := match y with
  | .inl s => V Δ Γ 6 17 [(0, rf Δ (x0)), (1, .int (s.1)), (2, .int (s.2.1)), (3, .int (s.2.2))] [] σ
  | .inr t => (t = q)
def K_X9_rather_32 (Δ : DD) (Γ : GG) (q : (Int32 × Mem)) (x0 : Nat) (x3 : Int32) (σ : Mem) (y : (Int32 × Int32 × Int32) ⊕ ((Int32 × Int32 × Int32) ⊕ (Int32 × Mem))) : Prop := match y with
  | .inl s => V Δ Γ 6 32 [(0, rf Δ (x0)), (1, .int (s.1)), (2, .int (s.2.1)), (3, .int (x3)), (4, .int (s.2.2))] [] σ
  | .inr t => (K_X9_rather_17 Δ Γ q x0 σ t)
set_option maxRecDepth 20000 in
set_option maxHeartbeats 2000000 in
theorem W_X9_rather_104 {Δ : DD} {Γ : GG} {d : Nat} {q : (Int32 × Mem)} {x0 : Nat} {x2 : Int32} {x3 : Int32} {x4 : Int32} {y0 : Int32} {y1 : Int32} {σ : Mem} {y : ((Int32 × Int32 × Int32) ⊕ ((Int32 × Int32 × Int32) ⊕ (Int32 × Mem)))} (C : Cx Δ Γ RX9 cX9_rather 6 d (some .int)) (hq : RetQ Δ Γ (some (.int q.1)) q.2) (h0 : isK 9 x0 = true) (hd : 3 ≤ d) (hF : F_X9_rather_104 x0 x2 x3 x4 y0 y1 σ = some y) (hK : (K_X9_rather_32 Δ Γ q x0 x3 σ y)) : V Δ Γ 6 104 [(0, rf Δ (x0)), (2, .int (x2)), (3, .int (x3)), (4, .int (x4))] [.int (y0), .int (y1)] σ := by
  unfold F_X9_rather_104 at hF
  refine v_iadd C dX9_rather_104 ?_
  refine v_istore_n C 1 (ll' := [(1, _), (0, _), (2, _), (3, _), (4, _)]) dX9_rather_105 rfl (by decide) rfl ?_
  refine v_iinc C (_ + (1 : Int32)) 4 (ll' := [(4, _), (1, _), (0, _), (2, _), (3, _)]) dX9_rather_106 rfl (inc_eq (by decide)) (by decide) rfl ?_
  refine v_goto C 32 dX9_rather_109 (by decide) ?_
  refine v_sub [2, 1, 3, 4, 0] (ll' := [(0, _), (1, _), (2, _), (3, _), (4, _)]) rfl ?_
  cases hF
  exact hK
set_option maxRecDepth 20000 in
set_option maxHeartbeats 2000000 in
theorem W_X9_rather_92 {Δ : DD} {Γ : GG} {d : Nat} {q : (Int32 × Mem)} {x0 : Nat} {x1 : Int32} {x3 : Int32} {x4 : Int32} {x5 : Int32} {y0 : Int32} {σ : Mem} {y : ((Int32 × Int32 × Int32) ⊕ ((Int32 × Int32 × Int32) ⊕ (Int32 × Mem)))} (C : Cx Δ Γ RX9 cX9_rather 6 d (some .int)) (hq : RetQ Δ Γ (some (.int q.1)) q.2) (h0 : isK 9 x0 = true) (hd : 3 ≤ d) (hF : F_X9_rather_92 x0 x1 x3 x4 x5 y0 σ = some y) (hK : (K_X9_rather_32 Δ Γ q x0 x3 σ y)) : V Δ Γ 6 92 [(0, rf Δ (x0)), (1, .int (x1)), (3, .int (x3)), (4, .int (x4)), (5, .int (x5))] [.int (y0)] σ := by
  unfold F_X9_rather_92 at hF
  refine v_istore_n C 2 (ll' := [(2, _), (0, _), (1, _), (3, _), (4, _), (5, _)]) dX9_rather_92 rfl (by decide) rfl ?_
  refine v_iload_n C 1 2 dX9_rather_93 rfl rfl ?_
  refine v_iload C 5 5 dX9_rather_94 rfl ?_
  refine v_if_eq C 103 dX9_rather_96 (by decide) (fun c21 => ?_) (fun c21 => ?_)
  · have hF := ifp hF c21
    refine v_iconst C (0) dX9_rather_103 (by decide) ?_
    refine v_sub [1, 0, 3, 4] (ll' := [(0, _), (2, _), (3, _), (4, _)]) rfl ?_
    exact W_X9_rather_104 C hq h0 hd hF hK
  · have hF := ifn hF c21
    refine v_iconst C (1) dX9_rather_99 (by decide) ?_
    refine v_goto C 104 dX9_rather_100 (by decide) ?_
    refine v_sub [1, 0, 3, 4] (ll' := [(0, _), (2, _), (3, _), (4, _)]) rfl ?_
    exact W_X9_rather_104 C hq h0 hd hF hK
set_option maxRecDepth 20000 in
set_option maxHeartbeats 2000000 in
theorem W_X9_rather_91 {Δ : DD} {Γ : GG} {d : Nat} {q : (Int32 × Mem)} {x0 : Nat} {x1 : Int32} {x2 : Int32} {x3 : Int32} {x4 : Int32} {x5 : Int32}  {σ : Mem} {y : ((Int32 × Int32 × Int32) ⊕ ((Int32 × Int32 × Int32) ⊕ (Int32 × Mem)))} (C : Cx Δ Γ RX9 cX9_rather 6 d (some .int)) (hq : RetQ Δ Γ (some (.int q.1)) q.2) (h0 : isK 9 x0 = true) (hd : 3 ≤ d) (hF : F_X9_rather_91 x0 x1 x2 x3 x4 x5  σ = some y) (hK : (K_X9_rather_32 Δ Γ q x0 x3 σ y)) : V Δ Γ 6 91 [(0, rf Δ (x0)), (1, .int (x1)), (2, .int (x2)), (3, .int (x3)), (4, .int (x4)), (5, .int (x5))] [] σ := by
  unfold F_X9_rather_91 at hF
  refine v_iload_n C 2 2 dX9_rather_91 rfl rfl ?_
  refine v_sub [0, 1, 3, 4, 5] (ll' := [(0, _), (1, _), (3, _), (4, _), (5, _)]) rfl ?_
  exact W_X9_rather_92 C hq h0 hd hF hK
set_option maxRecDepth 20000 in
set_option maxHeartbeats 2000000 in
theorem W_X9_rather_68 {Δ : DD} {Γ : GG} {d : Nat} {q : (Int32 × Mem)} {x0 : Nat} {x1 : Int32} {x2 : Int32} {x3 : Int32} {x4 : Int32} {y0 : Int32} {σ : Mem} {y : ((Int32 × Int32 × Int32) ⊕ ((Int32 × Int32 × Int32) ⊕ (Int32 × Mem)))} (C : Cx Δ Γ RX9 cX9_rather 6 d (some .int)) (hq : RetQ Δ Γ (some (.int q.1)) q.2) (h0 : isK 9 x0 = true) (hd : 3 ≤ d) (hF : F_X9_rather_68 x0 x1 x2 x3 x4 y0 σ = some y) (hK : (K_X9_rather_32 Δ Γ q x0 x3 σ y)) : V Δ Γ 6 68 [(0, rf Δ (x0)), (1, .int (x1)), (2, .int (x2)), (3, .int (x3)), (4, .int (x4))] [.int (y0)] σ := by
  unfold F_X9_rather_68 at hF
  refine v_istore C 5 (ll' := [(5, _), (0, _), (1, _), (2, _), (3, _), (4, _)]) dX9_rather_68 (by decide) rfl ?_
  refine v_iload C 5 0 dX9_rather_70 rfl ?_
  refine v_if_eq C 91 dX9_rather_72 (by decide) (fun c19 => ?_) (fun c19 => ?_)
  · have hF := ifp hF c19
    refine v_sub [1, 2, 3, 4, 5, 0] (ll' := [(0, _), (1, _), (2, _), (3, _), (4, _), (5, _)]) rfl ?_
    exact W_X9_rather_91 C hq h0 hd hF hK
  · have hF := ifn hF c19
    refine v_iload_n C 2 3 dX9_rather_75 rfl rfl ?_
    refine v_bipush C (-9) dX9_rather_76 (by decide) ?_
    refine v_icmp_ne C 91 dX9_rather_78 (by decide) (fun c20 => ?_) (fun c20 => ?_)
    · have hF := ifn hF c20
      refine v_sub [1, 2, 3, 4, 5, 0] (ll' := [(0, _), (1, _), (2, _), (3, _), (4, _), (5, _)]) rfl ?_
      exact W_X9_rather_91 C hq h0 hd hF hK
    · have hF := ifp hF c20
      refine v_bipush C (10) dX9_rather_81 (by decide) ?_
      refine v_iload_n C 3 4 dX9_rather_83 rfl rfl ?_
      refine v_imul C dX9_rather_84 ?_
      refine v_iload C 4 5 dX9_rather_85 rfl ?_
      refine v_iadd C dX9_rather_87 ?_
      refine v_goto C 92 dX9_rather_88 (by decide) ?_
      refine v_sub [1, 2, 4, 5, 0] (ll' := [(0, _), (1, _), (3, _), (4, _), (5, _)]) rfl ?_
      exact W_X9_rather_92 C hq h0 hd hF hK
set_option maxRecDepth 20000 in
set_option maxHeartbeats 2000000 in
theorem W_X9_rather_67 {Δ : DD} {Γ : GG} {d : Nat} {q : (Int32 × Mem)} {x0 : Nat} {x1 : Int32} {x2 : Int32} {x3 : Int32} {x4 : Int32}  {σ : Mem} {y : ((Int32 × Int32 × Int32) ⊕ ((Int32 × Int32 × Int32) ⊕ (Int32 × Mem)))} (C : Cx Δ Γ RX9 cX9_rather 6 d (some .int)) (hq : RetQ Δ Γ (some (.int q.1)) q.2) (h0 : isK 9 x0 = true) (hd : 3 ≤ d) (hF : F_X9_rather_67 x0 x1 x2 x3 x4  σ = some y) (hK : (K_X9_rather_32 Δ Γ q x0 x3 σ y)) : V Δ Γ 6 67 [(0, rf Δ (x0)), (1, .int (x1)), (2, .int (x2)), (3, .int (x3)), (4, .int (x4))] [] σ := by
  unfold F_X9_rather_67 at hF
  refine v_iconst C (0) dX9_rather_67 (by decide) ?_
  exact W_X9_rather_68 C hq h0 hd hF hK
set_option maxRecDepth 20000 in
set_option maxHeartbeats 2000000 in
theorem W_X9_rather_32 {Δ : DD} {Γ : GG} {d : Nat} {q : (Int32 × Mem)} {x0 : Nat} {x3 : Int32} {σ : Mem} (C : Cx Δ Γ RX9 cX9_rather 6 d (some .int)) (hq : RetQ Δ Γ (some (.int q.1)) q.2) (h0 : isK 9 x0 = true) (hd : 3 ≤ d) {s : Int32 × Int32 × Int32} {y : ((Int32 × Int32 × Int32) ⊕ (Int32 × Mem))} (hF : F_X9_rather_32 x0 x3 σ s = some y) (hK : (K_X9_rather_17 Δ Γ q x0 σ y)) : V Δ Γ 6 32 [(0, rf Δ (x0)), (1, .int (s.1)), (2, .int (s.2.1)), (3, .int (x3)), (4, .int (s.2.2))] [] σ := by
  refine lp_V (W := fun (s : Int32 × Int32 × Int32) => V Δ Γ 6 32 [(0, rf Δ (x0)), (1, .int (s.1)), (2, .int (s.2.1)), (3, .int (x3)), (4, .int (s.2.2))] [] σ) (K := fun (t : ((Int32 × Int32 × Int32) ⊕ (Int32 × Mem))) => (K_X9_rather_17 Δ Γ q x0 σ t)) (K' := K_X9_rather_32 Δ Γ q x0 x3 σ) (fun _ h => h) (fun _ h => h) ?_ s y hF hK
  clear hF hK
  intro s z hF hK
  refine v_iload C 4 4 dX9_rather_32 rfl ?_
  refine v_aload_n C 0 0 dX9_rather_34 rfl rfl ?_
  obtain ⟨p9, g8, hF⟩ := bnd hF
  refine v_gR C fu_X9_7 g8 dX9_rather_35 ?_
  refine v_iconst C (0) dX9_rather_38 (by decide) ?_
  obtain ⟨v10, g11, hF⟩ := bnd hF
  refine v_aI C g11 dX9_rather_39 ?_
  refine v_icmp_ge C 112 dX9_rather_40 (by decide) (fun c12 => ?_) (fun c12 => ?_)
  · have hF := ifp hF c12
    refine v_iinc C (_ + (1 : Int32)) 3 (ll' := [(3, _), (0, _), (1, _), (2, _), (4, _)]) dX9_rather_112 rfl (inc_eq (by decide)) (by decide) rfl ?_
    refine v_goto C 17 dX9_rather_115 (by decide) ?_
    refine v_sub [1, 2, 3, 0] (ll' := [(0, _), (1, _), (2, _), (3, _)]) rfl ?_
    cases hF
    exact hK
  · have hF := ifn hF c12
    refine v_aload_n C 0 0 dX9_rather_43 rfl rfl ?_
    refine v_iload_n C 3 3 dX9_rather_44 rfl rfl ?_
    refine v_iload C 4 4 dX9_rather_45 rfl ?_
    obtain ⟨q13, g14, hF⟩ := bnd hF
    refine v_cVi C mw_X9_wantsRight lk_X9_185 _ (M_X9_wantsRight (by omega) h0 g14) h0 rfl rfl (Nat.le_of_ble_eq_true rfl) dX9_rather_47 ?_
    refine v_if_eq C 67 dX9_rather_50 (by decide) (fun c15 => ?_) (fun c15 => ?_)
    · have hF := ifp hF c15
      exact W_X9_rather_67 C hq h0 hd hF hK
    · have hF := ifn hF c15
      refine v_aload_n C 0 0 dX9_rather_53 rfl rfl ?_
      refine v_iload C 4 4 dX9_rather_54 rfl ?_
      refine v_iload_n C 3 3 dX9_rather_56 rfl rfl ?_
      obtain ⟨q16, g17, hF⟩ := bnd hF
      refine v_cVi C mw_X9_wantsRight lk_X9_185 _ (M_X9_wantsRight (by omega) h0 g17) h0 rfl rfl (Nat.le_of_ble_eq_true rfl) dX9_rather_57 ?_
      refine v_if_eq C 67 dX9_rather_60 (by decide) (fun c18 => ?_) (fun c18 => ?_)
      · have hF := ifp hF c18
        exact W_X9_rather_67 C hq h0 hd hF hK
      · have hF := ifn hF c18
        refine v_iconst C (1) dX9_rather_63 (by decide) ?_
        refine v_goto C 68 dX9_rather_64 (by decide) ?_
        exact W_X9_rather_68 C hq h0 hd hF hK
set_option maxRecDepth 20000 in
set_option maxHeartbeats 2000000 in
theorem W_X9_rather_17 {Δ : DD} {Γ : GG} {d : Nat} {q : (Int32 × Mem)} {x0 : Nat} {σ : Mem} (C : Cx Δ Γ RX9 cX9_rather 6 d (some .int)) (hq : RetQ Δ Γ (some (.int q.1)) q.2) (h0 : isK 9 x0 = true) (hd : 3 ≤ d) {s : Int32 × Int32 × Int32} (hF : F_X9_rather_17 x0 σ s = some q) : V Δ Γ 6 17 [(0, rf Δ (x0)), (1, .int (s.1)), (2, .int (s.2.1)), (3, .int (s.2.2))] [] σ := by
  have hF : F_X9_rather_17 x0 σ s = some q := hF
  refine lp_V (W := fun (s : Int32 × Int32 × Int32) => V Δ Γ 6 17 [(0, rf Δ (x0)), (1, .int (s.1)), (2, .int (s.2.1)), (3, .int (s.2.2))] [] σ) (K := fun t => t = q) (K' := K_X9_rather_17 Δ Γ q x0 σ) (fun _ h => h) (fun _ h => h) ?_ s q hF rfl
  clear hF
  intro s z hF hK
  refine v_iload_n C 3 3 dX9_rather_17 rfl rfl ?_
  refine v_aload_n C 0 0 dX9_rather_18 rfl rfl ?_
  obtain ⟨p2, g1, hF⟩ := bnd hF
  refine v_gR C fu_X9_7 g1 dX9_rather_19 ?_
  refine v_iconst C (0) dX9_rather_22 (by decide) ?_
  obtain ⟨v3, g4, hF⟩ := bnd hF
  refine v_aI C g4 dX9_rather_23 ?_
  refine v_icmp_ge C 118 dX9_rather_24 (by decide) (fun c5 => ?_) (fun c5 => ?_)
  · have hF := ifp hF c5
    refine v_aload_n C 0 0 dX9_rather_118 rfl rfl ?_
    refine v_iload_n C 2 2 dX9_rather_119 rfl rfl ?_
    refine v_iload_n C 1 1 dX9_rather_120 rfl rfl ?_
    obtain ⟨q6, g7, hF⟩ := bnd hF
    refine v_cVi C mw_X9_tells lk_X9_75 _ (M_X9_tells (by omega) h0 g7) h0 rfl rfl (Nat.le_of_ble_eq_true rfl) dX9_rather_121 ?_
    cases hF
    exact v_iretF C hq hK dX9_rather_124
  · have hF := ifn hF c5
    refine v_iload_n C 3 3 dX9_rather_27 rfl rfl ?_
    refine v_iconst C (1) dX9_rather_28 (by decide) ?_
    refine v_iadd C dX9_rather_29 ?_
    refine v_istore C 4 (ll' := [(4, _), (0, _), (1, _), (2, _), (3, _)]) dX9_rather_30 (by decide) rfl ?_
    refine v_sub [1, 2, 3, 4, 0] (ll' := [(0, _), (1, _), (2, _), (3, _), (4, _)]) rfl ?_
    exact W_X9_rather_32 C hq h0 hd hF hK
set_option maxRecDepth 20000 in
set_option maxHeartbeats 2000000 in
theorem M_X9_rather {Δ : DD} {d : Nat} {x0 : Nat} {σ : Mem} {q : (Int32 × Mem)} (hd : 4 ≤ d) (h0 : isK 9 x0 = true) (hF : F_X9_rather x0 σ = some q) : Mt Δ d yX9_rather cX9_rather 6 (some .int) [rf Δ x0] σ (some (.int q.1)) q.2 := by
  obtain ⟨d, rfl⟩ : ∃ e, d = e + 1 := ⟨d - 1, by omega⟩
  have hd : 3 ≤ d := by omega
  refine mt_of (by decide) rfl (Nat.le_of_ble_eq_true rfl) (fun Γ C hq => ?_)
  unfold F_X9_rather at hF
  show V Δ Γ 6 0 [(0, rf Δ (x0))] [] σ
  refine v_aload_n C 0 0 dX9_rather_0 rfl rfl ?_
  obtain ⟨q22, g23, hF⟩ := bnd hF
  refine v_cVi C mw_X9_isTown lk_X9_153 _ (M_X9_isTown (by omega) h0 g23) h0 rfl rfl (Nat.le_of_ble_eq_true rfl) dX9_rather_1 ?_
  refine v_if_ne C 10 dX9_rather_4 (by decide) (fun c24 => ?_) (fun c24 => ?_)
  · have hF := ifn hF c24
    refine v_iconst C (0) dX9_rather_10 (by decide) ?_
    refine v_istore_n C 1 (ll' := [(1, _), (0, _)]) dX9_rather_11 rfl (by decide) rfl ?_
    refine v_bipush C (-9) dX9_rather_12 (by decide) ?_
    refine v_istore_n C 2 (ll' := [(2, _), (1, _), (0, _)]) dX9_rather_14 rfl (by decide) rfl ?_
    refine v_iconst C (0) dX9_rather_15 (by decide) ?_
    refine v_istore_n C 3 (ll' := [(3, _), (2, _), (1, _), (0, _)]) dX9_rather_16 rfl (by decide) rfl ?_
    refine v_sub [3, 2, 1, 0] (ll' := [(0, _), (1, _), (2, _), (3, _)]) rfl ?_
    exact W_X9_rather_17 C hq h0 hd hF
  · have hF := ifp hF c24
    refine v_bipush C (-4) dX9_rather_7 (by decide) ?_
    exact v_iretF C hq (Option.some.inj hF) dX9_rather_9
def K_X9_against_34 (Δ : DD) (Γ : GG) (q : (Int32 × Mem)) (x0 : Nat) (x1 : Int32) (σ : Mem) (y : (Int32) ⊕ (Int32 × Mem)) : Prop := match y with
  | .inl s => V Δ Γ 3 34 [(0, rf Δ (x0)), (1, .int (x1)), (2, .int (s))] [] σ
  | .inr t => (t = q)
set_option maxRecDepth 20000 in
set_option maxHeartbeats 2000000 in
theorem W_X9_against_90 {Δ : DD} {Γ : GG} {d : Nat} {q : (Int32 × Mem)} {x0 : Nat}  {σ : Mem} (C : Cx Δ Γ RX9 cX9_against 3 d (some .int)) (hq : RetQ Δ Γ (some (.int q.1)) q.2) (h0 : isK 9 x0 = true) (hd : 1 ≤ d) (hF : F_X9_against_90 x0  σ = some q) : V Δ Γ 3 90 [(0, rf Δ (x0))] [] σ := by
  unfold F_X9_against_90 at hF
  refine v_aload_n C 0 0 dX9_against_90 rfl rfl ?_
  refine v_iconst C (3) dX9_against_91 (by decide) ?_
  obtain ⟨q20, g21, hF⟩ := bnd hF
  refine v_cVi C mw_X9_found lk_X9_63 _ (M_X9_found (by omega) h0 g21) h0 rfl rfl (Nat.le_of_ble_eq_true rfl) dX9_against_92 ?_
  exact v_iretF C hq (Option.some.inj hF) dX9_against_95
set_option maxRecDepth 20000 in
set_option maxHeartbeats 2000000 in
theorem W_X9_against_34 {Δ : DD} {Γ : GG} {d : Nat} {q : (Int32 × Mem)} {x0 : Nat} {x1 : Int32} {σ : Mem} (C : Cx Δ Γ RX9 cX9_against 3 d (some .int)) (hq : RetQ Δ Γ (some (.int q.1)) q.2) (h0 : isK 9 x0 = true) (hd : 1 ≤ d) {s : Int32} (hF : F_X9_against_34 x0 x1 σ s = some q) : V Δ Γ 3 34 [(0, rf Δ (x0)), (1, .int (x1)), (2, .int (s))] [] σ := by
  have hF : F_X9_against_34 x0 x1 σ s = some q := hF
  refine lp_V (W := fun (s : Int32) => V Δ Γ 3 34 [(0, rf Δ (x0)), (1, .int (x1)), (2, .int (s))] [] σ) (K := fun t => t = q) (K' := K_X9_against_34 Δ Γ q x0 x1 σ) (fun _ h => h) (fun _ h => h) ?_ s q hF rfl
  clear hF
  intro s z hF hK
  refine v_iload_n C 2 2 dX9_against_34 rfl rfl ?_
  refine v_aload_n C 0 0 dX9_against_35 rfl rfl ?_
  obtain ⟨p2, g1, hF⟩ := bnd hF
  refine v_gR C fu_X9_19 g1 dX9_against_36 ?_
  refine v_iload_n C 1 1 dX9_against_39 rfl rfl ?_
  obtain ⟨v3, g4, hF⟩ := bnd hF
  refine v_aI C g4 dX9_against_40 ?_
  refine v_icmp_ge C 102 dX9_against_41 (by decide) (fun c5 => ?_) (fun c5 => ?_)
  · have hF := ifp hF c5
    refine v_iconst C (0) dX9_against_102 (by decide) ?_
    cases hF
    exact v_iretF C hq hK dX9_against_103
  · have hF := ifn hF c5
    refine v_aload_n C 0 0 dX9_against_44 rfl rfl ?_
    obtain ⟨p7, g6, hF⟩ := bnd hF
    refine v_gR C fu_X9_16 g6 dX9_against_45 ?_
    refine v_bipush C (40) dX9_against_48 (by decide) ?_
    refine v_iload_n C 1 1 dX9_against_50 rfl rfl ?_
    refine v_imul C dX9_against_51 ?_
    refine v_iload_n C 2 2 dX9_against_52 rfl rfl ?_
    refine v_iadd C dX9_against_53 ?_
    obtain ⟨v8, g9, hF⟩ := bnd hF
    refine v_aI C g9 dX9_against_54 ?_
    refine v_i2l C dX9_against_55 ?_
    refine v_lconst C 0 dX9_against_56 (by decide) ?_
    refine v_ldc2 C (99) kl_X9_151 dX9_against_57 ?_
    obtain ⟨q10, g11, hF⟩ := bnd hF
    refine v_cSi C mw_X9_in lk_X9_53 _ (M_X9_in (by omega) g11) rfl rfl (Nat.le_of_ble_eq_true rfl) dX9_against_60 ?_
    refine v_if_eq C 90 dX9_against_63 (by decide) (fun c12 => ?_) (fun c12 => ?_)
    · have hF := ifp hF c12
      refine v_sub [0] (ll' := [(0, _)]) rfl ?_
      obtain ⟨z, hz, e⟩ := mapd hF
      subst e
      exact W_X9_against_90 C hq h0 hd (hz.trans (congrArg some hK))
    · have hF := ifn hF c12
      refine v_aload_n C 0 0 dX9_against_66 rfl rfl ?_
      obtain ⟨p14, g13, hF⟩ := bnd hF
      refine v_gR C fu_X9_16 g13 dX9_against_67 ?_
      refine v_bipush C (40) dX9_against_70 (by decide) ?_
      refine v_iload_n C 1 1 dX9_against_72 rfl rfl ?_
      refine v_imul C dX9_against_73 ?_
      refine v_iload_n C 2 2 dX9_against_74 rfl rfl ?_
      refine v_iadd C dX9_against_75 ?_
      refine v_iconst C (1) dX9_against_76 (by decide) ?_
      refine v_iadd C dX9_against_77 ?_
      obtain ⟨v15, g16, hF⟩ := bnd hF
      refine v_aI C g16 dX9_against_78 ?_
      refine v_i2l C dX9_against_79 ?_
      refine v_lconst C 0 dX9_against_80 (by decide) ?_
      refine v_ldc2 C (30) kl_X9_188 dX9_against_81 ?_
      obtain ⟨q17, g18, hF⟩ := bnd hF
      refine v_cSi C mw_X9_in lk_X9_53 _ (M_X9_in (by omega) g18) rfl rfl (Nat.le_of_ble_eq_true rfl) dX9_against_84 ?_
      refine v_if_ne C 96 dX9_against_87 (by decide) (fun c19 => ?_) (fun c19 => ?_)
      · have hF := ifn hF c19
        refine v_iinc C (_ + (2 : Int32)) 2 (ll' := [(2, _), (0, _), (1, _)]) dX9_against_96 rfl (inc_eq (by decide)) (by decide) rfl ?_
        refine v_goto C 34 dX9_against_99 (by decide) ?_
        refine v_sub [1, 2, 0] (ll' := [(0, _), (1, _), (2, _)]) rfl ?_
        cases hF
        exact hK
      · have hF := ifp hF c19
        refine v_sub [0] (ll' := [(0, _)]) rfl ?_
        obtain ⟨z, hz, e⟩ := mapd hF
        subst e
        exact W_X9_against_90 C hq h0 hd (hz.trans (congrArg some hK))
set_option maxRecDepth 20000 in
set_option maxHeartbeats 2000000 in
theorem M_X9_against {Δ : DD} {d : Nat} {x0 : Nat} {x1 : Int32} {σ : Mem} {q : (Int32 × Mem)} (hd : 2 ≤ d) (h0 : isK 9 x0 = true) (hF : F_X9_against x0 x1 σ = some q) : Mt Δ d yX9_against cX9_against 3 (some .int) [rf Δ x0, .int x1] σ (some (.int q.1)) q.2 := by
  obtain ⟨d, rfl⟩ : ∃ e, d = e + 1 := ⟨d - 1, by omega⟩
  have hd : 1 ≤ d := by omega
  refine mt_of (by decide) rfl (Nat.le_of_ble_eq_true rfl) (fun Γ C hq => ?_)
  unfold F_X9_against at hF
  show V Δ Γ 3 0 [(0, rf Δ (x0)), (1, .int (x1))] [] σ
  refine v_aload_n C 0 0 dX9_against_0 rfl rfl ?_
  obtain ⟨p23, g22, hF⟩ := bnd hF
  refine v_gR C fu_X9_19 g22 dX9_against_1 ?_
  refine v_iload_n C 1 1 dX9_against_4 rfl rfl ?_
  obtain ⟨v24, g25, hF⟩ := bnd hF
  refine v_aI C g25 dX9_against_5 ?_
  refine v_if_ge C 15 dX9_against_6 (by decide) (fun c26 => ?_) (fun c26 => ?_)
  · have hF := ifp hF c26
    refine v_aload_n C 0 0 dX9_against_15 rfl rfl ?_
    obtain ⟨p28, g27, hF⟩ := bnd hF
    refine v_gR C fu_X9_19 g27 dX9_against_16 ?_
    refine v_iload_n C 1 1 dX9_against_19 rfl rfl ?_
    obtain ⟨v29, g30, hF⟩ := bnd hF
    refine v_aI C g30 dX9_against_20 ?_
    refine v_iconst C (2) dX9_against_21 (by decide) ?_
    refine v_irem C dX9_against_22 (by decide) ?_
    refine v_if_eq C 32 dX9_against_23 (by decide) (fun c31 => ?_) (fun c31 => ?_)
    · have hF := ifp hF c31
      refine v_iconst C (0) dX9_against_32 (by decide) ?_
      refine v_istore_n C 2 (ll' := [(2, _), (0, _), (1, _)]) dX9_against_33 rfl (by decide) rfl ?_
      refine v_sub [1, 2, 0] (ll' := [(0, _), (1, _), (2, _)]) rfl ?_
      exact W_X9_against_34 C hq h0 hd hF
    · have hF := ifn hF c31
      refine v_aload_n C 0 0 dX9_against_26 rfl rfl ?_
      refine v_iconst C (5) dX9_against_27 (by decide) ?_
      obtain ⟨q32, g33, hF⟩ := bnd hF
      refine v_cVi C mw_X9_found lk_X9_63 _ (M_X9_found (by omega) h0 g33) h0 rfl rfl (Nat.le_of_ble_eq_true rfl) dX9_against_28 ?_
      exact v_iretF C hq (Option.some.inj hF) dX9_against_31
  · have hF := ifn hF c26
    refine v_aload_n C 0 0 dX9_against_9 rfl rfl ?_
    refine v_iconst C (1) dX9_against_10 (by decide) ?_
    obtain ⟨q34, g35, hF⟩ := bnd hF
    refine v_cVi C mw_X9_found lk_X9_63 _ (M_X9_found (by omega) h0 g35) h0 rfl rfl (Nat.le_of_ble_eq_true rfl) dX9_against_11 ?_
    exact v_iretF C hq (Option.some.inj hF) dX9_against_14
def K_X9_crossedSo_6 (Δ : DD) (Γ : GG) (q : Int32) (x0 : Nat) (x1 : Int32) (x2 : Int32) (x3 : Int32) (x4 : Int32) (σ : Mem) (y : (Int32 × Int32) ⊕ Int32) : Prop := match y with
  | .inl s => V Δ Γ 7 6 [(0, rf Δ (x0)), (1, .int (x1)), (2, .int (x2)), (3, .int (x3)), (4, .int (x4)), (5, .int (s.1)), (6, .int (s.2))] [] σ
  | .inr t => (t = q)
set_option maxRecDepth 20000 in
set_option maxHeartbeats 2000000 in
theorem W_X9_crossedSo_68 {Δ : DD} {Γ : GG} {d : Nat} {q : Int32} {x0 : Nat} {x1 : Int32} {x2 : Int32} {x3 : Int32} {x4 : Int32} {x6 : Int32}  {σ : Mem} {y : ((Int32 × Int32) ⊕ Int32)} (C : Cx Δ Γ RX9 cX9_crossedSo 7 d (some .boolean)) (hq : RetQ Δ Γ (some (.int q)) σ) (h0 : isK 9 x0 = true) (hd : 2 ≤ d) (hF : F_X9_crossedSo_68 x0 x1 x2 x3 x4 x6  σ = some y) (hK : (K_X9_crossedSo_6 Δ Γ q x0 x1 x2 x3 x4 σ y)) : V Δ Γ 7 68 [(0, rf Δ (x0)), (1, .int (x1)), (2, .int (x2)), (3, .int (x3)), (4, .int (x4)), (6, .int (x6))] [] σ := by
  unfold F_X9_crossedSo_68 at hF
  refine v_iconst C (0) dX9_crossedSo_68 (by decide) ?_
  refine v_istore C 5 (ll' := [(5, _), (0, _), (1, _), (2, _), (3, _), (4, _), (6, _)]) dX9_crossedSo_69 (by decide) rfl ?_
  refine v_iinc C (_ + (2 : Int32)) 6 (ll' := [(6, _), (5, _), (0, _), (1, _), (2, _), (3, _), (4, _)]) dX9_crossedSo_71 rfl (inc_eq (by decide)) (by decide) rfl ?_
  refine v_goto C 6 dX9_crossedSo_74 (by decide) ?_
  refine v_sub [2, 3, 4, 5, 6, 1, 0] (ll' := [(0, _), (1, _), (2, _), (3, _), (4, _), (5, _), (6, _)]) rfl ?_
  cases hF
  exact hK
set_option maxRecDepth 20000 in
set_option maxHeartbeats 2000000 in
theorem W_X9_crossedSo_6 {Δ : DD} {Γ : GG} {d : Nat} {q : Int32} {x0 : Nat} {x1 : Int32} {x2 : Int32} {x3 : Int32} {x4 : Int32} {σ : Mem} (C : Cx Δ Γ RX9 cX9_crossedSo 7 d (some .boolean)) (hq : RetQ Δ Γ (some (.int q)) σ) (h0 : isK 9 x0 = true) (hd : 2 ≤ d) {s : Int32 × Int32} (hF : F_X9_crossedSo_6 x0 x1 x2 x3 x4 σ s = some q) : V Δ Γ 7 6 [(0, rf Δ (x0)), (1, .int (x1)), (2, .int (x2)), (3, .int (x3)), (4, .int (x4)), (5, .int (s.1)), (6, .int (s.2))] [] σ := by
  have hF : F_X9_crossedSo_6 x0 x1 x2 x3 x4 σ s = some q := hF
  refine lp_V (W := fun (s : Int32 × Int32) => V Δ Γ 7 6 [(0, rf Δ (x0)), (1, .int (x1)), (2, .int (x2)), (3, .int (x3)), (4, .int (x4)), (5, .int (s.1)), (6, .int (s.2))] [] σ) (K := fun t => t = q) (K' := K_X9_crossedSo_6 Δ Γ q x0 x1 x2 x3 x4 σ) (fun _ h => h) (fun _ h => h) ?_ s q hF rfl
  clear hF
  intro s z hF hK
  refine v_iload C 6 6 dX9_crossedSo_6 rfl ?_
  refine v_aload_n C 0 0 dX9_crossedSo_8 rfl rfl ?_
  obtain ⟨p2, g1, hF⟩ := bnd hF
  refine v_gR C fu_X9_19 g1 dX9_crossedSo_9 ?_
  refine v_iload_n C 1 1 dX9_crossedSo_12 rfl rfl ?_
  obtain ⟨v3, g4, hF⟩ := bnd hF
  refine v_aI C g4 dX9_crossedSo_13 ?_
  refine v_icmp_ge C 77 dX9_crossedSo_14 (by decide) (fun c5 => ?_) (fun c5 => ?_)
  · have hF := ifp hF c5
    refine v_iload C 5 5 dX9_crossedSo_77 rfl ?_
    obtain ⟨_, g6, hF⟩ := bnd hF
    cases hF
    exact v_zretP C hq hK (bz_nr g6) dX9_crossedSo_79
  · have hF := ifn hF c5
    refine v_iload C 5 5 dX9_crossedSo_17 rfl ?_
    refine v_if_eq C 68 dX9_crossedSo_19 (by decide) (fun c7 => ?_) (fun c7 => ?_)
    · have hF := ifp hF c7
      refine v_sub [0, 1, 2, 3, 4, 6] (ll' := [(0, _), (1, _), (2, _), (3, _), (4, _), (6, _)]) rfl ?_
      exact W_X9_crossedSo_68 C hq h0 hd hF hK
    · have hF := ifn hF c7
      refine v_aload_n C 0 0 dX9_crossedSo_22 rfl rfl ?_
      refine v_iload_n C 3 3 dX9_crossedSo_23 rfl rfl ?_
      refine v_iload C 4 4 dX9_crossedSo_24 rfl ?_
      refine v_aload_n C 0 0 dX9_crossedSo_26 rfl rfl ?_
      refine v_iconst C (0) dX9_crossedSo_27 (by decide) ?_
      refine v_iload_n C 2 2 dX9_crossedSo_28 rfl rfl ?_
      obtain ⟨q8, g9, hF⟩ := bnd hF
      refine v_cVi C mw_X9_gapIn lk_X9_126 _ (M_X9_gapIn (by omega) h0 g9) h0 rfl rfl (Nat.le_of_ble_eq_true rfl) dX9_crossedSo_29 ?_
      refine v_aload_n C 0 0 dX9_crossedSo_32 rfl rfl ?_
      obtain ⟨p11, g10, hF⟩ := bnd hF
      refine v_gR C fu_X9_16 g10 dX9_crossedSo_33 ?_
      refine v_bipush C (40) dX9_crossedSo_36 (by decide) ?_
      refine v_iload_n C 1 1 dX9_crossedSo_38 rfl rfl ?_
      refine v_imul C dX9_crossedSo_39 ?_
      refine v_iload C 6 6 dX9_crossedSo_40 rfl ?_
      refine v_iadd C dX9_crossedSo_42 ?_
      obtain ⟨v12, g13, hF⟩ := bnd hF
      refine v_aI C g13 dX9_crossedSo_43 ?_
      obtain ⟨q14, g15, hF⟩ := bnd hF
      refine v_cVi C mw_X9_crossBy lk_X9_129 _ (M_X9_crossBy (by omega) h0 g15) h0 rfl rfl (Nat.le_of_ble_eq_true rfl) dX9_crossedSo_44 ?_
      refine v_aload_n C 0 0 dX9_crossedSo_47 rfl rfl ?_
      obtain ⟨p17, g16, hF⟩ := bnd hF
      refine v_gR C fu_X9_16 g16 dX9_crossedSo_48 ?_
      refine v_bipush C (40) dX9_crossedSo_51 (by decide) ?_
      refine v_iload_n C 1 1 dX9_crossedSo_53 rfl rfl ?_
      refine v_imul C dX9_crossedSo_54 ?_
      refine v_iload C 6 6 dX9_crossedSo_55 rfl ?_
      refine v_iadd C dX9_crossedSo_57 ?_
      refine v_iconst C (1) dX9_crossedSo_58 (by decide) ?_
      refine v_iadd C dX9_crossedSo_59 ?_
      obtain ⟨v18, g19, hF⟩ := bnd hF
      refine v_aI C g19 dX9_crossedSo_60 ?_
      refine v_icmp_ne C 68 dX9_crossedSo_61 (by decide) (fun c20 => ?_) (fun c20 => ?_)
      · have hF := ifn hF c20
        refine v_sub [0, 1, 2, 3, 4, 6] (ll' := [(0, _), (1, _), (2, _), (3, _), (4, _), (6, _)]) rfl ?_
        exact W_X9_crossedSo_68 C hq h0 hd hF hK
      · have hF := ifp hF c20
        refine v_iconst C (1) dX9_crossedSo_64 (by decide) ?_
        refine v_goto C 69 dX9_crossedSo_65 (by decide) ?_
        refine v_istore C 5 (ll' := [(5, _), (0, _), (1, _), (2, _), (3, _), (4, _), (6, _)]) dX9_crossedSo_69 (by decide) rfl ?_
        refine v_iinc C (_ + (2 : Int32)) 6 (ll' := [(6, _), (5, _), (0, _), (1, _), (2, _), (3, _), (4, _)]) dX9_crossedSo_71 rfl (inc_eq (by decide)) (by decide) rfl ?_
        refine v_goto C 6 dX9_crossedSo_74 (by decide) ?_
        refine v_sub [2, 3, 4, 5, 6, 1, 0] (ll' := [(0, _), (1, _), (2, _), (3, _), (4, _), (5, _), (6, _)]) rfl ?_
        cases hF
        exact hK
set_option maxRecDepth 20000 in
set_option maxHeartbeats 2000000 in
theorem M_X9_crossedSo {Δ : DD} {d : Nat} {x0 : Nat} {x1 : Int32} {x2 : Int32} {x3 : Int32} {x4 : Int32} {σ : Mem} {q : Int32} (hd : 3 ≤ d) (h0 : isK 9 x0 = true) (hF : F_X9_crossedSo x0 x1 x2 x3 x4 σ = some q) : Mt Δ d yX9_crossedSo cX9_crossedSo 7 (some .boolean) [rf Δ x0, .int x1, .int x2, .int x3, .int x4] σ (some (.int q)) σ := by
  obtain ⟨d, rfl⟩ : ∃ e, d = e + 1 := ⟨d - 1, by omega⟩
  have hd : 2 ≤ d := by omega
  refine mt_of (by decide) rfl (Nat.le_of_ble_eq_true rfl) (fun Γ C hq => ?_)
  unfold F_X9_crossedSo at hF
  show V Δ Γ 7 0 [(0, rf Δ (x0)), (1, .int (x1)), (2, .int (x2)), (3, .int (x3)), (4, .int (x4))] [] σ
  refine v_iconst C (1) dX9_crossedSo_0 (by decide) ?_
  refine v_istore C 5 (ll' := [(5, _), (0, _), (1, _), (2, _), (3, _), (4, _)]) dX9_crossedSo_1 (by decide) rfl ?_
  refine v_iconst C (0) dX9_crossedSo_3 (by decide) ?_
  refine v_istore C 6 (ll' := [(6, _), (5, _), (0, _), (1, _), (2, _), (3, _), (4, _)]) dX9_crossedSo_4 (by decide) rfl ?_
  refine v_sub [2, 3, 4, 5, 6, 1, 0] (ll' := [(0, _), (1, _), (2, _), (3, _), (4, _), (5, _), (6, _)]) rfl ?_
  exact W_X9_crossedSo_6 C hq h0 hd hF
def K_X9_thicks_35 (Δ : DD) (Γ : GG) (q : (Int32 × Mem)) (x0 : Nat) (x1 : Int32) (x2 : Int32) (σ : Mem) (y : (Int32 × Int32) ⊕ (Int32 × Mem)) : Prop := match y with
  | .inl s => V Δ Γ 6 35 [(0, rf Δ (x0)), (1, .int (x1)), (2, .int (x2)), (4, .int (s.1)), (5, .int (s.2))] [] σ
  | .inr t => (t = q)
set_option maxRecDepth 20000 in
set_option maxHeartbeats 2000000 in
theorem W_X9_thicks_71 {Δ : DD} {Γ : GG} {d : Nat} {q : (Int32 × Mem)} {x0 : Nat} {x1 : Int32} {x2 : Int32} {x5 : Int32} {y0 : Int32} {y1 : Int32} {σ : Mem} {y : ((Int32 × Int32) ⊕ (Int32 × Mem))} (C : Cx Δ Γ RX9 cX9_thicks 6 d (some .int)) (hq : RetQ Δ Γ (some (.int q.1)) q.2) (h0 : isK 9 x0 = true) (hd : 3 ≤ d) (hF : F_X9_thicks_71 x0 x1 x2 x5 y0 y1 σ = some y) (hK : (K_X9_thicks_35 Δ Γ q x0 x1 x2 σ y)) : V Δ Γ 6 71 [(0, rf Δ (x0)), (1, .int (x1)), (2, .int (x2)), (5, .int (x5))] [.int (y0), .int (y1)] σ := by
  unfold F_X9_thicks_71 at hF
  refine v_ior C dX9_thicks_71 ?_
  refine v_istore C 4 (ll' := [(4, _), (0, _), (1, _), (2, _), (5, _)]) dX9_thicks_72 (by decide) rfl ?_
  refine v_iinc C (_ + (1 : Int32)) 4 (ll' := [(5, _), (4, _), (0, _), (1, _), (2, _)]) dX9_thicks_74 rfl (inc_eq (by decide)) (by decide) rfl ?_
  refine v_goto C 35 dX9_thicks_77 (by decide) ?_
  refine v_sub [2, 3, 4, 1, 0] (ll' := [(0, _), (1, _), (2, _), (4, _), (5, _)]) rfl ?_
  cases hF
  exact hK
set_option maxRecDepth 20000 in
set_option maxHeartbeats 2000000 in
theorem W_X9_thicks_35 {Δ : DD} {Γ : GG} {d : Nat} {q : (Int32 × Mem)} {x0 : Nat} {x1 : Int32} {x2 : Int32} {σ : Mem} (C : Cx Δ Γ RX9 cX9_thicks 6 d (some .int)) (hq : RetQ Δ Γ (some (.int q.1)) q.2) (h0 : isK 9 x0 = true) (hd : 3 ≤ d) {s : Int32 × Int32} (hF : F_X9_thicks_35 x0 x1 x2 σ s = some q) : V Δ Γ 6 35 [(0, rf Δ (x0)), (1, .int (x1)), (2, .int (x2)), (4, .int (s.1)), (5, .int (s.2))] [] σ := by
  have hF : F_X9_thicks_35 x0 x1 x2 σ s = some q := hF
  refine lp_V (W := fun (s : Int32 × Int32) => V Δ Γ 6 35 [(0, rf Δ (x0)), (1, .int (x1)), (2, .int (x2)), (4, .int (s.1)), (5, .int (s.2))] [] σ) (K := fun t => t = q) (K' := K_X9_thicks_35 Δ Γ q x0 x1 x2 σ) (fun _ h => h) (fun _ h => h) ?_ s q hF rfl
  clear hF
  intro s z hF hK
  refine v_iload C 5 4 dX9_thicks_35 rfl ?_
  refine v_bipush C (10) dX9_thicks_37 (by decide) ?_
  refine v_icmp_ge C 80 dX9_thicks_39 (by decide) (fun c1 => ?_) (fun c1 => ?_)
  · have hF := ifp hF c1
    refine v_iload C 4 3 dX9_thicks_80 rfl ?_
    cases hF
    exact v_iretF C hq hK dX9_thicks_82
  · have hF := ifn hF c1
    refine v_iload C 4 3 dX9_thicks_42 rfl ?_
    refine v_aload_n C 0 0 dX9_thicks_44 rfl rfl ?_
    refine v_iload_n C 2 2 dX9_thicks_45 rfl rfl ?_
    refine v_iload_n C 1 1 dX9_thicks_46 rfl rfl ?_
    refine v_aload_n C 0 0 dX9_thicks_47 rfl rfl ?_
    obtain ⟨p3, g2, hF⟩ := bnd hF
    refine v_gR C fu_X9_7 g2 dX9_thicks_48 ?_
    refine v_iconst C (3) dX9_thicks_51 (by decide) ?_
    refine v_iload_n C 1 1 dX9_thicks_52 rfl rfl ?_
    refine v_iadd C dX9_thicks_53 ?_
    obtain ⟨v4, g5, hF⟩ := bnd hF
    refine v_aI C g5 dX9_thicks_54 ?_
    refine v_iload C 5 4 dX9_thicks_55 rfl ?_
    obtain ⟨q6, g7, hF⟩ := bnd hF
    refine v_cVi C mw_X9_crossedSo lk_X9_193 _ (M_X9_crossedSo (by omega) h0 g7) h0 rfl rfl (Nat.le_of_ble_eq_true rfl) dX9_thicks_57 ?_
    refine v_if_eq C 70 dX9_thicks_60 (by decide) (fun c8 => ?_) (fun c8 => ?_)
    · have hF := ifp hF c8
      refine v_iconst C (0) dX9_thicks_70 (by decide) ?_
      refine v_sub [0, 1, 2, 4] (ll' := [(0, _), (1, _), (2, _), (5, _)]) rfl ?_
      exact W_X9_thicks_71 C hq h0 hd hF hK
    · have hF := ifn hF c8
      refine v_iconst C (1) dX9_thicks_63 (by decide) ?_
      refine v_iload C 5 4 dX9_thicks_64 rfl ?_
      refine v_ishl C dX9_thicks_66 ?_
      refine v_goto C 71 dX9_thicks_67 (by decide) ?_
      refine v_sub [0, 1, 2, 4] (ll' := [(0, _), (1, _), (2, _), (5, _)]) rfl ?_
      exact W_X9_thicks_71 C hq h0 hd hF hK
set_option maxRecDepth 20000 in
set_option maxHeartbeats 2000000 in
theorem M_X9_thicks {Δ : DD} {d : Nat} {x0 : Nat} {x1 : Int32} {x2 : Int32} {σ : Mem} {q : (Int32 × Mem)} (hd : 4 ≤ d) (h0 : isK 9 x0 = true) (hF : F_X9_thicks x0 x1 x2 σ = some q) : Mt Δ d yX9_thicks cX9_thicks 6 (some .int) [rf Δ x0, .int x1, .int x2] σ (some (.int q.1)) q.2 := by
  obtain ⟨d, rfl⟩ : ∃ e, d = e + 1 := ⟨d - 1, by omega⟩
  have hd : 3 ≤ d := by omega
  refine mt_of (by decide) rfl (Nat.le_of_ble_eq_true rfl) (fun Γ C hq => ?_)
  unfold F_X9_thicks at hF
  show V Δ Γ 6 0 [(0, rf Δ (x0)), (1, .int (x1)), (2, .int (x2))] [] σ
  refine v_aload_n C 0 0 dX9_thicks_0 rfl rfl ?_
  refine v_iload_n C 1 1 dX9_thicks_1 rfl rfl ?_
  obtain ⟨q9, g10, hF⟩ := bnd hF
  refine v_cVi C mw_X9_isBed lk_X9_140 _ (M_X9_isBed (by omega) h0 g10) h0 rfl rfl (Nat.le_of_ble_eq_true rfl) dX9_thicks_2 ?_
  refine v_if_eq C 15 dX9_thicks_5 (by decide) (fun c11 => ?_) (fun c11 => ?_)
  · have hF := ifp hF c11
    refine v_iconst C (-1) dX9_thicks_15 (by decide) ?_
    exact v_iretF C hq (Option.some.inj hF) dX9_thicks_16
  · have hF := ifn hF c11
    refine v_iload_n C 2 2 dX9_thicks_8 rfl rfl ?_
    obtain ⟨q12, g13, hF⟩ := bnd hF
    refine v_cSi C mw_X9_isRow lk_X9_59 _ (M_X9_isRow (by omega) g13) rfl rfl (Nat.le_of_ble_eq_true rfl) dX9_thicks_9 ?_
    refine v_if_ne C 17 dX9_thicks_12 (by decide) (fun c14 => ?_) (fun c14 => ?_)
    · have hF := ifn hF c14
      refine v_aload_n C 0 0 dX9_thicks_17 rfl rfl ?_
      refine v_iload_n C 2 2 dX9_thicks_18 rfl rfl ?_
      obtain ⟨q15, g16, hF⟩ := bnd hF
      refine v_cVi C mw_X9_against lk_X9_190 _ (M_X9_against (by omega) h0 g16) h0 rfl rfl (Nat.le_of_ble_eq_true rfl) dX9_thicks_19 ?_
      refine v_istore_n C 3 (ll' := [(3, _), (0, _), (1, _), (2, _)]) dX9_thicks_22 rfl (by decide) rfl ?_
      refine v_iload_n C 3 0 dX9_thicks_23 rfl rfl ?_
      refine v_if_ge C 29 dX9_thicks_24 (by decide) (fun c17 => ?_) (fun c17 => ?_)
      · have hF := ifp hF c17
        refine v_iconst C (0) dX9_thicks_29 (by decide) ?_
        refine v_istore C 4 (ll' := [(4, _), (3, _), (0, _), (1, _), (2, _)]) dX9_thicks_30 (by decide) rfl ?_
        refine v_iconst C (0) dX9_thicks_32 (by decide) ?_
        refine v_istore C 5 (ll' := [(5, _), (4, _), (3, _), (0, _), (1, _), (2, _)]) dX9_thicks_33 (by decide) rfl ?_
        refine v_sub [3, 4, 5, 1, 0] (ll' := [(0, _), (1, _), (2, _), (4, _), (5, _)]) rfl ?_
        exact W_X9_thicks_35 C hq h0 hd hF
      · have hF := ifn hF c17
        refine v_iload_n C 3 0 dX9_thicks_27 rfl rfl ?_
        exact v_iretF C hq (Option.some.inj hF) dX9_thicks_28
    · have hF := ifp hF c14
      refine v_iconst C (-1) dX9_thicks_15 (by decide) ?_
      exact v_iretF C hq (Option.some.inj hF) dX9_thicks_16
def K_X9_kinds_35 (Δ : DD) (Γ : GG) (q : (Int32 × Mem)) (x0 : Nat) (x1 : Int32) (x2 : Int32) (σ : Mem) (y : (Int32 × Int32) ⊕ (Int32 × Mem)) : Prop := match y with
  | .inl s => V Δ Γ 6 35 [(0, rf Δ (x0)), (1, .int (x1)), (2, .int (x2)), (4, .int (s.1)), (5, .int (s.2))] [] σ
  | .inr t => (t = q)
set_option maxRecDepth 20000 in
set_option maxHeartbeats 2000000 in
theorem W_X9_kinds_71 {Δ : DD} {Γ : GG} {d : Nat} {q : (Int32 × Mem)} {x0 : Nat} {x1 : Int32} {x2 : Int32} {x5 : Int32} {y0 : Int32} {y1 : Int32} {σ : Mem} {y : ((Int32 × Int32) ⊕ (Int32 × Mem))} (C : Cx Δ Γ RX9 cX9_kinds 6 d (some .int)) (hq : RetQ Δ Γ (some (.int q.1)) q.2) (h0 : isK 9 x0 = true) (hd : 3 ≤ d) (hF : F_X9_kinds_71 x0 x1 x2 x5 y0 y1 σ = some y) (hK : (K_X9_kinds_35 Δ Γ q x0 x1 x2 σ y)) : V Δ Γ 6 71 [(0, rf Δ (x0)), (1, .int (x1)), (2, .int (x2)), (5, .int (x5))] [.int (y0), .int (y1)] σ := by
  unfold F_X9_kinds_71 at hF
  refine v_ior C dX9_kinds_71 ?_
  refine v_istore C 4 (ll' := [(4, _), (0, _), (1, _), (2, _), (5, _)]) dX9_kinds_72 (by decide) rfl ?_
  refine v_iinc C (_ + (1 : Int32)) 4 (ll' := [(5, _), (4, _), (0, _), (1, _), (2, _)]) dX9_kinds_74 rfl (inc_eq (by decide)) (by decide) rfl ?_
  refine v_goto C 35 dX9_kinds_77 (by decide) ?_
  refine v_sub [2, 3, 4, 1, 0] (ll' := [(0, _), (1, _), (2, _), (4, _), (5, _)]) rfl ?_
  cases hF
  exact hK
set_option maxRecDepth 20000 in
set_option maxHeartbeats 2000000 in
theorem W_X9_kinds_35 {Δ : DD} {Γ : GG} {d : Nat} {q : (Int32 × Mem)} {x0 : Nat} {x1 : Int32} {x2 : Int32} {σ : Mem} (C : Cx Δ Γ RX9 cX9_kinds 6 d (some .int)) (hq : RetQ Δ Γ (some (.int q.1)) q.2) (h0 : isK 9 x0 = true) (hd : 3 ≤ d) {s : Int32 × Int32} (hF : F_X9_kinds_35 x0 x1 x2 σ s = some q) : V Δ Γ 6 35 [(0, rf Δ (x0)), (1, .int (x1)), (2, .int (x2)), (4, .int (s.1)), (5, .int (s.2))] [] σ := by
  have hF : F_X9_kinds_35 x0 x1 x2 σ s = some q := hF
  refine lp_V (W := fun (s : Int32 × Int32) => V Δ Γ 6 35 [(0, rf Δ (x0)), (1, .int (x1)), (2, .int (x2)), (4, .int (s.1)), (5, .int (s.2))] [] σ) (K := fun t => t = q) (K' := K_X9_kinds_35 Δ Γ q x0 x1 x2 σ) (fun _ h => h) (fun _ h => h) ?_ s q hF rfl
  clear hF
  intro s z hF hK
  refine v_iload C 5 4 dX9_kinds_35 rfl ?_
  refine v_iconst C (5) dX9_kinds_37 (by decide) ?_
  refine v_icmp_gt C 80 dX9_kinds_38 (by decide) (fun c1 => ?_) (fun c1 => ?_)
  · have hF := ifp hF c1
    refine v_iload C 4 3 dX9_kinds_80 rfl ?_
    cases hF
    exact v_iretF C hq hK dX9_kinds_82
  · have hF := ifn hF c1
    refine v_iload C 4 3 dX9_kinds_41 rfl ?_
    refine v_aload_n C 0 0 dX9_kinds_43 rfl rfl ?_
    refine v_iload_n C 2 2 dX9_kinds_44 rfl rfl ?_
    refine v_iload_n C 1 1 dX9_kinds_45 rfl rfl ?_
    refine v_iload C 5 4 dX9_kinds_46 rfl ?_
    refine v_aload_n C 0 0 dX9_kinds_48 rfl rfl ?_
    obtain ⟨p3, g2, hF⟩ := bnd hF
    refine v_gR C fu_X9_7 g2 dX9_kinds_49 ?_
    refine v_bipush C (21) dX9_kinds_52 (by decide) ?_
    refine v_iload_n C 1 1 dX9_kinds_54 rfl rfl ?_
    refine v_iadd C dX9_kinds_55 ?_
    obtain ⟨v4, g5, hF⟩ := bnd hF
    refine v_aI C g5 dX9_kinds_56 ?_
    obtain ⟨q6, g7, hF⟩ := bnd hF
    refine v_cVi C mw_X9_crossedSo lk_X9_193 _ (M_X9_crossedSo (by omega) h0 g7) h0 rfl rfl (Nat.le_of_ble_eq_true rfl) dX9_kinds_57 ?_
    refine v_if_eq C 70 dX9_kinds_60 (by decide) (fun c8 => ?_) (fun c8 => ?_)
    · have hF := ifp hF c8
      refine v_iconst C (0) dX9_kinds_70 (by decide) ?_
      refine v_sub [0, 1, 2, 4] (ll' := [(0, _), (1, _), (2, _), (5, _)]) rfl ?_
      exact W_X9_kinds_71 C hq h0 hd hF hK
    · have hF := ifn hF c8
      refine v_iconst C (1) dX9_kinds_63 (by decide) ?_
      refine v_iload C 5 4 dX9_kinds_64 rfl ?_
      refine v_ishl C dX9_kinds_66 ?_
      refine v_goto C 71 dX9_kinds_67 (by decide) ?_
      refine v_sub [0, 1, 2, 4] (ll' := [(0, _), (1, _), (2, _), (5, _)]) rfl ?_
      exact W_X9_kinds_71 C hq h0 hd hF hK
set_option maxRecDepth 20000 in
set_option maxHeartbeats 2000000 in
theorem M_X9_kinds {Δ : DD} {d : Nat} {x0 : Nat} {x1 : Int32} {x2 : Int32} {σ : Mem} {q : (Int32 × Mem)} (hd : 4 ≤ d) (h0 : isK 9 x0 = true) (hF : F_X9_kinds x0 x1 x2 σ = some q) : Mt Δ d yX9_kinds cX9_kinds 6 (some .int) [rf Δ x0, .int x1, .int x2] σ (some (.int q.1)) q.2 := by
  obtain ⟨d, rfl⟩ : ∃ e, d = e + 1 := ⟨d - 1, by omega⟩
  have hd : 3 ≤ d := by omega
  refine mt_of (by decide) rfl (Nat.le_of_ble_eq_true rfl) (fun Γ C hq => ?_)
  unfold F_X9_kinds at hF
  show V Δ Γ 6 0 [(0, rf Δ (x0)), (1, .int (x1)), (2, .int (x2))] [] σ
  refine v_aload_n C 0 0 dX9_kinds_0 rfl rfl ?_
  refine v_iload_n C 1 1 dX9_kinds_1 rfl rfl ?_
  obtain ⟨q9, g10, hF⟩ := bnd hF
  refine v_cVi C mw_X9_isBed lk_X9_140 _ (M_X9_isBed (by omega) h0 g10) h0 rfl rfl (Nat.le_of_ble_eq_true rfl) dX9_kinds_2 ?_
  refine v_if_eq C 15 dX9_kinds_5 (by decide) (fun c11 => ?_) (fun c11 => ?_)
  · have hF := ifp hF c11
    refine v_iconst C (-1) dX9_kinds_15 (by decide) ?_
    exact v_iretF C hq (Option.some.inj hF) dX9_kinds_16
  · have hF := ifn hF c11
    refine v_iload_n C 2 2 dX9_kinds_8 rfl rfl ?_
    obtain ⟨q12, g13, hF⟩ := bnd hF
    refine v_cSi C mw_X9_isRow lk_X9_59 _ (M_X9_isRow (by omega) g13) rfl rfl (Nat.le_of_ble_eq_true rfl) dX9_kinds_9 ?_
    refine v_if_ne C 17 dX9_kinds_12 (by decide) (fun c14 => ?_) (fun c14 => ?_)
    · have hF := ifn hF c14
      refine v_aload_n C 0 0 dX9_kinds_17 rfl rfl ?_
      refine v_iload_n C 2 2 dX9_kinds_18 rfl rfl ?_
      obtain ⟨q15, g16, hF⟩ := bnd hF
      refine v_cVi C mw_X9_against lk_X9_190 _ (M_X9_against (by omega) h0 g16) h0 rfl rfl (Nat.le_of_ble_eq_true rfl) dX9_kinds_19 ?_
      refine v_istore_n C 3 (ll' := [(3, _), (0, _), (1, _), (2, _)]) dX9_kinds_22 rfl (by decide) rfl ?_
      refine v_iload_n C 3 0 dX9_kinds_23 rfl rfl ?_
      refine v_if_ge C 29 dX9_kinds_24 (by decide) (fun c17 => ?_) (fun c17 => ?_)
      · have hF := ifp hF c17
        refine v_iconst C (0) dX9_kinds_29 (by decide) ?_
        refine v_istore C 4 (ll' := [(4, _), (3, _), (0, _), (1, _), (2, _)]) dX9_kinds_30 (by decide) rfl ?_
        refine v_iconst C (0) dX9_kinds_32 (by decide) ?_
        refine v_istore C 5 (ll' := [(5, _), (4, _), (3, _), (0, _), (1, _), (2, _)]) dX9_kinds_33 (by decide) rfl ?_
        refine v_sub [3, 4, 5, 1, 0] (ll' := [(0, _), (1, _), (2, _), (4, _), (5, _)]) rfl ?_
        exact W_X9_kinds_35 C hq h0 hd hF
      · have hF := ifn hF c17
        refine v_iload_n C 3 0 dX9_kinds_27 rfl rfl ?_
        exact v_iretF C hq (Option.some.inj hF) dX9_kinds_28
    · have hF := ifp hF c14
      refine v_iconst C (-1) dX9_kinds_15 (by decide) ?_
      exact v_iretF C hq (Option.some.inj hF) dX9_kinds_16

def K_X8_on_30 (Δ : DD) (Γ : GG) (q : (Int32 × Mem)) (x0 : Nat) (x1 : Int32) (y : (Int32 × Mem) ⊕ (Int32 × Mem)) : Prop := match y with
  | .inl s => V Δ Γ 4 30 [(0, rf Δ (x0)), (1, .int (x1)), (3, .int (s.1))] [] s.2
  | .inr t => (t = q)
set_option maxRecDepth 20000 in
set_option maxHeartbeats 2000000 in
theorem W_X8_on_30 {Δ : DD} {Γ : GG} {d : Nat} {q : (Int32 × Mem)} {x0 : Nat} {x1 : Int32} (C : Cx Δ Γ RX8 cX8_on 4 d (some .int)) (hq : RetQ Δ Γ (some (.int q.1)) q.2) (h0 : isK 8 x0 = true) (hd : 6 ≤ d) {s : Int32 × Mem} (hF : F_X8_on_30 x0 x1  s = some q) : V Δ Γ 4 30 [(0, rf Δ (x0)), (1, .int (x1)), (3, .int (s.1))] [] s.2 := by
  have hF : F_X8_on_30 x0 x1  s = some q := hF
  refine lp_V (W := fun (s : Int32 × Mem) => V Δ Γ 4 30 [(0, rf Δ (x0)), (1, .int (x1)), (3, .int (s.1))] [] s.2) (K := fun t => t = q) (K' := K_X8_on_30 Δ Γ q x0 x1 ) (fun _ h => h) (fun _ h => h) ?_ s q hF rfl
  clear hF
  intro s z hF hK
  refine v_iload_n C 3 2 dX8_on_30 rfl rfl ?_
  refine v_aload_n C 0 0 dX8_on_31 rfl rfl ?_
  obtain ⟨v2, g1, hF⟩ := bnd hF
  refine v_gI C fu_X8_41 g1 dX8_on_32 ?_
  refine v_icmp_ge C 61 dX8_on_35 (by decide) (fun c3 => ?_) (fun c3 => ?_)
  · have hF := ifp hF c3
    refine v_aload_n C 0 0 dX8_on_61 rfl rfl ?_
    obtain ⟨q4, g5, hF⟩ := bnd hF
    refine v_cVv C mw_X8_redoFromStart lk_X8_194 _ (M_X8_redoFromStart (by omega) h0 g5) h0 rfl rfl (Nat.le_of_ble_eq_true rfl) dX8_on_62 ?_
    refine v_aload_n C 0 0 dX8_on_65 rfl rfl ?_
    obtain ⟨v7, g6, hF⟩ := bnd hF
    refine v_gI C fu_X8_41 g6 dX8_on_66 ?_
    cases hF
    exact v_iretF C hq hK dX8_on_69
  · have hF := ifn hF c3
    refine v_aload_n C 0 0 dX8_on_38 rfl rfl ?_
    obtain ⟨p9, g8, hF⟩ := bnd hF
    refine v_gR C fu_X8_37 g8 dX8_on_39 ?_
    refine v_iload_n C 3 2 dX8_on_42 rfl rfl ?_
    refine v_aload_n C 0 0 dX8_on_43 rfl rfl ?_
    obtain ⟨p11, g10, hF⟩ := bnd hF
    refine v_gR C fu_X8_21 g10 dX8_on_44 ?_
    refine v_iload_n C 1 1 dX8_on_47 rfl rfl ?_
    refine v_iload_n C 3 2 dX8_on_48 rfl rfl ?_
    obtain ⟨_, g12, hF⟩ := bnd hF
    obtain ⟨q13, g14, hF⟩ := bnd hF
    refine v_cVi C mw_X6_get lk_X8_104 _ (M_X6_get (by omega) (chk_k g12) g14) (chk_k g12) rfl rfl (Nat.le_of_ble_eq_true rfl) dX8_on_49 ?_
    obtain ⟨q15, g16, hF⟩ := bnd hF
    refine v_cSv C mw_X8_write lk_X8_201 _ (M_X8_write (by omega) g16) rfl rfl (Nat.le_of_ble_eq_true rfl) dX8_on_52 ?_
    refine v_iinc C (_ + (1 : Int32)) 2 (ll' := [(3, _), (0, _), (1, _)]) dX8_on_55 rfl (inc_eq (by decide)) (by decide) rfl ?_
    refine v_goto C 30 dX8_on_58 (by decide) ?_
    refine v_sub [1, 2, 0] (ll' := [(0, _), (1, _), (3, _)]) rfl ?_
    cases hF
    exact hK
set_option maxRecDepth 20000 in
set_option maxHeartbeats 2000000 in
theorem M_X8_on {Δ : DD} {d : Nat} {x0 : Nat} {x1 : Int32} {σ : Mem} {q : (Int32 × Mem)} (hd : 7 ≤ d) (h0 : isK 8 x0 = true) (hF : F_X8_on x0 x1 σ = some q) : Mt Δ d yX8_on cX8_on 4 (some .int) [rf Δ x0, .int x1] σ (some (.int q.1)) q.2 := by
  obtain ⟨d, rfl⟩ : ∃ e, d = e + 1 := ⟨d - 1, by omega⟩
  have hd : 6 ≤ d := by omega
  refine mt_of (by decide) rfl (Nat.le_of_ble_eq_true rfl) (fun Γ C hq => ?_)
  unfold F_X8_on at hF
  show V Δ Γ 4 0 [(0, rf Δ (x0)), (1, .int (x1))] [] σ
  refine v_aload_n C 0 0 dX8_on_0 rfl rfl ?_
  refine v_aload_n C 0 0 dX8_on_1 rfl rfl ?_
  obtain ⟨p18, g17, hF⟩ := bnd hF
  refine v_gR C fu_X8_21 g17 dX8_on_2 ?_
  refine v_iload_n C 1 1 dX8_on_5 rfl rfl ?_
  obtain ⟨q19, g20, hF⟩ := bnd hF
  refine v_cVi C mw_X8_refusalOfMissing lk_X8_116 _ (M_X8_refusalOfMissing (by omega) h0 g20) h0 rfl rfl (Nat.le_of_ble_eq_true rfl) dX8_on_6 ?_
  refine v_istore_n C 2 (ll' := [(2, _), (0, _), (1, _)]) dX8_on_9 rfl (by decide) rfl ?_
  refine v_iload_n C 2 0 dX8_on_10 rfl rfl ?_
  refine v_if_eq C 16 dX8_on_11 (by decide) (fun c21 => ?_) (fun c21 => ?_)
  · have hF := ifp hF c21
    refine v_aload_n C 0 1 dX8_on_16 rfl rfl ?_
    refine v_aload_n C 0 1 dX8_on_17 rfl rfl ?_
    obtain ⟨p23, g22, hF⟩ := bnd hF
    refine v_gR C fu_X8_21 g22 dX8_on_18 ?_
    refine v_iload_n C 1 2 dX8_on_21 rfl rfl ?_
    obtain ⟨_, g24, hF⟩ := bnd hF
    obtain ⟨q25, g26, hF⟩ := bnd hF
    refine v_cVi C mw_X6_size lk_X8_142 _ (M_X6_size (by omega) (chk_k g24) g26) (chk_k g24) rfl rfl (Nat.le_of_ble_eq_true rfl) dX8_on_22 ?_
    obtain ⟨m28, g27, hF⟩ := bnd hF
    refine v_pI C fp_X8_41 g27 dX8_on_25 ?_
    refine v_iconst C (0) dX8_on_28 (by decide) ?_
    refine v_istore_n C 3 (ll' := [(3, _), (2, _), (0, _), (1, _)]) dX8_on_29 rfl (by decide) rfl ?_
    refine v_sub [2, 3, 0] (ll' := [(0, _), (1, _), (3, _)]) rfl ?_
    exact W_X8_on_30 C hq h0 hd hF
  · have hF := ifn hF c21
    refine v_iload_n C 2 0 dX8_on_14 rfl rfl ?_
    exact v_iretF C hq (Option.some.inj hF) dX8_on_15
set_option maxRecDepth 20000 in
set_option maxHeartbeats 2000000 in
theorem M_X8_then {Δ : DD} {d : Nat} {x0 : Nat} {x1 : Int32} {x2 : Int32} {σ : Mem} {q : (Int32 × Mem)} (hd : 5 ≤ d) (h0 : isK 8 x0 = true) (hF : F_X8_then x0 x1 x2 σ = some q) : Mt Δ d yX8_then cX8_then 3 (some .int) [rf Δ x0, .int x1, .int x2] σ (some (.int q.1)) q.2 := by
  obtain ⟨d, rfl⟩ : ∃ e, d = e + 1 := ⟨d - 1, by omega⟩
  have hd : 4 ≤ d := by omega
  refine mt_of (by decide) rfl (Nat.le_of_ble_eq_true rfl) (fun Γ C hq => ?_)
  unfold F_X8_then at hF
  show V Δ Γ 3 0 [(0, rf Δ (x0)), (1, .int (x1)), (2, .int (x2))] [] σ
  refine v_aload_n C 0 0 dX8_then_0 rfl rfl ?_
  obtain ⟨p2, g1, hF⟩ := bnd hF
  refine v_gR C fu_X8_31 g1 dX8_then_1 ?_
  refine v_iload_n C 1 1 dX8_then_4 rfl rfl ?_
  obtain ⟨_, g3, hF⟩ := bnd hF
  obtain ⟨q4, g5, hF⟩ := bnd hF
  refine v_cVi C mw_X7_has lk_X8_161 _ (M_X7_has (by omega) (chk_k g3) g5) (chk_k g3) rfl rfl (Nat.le_of_ble_eq_true rfl) dX8_then_5 ?_
  refine v_if_eq C 21 dX8_then_8 (by decide) (fun c6 => ?_) (fun c6 => ?_)
  · have hF := ifp hF c6
    refine v_iconst C (-1) dX8_then_21 (by decide) ?_
    exact v_iretF C hq (Option.some.inj hF) dX8_then_22
  · have hF := ifn hF c6
    refine v_iload_n C 2 2 dX8_then_11 rfl rfl ?_
    refine v_if_lt C 21 dX8_then_12 (by decide) (fun c7 => ?_) (fun c7 => ?_)
    · have hF := ifp hF c7
      refine v_iconst C (-1) dX8_then_21 (by decide) ?_
      exact v_iretF C hq (Option.some.inj hF) dX8_then_22
    · have hF := ifn hF c7
      refine v_iload_n C 2 2 dX8_then_15 rfl rfl ?_
      refine v_bipush C (40) dX8_then_16 (by decide) ?_
      refine v_icmp_le C 23 dX8_then_18 (by decide) (fun c8 => ?_) (fun c8 => ?_)
      · have hF := ifp hF c8
        refine v_aload_n C 0 0 dX8_then_23 rfl rfl ?_
        obtain ⟨p10, g9, hF⟩ := bnd hF
        refine v_gR C fu_X8_34 g9 dX8_then_24 ?_
        refine v_aload_n C 0 0 dX8_then_27 rfl rfl ?_
        obtain ⟨p12, g11, hF⟩ := bnd hF
        refine v_gR C fu_X8_31 g11 dX8_then_28 ?_
        obtain ⟨_, g13, hF⟩ := bnd hF
        obtain ⟨q14, g15, hF⟩ := bnd hF
        refine v_cVv C mw_X7_copyFrom lk_X8_151 _ (M_X7_copyFrom (by omega) (chk_k g13) g15) (chk_k g13) rfl rfl (Nat.le_of_ble_eq_true rfl) dX8_then_31 ?_
        refine v_aload_n C 0 0 dX8_then_34 rfl rfl ?_
        obtain ⟨p17, g16, hF⟩ := bnd hF
        refine v_gR C fu_X8_34 g16 dX8_then_35 ?_
        refine v_iload_n C 1 1 dX8_then_38 rfl rfl ?_
        refine v_iload_n C 2 2 dX8_then_39 rfl rfl ?_
        obtain ⟨_, g18, hF⟩ := bnd hF
        obtain ⟨q19, g20, hF⟩ := bnd hF
        refine v_cVv C mw_X7_passAlone lk_X8_205 _ (M_X7_passAlone (by omega) (chk_k g18) g20) (chk_k g18) rfl rfl (Nat.le_of_ble_eq_true rfl) dX8_then_40 ?_
        refine v_aload_n C 0 0 dX8_then_43 rfl rfl ?_
        refine v_aload_n C 0 0 dX8_then_44 rfl rfl ?_
        obtain ⟨p22, g21, hF⟩ := bnd hF
        refine v_gR C fu_X8_34 g21 dX8_then_45 ?_
        refine v_iload_n C 1 1 dX8_then_48 rfl rfl ?_
        obtain ⟨_, g23, hF⟩ := bnd hF
        obtain ⟨q24, g25, hF⟩ := bnd hF
        refine v_cVi C mw_X7_thickOf lk_X8_174 _ (M_X7_thickOf (by omega) (chk_k g23) g25) (chk_k g23) rfl rfl (Nat.le_of_ble_eq_true rfl) dX8_then_49 ?_
        obtain ⟨m27, g26, hF⟩ := bnd hF
        refine v_pI C fp_X8_80 g26 dX8_then_52 ?_
        refine v_aload_n C 0 0 dX8_then_55 rfl rfl ?_
        obtain ⟨p29, g28, hF⟩ := bnd hF
        refine v_gR C fu_X8_34 g28 dX8_then_56 ?_
        refine v_iload_n C 1 1 dX8_then_59 rfl rfl ?_
        obtain ⟨_, g30, hF⟩ := bnd hF
        obtain ⟨q31, g32, hF⟩ := bnd hF
        refine v_cVi C mw_X7_liesIn lk_X8_208 _ (M_X7_liesIn (by omega) (chk_k g30) g32) (chk_k g30) rfl rfl (Nat.le_of_ble_eq_true rfl) dX8_then_60 ?_
        exact v_iretF C hq (Option.some.inj hF) dX8_then_63
      · have hF := ifn hF c8
        refine v_iconst C (-1) dX8_then_21 (by decide) ?_
        exact v_iretF C hq (Option.some.inj hF) dX8_then_22
def K_X8_when_26 (Δ : DD) (Γ : GG) (q : (Int32 × Mem)) (x0 : Nat) (x1 : Int32) (y : (Int32 × Mem) ⊕ (Int32 × Mem)) : Prop := match y with
  | .inl s => V Δ Γ 3 26 [(0, rf Δ (x0)), (1, .int (x1)), (2, .int (s.1))] [] s.2
  | .inr t => (t = q)
set_option maxRecDepth 20000 in
set_option maxHeartbeats 2000000 in
theorem W_X8_when_26 {Δ : DD} {Γ : GG} {d : Nat} {q : (Int32 × Mem)} {x0 : Nat} {x1 : Int32} (C : Cx Δ Γ RX8 cX8_when 3 d (some .int)) (hq : RetQ Δ Γ (some (.int q.1)) q.2) (h0 : isK 8 x0 = true) (hd : 4 ≤ d) {s : Int32 × Mem} (hF : F_X8_when_26 x0 x1  s = some q) : V Δ Γ 3 26 [(0, rf Δ (x0)), (1, .int (x1)), (2, .int (s.1))] [] s.2 := by
  have hF : F_X8_when_26 x0 x1  s = some q := hF
  refine lp_V (W := fun (s : Int32 × Mem) => V Δ Γ 3 26 [(0, rf Δ (x0)), (1, .int (x1)), (2, .int (s.1))] [] s.2) (K := fun t => t = q) (K' := K_X8_when_26 Δ Γ q x0 x1 ) (fun _ h => h) (fun _ h => h) ?_ s q hF rfl
  clear hF
  intro s z hF hK
  refine v_iload_n C 2 2 dX8_when_26 rfl rfl ?_
  refine v_bipush C (40) dX8_when_27 (by decide) ?_
  refine v_icmp_gt C 60 dX8_when_29 (by decide) (fun c1 => ?_) (fun c1 => ?_)
  · have hF := ifp hF c1
    refine v_bipush C (-9) dX8_when_60 (by decide) ?_
    cases hF
    exact v_iretF C hq hK dX8_when_62
  · have hF := ifn hF c1
    refine v_aload_n C 0 0 dX8_when_32 rfl rfl ?_
    obtain ⟨p3, g2, hF⟩ := bnd hF
    refine v_gR C fu_X8_34 g2 dX8_when_33 ?_
    refine v_iload_n C 1 1 dX8_when_36 rfl rfl ?_
    obtain ⟨_, g4, hF⟩ := bnd hF
    obtain ⟨q5, g6, hF⟩ := bnd hF
    refine v_cVi C mw_X7_wouldBeFound lk_X8_211 _ (M_X7_wouldBeFound (by omega) (chk_k g4) g6) (chk_k g4) rfl rfl (Nat.le_of_ble_eq_true rfl) dX8_when_37 ?_
    refine v_if_eq C 45 dX8_when_40 (by decide) (fun c7 => ?_) (fun c7 => ?_)
    · have hF := ifp hF c7
      refine v_aload_n C 0 0 dX8_when_45 rfl rfl ?_
      obtain ⟨p9, g8, hF⟩ := bnd hF
      refine v_gR C fu_X8_34 g8 dX8_when_46 ?_
      refine v_iload_n C 1 1 dX8_when_49 rfl rfl ?_
      refine v_iconst C (1) dX8_when_50 (by decide) ?_
      obtain ⟨_, g10, hF⟩ := bnd hF
      obtain ⟨q11, g12, hF⟩ := bnd hF
      refine v_cVv C mw_X7_passAlone lk_X8_205 _ (M_X7_passAlone (by omega) (chk_k g10) g12) (chk_k g10) rfl rfl (Nat.le_of_ble_eq_true rfl) dX8_when_51 ?_
      refine v_iinc C (_ + (1 : Int32)) 2 (ll' := [(2, _), (0, _), (1, _)]) dX8_when_54 rfl (inc_eq (by decide)) (by decide) rfl ?_
      refine v_goto C 26 dX8_when_57 (by decide) ?_
      refine v_sub [1, 2, 0] (ll' := [(0, _), (1, _), (2, _)]) rfl ?_
      cases hF
      exact hK
    · have hF := ifn hF c7
      refine v_iload_n C 2 2 dX8_when_43 rfl rfl ?_
      cases hF
      exact v_iretF C hq hK dX8_when_44
set_option maxRecDepth 20000 in
set_option maxHeartbeats 2000000 in
theorem M_X8_when {Δ : DD} {d : Nat} {x0 : Nat} {x1 : Int32} {σ : Mem} {q : (Int32 × Mem)} (hd : 5 ≤ d) (h0 : isK 8 x0 = true) (hF : F_X8_when x0 x1 σ = some q) : Mt Δ d yX8_when cX8_when 3 (some .int) [rf Δ x0, .int x1] σ (some (.int q.1)) q.2 := by
  obtain ⟨d, rfl⟩ : ∃ e, d = e + 1 := ⟨d - 1, by omega⟩
  have hd : 4 ≤ d := by omega
  refine mt_of (by decide) rfl (Nat.le_of_ble_eq_true rfl) (fun Γ C hq => ?_)
  unfold F_X8_when at hF
  show V Δ Γ 3 0 [(0, rf Δ (x0)), (1, .int (x1))] [] σ
  refine v_aload_n C 0 0 dX8_when_0 rfl rfl ?_
  obtain ⟨p14, g13, hF⟩ := bnd hF
  refine v_gR C fu_X8_31 g13 dX8_when_1 ?_
  refine v_iload_n C 1 1 dX8_when_4 rfl rfl ?_
  obtain ⟨_, g15, hF⟩ := bnd hF
  obtain ⟨q16, g17, hF⟩ := bnd hF
  refine v_cVi C mw_X7_has lk_X8_161 _ (M_X7_has (by omega) (chk_k g15) g17) (chk_k g15) rfl rfl (Nat.le_of_ble_eq_true rfl) dX8_when_5 ?_
  refine v_if_ne C 13 dX8_when_8 (by decide) (fun c18 => ?_) (fun c18 => ?_)
  · have hF := ifn hF c18
    refine v_aload_n C 0 0 dX8_when_13 rfl rfl ?_
    obtain ⟨p20, g19, hF⟩ := bnd hF
    refine v_gR C fu_X8_34 g19 dX8_when_14 ?_
    refine v_aload_n C 0 0 dX8_when_17 rfl rfl ?_
    obtain ⟨p22, g21, hF⟩ := bnd hF
    refine v_gR C fu_X8_31 g21 dX8_when_18 ?_
    obtain ⟨_, g23, hF⟩ := bnd hF
    obtain ⟨q24, g25, hF⟩ := bnd hF
    refine v_cVv C mw_X7_copyFrom lk_X8_151 _ (M_X7_copyFrom (by omega) (chk_k g23) g25) (chk_k g23) rfl rfl (Nat.le_of_ble_eq_true rfl) dX8_when_21 ?_
    refine v_iconst C (0) dX8_when_24 (by decide) ?_
    refine v_istore_n C 2 (ll' := [(2, _), (0, _), (1, _)]) dX8_when_25 rfl (by decide) rfl ?_
    refine v_sub [1, 2, 0] (ll' := [(0, _), (1, _), (2, _)]) rfl ?_
    exact W_X8_when_26 C hq h0 hd hF
  · have hF := ifp hF c18
    refine v_iconst C (-1) dX8_when_11 (by decide) ?_
    exact v_iretF C hq (Option.some.inj hF) dX8_when_12
def K_X8_least_35 (Δ : DD) (Γ : GG) (q : (Int32 × Mem)) (x0 : Nat) (x1 : Int32) (x2 : Int32) (x3 : Int32) (y : (Int32 × Mem) ⊕ (Int32 × Mem)) : Prop := match y with
  | .inl s => V Δ Γ 5 35 [(0, rf Δ (x0)), (1, .int (x1)), (2, .int (x2)), (3, .int (x3)), (4, .int (s.1))] [] s.2
  | .inr t => (t = q)
set_option maxRecDepth 20000 in
set_option maxHeartbeats 2000000 in
theorem W_X8_least_35 {Δ : DD} {Γ : GG} {d : Nat} {q : (Int32 × Mem)} {x0 : Nat} {x1 : Int32} {x2 : Int32} {x3 : Int32} (C : Cx Δ Γ RX8 cX8_least 5 d (some .int)) (hq : RetQ Δ Γ (some (.int q.1)) q.2) (h0 : isK 8 x0 = true) (hd : 4 ≤ d) {s : Int32 × Mem} (hF : F_X8_least_35 x0 x1 x2 x3  s = some q) : V Δ Γ 5 35 [(0, rf Δ (x0)), (1, .int (x1)), (2, .int (x2)), (3, .int (x3)), (4, .int (s.1))] [] s.2 := by
  have hF : F_X8_least_35 x0 x1 x2 x3  s = some q := hF
  refine lp_V (W := fun (s : Int32 × Mem) => V Δ Γ 5 35 [(0, rf Δ (x0)), (1, .int (x1)), (2, .int (x2)), (3, .int (x3)), (4, .int (s.1))] [] s.2) (K := fun t => t = q) (K' := K_X8_least_35 Δ Γ q x0 x1 x2 x3 ) (fun _ h => h) (fun _ h => h) ?_ s q hF rfl
  clear hF
  intro s z hF hK
  refine v_iload C 4 4 dX8_least_35 rfl ?_
  refine v_iload_n C 3 3 dX8_least_37 rfl rfl ?_
  refine v_icmp_gt C 91 dX8_least_38 (by decide) (fun c1 => ?_) (fun c1 => ?_)
  · have hF := ifp hF c1
    refine v_bipush C (-9) dX8_least_91 (by decide) ?_
    cases hF
    exact v_iretF C hq hK dX8_least_93
  · have hF := ifn hF c1
    refine v_aload_n C 0 0 dX8_least_41 rfl rfl ?_
    obtain ⟨p3, g2, hF⟩ := bnd hF
    refine v_gR C fu_X8_34 g2 dX8_least_42 ?_
    refine v_aload_n C 0 0 dX8_least_45 rfl rfl ?_
    obtain ⟨p5, g4, hF⟩ := bnd hF
    refine v_gR C fu_X8_31 g4 dX8_least_46 ?_
    obtain ⟨_, g6, hF⟩ := bnd hF
    obtain ⟨q7, g8, hF⟩ := bnd hF
    refine v_cVv C mw_X7_copyFrom lk_X8_151 _ (M_X7_copyFrom (by omega) (chk_k g6) g8) (chk_k g6) rfl rfl (Nat.le_of_ble_eq_true rfl) dX8_least_49 ?_
    refine v_aload_n C 0 0 dX8_least_52 rfl rfl ?_
    obtain ⟨p10, g9, hF⟩ := bnd hF
    refine v_gR C fu_X8_34 g9 dX8_least_53 ?_
    refine v_iload_n C 1 1 dX8_least_56 rfl rfl ?_
    refine v_iload C 4 4 dX8_least_57 rfl ?_
    obtain ⟨_, g11, hF⟩ := bnd hF
    obtain ⟨q12, g13, hF⟩ := bnd hF
    refine v_cVv C mw_X7_thinBed lk_X8_214 _ (M_X7_thinBed (by omega) (chk_k g11) g13) (chk_k g11) rfl rfl (Nat.le_of_ble_eq_true rfl) dX8_least_59 ?_
    refine v_aload_n C 0 0 dX8_least_62 rfl rfl ?_
    obtain ⟨p15, g14, hF⟩ := bnd hF
    refine v_gR C fu_X8_34 g14 dX8_least_63 ?_
    refine v_iload_n C 1 1 dX8_least_66 rfl rfl ?_
    refine v_iload_n C 2 2 dX8_least_67 rfl rfl ?_
    obtain ⟨_, g16, hF⟩ := bnd hF
    obtain ⟨q17, g18, hF⟩ := bnd hF
    refine v_cVv C mw_X7_passAlone lk_X8_205 _ (M_X7_passAlone (by omega) (chk_k g16) g18) (chk_k g16) rfl rfl (Nat.le_of_ble_eq_true rfl) dX8_least_68 ?_
    refine v_aload_n C 0 0 dX8_least_71 rfl rfl ?_
    obtain ⟨p20, g19, hF⟩ := bnd hF
    refine v_gR C fu_X8_34 g19 dX8_least_72 ?_
    refine v_iload_n C 1 1 dX8_least_75 rfl rfl ?_
    obtain ⟨_, g21, hF⟩ := bnd hF
    obtain ⟨q22, g23, hF⟩ := bnd hF
    refine v_cVi C mw_X7_wouldBeFound lk_X8_211 _ (M_X7_wouldBeFound (by omega) (chk_k g21) g23) (chk_k g21) rfl rfl (Nat.le_of_ble_eq_true rfl) dX8_least_76 ?_
    refine v_if_eq C 85 dX8_least_79 (by decide) (fun c24 => ?_) (fun c24 => ?_)
    · have hF := ifp hF c24
      refine v_iinc C (_ + (1 : Int32)) 4 (ll' := [(4, _), (0, _), (1, _), (2, _), (3, _)]) dX8_least_85 rfl (inc_eq (by decide)) (by decide) rfl ?_
      refine v_goto C 35 dX8_least_88 (by decide) ?_
      refine v_sub [1, 2, 3, 4, 0] (ll' := [(0, _), (1, _), (2, _), (3, _), (4, _)]) rfl ?_
      cases hF
      exact hK
    · have hF := ifn hF c24
      refine v_iload C 4 4 dX8_least_82 rfl ?_
      cases hF
      exact v_iretF C hq hK dX8_least_84
set_option maxRecDepth 20000 in
set_option maxHeartbeats 2000000 in
theorem M_X8_least {Δ : DD} {d : Nat} {x0 : Nat} {x1 : Int32} {x2 : Int32} {σ : Mem} {q : (Int32 × Mem)} (hd : 5 ≤ d) (h0 : isK 8 x0 = true) (hF : F_X8_least x0 x1 x2 σ = some q) : Mt Δ d yX8_least cX8_least 5 (some .int) [rf Δ x0, .int x1, .int x2] σ (some (.int q.1)) q.2 := by
  obtain ⟨d, rfl⟩ : ∃ e, d = e + 1 := ⟨d - 1, by omega⟩
  have hd : 4 ≤ d := by omega
  refine mt_of (by decide) rfl (Nat.le_of_ble_eq_true rfl) (fun Γ C hq => ?_)
  unfold F_X8_least at hF
  show V Δ Γ 5 0 [(0, rf Δ (x0)), (1, .int (x1)), (2, .int (x2))] [] σ
  refine v_aload_n C 0 0 dX8_least_0 rfl rfl ?_
  obtain ⟨p26, g25, hF⟩ := bnd hF
  refine v_gR C fu_X8_31 g25 dX8_least_1 ?_
  refine v_iload_n C 1 1 dX8_least_4 rfl rfl ?_
  obtain ⟨_, g27, hF⟩ := bnd hF
  obtain ⟨q28, g29, hF⟩ := bnd hF
  refine v_cVi C mw_X7_has lk_X8_161 _ (M_X7_has (by omega) (chk_k g27) g29) (chk_k g27) rfl rfl (Nat.le_of_ble_eq_true rfl) dX8_least_5 ?_
  refine v_if_eq C 21 dX8_least_8 (by decide) (fun c30 => ?_) (fun c30 => ?_)
  · have hF := ifp hF c30
    refine v_iconst C (-1) dX8_least_21 (by decide) ?_
    exact v_iretF C hq (Option.some.inj hF) dX8_least_22
  · have hF := ifn hF c30
    refine v_iload_n C 2 2 dX8_least_11 rfl rfl ?_
    refine v_if_lt C 21 dX8_least_12 (by decide) (fun c31 => ?_) (fun c31 => ?_)
    · have hF := ifp hF c31
      refine v_iconst C (-1) dX8_least_21 (by decide) ?_
      exact v_iretF C hq (Option.some.inj hF) dX8_least_22
    · have hF := ifn hF c31
      refine v_iload_n C 2 2 dX8_least_15 rfl rfl ?_
      refine v_bipush C (40) dX8_least_16 (by decide) ?_
      refine v_icmp_le C 23 dX8_least_18 (by decide) (fun c32 => ?_) (fun c32 => ?_)
      · have hF := ifp hF c32
        refine v_aload_n C 0 0 dX8_least_23 rfl rfl ?_
        obtain ⟨p34, g33, hF⟩ := bnd hF
        refine v_gR C fu_X8_31 g33 dX8_least_24 ?_
        refine v_iload_n C 1 1 dX8_least_27 rfl rfl ?_
        obtain ⟨_, g35, hF⟩ := bnd hF
        obtain ⟨q36, g37, hF⟩ := bnd hF
        refine v_cVi C mw_X7_thickOf lk_X8_174 _ (M_X7_thickOf (by omega) (chk_k g35) g37) (chk_k g35) rfl rfl (Nat.le_of_ble_eq_true rfl) dX8_least_28 ?_
        refine v_istore_n C 3 (ll' := [(3, _), (0, _), (1, _), (2, _)]) dX8_least_31 rfl (by decide) rfl ?_
        refine v_iconst C (0) dX8_least_32 (by decide) ?_
        refine v_istore C 4 (ll' := [(4, _), (3, _), (0, _), (1, _), (2, _)]) dX8_least_33 (by decide) rfl ?_
        refine v_sub [2, 3, 4, 1, 0] (ll' := [(0, _), (1, _), (2, _), (3, _), (4, _)]) rfl ?_
        exact W_X8_least_35 C hq h0 hd hF
      · have hF := ifn hF c32
        refine v_iconst C (-1) dX8_least_21 (by decide) ?_
        exact v_iretF C hq (Option.some.inj hF) dX8_least_22
set_option maxRecDepth 20000 in
set_option maxHeartbeats 2000000 in
theorem M_X8_round {Δ : DD} {d : Nat} {x0 : Nat} {x1 : Int32} {x2 : Int32} {σ : Mem} {q : (Int32 × Mem)} (hd : 24 ≤ d) (h0 : isK 8 x0 = true) (hF : F_X8_round x0 x1 x2 σ = some q) : Mt Δ d yX8_round cX8_round 4 (some .int) [rf Δ x0, .int x1, .int x2] σ (some (.int q.1)) q.2 := by
  obtain ⟨d, rfl⟩ : ∃ e, d = e + 1 := ⟨d - 1, by omega⟩
  have hd : 23 ≤ d := by omega
  refine mt_of (by decide) rfl (Nat.le_of_ble_eq_true rfl) (fun Γ C hq => ?_)
  unfold F_X8_round at hF
  show V Δ Γ 4 0 [(0, rf Δ (x0)), (1, .int (x1)), (2, .int (x2))] [] σ
  refine v_iload_n C 1 1 dX8_round_0 rfl rfl ?_
  refine v_if_lt C 20 dX8_round_1 (by decide) (fun c1 => ?_) (fun c1 => ?_)
  · have hF := ifp hF c1
    refine v_iconst C (-1) dX8_round_20 (by decide) ?_
    exact v_iretF C hq (Option.some.inj hF) dX8_round_21
  · have hF := ifn hF c1
    refine v_iload_n C 1 1 dX8_round_4 rfl rfl ?_
    refine v_iconst C (4) dX8_round_5 (by decide) ?_
    refine v_icmp_gt C 20 dX8_round_6 (by decide) (fun c2 => ?_) (fun c2 => ?_)
    · have hF := ifp hF c2
      refine v_iconst C (-1) dX8_round_20 (by decide) ?_
      exact v_iretF C hq (Option.some.inj hF) dX8_round_21
    · have hF := ifn hF c2
      refine v_aload_n C 0 0 dX8_round_9 rfl rfl ?_
      obtain ⟨p4, g3, hF⟩ := bnd hF
      refine v_gR C fu_X8_14 g3 dX8_round_10 ?_
      refine v_iload_n C 2 2 dX8_round_13 rfl rfl ?_
      obtain ⟨_, g5, hF⟩ := bnd hF
      obtain ⟨q6, g7, hF⟩ := bnd hF
      refine v_cVi C mw_X6_isNumber lk_X8_124 _ (M_X6_isNumber (by omega) (chk_k g5) g7) (chk_k g5) rfl rfl (Nat.le_of_ble_eq_true rfl) dX8_round_14 ?_
      refine v_if_ne C 22 dX8_round_17 (by decide) (fun c8 => ?_) (fun c8 => ?_)
      · have hF := ifn hF c8
        refine v_aload_n C 0 0 dX8_round_22 rfl rfl ?_
        obtain ⟨p10, g9, hF⟩ := bnd hF
        refine v_gR C fu_X8_31 g9 dX8_round_23 ?_
        obtain ⟨v12, g11, hF⟩ := bnd hF
        refine v_gI C fu_X8_158 g11 dX8_round_26 ?_
        refine v_if_ne C 35 dX8_round_29 (by decide) (fun c13 => ?_) (fun c13 => ?_)
        · have hF := ifn hF c13
          refine v_aload_n C 0 0 dX8_round_35 rfl rfl ?_
          obtain ⟨p15, g14, hF⟩ := bnd hF
          refine v_gR C fu_X8_55 g14 dX8_round_36 ?_
          refine v_aload_n C 0 0 dX8_round_39 rfl rfl ?_
          obtain ⟨p17, g16, hF⟩ := bnd hF
          refine v_gR C fu_X8_31 g16 dX8_round_40 ?_
          refine v_iload_n C 1 1 dX8_round_43 rfl rfl ?_
          obtain ⟨_, g18, hF⟩ := bnd hF
          obtain ⟨q19, g20, hF⟩ := bnd hF
          refine v_cVi C mw_X5_mostFound lk_X8_217 _ (M_X5_mostFound (by omega) (chk_k g18) g20) (chk_k g18) rfl rfl (Nat.le_of_ble_eq_true rfl) dX8_round_44 ?_
          refine v_istore_n C 3 (ll' := [(3, _), (0, _), (1, _), (2, _)]) dX8_round_47 rfl (by decide) rfl ?_
          refine v_aload_n C 0 1 dX8_round_48 rfl rfl ?_
          obtain ⟨p22, g21, hF⟩ := bnd hF
          refine v_gR C fu_X8_14 g21 dX8_round_49 ?_
          refine v_iload_n C 2 3 dX8_round_52 rfl rfl ?_
          refine v_iload_n C 1 2 dX8_round_53 rfl rfl ?_
          refine v_aload_n C 0 1 dX8_round_54 rfl rfl ?_
          obtain ⟨p24, g23, hF⟩ := bnd hF
          refine v_gR C fu_X8_55 g23 dX8_round_55 ?_
          obtain ⟨p26, g25, hF⟩ := bnd hF
          refine v_gR C fu_X8_221 g25 dX8_round_58 ?_
          obtain ⟨_, g27, hF⟩ := bnd hF
          obtain ⟨q28, g29, hF⟩ := bnd hF
          refine v_cVv C mw_X6_makeOf lk_X8_197 _ (M_X6_makeOf (by omega) (chk_k g27) g29) (chk_k g27) rfl rfl (Nat.le_of_ble_eq_true rfl) dX8_round_61 ?_
          refine v_iload_n C 3 0 dX8_round_64 rfl rfl ?_
          exact v_iretF C hq (Option.some.inj hF) dX8_round_65
        · have hF := ifp hF c13
          refine v_bipush C (-4) dX8_round_32 (by decide) ?_
          exact v_iretF C hq (Option.some.inj hF) dX8_round_34
      · have hF := ifp hF c8
        refine v_iconst C (-1) dX8_round_20 (by decide) ?_
        exact v_iretF C hq (Option.some.inj hF) dX8_round_21
def K_X8_isRound_2 (Δ : DD) (Γ : GG) (q : Int32) (x0 : Nat) (x1 : Int32) (σ : Mem) (y : (Int32) ⊕ Int32) : Prop := match y with
  | .inl s => V Δ Γ 4 2 [(0, rf Δ (x0)), (1, .int (x1)), (2, .int (s))] [] σ
  | .inr t => (t = q)
set_option maxRecDepth 20000 in
set_option maxHeartbeats 2000000 in
theorem W_X8_isRound_2 {Δ : DD} {Γ : GG} {d : Nat} {q : Int32} {x0 : Nat} {x1 : Int32} {σ : Mem} (C : Cx Δ Γ RX8 cX8_isRound 4 d (some .boolean)) (hq : RetQ Δ Γ (some (.int q)) σ) (h0 : isK 8 x0 = true) (hd : 2 ≤ d) {s : Int32} (hF : F_X8_isRound_2 x0 x1 σ s = some q) : V Δ Γ 4 2 [(0, rf Δ (x0)), (1, .int (x1)), (2, .int (s))] [] σ := by
  have hF : F_X8_isRound_2 x0 x1 σ s = some q := hF
  refine lp_V (W := fun (s : Int32) => V Δ Γ 4 2 [(0, rf Δ (x0)), (1, .int (x1)), (2, .int (s))] [] σ) (K := fun t => t = q) (K' := K_X8_isRound_2 Δ Γ q x0 x1 σ) (fun _ h => h) (fun _ h => h) ?_ s q hF rfl
  clear hF
  intro s z hF hK
  refine v_iload_n C 2 2 dX8_isRound_2 rfl rfl ?_
  refine v_aload_n C 0 0 dX8_isRound_3 rfl rfl ?_
  obtain ⟨p2, g1, hF⟩ := bnd hF
  refine v_gR C fu_X8_14 g1 dX8_isRound_4 ?_
  refine v_iload_n C 1 1 dX8_isRound_7 rfl rfl ?_
  obtain ⟨_, g3, hF⟩ := bnd hF
  obtain ⟨q4, g5, hF⟩ := bnd hF
  refine v_cVi C mw_X6_size lk_X8_142 _ (M_X6_size (by omega) (chk_k g3) g5) (chk_k g3) rfl rfl (Nat.le_of_ble_eq_true rfl) dX8_isRound_8 ?_
  refine v_icmp_ge C 49 dX8_isRound_11 (by decide) (fun c6 => ?_) (fun c6 => ?_)
  · have hF := ifp hF c6
    refine v_iconst C (1) dX8_isRound_49 (by decide) ?_
    cases hF
    exact v_zretP C hq hK rfl dX8_isRound_50
  · have hF := ifn hF c6
    refine v_aload_n C 0 0 dX8_isRound_14 rfl rfl ?_
    obtain ⟨p8, g7, hF⟩ := bnd hF
    refine v_gR C fu_X8_14 g7 dX8_isRound_15 ?_
    refine v_iload_n C 1 1 dX8_isRound_18 rfl rfl ?_
    refine v_iload_n C 2 2 dX8_isRound_19 rfl rfl ?_
    obtain ⟨_, g9, hF⟩ := bnd hF
    obtain ⟨q10, g11, hF⟩ := bnd hF
    refine v_cVi C mw_X6_get lk_X8_104 _ (M_X6_get (by omega) (chk_k g9) g11) (chk_k g9) rfl rfl (Nat.le_of_ble_eq_true rfl) dX8_isRound_20 ?_
    refine v_istore_n C 3 (ll' := [(3, _), (0, _), (1, _), (2, _)]) dX8_isRound_23 rfl (by decide) rfl ?_
    refine v_iload_n C 3 0 dX8_isRound_24 rfl rfl ?_
    refine v_bipush C (-9) dX8_isRound_25 (by decide) ?_
    refine v_icmp_eq C 43 dX8_isRound_27 (by decide) (fun c12 => ?_) (fun c12 => ?_)
    · have hF := ifp hF c12
      refine v_iinc C (_ + (1 : Int32)) 3 (ll' := [(2, _), (3, _), (0, _), (1, _)]) dX8_isRound_43 rfl (inc_eq (by decide)) (by decide) rfl ?_
      refine v_goto C 2 dX8_isRound_46 (by decide) ?_
      refine v_sub [2, 3, 0] (ll' := [(0, _), (1, _), (2, _)]) rfl ?_
      cases hF
      exact hK
    · have hF := ifn hF c12
      refine v_aload_n C 0 1 dX8_isRound_30 rfl rfl ?_
      obtain ⟨p14, g13, hF⟩ := bnd hF
      refine v_gR C fu_X8_31 g13 dX8_isRound_31 ?_
      refine v_iload_n C 3 0 dX8_isRound_34 rfl rfl ?_
      obtain ⟨_, g15, hF⟩ := bnd hF
      obtain ⟨q16, g17, hF⟩ := bnd hF
      refine v_cVi C mw_X7_has lk_X8_161 _ (M_X7_has (by omega) (chk_k g15) g17) (chk_k g15) rfl rfl (Nat.le_of_ble_eq_true rfl) dX8_isRound_35 ?_
      refine v_if_ne C 43 dX8_isRound_38 (by decide) (fun c18 => ?_) (fun c18 => ?_)
      · have hF := ifn hF c18
        refine v_iinc C (_ + (1 : Int32)) 3 (ll' := [(2, _), (3, _), (0, _), (1, _)]) dX8_isRound_43 rfl (inc_eq (by decide)) (by decide) rfl ?_
        refine v_goto C 2 dX8_isRound_46 (by decide) ?_
        refine v_sub [2, 3, 0] (ll' := [(0, _), (1, _), (2, _)]) rfl ?_
        cases hF
        exact hK
      · have hF := ifp hF c18
        refine v_iconst C (0) dX8_isRound_41 (by decide) ?_
        cases hF
        exact v_zretP C hq hK rfl dX8_isRound_42
set_option maxRecDepth 20000 in
set_option maxHeartbeats 2000000 in
theorem M_X8_isRound {Δ : DD} {d : Nat} {x0 : Nat} {x1 : Int32} {σ : Mem} {q : Int32} (hd : 3 ≤ d) (h0 : isK 8 x0 = true) (hF : F_X8_isRound x0 x1 σ = some q) : Mt Δ d yX8_isRound cX8_isRound 4 (some .boolean) [rf Δ x0, .int x1] σ (some (.int q)) σ := by
  obtain ⟨d, rfl⟩ : ∃ e, d = e + 1 := ⟨d - 1, by omega⟩
  have hd : 2 ≤ d := by omega
  refine mt_of (by decide) rfl (Nat.le_of_ble_eq_true rfl) (fun Γ C hq => ?_)
  unfold F_X8_isRound at hF
  show V Δ Γ 4 0 [(0, rf Δ (x0)), (1, .int (x1))] [] σ
  refine v_iconst C (0) dX8_isRound_0 (by decide) ?_
  refine v_istore_n C 2 (ll' := [(2, _), (0, _), (1, _)]) dX8_isRound_1 rfl (by decide) rfl ?_
  refine v_sub [1, 2, 0] (ll' := [(0, _), (1, _), (2, _)]) rfl ?_
  exact W_X8_isRound_2 C hq h0 hd hF
def K_X8_brings_91 (Δ : DD) (Γ : GG) (q : (Int32 × Mem)) (x0 : Nat) (x1 : Int32) (y : (Int32 × Int32 × Mem) ⊕ (Int32 × Mem)) : Prop := match y with
  | .inl s => V Δ Γ 4 91 [(0, rf Δ (x0)), (1, .int (x1)), (2, .int (s.1)), (3, .int (s.2.1))] [] s.2.2
  | .inr t => (t = q)
set_option maxRecDepth 20000 in
set_option maxHeartbeats 2000000 in
theorem W_X8_brings_91 {Δ : DD} {Γ : GG} {d : Nat} {q : (Int32 × Mem)} {x0 : Nat} {x1 : Int32} (C : Cx Δ Γ RX8 cX8_brings 4 d (some .int)) (hq : RetQ Δ Γ (some (.int q.1)) q.2) (h0 : isK 8 x0 = true) (hd : 4 ≤ d) {s : Int32 × Int32 × Mem} (hF : F_X8_brings_91 x0 x1  s = some q) : V Δ Γ 4 91 [(0, rf Δ (x0)), (1, .int (x1)), (2, .int (s.1)), (3, .int (s.2.1))] [] s.2.2 := by
  have hF : F_X8_brings_91 x0 x1  s = some q := hF
  refine lp_V (W := fun (s : Int32 × Int32 × Mem) => V Δ Γ 4 91 [(0, rf Δ (x0)), (1, .int (x1)), (2, .int (s.1)), (3, .int (s.2.1))] [] s.2.2) (K := fun t => t = q) (K' := K_X8_brings_91 Δ Γ q x0 x1 ) (fun _ h => h) (fun _ h => h) ?_ s q hF rfl
  clear hF
  intro s z hF hK
  refine v_iload_n C 3 3 dX8_brings_91 rfl rfl ?_
  refine v_aload_n C 0 0 dX8_brings_92 rfl rfl ?_
  obtain ⟨p2, g1, hF⟩ := bnd hF
  refine v_gR C fu_X8_14 g1 dX8_brings_93 ?_
  refine v_iload_n C 1 1 dX8_brings_96 rfl rfl ?_
  obtain ⟨_, g3, hF⟩ := bnd hF
  obtain ⟨q4, g5, hF⟩ := bnd hF
  refine v_cVi C mw_X6_size lk_X8_142 _ (M_X6_size (by omega) (chk_k g3) g5) (chk_k g3) rfl rfl (Nat.le_of_ble_eq_true rfl) dX8_brings_97 ?_
  refine v_icmp_ge C 136 dX8_brings_100 (by decide) (fun c6 => ?_) (fun c6 => ?_)
  · have hF := ifp hF c6
    refine v_aload_n C 0 0 dX8_brings_136 rfl rfl ?_
    refine v_aload_n C 0 0 dX8_brings_137 rfl rfl ?_
    obtain ⟨p8, g7, hF⟩ := bnd hF
    refine v_gR C fu_X8_34 g7 dX8_brings_138 ?_
    obtain ⟨_, g9, hF⟩ := bnd hF
    obtain ⟨q10, g11, hF⟩ := bnd hF
    refine v_cVi C mw_X7_fines lk_X8_234 _ (M_X7_fines (by omega) (chk_k g9) g11) (chk_k g9) rfl rfl (Nat.le_of_ble_eq_true rfl) dX8_brings_141 ?_
    refine v_aload_n C 0 0 dX8_brings_144 rfl rfl ?_
    obtain ⟨p13, g12, hF⟩ := bnd hF
    refine v_gR C fu_X8_31 g12 dX8_brings_145 ?_
    obtain ⟨_, g14, hF⟩ := bnd hF
    obtain ⟨q15, g16, hF⟩ := bnd hF
    refine v_cVi C mw_X7_fines lk_X8_234 _ (M_X7_fines (by omega) (chk_k g14) g16) (chk_k g14) rfl rfl (Nat.le_of_ble_eq_true rfl) dX8_brings_148 ?_
    refine v_isub C dX8_brings_151 ?_
    obtain ⟨m18, g17, hF⟩ := bnd hF
    refine v_pI C fp_X8_80 g17 dX8_brings_152 ?_
    refine v_iload_n C 2 2 dX8_brings_155 rfl rfl ?_
    cases hF
    exact v_iretF C hq hK dX8_brings_156
  · have hF := ifn hF c6
    refine v_aload_n C 0 0 dX8_brings_103 rfl rfl ?_
    obtain ⟨p20, g19, hF⟩ := bnd hF
    refine v_gR C fu_X8_34 g19 dX8_brings_104 ?_
    obtain ⟨_, g21, hF⟩ := bnd hF
    obtain ⟨q22, g23, hF⟩ := bnd hF
    refine v_cVi C mw_X7_passNight lk_X8_227 _ (M_X7_passNight (by omega) (chk_k g21) g23) (chk_k g21) rfl rfl (Nat.le_of_ble_eq_true rfl) dX8_brings_107 ?_
    refine v_pop C dX8_brings_110 rfl ?_
    refine v_iload_n C 2 2 dX8_brings_111 rfl rfl ?_
    refine v_aload_n C 0 0 dX8_brings_112 rfl rfl ?_
    obtain ⟨p25, g24, hF⟩ := bnd hF
    refine v_gR C fu_X8_34 g24 dX8_brings_113 ?_
    refine v_aload_n C 0 0 dX8_brings_116 rfl rfl ?_
    obtain ⟨p27, g26, hF⟩ := bnd hF
    refine v_gR C fu_X8_14 g26 dX8_brings_117 ?_
    refine v_iload_n C 1 1 dX8_brings_120 rfl rfl ?_
    refine v_iload_n C 3 3 dX8_brings_121 rfl rfl ?_
    obtain ⟨_, g28, hF⟩ := bnd hF
    obtain ⟨q29, g30, hF⟩ := bnd hF
    refine v_cVi C mw_X6_get lk_X8_104 _ (M_X6_get (by omega) (chk_k g28) g30) (chk_k g28) rfl rfl (Nat.le_of_ble_eq_true rfl) dX8_brings_122 ?_
    obtain ⟨_, g31, hF⟩ := bnd hF
    obtain ⟨q32, g33, hF⟩ := bnd hF
    refine v_cVi C mw_X7_inspectBed lk_X8_231 _ (M_X7_inspectBed (by omega) (chk_k g31) g33) (chk_k g31) rfl rfl (Nat.le_of_ble_eq_true rfl) dX8_brings_125 ?_
    refine v_iadd C dX8_brings_128 ?_
    refine v_istore_n C 2 (ll' := [(2, _), (0, _), (1, _), (3, _)]) dX8_brings_129 rfl (by decide) rfl ?_
    refine v_iinc C (_ + (1 : Int32)) 3 (ll' := [(3, _), (2, _), (0, _), (1, _)]) dX8_brings_130 rfl (inc_eq (by decide)) (by decide) rfl ?_
    refine v_goto C 91 dX8_brings_133 (by decide) ?_
    refine v_sub [2, 3, 1, 0] (ll' := [(0, _), (1, _), (2, _), (3, _)]) rfl ?_
    cases hF
    exact hK
set_option maxRecDepth 20000 in
set_option maxHeartbeats 2000000 in
theorem M_X8_brings {Δ : DD} {d : Nat} {x0 : Nat} {x1 : Int32} {σ : Mem} {q : (Int32 × Mem)} (hd : 5 ≤ d) (h0 : isK 8 x0 = true) (hF : F_X8_brings x0 x1 σ = some q) : Mt Δ d yX8_brings cX8_brings 4 (some .int) [rf Δ x0, .int x1] σ (some (.int q.1)) q.2 := by
  obtain ⟨d, rfl⟩ : ∃ e, d = e + 1 := ⟨d - 1, by omega⟩
  have hd : 4 ≤ d := by omega
  refine mt_of (by decide) rfl (Nat.le_of_ble_eq_true rfl) (fun Γ C hq => ?_)
  unfold F_X8_brings at hF
  show V Δ Γ 4 0 [(0, rf Δ (x0)), (1, .int (x1))] [] σ
  refine v_aload_n C 0 0 dX8_brings_0 rfl rfl ?_
  obtain ⟨p35, g34, hF⟩ := bnd hF
  refine v_gR C fu_X8_14 g34 dX8_brings_1 ?_
  refine v_iload_n C 1 1 dX8_brings_4 rfl rfl ?_
  obtain ⟨_, g36, hF⟩ := bnd hF
  obtain ⟨q37, g38, hF⟩ := bnd hF
  refine v_cVi C mw_X6_isNumber lk_X8_124 _ (M_X6_isNumber (by omega) (chk_k g36) g38) (chk_k g36) rfl rfl (Nat.le_of_ble_eq_true rfl) dX8_brings_5 ?_
  refine v_if_ne C 13 dX8_brings_8 (by decide) (fun c39 => ?_) (fun c39 => ?_)
  · have hF := ifn hF c39
    refine v_aload_n C 0 0 dX8_brings_13 rfl rfl ?_
    obtain ⟨p41, g40, hF⟩ := bnd hF
    refine v_gR C fu_X8_31 g40 dX8_brings_14 ?_
    obtain ⟨v43, g42, hF⟩ := bnd hF
    refine v_gI C fu_X8_158 g42 dX8_brings_17 ?_
    refine v_if_ne C 26 dX8_brings_20 (by decide) (fun c44 => ?_) (fun c44 => ?_)
    · have hF := ifn hF c44
      refine v_aload_n C 0 0 dX8_brings_26 rfl rfl ?_
      obtain ⟨p46, g45, hF⟩ := bnd hF
      refine v_gR C fu_X8_14 g45 dX8_brings_27 ?_
      refine v_iload_n C 1 1 dX8_brings_30 rfl rfl ?_
      obtain ⟨_, g47, hF⟩ := bnd hF
      obtain ⟨q48, g49, hF⟩ := bnd hF
      refine v_cVi C mw_X6_stands lk_X8_131 _ (M_X6_stands (by omega) (chk_k g47) g49) (chk_k g47) rfl rfl (Nat.le_of_ble_eq_true rfl) dX8_brings_31 ?_
      refine v_if_ne C 43 dX8_brings_34 (by decide) (fun c50 => ?_) (fun c50 => ?_)
      · have hF := ifn hF c50
        refine v_aload_n C 0 0 dX8_brings_43 rfl rfl ?_
        obtain ⟨p52, g51, hF⟩ := bnd hF
        refine v_gR C fu_X8_14 g51 dX8_brings_44 ?_
        refine v_iload_n C 1 1 dX8_brings_47 rfl rfl ?_
        obtain ⟨_, g53, hF⟩ := bnd hF
        obtain ⟨q54, g55, hF⟩ := bnd hF
        refine v_cVi C mw_X6_size lk_X8_142 _ (M_X6_size (by omega) (chk_k g53) g55) (chk_k g53) rfl rfl (Nat.le_of_ble_eq_true rfl) dX8_brings_48 ?_
        refine v_bipush C (10) dX8_brings_51 (by decide) ?_
        refine v_icmp_le C 62 dX8_brings_53 (by decide) (fun c56 => ?_) (fun c56 => ?_)
        · have hF := ifp hF c56
          refine v_aload_n C 0 0 dX8_brings_62 rfl rfl ?_
          refine v_iload_n C 1 1 dX8_brings_63 rfl rfl ?_
          obtain ⟨q57, g58, hF⟩ := bnd hF
          refine v_cVi C mw_X8_isRound lk_X8_224 _ (M_X8_isRound (by omega) h0 g58) h0 rfl rfl (Nat.le_of_ble_eq_true rfl) dX8_brings_64 ?_
          refine v_if_ne C 76 dX8_brings_67 (by decide) (fun c59 => ?_) (fun c59 => ?_)
          · have hF := ifn hF c59
            refine v_aload_n C 0 0 dX8_brings_76 rfl rfl ?_
            obtain ⟨p61, g60, hF⟩ := bnd hF
            refine v_gR C fu_X8_34 g60 dX8_brings_77 ?_
            refine v_aload_n C 0 0 dX8_brings_80 rfl rfl ?_
            obtain ⟨p63, g62, hF⟩ := bnd hF
            refine v_gR C fu_X8_31 g62 dX8_brings_81 ?_
            obtain ⟨_, g64, hF⟩ := bnd hF
            obtain ⟨q65, g66, hF⟩ := bnd hF
            refine v_cVv C mw_X7_copyFrom lk_X8_151 _ (M_X7_copyFrom (by omega) (chk_k g64) g66) (chk_k g64) rfl rfl (Nat.le_of_ble_eq_true rfl) dX8_brings_84 ?_
            refine v_iconst C (0) dX8_brings_87 (by decide) ?_
            refine v_istore_n C 2 (ll' := [(2, _), (0, _), (1, _)]) dX8_brings_88 rfl (by decide) rfl ?_
            refine v_iconst C (0) dX8_brings_89 (by decide) ?_
            refine v_istore_n C 3 (ll' := [(3, _), (2, _), (0, _), (1, _)]) dX8_brings_90 rfl (by decide) rfl ?_
            refine v_sub [2, 3, 1, 0] (ll' := [(0, _), (1, _), (2, _), (3, _)]) rfl ?_
            exact W_X8_brings_91 C hq h0 hd hF
          · have hF := ifp hF c59
            refine v_aload_n C 0 0 dX8_brings_70 rfl rfl ?_
            refine v_iconst C (3) dX8_brings_71 (by decide) ?_
            obtain ⟨q67, g68, hF⟩ := bnd hF
            refine v_cVi C mw_X8_refuse lk_X8_128 _ (M_X8_refuse (by omega) h0 g68) h0 rfl rfl (Nat.le_of_ble_eq_true rfl) dX8_brings_72 ?_
            exact v_iretF C hq (Option.some.inj hF) dX8_brings_75
        · have hF := ifn hF c56
          refine v_aload_n C 0 0 dX8_brings_56 rfl rfl ?_
          refine v_iconst C (5) dX8_brings_57 (by decide) ?_
          obtain ⟨q69, g70, hF⟩ := bnd hF
          refine v_cVi C mw_X8_refuse lk_X8_128 _ (M_X8_refuse (by omega) h0 g70) h0 rfl rfl (Nat.le_of_ble_eq_true rfl) dX8_brings_58 ?_
          exact v_iretF C hq (Option.some.inj hF) dX8_brings_61
      · have hF := ifp hF c50
        refine v_aload_n C 0 0 dX8_brings_37 rfl rfl ?_
        refine v_iconst C (1) dX8_brings_38 (by decide) ?_
        obtain ⟨q71, g72, hF⟩ := bnd hF
        refine v_cVi C mw_X8_refuse lk_X8_128 _ (M_X8_refuse (by omega) h0 g72) h0 rfl rfl (Nat.le_of_ble_eq_true rfl) dX8_brings_39 ?_
        exact v_iretF C hq (Option.some.inj hF) dX8_brings_42
    · have hF := ifp hF c44
      refine v_bipush C (-4) dX8_brings_23 (by decide) ?_
      exact v_iretF C hq (Option.some.inj hF) dX8_brings_25
  · have hF := ifp hF c39
    refine v_iconst C (-1) dX8_brings_11 (by decide) ?_
    exact v_iretF C hq (Option.some.inj hF) dX8_brings_12
set_option maxRecDepth 20000 in
set_option maxHeartbeats 2000000 in
theorem M_X8_marry {Δ : DD} {d : Nat} {x0 : Nat} {x1 : Int32} {σ : Mem} {q : (Int32 × Mem)} (hd : 24 ≤ d) (h0 : isK 8 x0 = true) (hF : F_X8_marry x0 x1 σ = some q) : Mt Δ d yX8_marry cX8_marry 3 (some .int) [rf Δ x0, .int x1] σ (some (.int q.1)) q.2 := by
  obtain ⟨d, rfl⟩ : ∃ e, d = e + 1 := ⟨d - 1, by omega⟩
  have hd : 23 ≤ d := by omega
  refine mt_of (by decide) rfl (Nat.le_of_ble_eq_true rfl) (fun Γ C hq => ?_)
  unfold F_X8_marry at hF
  show V Δ Γ 3 0 [(0, rf Δ (x0)), (1, .int (x1))] [] σ
  refine v_aload_n C 0 0 dX8_marry_0 rfl rfl ?_
  obtain ⟨p2, g1, hF⟩ := bnd hF
  refine v_gR C fu_X8_14 g1 dX8_marry_1 ?_
  refine v_iload_n C 1 1 dX8_marry_4 rfl rfl ?_
  obtain ⟨_, g3, hF⟩ := bnd hF
  obtain ⟨q4, g5, hF⟩ := bnd hF
  refine v_cVi C mw_X6_isNumber lk_X8_124 _ (M_X6_isNumber (by omega) (chk_k g3) g5) (chk_k g3) rfl rfl (Nat.le_of_ble_eq_true rfl) dX8_marry_5 ?_
  refine v_if_ne C 13 dX8_marry_8 (by decide) (fun c6 => ?_) (fun c6 => ?_)
  · have hF := ifn hF c6
    refine v_aload_n C 0 0 dX8_marry_13 rfl rfl ?_
    obtain ⟨p8, g7, hF⟩ := bnd hF
    refine v_gR C fu_X8_31 g7 dX8_marry_14 ?_
    obtain ⟨v10, g9, hF⟩ := bnd hF
    refine v_gI C fu_X8_158 g9 dX8_marry_17 ?_
    refine v_if_ne C 26 dX8_marry_20 (by decide) (fun c11 => ?_) (fun c11 => ?_)
    · have hF := ifn hF c11
      refine v_aload_n C 0 0 dX8_marry_26 rfl rfl ?_
      obtain ⟨p13, g12, hF⟩ := bnd hF
      refine v_gR C fu_X8_62 g12 dX8_marry_27 ?_
      refine v_aload_n C 0 0 dX8_marry_30 rfl rfl ?_
      obtain ⟨p15, g14, hF⟩ := bnd hF
      refine v_gR C fu_X8_31 g14 dX8_marry_31 ?_
      obtain ⟨_, g16, hF⟩ := bnd hF
      obtain ⟨q17, g18, hF⟩ := bnd hF
      refine v_cVi C mw_X3_fewestCrossing lk_X8_237 _ (M_X3_fewestCrossing (by omega) (chk_k g16) g18) (chk_k g16) rfl rfl (Nat.le_of_ble_eq_true rfl) dX8_marry_34 ?_
      refine v_istore_n C 2 (ll' := [(2, _), (0, _), (1, _)]) dX8_marry_37 rfl (by decide) rfl ?_
      refine v_aload_n C 0 1 dX8_marry_38 rfl rfl ?_
      obtain ⟨p20, g19, hF⟩ := bnd hF
      refine v_gR C fu_X8_14 g19 dX8_marry_39 ?_
      refine v_iload_n C 1 2 dX8_marry_42 rfl rfl ?_
      refine v_aload_n C 0 1 dX8_marry_43 rfl rfl ?_
      obtain ⟨p22, g21, hF⟩ := bnd hF
      refine v_gR C fu_X8_31 g21 dX8_marry_44 ?_
      obtain ⟨v24, g23, hF⟩ := bnd hF
      refine v_gI C fu_X8_158 g23 dX8_marry_47 ?_
      refine v_aload_n C 0 1 dX8_marry_50 rfl rfl ?_
      obtain ⟨p26, g25, hF⟩ := bnd hF
      refine v_gR C fu_X8_62 g25 dX8_marry_51 ?_
      obtain ⟨p28, g27, hF⟩ := bnd hF
      refine v_gR C fu_X8_241 g27 dX8_marry_54 ?_
      obtain ⟨_, g29, hF⟩ := bnd hF
      obtain ⟨q30, g31, hF⟩ := bnd hF
      refine v_cVv C mw_X6_makeOf lk_X8_197 _ (M_X6_makeOf (by omega) (chk_k g29) g31) (chk_k g29) rfl rfl (Nat.le_of_ble_eq_true rfl) dX8_marry_57 ?_
      refine v_iload_n C 2 0 dX8_marry_60 rfl rfl ?_
      exact v_iretF C hq (Option.some.inj hF) dX8_marry_61
    · have hF := ifp hF c11
      refine v_bipush C (-4) dX8_marry_23 (by decide) ?_
      exact v_iretF C hq (Option.some.inj hF) dX8_marry_25
  · have hF := ifp hF c6
    refine v_iconst C (-1) dX8_marry_11 (by decide) ?_
    exact v_iretF C hq (Option.some.inj hF) dX8_marry_12
set_option maxRecDepth 20000 in
set_option maxHeartbeats 2000000 in
theorem M_X8_takePairs {Δ : DD} {d : Nat} {x0 : Nat} {x1 : Int32} {x2 : Int32} {σ : Mem} {q : (Int32 × Mem)} (hd : 4 ≤ d) (h0 : isK 8 x0 = true) (hF : F_X8_takePairs x0 x1 x2 σ = some q) : Mt Δ d yX8_takePairs cX8_takePairs 4 (some .int) [rf Δ x0, .int x1, .int x2] σ (some (.int q.1)) q.2 := by
  obtain ⟨d, rfl⟩ : ∃ e, d = e + 1 := ⟨d - 1, by omega⟩
  have hd : 3 ≤ d := by omega
  refine mt_of (by decide) rfl (Nat.le_of_ble_eq_true rfl) (fun Γ C hq => ?_)
  unfold F_X8_takePairs at hF
  show V Δ Γ 4 0 [(0, rf Δ (x0)), (1, .int (x1)), (2, .int (x2))] [] σ
  refine v_aload_n C 0 0 dX8_takePairs_0 rfl rfl ?_
  obtain ⟨p2, g1, hF⟩ := bnd hF
  refine v_gR C fu_X8_31 g1 dX8_takePairs_1 ?_
  refine v_iload_n C 1 1 dX8_takePairs_4 rfl rfl ?_
  obtain ⟨_, g3, hF⟩ := bnd hF
  obtain ⟨q4, g5, hF⟩ := bnd hF
  refine v_cVi C mw_X7_has lk_X8_161 _ (M_X7_has (by omega) (chk_k g3) g5) (chk_k g3) rfl rfl (Nat.le_of_ble_eq_true rfl) dX8_takePairs_5 ?_
  refine v_if_ne C 13 dX8_takePairs_8 (by decide) (fun c6 => ?_) (fun c6 => ?_)
  · have hF := ifn hF c6
    refine v_aload_n C 0 0 dX8_takePairs_13 rfl rfl ?_
    refine v_aload_n C 0 0 dX8_takePairs_14 rfl rfl ?_
    obtain ⟨p8, g7, hF⟩ := bnd hF
    refine v_gR C fu_X8_14 g7 dX8_takePairs_15 ?_
    refine v_iload_n C 2 2 dX8_takePairs_18 rfl rfl ?_
    obtain ⟨q9, g10, hF⟩ := bnd hF
    refine v_cVi C mw_X8_refusalOfMissing lk_X8_116 _ (M_X8_refusalOfMissing (by omega) h0 g10) h0 rfl rfl (Nat.le_of_ble_eq_true rfl) dX8_takePairs_19 ?_
    refine v_istore_n C 3 (ll' := [(3, _), (0, _), (1, _), (2, _)]) dX8_takePairs_22 rfl (by decide) rfl ?_
    refine v_iload_n C 3 0 dX8_takePairs_23 rfl rfl ?_
    refine v_if_eq C 29 dX8_takePairs_24 (by decide) (fun c11 => ?_) (fun c11 => ?_)
    · have hF := ifp hF c11
      refine v_aload_n C 0 1 dX8_takePairs_29 rfl rfl ?_
      obtain ⟨p13, g12, hF⟩ := bnd hF
      refine v_gR C fu_X8_14 g12 dX8_takePairs_30 ?_
      refine v_iload_n C 2 3 dX8_takePairs_33 rfl rfl ?_
      obtain ⟨_, g14, hF⟩ := bnd hF
      obtain ⟨q15, g16, hF⟩ := bnd hF
      refine v_cVi C mw_X6_size lk_X8_142 _ (M_X6_size (by omega) (chk_k g14) g16) (chk_k g14) rfl rfl (Nat.le_of_ble_eq_true rfl) dX8_takePairs_34 ?_
      refine v_iconst C (2) dX8_takePairs_37 (by decide) ?_
      refine v_irem C dX8_takePairs_38 (by decide) ?_
      refine v_if_eq C 48 dX8_takePairs_39 (by decide) (fun c17 => ?_) (fun c17 => ?_)
      · have hF := ifp hF c17
        refine v_aload_n C 0 1 dX8_takePairs_48 rfl rfl ?_
        obtain ⟨p19, g18, hF⟩ := bnd hF
        refine v_gR C fu_X8_69 g18 dX8_takePairs_49 ?_
        refine v_aload_n C 0 1 dX8_takePairs_52 rfl rfl ?_
        obtain ⟨p21, g20, hF⟩ := bnd hF
        refine v_gR C fu_X8_14 g20 dX8_takePairs_53 ?_
        refine v_iload_n C 2 3 dX8_takePairs_56 rfl rfl ?_
        obtain ⟨_, g22, hF⟩ := bnd hF
        obtain ⟨q23, g24, hF⟩ := bnd hF
        refine v_cVi C mw_X0_take lk_X8_329 _ (M_X0_take (by omega) (chk_k g22) g24) (chk_k g22) rfl rfl (Nat.le_of_ble_eq_true rfl) dX8_takePairs_57 ?_
        refine v_if_eq C 67 dX8_takePairs_60 (by decide) (fun c25 => ?_) (fun c25 => ?_)
        · have hF := ifp hF c25
          refine v_aload_n C 0 1 dX8_takePairs_67 rfl rfl ?_
          refine v_iconst C (3) dX8_takePairs_68 (by decide) ?_
          obtain ⟨q26, g27, hF⟩ := bnd hF
          refine v_cVi C mw_X8_refuse lk_X8_128 _ (M_X8_refuse (by omega) h0 g27) h0 rfl rfl (Nat.le_of_ble_eq_true rfl) dX8_takePairs_69 ?_
          exact v_iretF C hq (Option.some.inj hF) dX8_takePairs_72
        · have hF := ifn hF c25
          refine v_iconst C (0) dX8_takePairs_63 (by decide) ?_
          refine v_goto C 72 dX8_takePairs_64 (by decide) ?_
          exact v_iretF C hq (Option.some.inj hF) dX8_takePairs_72
      · have hF := ifn hF c17
        refine v_aload_n C 0 1 dX8_takePairs_42 rfl rfl ?_
        refine v_iconst C (5) dX8_takePairs_43 (by decide) ?_
        obtain ⟨q28, g29, hF⟩ := bnd hF
        refine v_cVi C mw_X8_refuse lk_X8_128 _ (M_X8_refuse (by omega) h0 g29) h0 rfl rfl (Nat.le_of_ble_eq_true rfl) dX8_takePairs_44 ?_
        exact v_iretF C hq (Option.some.inj hF) dX8_takePairs_47
    · have hF := ifn hF c11
      refine v_iload_n C 3 0 dX8_takePairs_27 rfl rfl ?_
      exact v_iretF C hq (Option.some.inj hF) dX8_takePairs_28
  · have hF := ifp hF c6
    refine v_iconst C (-1) dX8_takePairs_11 (by decide) ?_
    exact v_iretF C hq (Option.some.inj hF) dX8_takePairs_12
set_option maxRecDepth 20000 in
set_option maxHeartbeats 2000000 in
theorem M_X8_thicks {Δ : DD} {d : Nat} {x0 : Nat} {x1 : Int32} {x2 : Int32} {σ : Mem} {q : (Int32 × Mem)} (hd : 6 ≤ d) (h0 : isK 8 x0 = true) (hF : F_X8_thicks x0 x1 x2 σ = some q) : Mt Δ d yX8_thicks cX8_thicks 4 (some .int) [rf Δ x0, .int x1, .int x2] σ (some (.int q.1)) q.2 := by
  obtain ⟨d, rfl⟩ : ∃ e, d = e + 1 := ⟨d - 1, by omega⟩
  have hd : 5 ≤ d := by omega
  refine mt_of (by decide) rfl (Nat.le_of_ble_eq_true rfl) (fun Γ C hq => ?_)
  unfold F_X8_thicks at hF
  show V Δ Γ 4 0 [(0, rf Δ (x0)), (1, .int (x1)), (2, .int (x2))] [] σ
  refine v_aload_n C 0 0 dX8_thicks_0 rfl rfl ?_
  refine v_iload_n C 1 1 dX8_thicks_1 rfl rfl ?_
  refine v_iload_n C 2 2 dX8_thicks_2 rfl rfl ?_
  obtain ⟨q1, g2, hF⟩ := bnd hF
  refine v_cVi C mw_X8_takePairs lk_X8_245 _ (M_X8_takePairs (by omega) h0 g2) h0 rfl rfl (Nat.le_of_ble_eq_true rfl) dX8_thicks_3 ?_
  refine v_istore_n C 3 (ll' := [(3, _), (0, _), (1, _), (2, _)]) dX8_thicks_6 rfl (by decide) rfl ?_
  refine v_iload_n C 3 0 dX8_thicks_7 rfl rfl ?_
  refine v_if_eq C 15 dX8_thicks_8 (by decide) (fun c3 => ?_) (fun c3 => ?_)
  · have hF := ifp hF c3
    refine v_aload_n C 0 1 dX8_thicks_15 rfl rfl ?_
    obtain ⟨p5, g4, hF⟩ := bnd hF
    refine v_gR C fu_X8_69 g4 dX8_thicks_16 ?_
    refine v_aload_n C 0 1 dX8_thicks_19 rfl rfl ?_
    obtain ⟨p7, g6, hF⟩ := bnd hF
    refine v_gR C fu_X8_31 g6 dX8_thicks_20 ?_
    refine v_iload_n C 1 2 dX8_thicks_23 rfl rfl ?_
    refine v_aload_n C 0 1 dX8_thicks_24 rfl rfl ?_
    obtain ⟨p9, g8, hF⟩ := bnd hF
    refine v_gR C fu_X8_31 g8 dX8_thicks_25 ?_
    refine v_iload_n C 1 2 dX8_thicks_28 rfl rfl ?_
    obtain ⟨_, g10, hF⟩ := bnd hF
    obtain ⟨q11, g12, hF⟩ := bnd hF
    refine v_cVi C mw_X7_kindOf lk_X8_167 _ (M_X7_kindOf (by omega) (chk_k g10) g12) (chk_k g10) rfl rfl (Nat.le_of_ble_eq_true rfl) dX8_thicks_29 ?_
    obtain ⟨_, g13, hF⟩ := bnd hF
    obtain ⟨q14, g15, hF⟩ := bnd hF
    refine v_cVi C mw_X0_thicksFitting lk_X8_248 _ (M_X0_thicksFitting (by omega) (chk_k g13) g15) (chk_k g13) rfl rfl (Nat.le_of_ble_eq_true rfl) dX8_thicks_32 ?_
    exact v_iretF C hq (Option.some.inj hF) dX8_thicks_35
  · have hF := ifn hF c3
    refine v_iload_n C 3 0 dX8_thicks_11 rfl rfl ?_
    refine v_goto C 35 dX8_thicks_12 (by decide) ?_
    exact v_iretF C hq (Option.some.inj hF) dX8_thicks_35
set_option maxRecDepth 20000 in
set_option maxHeartbeats 2000000 in
theorem M_X8_kinds {Δ : DD} {d : Nat} {x0 : Nat} {x1 : Int32} {x2 : Int32} {σ : Mem} {q : (Int32 × Mem)} (hd : 6 ≤ d) (h0 : isK 8 x0 = true) (hF : F_X8_kinds x0 x1 x2 σ = some q) : Mt Δ d yX8_kinds cX8_kinds 4 (some .int) [rf Δ x0, .int x1, .int x2] σ (some (.int q.1)) q.2 := by
  obtain ⟨d, rfl⟩ : ∃ e, d = e + 1 := ⟨d - 1, by omega⟩
  have hd : 5 ≤ d := by omega
  refine mt_of (by decide) rfl (Nat.le_of_ble_eq_true rfl) (fun Γ C hq => ?_)
  unfold F_X8_kinds at hF
  show V Δ Γ 4 0 [(0, rf Δ (x0)), (1, .int (x1)), (2, .int (x2))] [] σ
  refine v_aload_n C 0 0 dX8_kinds_0 rfl rfl ?_
  refine v_iload_n C 1 1 dX8_kinds_1 rfl rfl ?_
  refine v_iload_n C 2 2 dX8_kinds_2 rfl rfl ?_
  obtain ⟨q1, g2, hF⟩ := bnd hF
  refine v_cVi C mw_X8_takePairs lk_X8_245 _ (M_X8_takePairs (by omega) h0 g2) h0 rfl rfl (Nat.le_of_ble_eq_true rfl) dX8_kinds_3 ?_
  refine v_istore_n C 3 (ll' := [(3, _), (0, _), (1, _), (2, _)]) dX8_kinds_6 rfl (by decide) rfl ?_
  refine v_iload_n C 3 0 dX8_kinds_7 rfl rfl ?_
  refine v_if_eq C 15 dX8_kinds_8 (by decide) (fun c3 => ?_) (fun c3 => ?_)
  · have hF := ifp hF c3
    refine v_aload_n C 0 1 dX8_kinds_15 rfl rfl ?_
    obtain ⟨p5, g4, hF⟩ := bnd hF
    refine v_gR C fu_X8_69 g4 dX8_kinds_16 ?_
    refine v_aload_n C 0 1 dX8_kinds_19 rfl rfl ?_
    obtain ⟨p7, g6, hF⟩ := bnd hF
    refine v_gR C fu_X8_31 g6 dX8_kinds_20 ?_
    refine v_iload_n C 1 2 dX8_kinds_23 rfl rfl ?_
    refine v_aload_n C 0 1 dX8_kinds_24 rfl rfl ?_
    obtain ⟨p9, g8, hF⟩ := bnd hF
    refine v_gR C fu_X8_31 g8 dX8_kinds_25 ?_
    refine v_iload_n C 1 2 dX8_kinds_28 rfl rfl ?_
    obtain ⟨_, g10, hF⟩ := bnd hF
    obtain ⟨q11, g12, hF⟩ := bnd hF
    refine v_cVi C mw_X7_thickOf lk_X8_174 _ (M_X7_thickOf (by omega) (chk_k g10) g12) (chk_k g10) rfl rfl (Nat.le_of_ble_eq_true rfl) dX8_kinds_29 ?_
    obtain ⟨_, g13, hF⟩ := bnd hF
    obtain ⟨q14, g15, hF⟩ := bnd hF
    refine v_cVi C mw_X0_kindsFitting lk_X8_252 _ (M_X0_kindsFitting (by omega) (chk_k g13) g15) (chk_k g13) rfl rfl (Nat.le_of_ble_eq_true rfl) dX8_kinds_32 ?_
    exact v_iretF C hq (Option.some.inj hF) dX8_kinds_35
  · have hF := ifn hF c3
    refine v_iload_n C 3 0 dX8_kinds_11 rfl rfl ?_
    refine v_goto C 35 dX8_kinds_12 (by decide) ?_
    exact v_iretF C hq (Option.some.inj hF) dX8_kinds_35
set_option maxRecDepth 20000 in
set_option maxHeartbeats 2000000 in
theorem M_X8_test {Δ : DD} {d : Nat} {x0 : Nat} {x1 : Int32} {x2 : Int32} {σ : Mem} {q : (Int32 × Mem)} (hd : 7 ≤ d) (h0 : isK 8 x0 = true) (hF : F_X8_test x0 x1 x2 σ = some q) : Mt Δ d yX8_test cX8_test 5 (some .int) [rf Δ x0, .int x1, .int x2] σ (some (.int q.1)) q.2 := by
  obtain ⟨d, rfl⟩ : ∃ e, d = e + 1 := ⟨d - 1, by omega⟩
  have hd : 6 ≤ d := by omega
  refine mt_of (by decide) rfl (Nat.le_of_ble_eq_true rfl) (fun Γ C hq => ?_)
  unfold F_X8_test at hF
  show V Δ Γ 5 0 [(0, rf Δ (x0)), (1, .int (x1)), (2, .int (x2))] [] σ
  refine v_aload_n C 0 0 dX8_test_0 rfl rfl ?_
  refine v_iload_n C 1 1 dX8_test_1 rfl rfl ?_
  refine v_iload_n C 2 2 dX8_test_2 rfl rfl ?_
  obtain ⟨q1, g2, hF⟩ := bnd hF
  refine v_cVi C mw_X8_takePairs lk_X8_245 _ (M_X8_takePairs (by omega) h0 g2) h0 rfl rfl (Nat.le_of_ble_eq_true rfl) dX8_test_3 ?_
  refine v_istore_n C 3 (ll' := [(3, _), (0, _), (1, _), (2, _)]) dX8_test_6 rfl (by decide) rfl ?_
  refine v_iload_n C 3 0 dX8_test_7 rfl rfl ?_
  refine v_if_eq C 13 dX8_test_8 (by decide) (fun c3 => ?_) (fun c3 => ?_)
  · have hF := ifp hF c3
    refine v_aload_n C 0 1 dX8_test_13 rfl rfl ?_
    obtain ⟨p5, g4, hF⟩ := bnd hF
    refine v_gR C fu_X8_69 g4 dX8_test_14 ?_
    refine v_aload_n C 0 1 dX8_test_17 rfl rfl ?_
    obtain ⟨p7, g6, hF⟩ := bnd hF
    refine v_gR C fu_X8_31 g6 dX8_test_18 ?_
    refine v_iload_n C 1 2 dX8_test_21 rfl rfl ?_
    obtain ⟨_, g8, hF⟩ := bnd hF
    obtain ⟨q9, g10, hF⟩ := bnd hF
    refine v_cVi C mw_X0_tellingNight lk_X8_255 _ (M_X0_tellingNight (by omega) (chk_k g8) g10) (chk_k g8) rfl rfl (Nat.le_of_ble_eq_true rfl) dX8_test_22 ?_
    refine v_istore C 4 (ll' := [(4, _), (3, _), (0, _), (1, _), (2, _)]) dX8_test_25 (by decide) rfl ?_
    refine v_iload C 4 0 dX8_test_27 rfl ?_
    refine v_bipush C (-9) dX8_test_29 (by decide) ?_
    refine v_icmp_eq C 45 dX8_test_31 (by decide) (fun c11 => ?_) (fun c11 => ?_)
    · have hF := ifp hF c11
      refine v_iload C 4 0 dX8_test_45 rfl ?_
      exact v_iretF C hq (Option.some.inj hF) dX8_test_47
    · have hF := ifn hF c11
      refine v_aload_n C 0 2 dX8_test_34 rfl rfl ?_
      refine v_aload_n C 0 2 dX8_test_35 rfl rfl ?_
      obtain ⟨p13, g12, hF⟩ := bnd hF
      refine v_gR C fu_X8_69 g12 dX8_test_36 ?_
      obtain ⟨v15, g14, hF⟩ := bnd hF
      refine v_gI C fu_X8_258 g14 dX8_test_39 ?_
      obtain ⟨m17, g16, hF⟩ := bnd hF
      refine v_pI C fp_X8_80 g16 dX8_test_42 ?_
      refine v_iload C 4 0 dX8_test_45 rfl ?_
      exact v_iretF C hq (Option.some.inj hF) dX8_test_47
  · have hF := ifn hF c3
    refine v_iload_n C 3 0 dX8_test_11 rfl rfl ?_
    exact v_iretF C hq (Option.some.inj hF) dX8_test_12
set_option maxRecDepth 20000 in
set_option maxHeartbeats 2000000 in
theorem M_X8_duel {Δ : DD} {d : Nat} {x0 : Nat} {x1 : Int32} {σ : Mem} {q : (Int32 × Mem)} (hd : 24 ≤ d) (h0 : isK 8 x0 = true) (hF : F_X8_duel x0 x1 σ = some q) : Mt Δ d yX8_duel cX8_duel 2 (some .int) [rf Δ x0, .int x1] σ (some (.int q.1)) q.2 := by
  obtain ⟨d, rfl⟩ : ∃ e, d = e + 1 := ⟨d - 1, by omega⟩
  have hd : 23 ≤ d := by omega
  refine mt_of (by decide) rfl (Nat.le_of_ble_eq_true rfl) (fun Γ C hq => ?_)
  unfold F_X8_duel at hF
  show V Δ Γ 2 0 [(0, rf Δ (x0)), (1, .int (x1))] [] σ
  refine v_iload_n C 1 1 dX8_duel_0 rfl rfl ?_
  refine v_if_lt C 9 dX8_duel_1 (by decide) (fun c1 => ?_) (fun c1 => ?_)
  · have hF := ifp hF c1
    refine v_iconst C (-1) dX8_duel_9 (by decide) ?_
    exact v_iretF C hq (Option.some.inj hF) dX8_duel_10
  · have hF := ifn hF c1
    refine v_iload_n C 1 1 dX8_duel_4 rfl rfl ?_
    refine v_iconst C (4) dX8_duel_5 (by decide) ?_
    refine v_icmp_le C 11 dX8_duel_6 (by decide) (fun c2 => ?_) (fun c2 => ?_)
    · have hF := ifp hF c2
      refine v_aload_n C 0 0 dX8_duel_11 rfl rfl ?_
      obtain ⟨p4, g3, hF⟩ := bnd hF
      refine v_gR C fu_X8_31 g3 dX8_duel_12 ?_
      obtain ⟨v6, g5, hF⟩ := bnd hF
      refine v_gI C fu_X8_158 g5 dX8_duel_15 ?_
      refine v_if_ne C 26 dX8_duel_18 (by decide) (fun c7 => ?_) (fun c7 => ?_)
      · have hF := ifn hF c7
        refine v_aload_n C 0 0 dX8_duel_26 rfl rfl ?_
        obtain ⟨p9, g8, hF⟩ := bnd hF
        refine v_gR C fu_X8_76 g8 dX8_duel_27 ?_
        refine v_aload_n C 0 0 dX8_duel_30 rfl rfl ?_
        obtain ⟨p11, g10, hF⟩ := bnd hF
        refine v_gR C fu_X8_31 g10 dX8_duel_31 ?_
        refine v_iconst C (0) dX8_duel_34 (by decide) ?_
        refine v_iload_n C 1 1 dX8_duel_35 rfl rfl ?_
        obtain ⟨_, g12, hF⟩ := bnd hF
        obtain ⟨q13, g14, hF⟩ := bnd hF
        refine v_cVi C mw_X1_foundFrom lk_X8_261 _ (M_X1_foundFrom 8 (by omega) (chk_k g12) g14) (chk_k g12) rfl rfl (Nat.le_of_ble_eq_true rfl) dX8_duel_36 ?_
        exact v_iretF C hq (Option.some.inj hF) dX8_duel_39
      · have hF := ifp hF c7
        refine v_bipush C (-4) dX8_duel_21 (by decide) ?_
        refine v_goto C 39 dX8_duel_23 (by decide) ?_
        exact v_iretF C hq (Option.some.inj hF) dX8_duel_39
    · have hF := ifn hF c2
      refine v_iconst C (-1) dX8_duel_9 (by decide) ?_
      exact v_iretF C hq (Option.some.inj hF) dX8_duel_10
set_option maxRecDepth 20000 in
set_option maxHeartbeats 2000000 in
theorem M_J6_bitCount_0f7a4 {Δ : DD} {d : Nat} {x0 : Int32} {σ : Mem} {q : Int32} (hd : 1 ≤ d) (hF : F_J6_bitCount_0f7a4 x0 σ = some q) : Mt Δ d yJ6_bitCount_0f7a4 cJ6_bitCount_0f7a4 1 (some .int) [.int x0] σ (some (.int q)) σ := by
  obtain ⟨d, rfl⟩ : ∃ e, d = e + 1 := ⟨d - 1, by omega⟩
  have hd : 0 ≤ d := by omega
  refine mt_of (by decide) rfl (Nat.le_of_ble_eq_true rfl) (fun Γ C hq => ?_)
  unfold F_J6_bitCount_0f7a4 at hF
  show V Δ Γ 1 0 [(0, .int (x0))] [] σ
  refine v_iload_n C 0 0 dJ6_bitCount_0f7a4_0 rfl rfl ?_
  refine v_iload_n C 0 0 dJ6_bitCount_0f7a4_1 rfl rfl ?_
  refine v_iconst C (1) dJ6_bitCount_0f7a4_2 (by decide) ?_
  refine v_iushr C dJ6_bitCount_0f7a4_3 ?_
  refine v_ldcw C (1431655765) kc_J6_265 dJ6_bitCount_0f7a4_4 ?_
  refine v_iand C dJ6_bitCount_0f7a4_7 ?_
  refine v_isub C dJ6_bitCount_0f7a4_8 ?_
  refine v_istore_n C 0 (ll' := [(0, _)]) dJ6_bitCount_0f7a4_9 rfl (by decide) rfl ?_
  refine v_iload_n C 0 0 dJ6_bitCount_0f7a4_10 rfl rfl ?_
  refine v_ldcw C (858993459) kc_J6_266 dJ6_bitCount_0f7a4_11 ?_
  refine v_iand C dJ6_bitCount_0f7a4_14 ?_
  refine v_iload_n C 0 0 dJ6_bitCount_0f7a4_15 rfl rfl ?_
  refine v_iconst C (2) dJ6_bitCount_0f7a4_16 (by decide) ?_
  refine v_iushr C dJ6_bitCount_0f7a4_17 ?_
  refine v_ldcw C (858993459) kc_J6_266 dJ6_bitCount_0f7a4_18 ?_
  refine v_iand C dJ6_bitCount_0f7a4_21 ?_
  refine v_iadd C dJ6_bitCount_0f7a4_22 ?_
  refine v_istore_n C 0 (ll' := [(0, _)]) dJ6_bitCount_0f7a4_23 rfl (by decide) rfl ?_
  refine v_iload_n C 0 0 dJ6_bitCount_0f7a4_24 rfl rfl ?_
  refine v_iload_n C 0 0 dJ6_bitCount_0f7a4_25 rfl rfl ?_
  refine v_iconst C (4) dJ6_bitCount_0f7a4_26 (by decide) ?_
  refine v_iushr C dJ6_bitCount_0f7a4_27 ?_
  refine v_iadd C dJ6_bitCount_0f7a4_28 ?_
  refine v_ldcw C (252645135) kc_J6_267 dJ6_bitCount_0f7a4_29 ?_
  refine v_iand C dJ6_bitCount_0f7a4_32 ?_
  refine v_istore_n C 0 (ll' := [(0, _)]) dJ6_bitCount_0f7a4_33 rfl (by decide) rfl ?_
  refine v_iload_n C 0 0 dJ6_bitCount_0f7a4_34 rfl rfl ?_
  refine v_iload_n C 0 0 dJ6_bitCount_0f7a4_35 rfl rfl ?_
  refine v_bipush C (8) dJ6_bitCount_0f7a4_36 (by decide) ?_
  refine v_iushr C dJ6_bitCount_0f7a4_38 ?_
  refine v_iadd C dJ6_bitCount_0f7a4_39 ?_
  refine v_istore_n C 0 (ll' := [(0, _)]) dJ6_bitCount_0f7a4_40 rfl (by decide) rfl ?_
  refine v_iload_n C 0 0 dJ6_bitCount_0f7a4_41 rfl rfl ?_
  refine v_iload_n C 0 0 dJ6_bitCount_0f7a4_42 rfl rfl ?_
  refine v_bipush C (16) dJ6_bitCount_0f7a4_43 (by decide) ?_
  refine v_iushr C dJ6_bitCount_0f7a4_45 ?_
  refine v_iadd C dJ6_bitCount_0f7a4_46 ?_
  refine v_istore_n C 0 (ll' := [(0, _)]) dJ6_bitCount_0f7a4_47 rfl (by decide) rfl ?_
  refine v_iload_n C 0 0 dJ6_bitCount_0f7a4_48 rfl rfl ?_
  refine v_bipush C (63) dJ6_bitCount_0f7a4_49 (by decide) ?_
  refine v_iand C dJ6_bitCount_0f7a4_51 ?_
  exact v_iretP C hq (Option.some.inj hF) dJ6_bitCount_0f7a4_52
def K_X8_power_5 (Δ : DD) (Γ : GG) (q : Int64) (x0 : Int32) (x1 : Int32) (σ : Mem) (y : (Int64 × Int32) ⊕ Int64) : Prop := match y with
  | .inl s => V Δ Γ 5 5 [(0, .int (x0)), (1, .int (x1)), (2, .long (s.1)), (4, .int (s.2))] [] σ
  | .inr t => (t = q)
set_option maxRecDepth 20000 in
set_option maxHeartbeats 2000000 in
theorem W_X8_power_5 {Δ : DD} {Γ : GG} {d : Nat} {q : Int64} {x0 : Int32} {x1 : Int32} {σ : Mem} (C : Cx Δ Γ RX8 cX8_power 5 d (some .long)) (hq : RetQ Δ Γ (some (.long q)) σ) (hd : 0 ≤ d) {s : Int64 × Int32} (hF : F_X8_power_5 x0 x1 σ s = some q) : V Δ Γ 5 5 [(0, .int (x0)), (1, .int (x1)), (2, .long (s.1)), (4, .int (s.2))] [] σ := by
  have hF : F_X8_power_5 x0 x1 σ s = some q := hF
  refine lp_V (W := fun (s : Int64 × Int32) => V Δ Γ 5 5 [(0, .int (x0)), (1, .int (x1)), (2, .long (s.1)), (4, .int (s.2))] [] σ) (K := fun t => t = q) (K' := K_X8_power_5 Δ Γ q x0 x1 σ) (fun _ h => h) (fun _ h => h) ?_ s q hF rfl
  clear hF
  intro s z hF hK
  refine v_iload C 4 3 dX8_power_5 rfl ?_
  refine v_iload_n C 1 1 dX8_power_7 rfl rfl ?_
  refine v_icmp_ge C 22 dX8_power_8 (by decide) (fun c1 => ?_) (fun c1 => ?_)
  · have hF := ifp hF c1
    refine v_lload_n C 2 2 dX8_power_22 rfl rfl ?_
    cases hF
    exact v_lretP C hq hK dX8_power_23
  · have hF := ifn hF c1
    refine v_lload_n C 2 2 dX8_power_11 rfl rfl ?_
    refine v_iload_n C 0 0 dX8_power_12 rfl rfl ?_
    refine v_i2l C dX8_power_13 ?_
    refine v_lmul C dX8_power_14 ?_
    refine v_lstore_n C 2 (ll' := [(2, _), (0, _), (1, _), (4, _)]) dX8_power_15 rfl (by decide) rfl ?_
    refine v_iinc C (_ + (1 : Int32)) 3 (ll' := [(4, _), (2, _), (0, _), (1, _)]) dX8_power_16 rfl (inc_eq (by decide)) (by decide) rfl ?_
    refine v_goto C 5 dX8_power_19 (by decide) ?_
    refine v_sub [2, 3, 1, 0] (ll' := [(0, _), (1, _), (2, _), (4, _)]) rfl ?_
    cases hF
    exact hK
set_option maxRecDepth 20000 in
set_option maxHeartbeats 2000000 in
theorem M_X8_power {Δ : DD} {d : Nat} {x0 : Int32} {x1 : Int32} {σ : Mem} {q : Int64} (hd : 1 ≤ d) (hF : F_X8_power x0 x1 σ = some q) : Mt Δ d yX8_power cX8_power 5 (some .long) [.int x0, .int x1] σ (some (.long q)) σ := by
  obtain ⟨d, rfl⟩ : ∃ e, d = e + 1 := ⟨d - 1, by omega⟩
  have hd : 0 ≤ d := by omega
  refine mt_of (by decide) rfl (Nat.le_of_ble_eq_true rfl) (fun Γ C hq => ?_)
  unfold F_X8_power at hF
  show V Δ Γ 5 0 [(0, .int (x0)), (1, .int (x1))] [] σ
  refine v_lconst C 1 dX8_power_0 (by decide) ?_
  refine v_lstore_n C 2 (ll' := [(2, _), (0, _), (1, _)]) dX8_power_1 rfl (by decide) rfl ?_
  refine v_iconst C (0) dX8_power_2 (by decide) ?_
  refine v_istore C 4 (ll' := [(4, _), (2, _), (0, _), (1, _)]) dX8_power_3 (by decide) rfl ?_
  refine v_sub [2, 3, 1, 0] (ll' := [(0, _), (1, _), (2, _), (4, _)]) rfl ?_
  exact W_X8_power_5 C hq hd hF
set_option maxRecDepth 20000 in
set_option maxHeartbeats 2000000 in
theorem M_X8_waysOfReport {Δ : DD} {d : Nat} {x0 : Int32} {x1 : Int32} {x2 : Int32} {σ : Mem} {q : Int64} (hd : 2 ≤ d) (hF : F_X8_waysOfReport x0 x1 x2 σ = some q) : Mt Δ d yX8_waysOfReport cX8_waysOfReport 4 (some .long) [.int x0, .int x1, .int x2] σ (some (.long q)) σ := by
  obtain ⟨d, rfl⟩ : ∃ e, d = e + 1 := ⟨d - 1, by omega⟩
  have hd : 1 ≤ d := by omega
  refine mt_of (by decide) rfl (Nat.le_of_ble_eq_true rfl) (fun Γ C hq => ?_)
  unfold F_X8_waysOfReport at hF
  show V Δ Γ 4 0 [(0, .int (x0)), (1, .int (x1)), (2, .int (x2))] [] σ
  refine v_iload_n C 1 1 dX8_waysOfReport_0 rfl rfl ?_
  refine v_iload_n C 0 0 dX8_waysOfReport_1 rfl rfl ?_
  refine v_iconst C (-1) dX8_waysOfReport_2 (by decide) ?_
  refine v_ixor C dX8_waysOfReport_3 ?_
  refine v_iand C dX8_waysOfReport_4 ?_
  refine v_istore_n C 3 (ll' := [(3, _), (0, _), (1, _), (2, _)]) dX8_waysOfReport_5 rfl (by decide) rfl ?_
  refine v_iload_n C 2 3 dX8_waysOfReport_6 rfl rfl ?_
  refine v_iload_n C 0 1 dX8_waysOfReport_7 rfl rfl ?_
  obtain ⟨q1, g2, hF⟩ := bnd hF
  refine v_cSi C mw_J6_bitCount_0f7a4 lk_X8_267 _ (M_J6_bitCount_0f7a4 (by omega) g2) rfl rfl (Nat.le_of_ble_eq_true rfl) dX8_waysOfReport_8 ?_
  obtain ⟨q3, g4, hF⟩ := bnd hF
  refine v_cSl C mw_X8_power lk_X8_276 _ (M_X8_power (by omega) g4) rfl rfl (Nat.le_of_ble_eq_true rfl) dX8_waysOfReport_11 ?_
  refine v_bipush C (12) dX8_waysOfReport_14 (by decide) ?_
  refine v_iload_n C 2 3 dX8_waysOfReport_16 rfl rfl ?_
  refine v_isub C dX8_waysOfReport_17 ?_
  refine v_iload_n C 3 0 dX8_waysOfReport_18 rfl rfl ?_
  obtain ⟨q5, g6, hF⟩ := bnd hF
  refine v_cSi C mw_J6_bitCount_0f7a4 lk_X8_267 _ (M_J6_bitCount_0f7a4 (by omega) g6) rfl rfl (Nat.le_of_ble_eq_true rfl) dX8_waysOfReport_19 ?_
  obtain ⟨q7, g8, hF⟩ := bnd hF
  refine v_cSl C mw_X8_power lk_X8_276 _ (M_X8_power (by omega) g8) rfl rfl (Nat.le_of_ble_eq_true rfl) dX8_waysOfReport_22 ?_
  refine v_lmul C dX8_waysOfReport_25 ?_
  exact v_lretP C hq (Option.some.inj hF) dX8_waysOfReport_26
def K_X8_commonDivisor_3 (Δ : DD) (Γ : GG) (q : Int64)  (σ : Mem) (y : (Int64 × Int64 × Int32) ⊕ Int64) : Prop := match y with
  | .inl s => V Δ Γ 7 3 [(0, .long (s.1)), (2, .long (s.2.1)), (4, .int (s.2.2))] [] σ
  | .inr t => (t = q)
set_option maxRecDepth 20000 in
set_option maxHeartbeats 2000000 in
theorem W_X8_commonDivisor_3 {Δ : DD} {Γ : GG} {d : Nat} {q : Int64}  {σ : Mem} (C : Cx Δ Γ RX8 cX8_commonDivisor 7 d (some .long)) (hq : RetQ Δ Γ (some (.long q)) σ) (hd : 0 ≤ d) {s : Int64 × Int64 × Int32} (hF : F_X8_commonDivisor_3  σ s = some q) : V Δ Γ 7 3 [(0, .long (s.1)), (2, .long (s.2.1)), (4, .int (s.2.2))] [] σ := by
  have hF : F_X8_commonDivisor_3  σ s = some q := hF
  refine lp_V (W := fun (s : Int64 × Int64 × Int32) => V Δ Γ 7 3 [(0, .long (s.1)), (2, .long (s.2.1)), (4, .int (s.2.2))] [] σ) (K := fun t => t = q) (K' := K_X8_commonDivisor_3 Δ Γ q  σ) (fun _ h => h) (fun _ h => h) ?_ s q hF rfl
  clear hF
  intro s z hF hK
  refine v_iload C 4 2 dX8_commonDivisor_3 rfl ?_
  refine v_sipush C (1000) dX8_commonDivisor_5 (by decide) ?_
  refine v_icmp_ge C 33 dX8_commonDivisor_8 (by decide) (fun c1 => ?_) (fun c1 => ?_)
  · have hF := ifp hF c1
    refine v_lload_n C 0 0 dX8_commonDivisor_33 rfl rfl ?_
    cases hF
    exact v_lretP C hq hK dX8_commonDivisor_34
  · have hF := ifn hF c1
    refine v_lload_n C 2 1 dX8_commonDivisor_11 rfl rfl ?_
    refine v_lconst C 0 dX8_commonDivisor_12 (by decide) ?_
    refine v_lcmp C dX8_commonDivisor_13 ?_
    refine v_if_eq C 33 dX8_commonDivisor_14 (by decide) (fun c2 => ?_) (fun c2 => ?_)
    · have hF := ifp hF c2
      refine v_lload_n C 0 0 dX8_commonDivisor_33 rfl rfl ?_
      cases hF
      exact v_lretP C hq hK dX8_commonDivisor_34
    · have hF := ifn hF c2
      refine v_lload_n C 0 0 dX8_commonDivisor_17 rfl rfl ?_
      refine v_lload_n C 2 1 dX8_commonDivisor_18 rfl rfl ?_
      obtain ⟨_, g3, hF⟩ := bnd hF
      refine v_lrem C dX8_commonDivisor_19 (nzL_ne g3) ?_
      refine v_lstore C 5 (ll' := [(5, _), (0, _), (2, _), (4, _)]) dX8_commonDivisor_20 (by decide) rfl ?_
      refine v_lload_n C 2 2 dX8_commonDivisor_22 rfl rfl ?_
      refine v_lstore_n C 0 (ll' := [(0, _), (5, _), (2, _), (4, _)]) dX8_commonDivisor_23 rfl (by decide) rfl ?_
      refine v_lload C 5 1 dX8_commonDivisor_24 rfl ?_
      refine v_lstore_n C 2 (ll' := [(2, _), (0, _), (5, _), (4, _)]) dX8_commonDivisor_26 rfl (by decide) rfl ?_
      refine v_iinc C (_ + (1 : Int32)) 3 (ll' := [(4, _), (2, _), (0, _), (5, _)]) dX8_commonDivisor_27 rfl (inc_eq (by decide)) (by decide) rfl ?_
      refine v_goto C 3 dX8_commonDivisor_30 (by decide) ?_
      refine v_sub [2, 1, 0] (ll' := [(0, _), (2, _), (4, _)]) rfl ?_
      cases hF
      exact hK
set_option maxRecDepth 20000 in
set_option maxHeartbeats 2000000 in
theorem M_X8_commonDivisor {Δ : DD} {d : Nat} {x0 : Int64} {x2 : Int64} {σ : Mem} {q : Int64} (hd : 1 ≤ d) (hF : F_X8_commonDivisor x0 x2 σ = some q) : Mt Δ d yX8_commonDivisor cX8_commonDivisor 7 (some .long) [.long x0, .long x2] σ (some (.long q)) σ := by
  obtain ⟨d, rfl⟩ : ∃ e, d = e + 1 := ⟨d - 1, by omega⟩
  have hd : 0 ≤ d := by omega
  refine mt_of (by decide) rfl (Nat.le_of_ble_eq_true rfl) (fun Γ C hq => ?_)
  unfold F_X8_commonDivisor at hF
  show V Δ Γ 7 0 [(0, .long (x0)), (2, .long (x2))] [] σ
  refine v_iconst C (0) dX8_commonDivisor_0 (by decide) ?_
  refine v_istore C 4 (ll' := [(4, _), (0, _), (2, _)]) dX8_commonDivisor_1 (by decide) rfl ?_
  refine v_sub [1, 2, 0] (ll' := [(0, _), (2, _), (4, _)]) rfl ?_
  exact W_X8_commonDivisor_3 C hq hd hF
set_option maxRecDepth 20000 in
set_option maxHeartbeats 2000000 in
theorem M_X8_tellChance {Δ : DD} {d : Nat} {x0 : Nat} {x1 : Int64} {x3 : Int64} {σ : Mem} {q : (Int32 × Mem)} (hd : 2 ≤ d) (h0 : isK 8 x0 = true) (hF : F_X8_tellChance x0 x1 x3 σ = some q) : Mt Δ d yX8_tellChance cX8_tellChance 7 (some .int) [rf Δ x0, .long x1, .long x3] σ (some (.int q.1)) q.2 := by
  obtain ⟨d, rfl⟩ : ∃ e, d = e + 1 := ⟨d - 1, by omega⟩
  have hd : 1 ≤ d := by omega
  refine mt_of (by decide) rfl (Nat.le_of_ble_eq_true rfl) (fun Γ C hq => ?_)
  unfold F_X8_tellChance at hF
  show V Δ Γ 7 0 [(0, rf Δ (x0)), (1, .long (x1)), (3, .long (x3))] [] σ
  refine v_lload_n C 1 1 dX8_tellChance_0 rfl rfl ?_
  refine v_lload_n C 3 2 dX8_tellChance_1 rfl rfl ?_
  obtain ⟨q1, g2, hF⟩ := bnd hF
  refine v_cSl C mw_X8_commonDivisor lk_X8_336 _ (M_X8_commonDivisor (by omega) g2) rfl rfl (Nat.le_of_ble_eq_true rfl) dX8_tellChance_2 ?_
  refine v_lstore C 5 (ll' := [(5, _), (0, _), (1, _), (3, _)]) dX8_tellChance_5 (by decide) rfl ?_
  refine v_lload C 5 0 dX8_tellChance_7 rfl ?_
  refine v_lconst C 0 dX8_tellChance_9 (by decide) ?_
  refine v_lcmp C dX8_tellChance_10 ?_
  refine v_if_le C 30 dX8_tellChance_11 (by decide) (fun c3 => ?_) (fun c3 => ?_)
  · have hF := ifp hF c3
    refine v_iconst C (1) dX8_tellChance_30 (by decide) ?_
    exact v_iretF C hq (Option.some.inj hF) dX8_tellChance_31
  · have hF := ifn hF c3
    refine v_aload_n C 0 1 dX8_tellChance_14 rfl rfl ?_
    refine v_lload_n C 1 2 dX8_tellChance_15 rfl rfl ?_
    refine v_lload C 5 0 dX8_tellChance_16 rfl ?_
    obtain ⟨_, g4, hF⟩ := bnd hF
    refine v_ldiv C dX8_tellChance_18 (nzL_ne g4) ?_
    obtain ⟨m6, g5, hF⟩ := bnd hF
    refine v_pL C fp_X8_83 g5 dX8_tellChance_19 ?_
    refine v_aload_n C 0 1 dX8_tellChance_22 rfl rfl ?_
    refine v_lload_n C 3 3 dX8_tellChance_23 rfl rfl ?_
    refine v_lload C 5 0 dX8_tellChance_24 rfl ?_
    obtain ⟨_, g7, hF⟩ := bnd hF
    refine v_ldiv C dX8_tellChance_26 (nzL_ne g7) ?_
    obtain ⟨m9, g8, hF⟩ := bnd hF
    refine v_pL C fp_X8_87 g8 dX8_tellChance_27 ?_
    refine v_iconst C (1) dX8_tellChance_30 (by decide) ?_
    exact v_iretF C hq (Option.some.inj hF) dX8_tellChance_31
def K_X8_odds_49 (Δ : DD) (Γ : GG) (q : (Int32 × Mem)) (x0 : Nat) (x1 : Int32) (x2 : Int32) (x3 : Int32) (σ : Mem) (y : (Int64 × Int32) ⊕ (Int32 × Mem)) : Prop := match y with
  | .inl s => V Δ Γ 7 49 [(0, rf Δ (x0)), (1, .int (x1)), (2, .int (x2)), (3, .int (x3)), (4, .long (s.1)), (6, .int (s.2))] [] σ
  | .inr t => (t = q)
set_option maxRecDepth 20000 in
set_option maxHeartbeats 2000000 in
theorem W_X8_odds_49 {Δ : DD} {Γ : GG} {d : Nat} {q : (Int32 × Mem)} {x0 : Nat} {x1 : Int32} {x2 : Int32} {x3 : Int32} {σ : Mem} (C : Cx Δ Γ RX8 cX8_odds 7 d (some .int)) (hq : RetQ Δ Γ (some (.int q.1)) q.2) (h0 : isK 8 x0 = true) (hd : 3 ≤ d) {s : Int64 × Int32} (hF : F_X8_odds_49 x0 x1 x2 x3 σ s = some q) : V Δ Γ 7 49 [(0, rf Δ (x0)), (1, .int (x1)), (2, .int (x2)), (3, .int (x3)), (4, .long (s.1)), (6, .int (s.2))] [] σ := by
  have hF : F_X8_odds_49 x0 x1 x2 x3 σ s = some q := hF
  refine lp_V (W := fun (s : Int64 × Int32) => V Δ Γ 7 49 [(0, rf Δ (x0)), (1, .int (x1)), (2, .int (x2)), (3, .int (x3)), (4, .long (s.1)), (6, .int (s.2))] [] σ) (K := fun t => t = q) (K' := K_X8_odds_49 Δ Γ q x0 x1 x2 x3 σ) (fun _ h => h) (fun _ h => h) ?_ s q hF rfl
  clear hF
  intro s z hF hK
  refine v_iload C 6 5 dX8_odds_49 rfl ?_
  refine v_bipush C (64) dX8_odds_51 (by decide) ?_
  refine v_icmp_ge C 92 dX8_odds_53 (by decide) (fun c1 => ?_) (fun c1 => ?_)
  · have hF := ifp hF c1
    refine v_aload_n C 0 0 dX8_odds_92 rfl rfl ?_
    refine v_lload C 4 4 dX8_odds_93 rfl ?_
    refine v_bipush C (12) dX8_odds_95 (by decide) ?_
    refine v_iload_n C 3 3 dX8_odds_97 rfl rfl ?_
    obtain ⟨q2, g3, hF⟩ := bnd hF
    refine v_cSi C mw_J6_bitCount_0f7a4 lk_X8_267 _ (M_J6_bitCount_0f7a4 (by omega) g3) rfl rfl (Nat.le_of_ble_eq_true rfl) dX8_odds_98 ?_
    obtain ⟨q4, g5, hF⟩ := bnd hF
    refine v_cSl C mw_X8_power lk_X8_276 _ (M_X8_power (by omega) g5) rfl rfl (Nat.le_of_ble_eq_true rfl) dX8_odds_101 ?_
    obtain ⟨q6, g7, hF⟩ := bnd hF
    refine v_cVi C mw_X8_tellChance lk_X8_280 _ (M_X8_tellChance (by omega) h0 g7) h0 rfl rfl (Nat.le_of_ble_eq_true rfl) dX8_odds_104 ?_
    cases hF
    exact v_iretF C hq hK dX8_odds_107
  · have hF := ifn hF c1
    refine v_iload C 6 5 dX8_odds_56 rfl ?_
    refine v_iload_n C 3 3 dX8_odds_58 rfl rfl ?_
    refine v_iconst C (-1) dX8_odds_59 (by decide) ?_
    refine v_ixor C dX8_odds_60 ?_
    refine v_iand C dX8_odds_61 ?_
    refine v_if_ne C 86 dX8_odds_62 (by decide) (fun c8 => ?_) (fun c8 => ?_)
    · have hF := ifn hF c8
      refine v_iinc C (_ + (1 : Int32)) 5 (ll' := [(6, _), (0, _), (1, _), (2, _), (3, _), (4, _)]) dX8_odds_86 rfl (inc_eq (by decide)) (by decide) rfl ?_
      refine v_goto C 49 dX8_odds_89 (by decide) ?_
      refine v_sub [1, 2, 3, 4, 5, 0] (ll' := [(0, _), (1, _), (2, _), (3, _), (4, _), (6, _)]) rfl ?_
      cases hF
      exact hK
    · have hF := ifp hF c8
      refine v_iload C 6 5 dX8_odds_65 rfl ?_
      obtain ⟨q9, g10, hF⟩ := bnd hF
      refine v_cSi C mw_J6_bitCount_0f7a4 lk_X8_267 _ (M_J6_bitCount_0f7a4 (by omega) g10) rfl rfl (Nat.le_of_ble_eq_true rfl) dX8_odds_67 ?_
      refine v_iload_n C 1 1 dX8_odds_70 rfl rfl ?_
      refine v_icmp_lt C 86 dX8_odds_71 (by decide) (fun c11 => ?_) (fun c11 => ?_)
      · have hF := ifp hF c11
        refine v_iinc C (_ + (1 : Int32)) 5 (ll' := [(6, _), (0, _), (1, _), (2, _), (3, _), (4, _)]) dX8_odds_86 rfl (inc_eq (by decide)) (by decide) rfl ?_
        refine v_goto C 49 dX8_odds_89 (by decide) ?_
        refine v_sub [1, 2, 3, 4, 5, 0] (ll' := [(0, _), (1, _), (2, _), (3, _), (4, _), (6, _)]) rfl ?_
        cases hF
        exact hK
      · have hF := ifn hF c11
        refine v_lload C 4 4 dX8_odds_74 rfl ?_
        refine v_iload C 6 5 dX8_odds_76 rfl ?_
        refine v_iload_n C 3 3 dX8_odds_78 rfl rfl ?_
        refine v_iload_n C 2 2 dX8_odds_79 rfl rfl ?_
        obtain ⟨q12, g13, hF⟩ := bnd hF
        refine v_cSl C mw_X8_waysOfReport lk_X8_272 _ (M_X8_waysOfReport (by omega) g13) rfl rfl (Nat.le_of_ble_eq_true rfl) dX8_odds_80 ?_
        refine v_ladd C dX8_odds_83 ?_
        refine v_lstore C 4 (ll' := [(4, _), (0, _), (1, _), (2, _), (3, _), (6, _)]) dX8_odds_84 (by decide) rfl ?_
        refine v_iinc C (_ + (1 : Int32)) 5 (ll' := [(6, _), (4, _), (0, _), (1, _), (2, _), (3, _)]) dX8_odds_86 rfl (inc_eq (by decide)) (by decide) rfl ?_
        refine v_goto C 49 dX8_odds_89 (by decide) ?_
        refine v_sub [2, 3, 4, 5, 1, 0] (ll' := [(0, _), (1, _), (2, _), (3, _), (4, _), (6, _)]) rfl ?_
        cases hF
        exact hK
set_option maxRecDepth 20000 in
set_option maxHeartbeats 2000000 in
theorem M_X8_odds {Δ : DD} {d : Nat} {x0 : Nat} {x1 : Int32} {x2 : Int32} {σ : Mem} {q : (Int32 × Mem)} (hd : 4 ≤ d) (h0 : isK 8 x0 = true) (hF : F_X8_odds x0 x1 x2 σ = some q) : Mt Δ d yX8_odds cX8_odds 7 (some .int) [rf Δ x0, .int x1, .int x2] σ (some (.int q.1)) q.2 := by
  obtain ⟨d, rfl⟩ : ∃ e, d = e + 1 := ⟨d - 1, by omega⟩
  have hd : 3 ≤ d := by omega
  refine mt_of (by decide) rfl (Nat.le_of_ble_eq_true rfl) (fun Γ C hq => ?_)
  unfold F_X8_odds at hF
  show V Δ Γ 7 0 [(0, rf Δ (x0)), (1, .int (x1)), (2, .int (x2))] [] σ
  refine v_iload_n C 1 1 dX8_odds_0 rfl rfl ?_
  refine v_if_lt C 20 dX8_odds_1 (by decide) (fun c14 => ?_) (fun c14 => ?_)
  · have hF := ifp hF c14
    refine v_iconst C (-1) dX8_odds_20 (by decide) ?_
    exact v_iretF C hq (Option.some.inj hF) dX8_odds_21
  · have hF := ifn hF c14
    refine v_iload_n C 1 1 dX8_odds_4 rfl rfl ?_
    refine v_bipush C (6) dX8_odds_5 (by decide) ?_
    refine v_icmp_gt C 20 dX8_odds_7 (by decide) (fun c15 => ?_) (fun c15 => ?_)
    · have hF := ifp hF c15
      refine v_iconst C (-1) dX8_odds_20 (by decide) ?_
      exact v_iretF C hq (Option.some.inj hF) dX8_odds_21
    · have hF := ifn hF c15
      refine v_iload_n C 2 2 dX8_odds_10 rfl rfl ?_
      refine v_if_lt C 20 dX8_odds_11 (by decide) (fun c16 => ?_) (fun c16 => ?_)
      · have hF := ifp hF c16
        refine v_iconst C (-1) dX8_odds_20 (by decide) ?_
        exact v_iretF C hq (Option.some.inj hF) dX8_odds_21
      · have hF := ifn hF c16
        refine v_iload_n C 2 2 dX8_odds_14 rfl rfl ?_
        refine v_bipush C (12) dX8_odds_15 (by decide) ?_
        refine v_icmp_le C 22 dX8_odds_17 (by decide) (fun c17 => ?_) (fun c17 => ?_)
        · have hF := ifp hF c17
          refine v_aload_n C 0 0 dX8_odds_22 rfl rfl ?_
          obtain ⟨p19, g18, hF⟩ := bnd hF
          refine v_gR C fu_X8_31 g18 dX8_odds_23 ?_
          obtain ⟨v21, g20, hF⟩ := bnd hF
          refine v_gI C fu_X8_158 g20 dX8_odds_26 ?_
          refine v_if_ne C 35 dX8_odds_29 (by decide) (fun c22 => ?_) (fun c22 => ?_)
          · have hF := ifn hF c22
            refine v_aload_n C 0 0 dX8_odds_35 rfl rfl ?_
            obtain ⟨p24, g23, hF⟩ := bnd hF
            refine v_gR C fu_X8_31 g23 dX8_odds_36 ?_
            obtain ⟨_, g25, hF⟩ := bnd hF
            obtain ⟨q26, g27, hF⟩ := bnd hF
            refine v_cVi C mw_X7_wouldBeFoundBits lk_X8_264 _ (M_X7_wouldBeFoundBits (by omega) (chk_k g25) g27) (chk_k g25) rfl rfl (Nat.le_of_ble_eq_true rfl) dX8_odds_39 ?_
            refine v_istore_n C 3 (ll' := [(3, _), (0, _), (1, _), (2, _)]) dX8_odds_42 rfl (by decide) rfl ?_
            refine v_lconst C 0 dX8_odds_43 (by decide) ?_
            refine v_lstore C 4 (ll' := [(4, _), (3, _), (0, _), (1, _), (2, _)]) dX8_odds_44 (by decide) rfl ?_
            refine v_iconst C (0) dX8_odds_46 (by decide) ?_
            refine v_istore C 6 (ll' := [(6, _), (4, _), (3, _), (0, _), (1, _), (2, _)]) dX8_odds_47 (by decide) rfl ?_
            refine v_sub [3, 4, 5, 2, 1, 0] (ll' := [(0, _), (1, _), (2, _), (3, _), (4, _), (6, _)]) rfl ?_
            exact W_X8_odds_49 C hq h0 hd hF
          · have hF := ifp hF c22
            refine v_bipush C (-4) dX8_odds_32 (by decide) ?_
            exact v_iretF C hq (Option.some.inj hF) dX8_odds_34
        · have hF := ifn hF c17
          refine v_iconst C (-1) dX8_odds_20 (by decide) ?_
          exact v_iretF C hq (Option.some.inj hF) dX8_odds_21
def K_X8_mid_38 (Δ : DD) (Γ : GG) (q : (Int32 × Mem)) (x0 : Nat) (x1 : Int32) (x2 : Int32) (σ : Mem) (y : (Int64 × Int32) ⊕ (Int32 × Mem)) : Prop := match y with
  | .inl s => V Δ Γ 6 38 [(0, rf Δ (x0)), (1, .int (x1)), (2, .int (x2)), (3, .long (s.1)), (5, .int (s.2))] [] σ
  | .inr t => (t = q)
set_option maxRecDepth 20000 in
set_option maxHeartbeats 2000000 in
theorem W_X8_mid_38 {Δ : DD} {Γ : GG} {d : Nat} {q : (Int32 × Mem)} {x0 : Nat} {x1 : Int32} {x2 : Int32} {σ : Mem} (C : Cx Δ Γ RX8 cX8_mid 6 d (some .int)) (hq : RetQ Δ Γ (some (.int q.1)) q.2) (h0 : isK 8 x0 = true) (hd : 3 ≤ d) {s : Int64 × Int32} (hF : F_X8_mid_38 x0 x1 x2 σ s = some q) : V Δ Γ 6 38 [(0, rf Δ (x0)), (1, .int (x1)), (2, .int (x2)), (3, .long (s.1)), (5, .int (s.2))] [] σ := by
  have hF : F_X8_mid_38 x0 x1 x2 σ s = some q := hF
  refine lp_V (W := fun (s : Int64 × Int32) => V Δ Γ 6 38 [(0, rf Δ (x0)), (1, .int (x1)), (2, .int (x2)), (3, .long (s.1)), (5, .int (s.2))] [] σ) (K := fun t => t = q) (K' := K_X8_mid_38 Δ Γ q x0 x1 x2 σ) (fun _ h => h) (fun _ h => h) ?_ s q hF rfl
  clear hF
  intro s z hF hK
  refine v_iload C 5 4 dX8_mid_38 rfl ?_
  refine v_bipush C (64) dX8_mid_40 (by decide) ?_
  refine v_icmp_ge C 81 dX8_mid_42 (by decide) (fun c1 => ?_) (fun c1 => ?_)
  · have hF := ifp hF c1
    refine v_aload_n C 0 0 dX8_mid_81 rfl rfl ?_
    refine v_lload_n C 3 3 dX8_mid_82 rfl rfl ?_
    refine v_bipush C (12) dX8_mid_83 (by decide) ?_
    refine v_iload_n C 2 2 dX8_mid_85 rfl rfl ?_
    obtain ⟨q2, g3, hF⟩ := bnd hF
    refine v_cSi C mw_J6_bitCount_0f7a4 lk_X8_267 _ (M_J6_bitCount_0f7a4 (by omega) g3) rfl rfl (Nat.le_of_ble_eq_true rfl) dX8_mid_86 ?_
    obtain ⟨q4, g5, hF⟩ := bnd hF
    refine v_cSl C mw_X8_power lk_X8_276 _ (M_X8_power (by omega) g5) rfl rfl (Nat.le_of_ble_eq_true rfl) dX8_mid_89 ?_
    obtain ⟨q6, g7, hF⟩ := bnd hF
    refine v_cVi C mw_X8_tellChance lk_X8_280 _ (M_X8_tellChance (by omega) h0 g7) h0 rfl rfl (Nat.le_of_ble_eq_true rfl) dX8_mid_92 ?_
    cases hF
    exact v_iretF C hq hK dX8_mid_95
  · have hF := ifn hF c1
    refine v_iload C 5 4 dX8_mid_45 rfl ?_
    refine v_iload_n C 2 2 dX8_mid_47 rfl rfl ?_
    refine v_iconst C (-1) dX8_mid_48 (by decide) ?_
    refine v_ixor C dX8_mid_49 ?_
    refine v_iand C dX8_mid_50 ?_
    refine v_if_ne C 75 dX8_mid_51 (by decide) (fun c8 => ?_) (fun c8 => ?_)
    · have hF := ifn hF c8
      refine v_iinc C (_ + (1 : Int32)) 4 (ll' := [(5, _), (0, _), (1, _), (2, _), (3, _)]) dX8_mid_75 rfl (inc_eq (by decide)) (by decide) rfl ?_
      refine v_goto C 38 dX8_mid_78 (by decide) ?_
      refine v_sub [1, 2, 3, 4, 0] (ll' := [(0, _), (1, _), (2, _), (3, _), (5, _)]) rfl ?_
      cases hF
      exact hK
    · have hF := ifp hF c8
      refine v_lload_n C 3 3 dX8_mid_54 rfl rfl ?_
      refine v_aload_n C 0 0 dX8_mid_55 rfl rfl ?_
      obtain ⟨p10, g9, hF⟩ := bnd hF
      refine v_gR C fu_X8_31 g9 dX8_mid_56 ?_
      refine v_iload C 5 4 dX8_mid_59 rfl ?_
      obtain ⟨_, g11, hF⟩ := bnd hF
      obtain ⟨q12, g13, hF⟩ := bnd hF
      refine v_cVi C mw_X7_mostLying lk_X8_284 _ (M_X7_mostLying (by omega) (chk_k g11) g13) (chk_k g11) rfl rfl (Nat.le_of_ble_eq_true rfl) dX8_mid_61 ?_
      refine v_i2l C dX8_mid_64 ?_
      refine v_iload C 5 4 dX8_mid_65 rfl ?_
      refine v_iload_n C 2 2 dX8_mid_67 rfl rfl ?_
      refine v_iload_n C 1 1 dX8_mid_68 rfl rfl ?_
      obtain ⟨q14, g15, hF⟩ := bnd hF
      refine v_cSl C mw_X8_waysOfReport lk_X8_272 _ (M_X8_waysOfReport (by omega) g15) rfl rfl (Nat.le_of_ble_eq_true rfl) dX8_mid_69 ?_
      refine v_lmul C dX8_mid_72 ?_
      refine v_ladd C dX8_mid_73 ?_
      refine v_lstore_n C 3 (ll' := [(3, _), (0, _), (1, _), (2, _), (5, _)]) dX8_mid_74 rfl (by decide) rfl ?_
      refine v_iinc C (_ + (1 : Int32)) 4 (ll' := [(5, _), (3, _), (0, _), (1, _), (2, _)]) dX8_mid_75 rfl (inc_eq (by decide)) (by decide) rfl ?_
      refine v_goto C 38 dX8_mid_78 (by decide) ?_
      refine v_sub [2, 3, 4, 1, 0] (ll' := [(0, _), (1, _), (2, _), (3, _), (5, _)]) rfl ?_
      cases hF
      exact hK
set_option maxRecDepth 20000 in
set_option maxHeartbeats 2000000 in
theorem M_X8_mid {Δ : DD} {d : Nat} {x0 : Nat} {x1 : Int32} {σ : Mem} {q : (Int32 × Mem)} (hd : 4 ≤ d) (h0 : isK 8 x0 = true) (hF : F_X8_mid x0 x1 σ = some q) : Mt Δ d yX8_mid cX8_mid 6 (some .int) [rf Δ x0, .int x1] σ (some (.int q.1)) q.2 := by
  obtain ⟨d, rfl⟩ : ∃ e, d = e + 1 := ⟨d - 1, by omega⟩
  have hd : 3 ≤ d := by omega
  refine mt_of (by decide) rfl (Nat.le_of_ble_eq_true rfl) (fun Γ C hq => ?_)
  unfold F_X8_mid at hF
  show V Δ Γ 6 0 [(0, rf Δ (x0)), (1, .int (x1))] [] σ
  refine v_iload_n C 1 1 dX8_mid_0 rfl rfl ?_
  refine v_if_lt C 10 dX8_mid_1 (by decide) (fun c16 => ?_) (fun c16 => ?_)
  · have hF := ifp hF c16
    refine v_iconst C (-1) dX8_mid_10 (by decide) ?_
    exact v_iretF C hq (Option.some.inj hF) dX8_mid_11
  · have hF := ifn hF c16
    refine v_iload_n C 1 1 dX8_mid_4 rfl rfl ?_
    refine v_bipush C (12) dX8_mid_5 (by decide) ?_
    refine v_icmp_le C 12 dX8_mid_7 (by decide) (fun c17 => ?_) (fun c17 => ?_)
    · have hF := ifp hF c17
      refine v_aload_n C 0 0 dX8_mid_12 rfl rfl ?_
      obtain ⟨p19, g18, hF⟩ := bnd hF
      refine v_gR C fu_X8_31 g18 dX8_mid_13 ?_
      obtain ⟨v21, g20, hF⟩ := bnd hF
      refine v_gI C fu_X8_158 g20 dX8_mid_16 ?_
      refine v_if_ne C 25 dX8_mid_19 (by decide) (fun c22 => ?_) (fun c22 => ?_)
      · have hF := ifn hF c22
        refine v_aload_n C 0 0 dX8_mid_25 rfl rfl ?_
        obtain ⟨p24, g23, hF⟩ := bnd hF
        refine v_gR C fu_X8_31 g23 dX8_mid_26 ?_
        obtain ⟨_, g25, hF⟩ := bnd hF
        obtain ⟨q26, g27, hF⟩ := bnd hF
        refine v_cVi C mw_X7_wouldBeFoundBits lk_X8_264 _ (M_X7_wouldBeFoundBits (by omega) (chk_k g25) g27) (chk_k g25) rfl rfl (Nat.le_of_ble_eq_true rfl) dX8_mid_29 ?_
        refine v_istore_n C 2 (ll' := [(2, _), (0, _), (1, _)]) dX8_mid_32 rfl (by decide) rfl ?_
        refine v_lconst C 0 dX8_mid_33 (by decide) ?_
        refine v_lstore_n C 3 (ll' := [(3, _), (2, _), (0, _), (1, _)]) dX8_mid_34 rfl (by decide) rfl ?_
        refine v_iconst C (0) dX8_mid_35 (by decide) ?_
        refine v_istore C 5 (ll' := [(5, _), (3, _), (2, _), (0, _), (1, _)]) dX8_mid_36 (by decide) rfl ?_
        refine v_sub [3, 4, 2, 1, 0] (ll' := [(0, _), (1, _), (2, _), (3, _), (5, _)]) rfl ?_
        exact W_X8_mid_38 C hq h0 hd hF
      · have hF := ifp hF c22
        refine v_bipush C (-4) dX8_mid_22 (by decide) ?_
        exact v_iretF C hq (Option.some.inj hF) dX8_mid_24
    · have hF := ifn hF c17
      refine v_iconst C (-1) dX8_mid_10 (by decide) ?_
      exact v_iretF C hq (Option.some.inj hF) dX8_mid_11
def K_X8_lots_64 (Δ : DD) (Γ : GG) (q : (Int32 × Mem)) (x0 : Nat) (x1 : Int32) (x3 : Int32) (y : (Int32 × Int64 × Int32 × Mem) ⊕ (Int32 × Mem)) : Prop := match y with
  | .inl s => V Δ Γ 9 64 [(0, rf Δ (x0)), (1, .int (x1)), (3, .int (x3)), (4, .int (s.1)), (5, .long (s.2.1)), (7, .int (s.2.2.1))] [] s.2.2.2
  | .inr t => (t = q)
set_option maxRecDepth 20000 in
set_option maxHeartbeats 2000000 in
theorem W_X8_lots_64 {Δ : DD} {Γ : GG} {d : Nat} {q : (Int32 × Mem)} {x0 : Nat} {x1 : Int32} {x3 : Int32} (C : Cx Δ Γ RX8 cX8_lots 9 d (some .int)) (hq : RetQ Δ Γ (some (.int q.1)) q.2) (h0 : isK 8 x0 = true) (hd : 6 ≤ d) {s : Int32 × Int64 × Int32 × Mem} (hF : F_X8_lots_64 x0 x1 x3  s = some q) : V Δ Γ 9 64 [(0, rf Δ (x0)), (1, .int (x1)), (3, .int (x3)), (4, .int (s.1)), (5, .long (s.2.1)), (7, .int (s.2.2.1))] [] s.2.2.2 := by
  have hF : F_X8_lots_64 x0 x1 x3  s = some q := hF
  refine lp_V (W := fun (s : Int32 × Int64 × Int32 × Mem) => V Δ Γ 9 64 [(0, rf Δ (x0)), (1, .int (x1)), (3, .int (x3)), (4, .int (s.1)), (5, .long (s.2.1)), (7, .int (s.2.2.1))] [] s.2.2.2) (K := fun t => t = q) (K' := K_X8_lots_64 Δ Γ q x0 x1 x3 ) (fun _ h => h) (fun _ h => h) ?_ s q hF rfl
  clear hF
  intro s z hF hK
  refine v_iload C 7 5 dX8_lots_64 rfl ?_
  refine v_iload_n C 1 1 dX8_lots_66 rfl rfl ?_
  refine v_icmp_ge C 170 dX8_lots_67 (by decide) (fun c1 => ?_) (fun c1 => ?_)
  · have hF := ifp hF c1
    refine v_iload C 4 3 dX8_lots_170 rfl ?_
    cases hF
    exact v_iretF C hq hK dX8_lots_172
  · have hF := ifn hF c1
    refine v_lload C 5 4 dX8_lots_70 rfl ?_
    refine v_ldc2 C (48271) kl_X8_288 dX8_lots_72 ?_
    refine v_lmul C dX8_lots_75 ?_
    refine v_ldc2 C (2147483647) kl_X8_290 dX8_lots_76 ?_
    refine v_lrem C dX8_lots_79 (by decide) ?_
    refine v_lstore C 5 (ll' := [(5, _), (0, _), (1, _), (3, _), (4, _), (7, _)]) dX8_lots_80 (by decide) rfl ?_
    refine v_lload C 5 0 dX8_lots_82 rfl ?_
    refine v_ldc2 C (8) kl_X8_292 dX8_lots_84 ?_
    refine v_ldiv C dX8_lots_87 (by decide) ?_
    refine v_iload_n C 3 3 dX8_lots_88 rfl rfl ?_
    refine v_i2l C dX8_lots_89 ?_
    obtain ⟨_, g3, hF⟩ := bnd hF
    refine v_lrem C dX8_lots_90 (nzL_ne g3) ?_
    refine v_l2i C dX8_lots_91 ?_
    refine v_istore C 8 (ll' := [(8, _), (5, _), (0, _), (1, _), (3, _), (4, _), (7, _)]) dX8_lots_92 (by decide) rfl ?_
    refine v_lload C 5 1 dX8_lots_94 rfl ?_
    refine v_ldc2 C (4) kl_X8_294 dX8_lots_96 ?_
    refine v_lrem C dX8_lots_99 (by decide) ?_
    refine v_l2i C dX8_lots_100 ?_
    rcases ifc hF with ⟨c5, hF⟩ | ⟨c5, hF⟩
    · refine v_lookup C 128 (27) dX8_lots_101 (by decide) (by rw [c5]; decide) (by decide) ?_
      refine v_iload C 4 5 dX8_lots_128 rfl ?_
      refine v_aload_n C 0 2 dX8_lots_130 rfl rfl ?_
      refine v_iconst C (1) dX8_lots_131 (by decide) ?_
      refine v_iload C 8 0 dX8_lots_132 rfl ?_
      refine v_iconst C (0) dX8_lots_134 (by decide) ?_
      obtain ⟨q6, g7, hF⟩ := bnd hF
      refine v_cVi C mw_X8_enact lk_X8_190 _ (M_X8_enact (by omega) h0 g7) h0 rfl rfl (Nat.le_of_ble_eq_true rfl) dX8_lots_135 ?_
      refine v_iadd C dX8_lots_138 ?_
      refine v_istore C 4 (ll' := [(4, _), (8, _), (5, _), (0, _), (1, _), (3, _), (7, _)]) dX8_lots_139 (by decide) rfl ?_
      refine v_goto C 164 dX8_lots_141 (by decide) ?_
      refine v_iinc C (_ + (1 : Int32)) 6 (ll' := [(7, _), (4, _), (8, _), (5, _), (0, _), (1, _), (3, _)]) dX8_lots_164 rfl (inc_eq (by decide)) (by decide) rfl ?_
      refine v_goto C 64 dX8_lots_167 (by decide) ?_
      refine v_sub [4, 5, 6, 1, 3, 0] (ll' := [(0, _), (1, _), (3, _), (4, _), (5, _), (7, _)]) rfl ?_
      cases hF
      exact hK
    · skip
      rcases ifc hF with ⟨c8, hF⟩ | ⟨c8, hF⟩
      · refine v_lookup C 144 (43) dX8_lots_101 (by decide) (by rw [c8]; decide) (by decide) ?_
        refine v_aload_n C 0 2 dX8_lots_144 rfl rfl ?_
        refine v_iconst C (2) dX8_lots_145 (by decide) ?_
        refine v_iload C 8 0 dX8_lots_146 rfl ?_
        refine v_iconst C (0) dX8_lots_148 (by decide) ?_
        obtain ⟨q9, g10, hF⟩ := bnd hF
        refine v_cVi C mw_X8_enact lk_X8_190 _ (M_X8_enact (by omega) h0 g10) h0 rfl rfl (Nat.le_of_ble_eq_true rfl) dX8_lots_149 ?_
        refine v_pop C dX8_lots_152 rfl ?_
        refine v_goto C 164 dX8_lots_153 (by decide) ?_
        refine v_iinc C (_ + (1 : Int32)) 6 (ll' := [(7, _), (8, _), (5, _), (0, _), (1, _), (3, _), (4, _)]) dX8_lots_164 rfl (inc_eq (by decide)) (by decide) rfl ?_
        refine v_goto C 64 dX8_lots_167 (by decide) ?_
        refine v_sub [3, 4, 5, 6, 2, 0] (ll' := [(0, _), (1, _), (3, _), (4, _), (5, _), (7, _)]) rfl ?_
        cases hF
        exact hK
      · skip
        refine v_lookup C 156 (55) dX8_lots_101 (by decide) (show Op.lookupswitch.offset [(2, 27), (3, 43)] (55) _ = (55) by rw [lv_osw c5 (a := 2) (by decide), lv_osw c8 (a := 3) (by decide)]; rfl) (by decide) ?_
        refine v_aload_n C 0 2 dX8_lots_156 rfl rfl ?_
        refine v_iconst C (0) dX8_lots_157 (by decide) ?_
        refine v_iconst C (0) dX8_lots_158 (by decide) ?_
        refine v_iconst C (0) dX8_lots_159 (by decide) ?_
        obtain ⟨q11, g12, hF⟩ := bnd hF
        refine v_cVi C mw_X8_enact lk_X8_190 _ (M_X8_enact (by omega) h0 g12) h0 rfl rfl (Nat.le_of_ble_eq_true rfl) dX8_lots_160 ?_
        refine v_pop C dX8_lots_163 rfl ?_
        refine v_iinc C (_ + (1 : Int32)) 6 (ll' := [(7, _), (8, _), (5, _), (0, _), (1, _), (3, _), (4, _)]) dX8_lots_164 rfl (inc_eq (by decide)) (by decide) rfl ?_
        refine v_goto C 64 dX8_lots_167 (by decide) ?_
        refine v_sub [3, 4, 5, 6, 2, 0] (ll' := [(0, _), (1, _), (3, _), (4, _), (5, _), (7, _)]) rfl ?_
        cases hF
        exact hK
set_option maxRecDepth 20000 in
set_option maxHeartbeats 2000000 in
theorem M_X8_lots {Δ : DD} {d : Nat} {x0 : Nat} {x1 : Int32} {x2 : Int32} {σ : Mem} {q : (Int32 × Mem)} (hd : 7 ≤ d) (h0 : isK 8 x0 = true) (hF : F_X8_lots x0 x1 x2 σ = some q) : Mt Δ d yX8_lots cX8_lots 9 (some .int) [rf Δ x0, .int x1, .int x2] σ (some (.int q.1)) q.2 := by
  obtain ⟨d, rfl⟩ : ∃ e, d = e + 1 := ⟨d - 1, by omega⟩
  have hd : 6 ≤ d := by omega
  refine mt_of (by decide) rfl (Nat.le_of_ble_eq_true rfl) (fun Γ C hq => ?_)
  unfold F_X8_lots at hF
  show V Δ Γ 9 0 [(0, rf Δ (x0)), (1, .int (x1)), (2, .int (x2))] [] σ
  refine v_iload_n C 1 1 dX8_lots_0 rfl rfl ?_
  refine v_iconst C (1) dX8_lots_1 (by decide) ?_
  refine v_icmp_lt C 23 dX8_lots_2 (by decide) (fun c13 => ?_) (fun c13 => ?_)
  · have hF := ifp hF c13
    refine v_iconst C (-1) dX8_lots_23 (by decide) ?_
    exact v_iretF C hq (Option.some.inj hF) dX8_lots_24
  · have hF := ifn hF c13
    refine v_iload_n C 1 1 dX8_lots_5 rfl rfl ?_
    refine v_bipush C (20) dX8_lots_6 (by decide) ?_
    refine v_icmp_gt C 23 dX8_lots_8 (by decide) (fun c14 => ?_) (fun c14 => ?_)
    · have hF := ifp hF c14
      refine v_iconst C (-1) dX8_lots_23 (by decide) ?_
      exact v_iretF C hq (Option.some.inj hF) dX8_lots_24
    · have hF := ifn hF c14
      refine v_iload_n C 2 2 dX8_lots_11 rfl rfl ?_
      refine v_iconst C (1) dX8_lots_12 (by decide) ?_
      refine v_icmp_lt C 23 dX8_lots_13 (by decide) (fun c15 => ?_) (fun c15 => ?_)
      · have hF := ifp hF c15
        refine v_iconst C (-1) dX8_lots_23 (by decide) ?_
        exact v_iretF C hq (Option.some.inj hF) dX8_lots_24
      · have hF := ifn hF c15
        refine v_iload_n C 2 2 dX8_lots_16 rfl rfl ?_
        refine v_ldcw C (2147483646) kc_X8_287 dX8_lots_17 ?_
        refine v_icmp_le C 25 dX8_lots_20 (by decide) (fun c16 => ?_) (fun c16 => ?_)
        · have hF := ifp hF c16
          refine v_aload_n C 0 0 dX8_lots_25 rfl rfl ?_
          obtain ⟨p18, g17, hF⟩ := bnd hF
          refine v_gR C fu_X8_31 g17 dX8_lots_26 ?_
          obtain ⟨v20, g19, hF⟩ := bnd hF
          refine v_gI C fu_X8_158 g19 dX8_lots_29 ?_
          refine v_istore_n C 3 (ll' := [(3, _), (0, _), (1, _), (2, _)]) dX8_lots_32 rfl (by decide) rfl ?_
          refine v_iload_n C 3 0 dX8_lots_33 rfl rfl ?_
          refine v_if_gt C 40 dX8_lots_34 (by decide) (fun c21 => ?_) (fun c21 => ?_)
          · have hF := ifp hF c21
            refine v_aload_n C 0 1 dX8_lots_40 rfl rfl ?_
            obtain ⟨v23, g22, hF⟩ := bnd hF
            refine v_gI C fu_X8_41 g22 dX8_lots_41 ?_
            refine v_iload_n C 1 2 dX8_lots_44 rfl rfl ?_
            refine v_iadd C dX8_lots_45 ?_
            refine v_bipush C (40) dX8_lots_46 (by decide) ?_
            refine v_icmp_le C 54 dX8_lots_48 (by decide) (fun c24 => ?_) (fun c24 => ?_)
            · have hF := ifp hF c24
              refine v_iconst C (0) dX8_lots_54 (by decide) ?_
              refine v_istore C 4 (ll' := [(4, _), (3, _), (0, _), (1, _), (2, _)]) dX8_lots_55 (by decide) rfl ?_
              refine v_iload_n C 2 4 dX8_lots_57 rfl rfl ?_
              refine v_i2l C dX8_lots_58 ?_
              refine v_lstore C 5 (ll' := [(5, _), (4, _), (3, _), (0, _), (1, _), (2, _)]) dX8_lots_59 (by decide) rfl ?_
              refine v_iconst C (0) dX8_lots_61 (by decide) ?_
              refine v_istore C 7 (ll' := [(7, _), (5, _), (4, _), (3, _), (0, _), (1, _), (2, _)]) dX8_lots_62 (by decide) rfl ?_
              refine v_sub [4, 5, 3, 2, 1, 0] (ll' := [(0, _), (1, _), (3, _), (4, _), (5, _), (7, _)]) rfl ?_
              exact W_X8_lots_64 C hq h0 hd hF
            · have hF := ifn hF c24
              refine v_bipush C (-2) dX8_lots_51 (by decide) ?_
              exact v_iretF C hq (Option.some.inj hF) dX8_lots_53
          · have hF := ifn hF c21
            refine v_bipush C (-4) dX8_lots_37 (by decide) ?_
            exact v_iretF C hq (Option.some.inj hF) dX8_lots_39
        · have hF := ifn hF c16
          refine v_iconst C (-1) dX8_lots_23 (by decide) ?_
          exact v_iretF C hq (Option.some.inj hF) dX8_lots_24
set_option maxRecDepth 20000 in
set_option maxHeartbeats 2000000 in
theorem M_X8_asked {Δ : DD} {d : Nat} {x0 : Nat} {σ : Mem} {q : Int32} (hd : 1 ≤ d) (h0 : isK 8 x0 = true) (hF : F_X8_asked x0 σ = some q) : Mt Δ d yX8_asked cX8_asked 1 (some .int) [rf Δ x0] σ (some (.int q)) σ := by
  obtain ⟨d, rfl⟩ : ∃ e, d = e + 1 := ⟨d - 1, by omega⟩
  have hd : 0 ≤ d := by omega
  refine mt_of (by decide) rfl (Nat.le_of_ble_eq_true rfl) (fun Γ C hq => ?_)
  unfold F_X8_asked at hF
  show V Δ Γ 1 0 [(0, rf Δ (x0))] [] σ
  refine v_aload_n C 0 0 dX8_asked_0 rfl rfl ?_
  obtain ⟨v2, g1, hF⟩ := bnd hF
  refine v_gI C fu_X8_80 g1 dX8_asked_1 ?_
  exact v_iretP C hq (Option.some.inj hF) dX8_asked_4
set_option maxRecDepth 20000 in
set_option maxHeartbeats 2000000 in
theorem M_X8_upper {Δ : DD} {d : Nat} {x0 : Nat} {σ : Mem} {q : Int64} (hd : 1 ≤ d) (h0 : isK 8 x0 = true) (hF : F_X8_upper x0 σ = some q) : Mt Δ d yX8_upper cX8_upper 1 (some .long) [rf Δ x0] σ (some (.long q)) σ := by
  obtain ⟨d, rfl⟩ : ∃ e, d = e + 1 := ⟨d - 1, by omega⟩
  have hd : 0 ≤ d := by omega
  refine mt_of (by decide) rfl (Nat.le_of_ble_eq_true rfl) (fun Γ C hq => ?_)
  unfold F_X8_upper at hF
  show V Δ Γ 1 0 [(0, rf Δ (x0))] [] σ
  refine v_aload_n C 0 0 dX8_upper_0 rfl rfl ?_
  obtain ⟨v2, g1, hF⟩ := bnd hF
  refine v_gL C fu_X8_83 g1 dX8_upper_1 ?_
  exact v_lretP C hq (Option.some.inj hF) dX8_upper_4
set_option maxRecDepth 20000 in
set_option maxHeartbeats 2000000 in
theorem M_X8_lower {Δ : DD} {d : Nat} {x0 : Nat} {σ : Mem} {q : Int64} (hd : 1 ≤ d) (h0 : isK 8 x0 = true) (hF : F_X8_lower x0 σ = some q) : Mt Δ d yX8_lower cX8_lower 1 (some .long) [rf Δ x0] σ (some (.long q)) σ := by
  obtain ⟨d, rfl⟩ : ∃ e, d = e + 1 := ⟨d - 1, by omega⟩
  have hd : 0 ≤ d := by omega
  refine mt_of (by decide) rfl (Nat.le_of_ble_eq_true rfl) (fun Γ C hq => ?_)
  unfold F_X8_lower at hF
  show V Δ Γ 1 0 [(0, rf Δ (x0))] [] σ
  refine v_aload_n C 0 0 dX8_lower_0 rfl rfl ?_
  obtain ⟨v2, g1, hF⟩ := bnd hF
  refine v_gL C fu_X8_87 g1 dX8_lower_1 ?_
  exact v_lretP C hq (Option.some.inj hF) dX8_lower_4
set_option maxRecDepth 20000 in
set_option maxHeartbeats 2000000 in
theorem M_X8_count {Δ : DD} {d : Nat} {x0 : Nat} {x1 : Int32} {σ : Mem} {q : Int32} (hd : 4 ≤ d) (h0 : isK 8 x0 = true) (hF : F_X8_count x0 x1 σ = some q) : Mt Δ d yX8_count cX8_count 2 (some .int) [rf Δ x0, .int x1] σ (some (.int q)) σ := by
  obtain ⟨d, rfl⟩ : ∃ e, d = e + 1 := ⟨d - 1, by omega⟩
  have hd : 3 ≤ d := by omega
  refine mt_of (by decide) rfl (Nat.le_of_ble_eq_true rfl) (fun Γ C hq => ?_)
  unfold F_X8_count at hF
  show V Δ Γ 2 0 [(0, rf Δ (x0)), (1, .int (x1))] [] σ
  refine v_iload_n C 1 1 dX8_count_0 rfl rfl ?_
  rcases ifc hF with ⟨c1, hF⟩ | ⟨c1, hF⟩
  · refine v_tableEq C 60 (0) (59) dX8_count_1 c1 (by decide) (by decide) (by decide) (by decide) ?_
    refine v_aload_n C 0 0 dX8_count_60 rfl rfl ?_
    obtain ⟨p3, g2, hF⟩ := bnd hF
    refine v_gR C fu_X8_31 g2 dX8_count_61 ?_
    obtain ⟨v5, g4, hF⟩ := bnd hF
    refine v_gI C fu_X8_158 g4 dX8_count_64 ?_
    exact v_iretP C hq (Option.some.inj hF) dX8_count_67
  · skip
    rcases ifc hF with ⟨c6, hF⟩ | ⟨c6, hF⟩
    · refine v_tableEq C 68 (1) (67) dX8_count_1 c6 (by decide) (by decide) (by decide) (by decide) ?_
      refine v_aload_n C 0 0 dX8_count_68 rfl rfl ?_
      obtain ⟨p8, g7, hF⟩ := bnd hF
      refine v_gR C fu_X8_31 g7 dX8_count_69 ?_
      obtain ⟨v10, g9, hF⟩ := bnd hF
      refine v_gI C fu_X8_177 g9 dX8_count_72 ?_
      exact v_iretP C hq (Option.some.inj hF) dX8_count_75
    · skip
      rcases ifc hF with ⟨c11, hF⟩ | ⟨c11, hF⟩
      · refine v_tableEq C 76 (2) (75) dX8_count_1 c11 (by decide) (by decide) (by decide) (by decide) ?_
        refine v_aload_n C 0 0 dX8_count_76 rfl rfl ?_
        obtain ⟨v13, g12, hF⟩ := bnd hF
        refine v_gI C fu_X8_41 g12 dX8_count_77 ?_
        exact v_iretP C hq (Option.some.inj hF) dX8_count_80
      · skip
        rcases ifc hF with ⟨c14, hF⟩ | ⟨c14, hF⟩
        · refine v_tableEq C 81 (3) (80) dX8_count_1 c14 (by decide) (by decide) (by decide) (by decide) ?_
          refine v_aload_n C 0 0 dX8_count_81 rfl rfl ?_
          obtain ⟨p16, g15, hF⟩ := bnd hF
          refine v_gR C fu_X8_31 g15 dX8_count_82 ?_
          obtain ⟨_, g17, hF⟩ := bnd hF
          obtain ⟨q18, g19, hF⟩ := bnd hF
          refine v_cVi C mw_X7_fines lk_X8_234 _ (M_X7_fines (by omega) (chk_k g17) g19) (chk_k g17) rfl rfl (Nat.le_of_ble_eq_true rfl) dX8_count_85 ?_
          exact v_iretP C hq (Option.some.inj hF) dX8_count_88
        · skip
          rcases ifc hF with ⟨c20, hF⟩ | ⟨c20, hF⟩
          · refine v_tableEq C 89 (4) (88) dX8_count_1 c20 (by decide) (by decide) (by decide) (by decide) ?_
            refine v_aload_n C 0 0 dX8_count_89 rfl rfl ?_
            obtain ⟨p22, g21, hF⟩ := bnd hF
            refine v_gR C fu_X8_31 g21 dX8_count_90 ?_
            obtain ⟨_, g23, hF⟩ := bnd hF
            obtain ⟨q24, g25, hF⟩ := bnd hF
            refine v_cVi C mw_X7_liesInAll lk_X8_296 _ (M_X7_liesInAll (by omega) (chk_k g23) g25) (chk_k g23) rfl rfl (Nat.le_of_ble_eq_true rfl) dX8_count_93 ?_
            exact v_iretP C hq (Option.some.inj hF) dX8_count_96
          · skip
            rcases ifc hF with ⟨c26, hF⟩ | ⟨c26, hF⟩
            · refine v_tableEq C 97 (5) (96) dX8_count_1 c26 (by decide) (by decide) (by decide) (by decide) ?_
              refine v_aload_n C 0 0 dX8_count_97 rfl rfl ?_
              obtain ⟨p28, g27, hF⟩ := bnd hF
              refine v_gR C fu_X8_31 g27 dX8_count_98 ?_
              obtain ⟨_, g29, hF⟩ := bnd hF
              obtain ⟨q30, g31, hF⟩ := bnd hF
              refine v_cVi C mw_X7_wouldBeFoundBits lk_X8_264 _ (M_X7_wouldBeFoundBits (by omega) (chk_k g29) g31) (chk_k g29) rfl rfl (Nat.le_of_ble_eq_true rfl) dX8_count_101 ?_
              exact v_iretP C hq (Option.some.inj hF) dX8_count_104
            · skip
              rcases ifc hF with ⟨c32, hF⟩ | ⟨c32, hF⟩
              · refine v_tableEq C 105 (6) (104) dX8_count_1 c32 (by decide) (by decide) (by decide) (by decide) ?_
                refine v_aload_n C 0 0 dX8_count_105 rfl rfl ?_
                obtain ⟨p34, g33, hF⟩ := bnd hF
                refine v_gR C fu_X8_31 g33 dX8_count_106 ?_
                refine v_aload_n C 0 0 dX8_count_109 rfl rfl ?_
                obtain ⟨p36, g35, hF⟩ := bnd hF
                refine v_gR C fu_X8_31 g35 dX8_count_110 ?_
                obtain ⟨v38, g37, hF⟩ := bnd hF
                refine v_gI C fu_X8_177 g37 dX8_count_113 ?_
                obtain ⟨_, g39, hF⟩ := bnd hF
                obtain ⟨q40, g41, hF⟩ := bnd hF
                refine v_cVi C mw_X7_coldOf lk_X8_299 _ (M_X7_coldOf (by omega) (chk_k g39) g41) (chk_k g39) rfl rfl (Nat.le_of_ble_eq_true rfl) dX8_count_116 ?_
                exact v_iretP C hq (Option.some.inj hF) dX8_count_119
              · skip
                rcases ifc hF with ⟨c42, hF⟩ | ⟨c42, hF⟩
                · refine v_tableEq C 120 (7) (119) dX8_count_1 c42 (by decide) (by decide) (by decide) (by decide) ?_
                  refine v_aload_n C 0 0 dX8_count_120 rfl rfl ?_
                  obtain ⟨p44, g43, hF⟩ := bnd hF
                  refine v_gR C fu_X8_31 g43 dX8_count_121 ?_
                  obtain ⟨_, g45, hF⟩ := bnd hF
                  obtain ⟨q46, g47, hF⟩ := bnd hF
                  refine v_cVi C mw_X7_quilts lk_X8_302 _ (M_X7_quilts (by omega) (chk_k g45) g47) (chk_k g45) rfl rfl (Nat.le_of_ble_eq_true rfl) dX8_count_124 ?_
                  exact v_iretP C hq (Option.some.inj hF) dX8_count_127
                · skip
                  rcases ifc hF with ⟨c48, hF⟩ | ⟨c48, hF⟩
                  · refine v_tableEq C 128 (8) (127) dX8_count_1 c48 (by decide) (by decide) (by decide) (by decide) ?_
                    refine v_aload_n C 0 0 dX8_count_128 rfl rfl ?_
                    obtain ⟨p50, g49, hF⟩ := bnd hF
                    refine v_gR C fu_X8_14 g49 dX8_count_129 ?_
                    obtain ⟨_, g51, hF⟩ := bnd hF
                    obtain ⟨q52, g53, hF⟩ := bnd hF
                    refine v_cVi C mw_X6_standing lk_X8_305 _ (M_X6_standing (by omega) (chk_k g51) g53) (chk_k g51) rfl rfl (Nat.le_of_ble_eq_true rfl) dX8_count_132 ?_
                    exact v_iretP C hq (Option.some.inj hF) dX8_count_135
                  · skip
                    rcases ifc hF with ⟨c54, hF⟩ | ⟨c54, hF⟩
                    · refine v_tableEq C 136 (9) (135) dX8_count_1 c54 (by decide) (by decide) (by decide) (by decide) ?_
                      refine v_aload_n C 0 0 dX8_count_136 rfl rfl ?_
                      obtain ⟨p56, g55, hF⟩ := bnd hF
                      refine v_gR C fu_X8_18 g55 dX8_count_137 ?_
                      obtain ⟨_, g57, hF⟩ := bnd hF
                      obtain ⟨q58, g59, hF⟩ := bnd hF
                      refine v_cVi C mw_X6_standing lk_X8_305 _ (M_X6_standing (by omega) (chk_k g57) g59) (chk_k g57) rfl rfl (Nat.le_of_ble_eq_true rfl) dX8_count_140 ?_
                      exact v_iretP C hq (Option.some.inj hF) dX8_count_143
                    · skip
                      rcases ifc hF with ⟨c60, hF⟩ | ⟨c60, hF⟩
                      · refine v_tableEq C 144 (10) (143) dX8_count_1 c60 (by decide) (by decide) (by decide) (by decide) ?_
                        refine v_aload_n C 0 0 dX8_count_144 rfl rfl ?_
                        obtain ⟨p62, g61, hF⟩ := bnd hF
                        refine v_gR C fu_X8_21 g61 dX8_count_145 ?_
                        obtain ⟨_, g63, hF⟩ := bnd hF
                        obtain ⟨q64, g65, hF⟩ := bnd hF
                        refine v_cVi C mw_X6_standing lk_X8_305 _ (M_X6_standing (by omega) (chk_k g63) g65) (chk_k g63) rfl rfl (Nat.le_of_ble_eq_true rfl) dX8_count_148 ?_
                        exact v_iretP C hq (Option.some.inj hF) dX8_count_151
                      · skip
                        have c1 := lv_neT c1 (a := 0) (by decide)
                        have c6 := lv_neT c6 (a := 1) (by decide)
                        have c11 := lv_neT c11 (a := 2) (by decide)
                        have c14 := lv_neT c14 (a := 3) (by decide)
                        have c20 := lv_neT c20 (a := 4) (by decide)
                        have c26 := lv_neT c26 (a := 5) (by decide)
                        have c32 := lv_neT c32 (a := 6) (by decide)
                        have c42 := lv_neT c42 (a := 7) (by decide)
                        have c48 := lv_neT c48 (a := 8) (by decide)
                        have c54 := lv_neT c54 (a := 9) (by decide)
                        have c60 := lv_neT c60 (a := 10) (by decide)
                        refine v_tableOut C 152 dX8_count_1 (by omega) (by decide) ?_
                        refine v_iconst C (-1) dX8_count_152 (by decide) ?_
                        exact v_iretP C hq (Option.some.inj hF) dX8_count_153

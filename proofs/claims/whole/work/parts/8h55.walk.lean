def K_X9_faultOf_2 (Δ : DD) (Γ : GG) (q : (Int32 × Mem)) (x0 : Nat) (x1 : Int32) (y : (Int32 × Mem) ⊕ (Int32 × Mem)) : Prop := match y with
  | .inl s => V Δ Γ 3 2 [(0, rf Δ (x0)), (1, .int (x1)), (2, .int (s.1))] [] s.2
  | .inr t => (t = q)
def K_X9_faultOf_53 (Δ : DD) (Γ : GG) (q : (Int32 × Mem)) (x0 : Nat) (x1 : Int32) (y : (Mem) ⊕ (Int32 × Mem)) : Prop := match y with
  | .inl s => V Δ Γ 3 53 [(0, rf Δ (x0)), (1, .int (x1))] [] s
  | .inr t => (t = q)
set_option maxRecDepth 20000 in
set_option maxHeartbeats 2000000 in
theorem W_X9_faultOf_77 {Δ : DD} {Γ : GG} {d : Nat} {q : (Int32 × Mem)} {x0 : Nat} {x1 : Int32}  {σ : Mem} {y : ((Mem) ⊕ (Int32 × Mem))} (C : Cx Δ Γ RX9 cX9_faultOf 3 d (some .int)) (hq : RetQ Δ Γ (some (.int q.1)) q.2) (h0 : isK 9 x0 = true) (hd : 3 ≤ d) (hF : F_X9_faultOf_77 x0 x1  σ = some y) (hK : (K_X9_faultOf_53 Δ Γ q x0 x1 y)) : V Δ Γ 3 77 [(0, rf Δ (x0)), (1, .int (x1))] [] σ := by
  unfold F_X9_faultOf_77 at hF
  refine v_aload_n C 0 0 dX9_faultOf_77 rfl rfl ?_
  refine v_iload_n C 1 1 dX9_faultOf_78 rfl rfl ?_
  obtain ⟨q29, g30, hF⟩ := bnd hF
  refine v_cVi C mw_X9_takesBed lk_X9_107 _ (M_X9_takesBed (by omega) h0 g30) h0 rfl rfl (Nat.le_of_ble_eq_true rfl) dX9_faultOf_79 ?_
  refine v_if_ne C 90 dX9_faultOf_82 (by decide) (fun c31 => ?_) (fun c31 => ?_)
  · have hF := ifn hF c31
    refine v_aload_n C 0 0 dX9_faultOf_90 rfl rfl ?_
    refine v_iload_n C 1 1 dX9_faultOf_91 rfl rfl ?_
    obtain ⟨q32, g33, hF⟩ := bnd hF
    refine v_cVv C mw_X9_blanks lk_X9_100 _ (M_X9_blanks (by omega) h0 g33) h0 rfl rfl (Nat.le_of_ble_eq_true rfl) dX9_faultOf_92 ?_
    refine v_goto C 53 dX9_faultOf_95 (by decide) ?_
    cases hF
    exact hK
  · have hF := ifp hF c31
    refine v_aload_n C 0 0 dX9_faultOf_85 rfl rfl ?_
    obtain ⟨v35, g34, hF⟩ := bnd hF
    refine v_gI C fu_X9_85 g34 dX9_faultOf_86 ?_
    cases hF
    exact v_iretF C hq hK dX9_faultOf_89
set_option maxRecDepth 20000 in
set_option maxHeartbeats 2000000 in
theorem W_X9_faultOf_53 {Δ : DD} {Γ : GG} {d : Nat} {q : (Int32 × Mem)} {x0 : Nat} {x1 : Int32} (C : Cx Δ Γ RX9 cX9_faultOf 3 d (some .int)) (hq : RetQ Δ Γ (some (.int q.1)) q.2) (h0 : isK 9 x0 = true) (hd : 3 ≤ d) {s : Mem} (hF : F_X9_faultOf_53 x0 x1  s = some q) : V Δ Γ 3 53 [(0, rf Δ (x0)), (1, .int (x1))] [] s := by
  have hF : F_X9_faultOf_53 x0 x1  s = some q := hF
  refine lp_V (W := fun (s : Mem) => V Δ Γ 3 53 [(0, rf Δ (x0)), (1, .int (x1))] [] s) (K := fun t => t = q) (K' := K_X9_faultOf_53 Δ Γ q x0 x1 ) (fun _ h => h) (fun _ h => h) ?_ s q hF rfl
  clear hF
  intro s z hF hK
  refine v_aload_n C 0 0 dX9_faultOf_53 rfl rfl ?_
  obtain ⟨v18, g17, hF⟩ := bnd hF
  refine v_gI C fu_X9_85 g17 dX9_faultOf_54 ?_
  refine v_aload_n C 0 0 dX9_faultOf_57 rfl rfl ?_
  obtain ⟨p20, g19, hF⟩ := bnd hF
  refine v_gR C fu_X9_25 g19 dX9_faultOf_58 ?_
  refine v_iload_n C 1 1 dX9_faultOf_61 rfl rfl ?_
  obtain ⟨v21, g22, hF⟩ := bnd hF
  refine v_aI C g22 dX9_faultOf_62 ?_
  refine v_icmp_lt C 77 dX9_faultOf_63 (by decide) (fun c23 => ?_) (fun c23 => ?_)
  · have hF := ifp hF c23
    exact W_X9_faultOf_77 C hq h0 hd hF hK
  · have hF := ifn hF c23
    refine v_aload_n C 0 0 dX9_faultOf_66 rfl rfl ?_
    obtain ⟨p25, g24, hF⟩ := bnd hF
    refine v_gR C fu_X9_7 g24 dX9_faultOf_67 ?_
    refine v_sipush C (7216) dX9_faultOf_70 (by decide) ?_
    obtain ⟨v26, g27, hF⟩ := bnd hF
    refine v_aI C g27 dX9_faultOf_73 ?_
    refine v_if_ne C 98 dX9_faultOf_74 (by decide) (fun c28 => ?_) (fun c28 => ?_)
    · have hF := ifn hF c28
      refine v_bipush C (-9) dX9_faultOf_98 (by decide) ?_
      cases hF
      exact v_iretF C hq hK dX9_faultOf_100
    · have hF := ifp hF c28
      exact W_X9_faultOf_77 C hq h0 hd hF hK
set_option maxRecDepth 20000 in
set_option maxHeartbeats 2000000 in
theorem W_X9_faultOf_2 {Δ : DD} {Γ : GG} {d : Nat} {q : (Int32 × Mem)} {x0 : Nat} {x1 : Int32} (C : Cx Δ Γ RX9 cX9_faultOf 3 d (some .int)) (hq : RetQ Δ Γ (some (.int q.1)) q.2) (h0 : isK 9 x0 = true) (hd : 3 ≤ d) {s : Int32 × Mem} (hF : F_X9_faultOf_2 x0 x1  s = some q) : V Δ Γ 3 2 [(0, rf Δ (x0)), (1, .int (x1)), (2, .int (s.1))] [] s.2 := by
  have hF : F_X9_faultOf_2 x0 x1  s = some q := hF
  refine lp_V (W := fun (s : Int32 × Mem) => V Δ Γ 3 2 [(0, rf Δ (x0)), (1, .int (x1)), (2, .int (s.1))] [] s.2) (K := fun t => t = q) (K' := K_X9_faultOf_2 Δ Γ q x0 x1 ) (fun _ h => h) (fun _ h => h) ?_ s q hF rfl
  clear hF
  intro s z hF hK
  refine v_iload_n C 2 2 dX9_faultOf_2 rfl rfl ?_
  refine v_bipush C (44) dX9_faultOf_3 (by decide) ?_
  refine v_icmp_ge C 25 dX9_faultOf_5 (by decide) (fun c1 => ?_) (fun c1 => ?_)
  · have hF := ifp hF c1
    refine v_aload_n C 0 0 dX9_faultOf_25 rfl rfl ?_
    refine v_iconst C (0) dX9_faultOf_26 (by decide) ?_
    obtain ⟨m3, g2, hF⟩ := bnd hF
    refine v_pI C fp_X9_85 g2 dX9_faultOf_27 ?_
    refine v_aload_n C 0 0 dX9_faultOf_30 rfl rfl ?_
    refine v_iload_n C 1 1 dX9_faultOf_31 rfl rfl ?_
    obtain ⟨q4, g5, hF⟩ := bnd hF
    refine v_cVv C mw_X9_blanks lk_X9_100 _ (M_X9_blanks (by omega) h0 g5) h0 rfl rfl (Nat.le_of_ble_eq_true rfl) dX9_faultOf_32 ?_
    refine v_aload_n C 0 0 dX9_faultOf_35 rfl rfl ?_
    refine v_iload_n C 1 1 dX9_faultOf_36 rfl rfl ?_
    obtain ⟨q6, g7, hF⟩ := bnd hF
    refine v_cVi C mw_X9_takesFirst lk_X9_104 _ (M_X9_takesFirst (by omega) h0 g7) h0 rfl rfl (Nat.le_of_ble_eq_true rfl) dX9_faultOf_37 ?_
    refine v_if_ne C 48 dX9_faultOf_40 (by decide) (fun c8 => ?_) (fun c8 => ?_)
    · have hF := ifn hF c8
      refine v_aload_n C 0 0 dX9_faultOf_48 rfl rfl ?_
      refine v_iload_n C 1 1 dX9_faultOf_49 rfl rfl ?_
      obtain ⟨q9, g10, hF⟩ := bnd hF
      refine v_cVv C mw_X9_blanks lk_X9_100 _ (M_X9_blanks (by omega) h0 g10) h0 rfl rfl (Nat.le_of_ble_eq_true rfl) dX9_faultOf_50 ?_
      refine v_sub [0, 1] (ll' := [(0, _), (1, _)]) rfl ?_
      obtain ⟨z, hz, e⟩ := mapd hF
      subst e
      exact W_X9_faultOf_53 C hq h0 hd (hz.trans (congrArg some hK))
    · have hF := ifp hF c8
      refine v_aload_n C 0 0 dX9_faultOf_43 rfl rfl ?_
      obtain ⟨v12, g11, hF⟩ := bnd hF
      refine v_gI C fu_X9_85 g11 dX9_faultOf_44 ?_
      cases hF
      exact v_iretF C hq hK dX9_faultOf_47
  · have hF := ifn hF c1
    refine v_aload_n C 0 0 dX9_faultOf_8 rfl rfl ?_
    obtain ⟨p14, g13, hF⟩ := bnd hF
    refine v_gR C fu_X9_7 g13 dX9_faultOf_9 ?_
    refine v_sipush C (7216) dX9_faultOf_12 (by decide) ?_
    refine v_iload_n C 2 2 dX9_faultOf_15 rfl rfl ?_
    refine v_iadd C dX9_faultOf_16 ?_
    refine v_iconst C (0) dX9_faultOf_17 (by decide) ?_
    obtain ⟨m15, g16, hF⟩ := bnd hF
    refine v_sI C g16 dX9_faultOf_18 ?_
    refine v_iinc C (_ + (1 : Int32)) 2 (ll' := [(2, _), (0, _), (1, _)]) dX9_faultOf_19 rfl (inc_eq (by decide)) (by decide) rfl ?_
    refine v_goto C 2 dX9_faultOf_22 (by decide) ?_
    refine v_sub [1, 2, 0] (ll' := [(0, _), (1, _), (2, _)]) rfl ?_
    cases hF
    exact hK
set_option maxRecDepth 20000 in
set_option maxHeartbeats 2000000 in
theorem M_X9_faultOf {Δ : DD} {d : Nat} {x0 : Nat} {x1 : Int32} {σ : Mem} {q : (Int32 × Mem)} (hd : 4 ≤ d) (h0 : isK 9 x0 = true) (hF : F_X9_faultOf x0 x1 σ = some q) : Mt Δ d yX9_faultOf cX9_faultOf 3 (some .int) [rf Δ x0, .int x1] σ (some (.int q.1)) q.2 := by
  obtain ⟨d, rfl⟩ : ∃ e, d = e + 1 := ⟨d - 1, by omega⟩
  have hd : 3 ≤ d := by omega
  refine mt_of (by decide) rfl (Nat.le_of_ble_eq_true rfl) (fun Γ C hq => ?_)
  unfold F_X9_faultOf at hF
  show V Δ Γ 3 0 [(0, rf Δ (x0)), (1, .int (x1))] [] σ
  refine v_iconst C (0) dX9_faultOf_0 (by decide) ?_
  refine v_istore_n C 2 (ll' := [(2, _), (0, _), (1, _)]) dX9_faultOf_1 rfl (by decide) rfl ?_
  refine v_sub [1, 2, 0] (ll' := [(0, _), (1, _), (2, _)]) rfl ?_
  exact W_X9_faultOf_2 C hq h0 hd hF
set_option maxRecDepth 20000 in
set_option maxHeartbeats 2000000 in
theorem M_X9_fault {Δ : DD} {d : Nat} {x0 : Nat} {x1 : Int32} {σ : Mem} {q : (Int32 × Mem)} (hd : 5 ≤ d) (h0 : isK 9 x0 = true) (hF : F_X9_fault x0 x1 σ = some q) : Mt Δ d yX9_fault cX9_fault 2 (some .int) [rf Δ x0, .int x1] σ (some (.int q.1)) q.2 := by
  obtain ⟨d, rfl⟩ : ∃ e, d = e + 1 := ⟨d - 1, by omega⟩
  have hd : 4 ≤ d := by omega
  refine mt_of (by decide) rfl (Nat.le_of_ble_eq_true rfl) (fun Γ C hq => ?_)
  unfold F_X9_fault at hF
  show V Δ Γ 2 0 [(0, rf Δ (x0)), (1, .int (x1))] [] σ
  refine v_iload_n C 1 1 dX9_fault_0 rfl rfl ?_
  obtain ⟨q1, g2, hF⟩ := bnd hF
  refine v_cSi C mw_X9_isText lk_X9_82 _ (M_X9_isText (by omega) g2) rfl rfl (Nat.le_of_ble_eq_true rfl) dX9_fault_1 ?_
  refine v_if_ne C 9 dX9_fault_4 (by decide) (fun c3 => ?_) (fun c3 => ?_)
  · have hF := ifn hF c3
    refine v_aload_n C 0 0 dX9_fault_9 rfl rfl ?_
    obtain ⟨p5, g4, hF⟩ := bnd hF
    refine v_gR C fu_X9_25 g4 dX9_fault_10 ?_
    refine v_iload_n C 1 1 dX9_fault_13 rfl rfl ?_
    obtain ⟨v6, g7, hF⟩ := bnd hF
    refine v_aI C g7 dX9_fault_14 ?_
    refine v_if_ge C 26 dX9_fault_15 (by decide) (fun c8 => ?_) (fun c8 => ?_)
    · have hF := ifp hF c8
      refine v_aload_n C 0 0 dX9_fault_26 rfl rfl ?_
      refine v_iload_n C 1 1 dX9_fault_27 rfl rfl ?_
      obtain ⟨q9, g10, hF⟩ := bnd hF
      refine v_cVi C mw_X9_faultOf lk_X9_110 _ (M_X9_faultOf (by omega) h0 g10) h0 rfl rfl (Nat.le_of_ble_eq_true rfl) dX9_fault_28 ?_
      exact v_iretF C hq (Option.some.inj hF) dX9_fault_31
    · have hF := ifn hF c8
      refine v_aload_n C 0 0 dX9_fault_18 rfl rfl ?_
      refine v_iconst C (1) dX9_fault_19 (by decide) ?_
      obtain ⟨q11, g12, hF⟩ := bnd hF
      refine v_cVi C mw_X9_found lk_X9_63 _ (M_X9_found (by omega) h0 g12) h0 rfl rfl (Nat.le_of_ble_eq_true rfl) dX9_fault_20 ?_
      refine v_goto C 31 dX9_fault_23 (by decide) ?_
      exact v_iretF C hq (Option.some.inj hF) dX9_fault_31
  · have hF := ifp hF c3
    refine v_iconst C (-1) dX9_fault_7 (by decide) ?_
    exact v_iretF C hq (Option.some.inj hF) dX9_fault_8
def K_X9_town_54 (Δ : DD) (Γ : GG) (q : (Int32 × Mem)) (x0 : Nat) (y : (Int32 × Mem) ⊕ (Int32 × Mem)) : Prop := match y with
  | .inl s => V Δ Γ 3 54 [(0, rf Δ (x0)), (2, .int (s.1))] [] s.2
  | .inr t => (t = q)
set_option maxRecDepth 20000 in
set_option maxHeartbeats 2000000 in
theorem W_X9_town_54 {Δ : DD} {Γ : GG} {d : Nat} {q : (Int32 × Mem)} {x0 : Nat} (C : Cx Δ Γ RX9 cX9_town 3 d (some .int)) (hq : RetQ Δ Γ (some (.int q.1)) q.2) (h0 : isK 9 x0 = true) (hd : 4 ≤ d) {s : Int32 × Mem} (hF : F_X9_town_54 x0  s = some q) : V Δ Γ 3 54 [(0, rf Δ (x0)), (2, .int (s.1))] [] s.2 := by
  have hF : F_X9_town_54 x0  s = some q := hF
  refine lp_V (W := fun (s : Int32 × Mem) => V Δ Γ 3 54 [(0, rf Δ (x0)), (2, .int (s.1))] [] s.2) (K := fun t => t = q) (K' := K_X9_town_54 Δ Γ q x0 ) (fun _ h => h) (fun _ h => h) ?_ s q hF rfl
  clear hF
  intro s z hF hK
  refine v_iload_n C 2 1 dX9_town_54 rfl rfl ?_
  refine v_iconst C (3) dX9_town_55 (by decide) ?_
  refine v_icmp_ge C 72 dX9_town_56 (by decide) (fun c1 => ?_) (fun c1 => ?_)
  · have hF := ifp hF c1
    refine v_aload_n C 0 0 dX9_town_72 rfl rfl ?_
    obtain ⟨p3, g2, hF⟩ := bnd hF
    refine v_gR C fu_X9_7 g2 dX9_town_73 ?_
    refine v_iconst C (0) dX9_town_76 (by decide) ?_
    obtain ⟨v4, g5, hF⟩ := bnd hF
    refine v_aI C g5 dX9_town_77 ?_
    cases hF
    exact v_iretF C hq hK dX9_town_78
  · have hF := ifn hF c1
    refine v_aload_n C 0 0 dX9_town_59 rfl rfl ?_
    obtain ⟨p7, g6, hF⟩ := bnd hF
    refine v_gR C fu_X9_13 g6 dX9_town_60 ?_
    refine v_iload_n C 2 1 dX9_town_63 rfl rfl ?_
    refine v_iconst C (-1) dX9_town_64 (by decide) ?_
    obtain ⟨m8, g9, hF⟩ := bnd hF
    refine v_sI C g9 dX9_town_65 ?_
    refine v_iinc C (_ + (1 : Int32)) 1 (ll' := [(2, _), (0, _)]) dX9_town_66 rfl (inc_eq (by decide)) (by decide) rfl ?_
    refine v_goto C 54 dX9_town_69 (by decide) ?_
    refine v_sub [1, 0] (ll' := [(0, _), (2, _)]) rfl ?_
    cases hF
    exact hK
set_option maxRecDepth 20000 in
set_option maxHeartbeats 2000000 in
theorem M_X9_town {Δ : DD} {d : Nat} {x0 : Nat} {x1 : Int32} {σ : Mem} {q : (Int32 × Mem)} (hd : 5 ≤ d) (h0 : isK 9 x0 = true) (hF : F_X9_town x0 x1 σ = some q) : Mt Δ d yX9_town cX9_town 3 (some .int) [rf Δ x0, .int x1] σ (some (.int q.1)) q.2 := by
  obtain ⟨d, rfl⟩ : ∃ e, d = e + 1 := ⟨d - 1, by omega⟩
  have hd : 4 ≤ d := by omega
  refine mt_of (by decide) rfl (Nat.le_of_ble_eq_true rfl) (fun Γ C hq => ?_)
  unfold F_X9_town at hF
  show V Δ Γ 3 0 [(0, rf Δ (x0)), (1, .int (x1))] [] σ
  refine v_iload_n C 1 1 dX9_town_0 rfl rfl ?_
  obtain ⟨q10, g11, hF⟩ := bnd hF
  refine v_cSi C mw_X9_isText lk_X9_82 _ (M_X9_isText (by omega) g11) rfl rfl (Nat.le_of_ble_eq_true rfl) dX9_town_1 ?_
  refine v_if_ne C 9 dX9_town_4 (by decide) (fun c12 => ?_) (fun c12 => ?_)
  · have hF := ifn hF c12
    refine v_aload_n C 0 0 dX9_town_9 rfl rfl ?_
    obtain ⟨p14, g13, hF⟩ := bnd hF
    refine v_gR C fu_X9_25 g13 dX9_town_10 ?_
    refine v_iload_n C 1 1 dX9_town_13 rfl rfl ?_
    obtain ⟨v15, g16, hF⟩ := bnd hF
    refine v_aI C g16 dX9_town_14 ?_
    refine v_if_ge C 24 dX9_town_15 (by decide) (fun c17 => ?_) (fun c17 => ?_)
    · have hF := ifp hF c17
      refine v_aload_n C 0 0 dX9_town_24 rfl rfl ?_
      refine v_iload_n C 1 1 dX9_town_25 rfl rfl ?_
      obtain ⟨q18, g19, hF⟩ := bnd hF
      refine v_cVi C mw_X9_faultOf lk_X9_110 _ (M_X9_faultOf (by omega) h0 g19) h0 rfl rfl (Nat.le_of_ble_eq_true rfl) dX9_town_26 ?_
      refine v_bipush C (-9) dX9_town_29 (by decide) ?_
      refine v_icmp_eq C 37 dX9_town_31 (by decide) (fun c20 => ?_) (fun c20 => ?_)
      · have hF := ifp hF c20
        refine v_aload_n C 0 0 dX9_town_37 rfl rfl ?_
        refine v_sipush C (7216) dX9_town_38 (by decide) ?_
        refine v_iconst C (0) dX9_town_41 (by decide) ?_
        refine v_bipush C (44) dX9_town_42 (by decide) ?_
        obtain ⟨q21, g22, hF⟩ := bnd hF
        refine v_cVv C mw_X9_copyAll lk_X9_113 _ (M_X9_copyAll (by omega) h0 g22) h0 rfl rfl (Nat.le_of_ble_eq_true rfl) dX9_town_44 ?_
        refine v_aload_n C 0 0 dX9_town_47 rfl rfl ?_
        refine v_iconst C (0) dX9_town_48 (by decide) ?_
        obtain ⟨m24, g23, hF⟩ := bnd hF
        refine v_pI C fp_X9_117 g23 dX9_town_49 ?_
        refine v_iconst C (0) dX9_town_52 (by decide) ?_
        refine v_istore_n C 2 (ll' := [(2, _), (0, _), (1, _)]) dX9_town_53 rfl (by decide) rfl ?_
        refine v_sub [1, 0] (ll' := [(0, _), (2, _)]) rfl ?_
        exact W_X9_town_54 C hq h0 hd hF
      · have hF := ifn hF c20
        refine v_bipush C (-4) dX9_town_34 (by decide) ?_
        exact v_iretF C hq (Option.some.inj hF) dX9_town_36
    · have hF := ifn hF c17
      refine v_aload_n C 0 0 dX9_town_18 rfl rfl ?_
      refine v_iconst C (1) dX9_town_19 (by decide) ?_
      obtain ⟨q25, g26, hF⟩ := bnd hF
      refine v_cVi C mw_X9_found lk_X9_63 _ (M_X9_found (by omega) h0 g26) h0 rfl rfl (Nat.le_of_ble_eq_true rfl) dX9_town_20 ?_
      exact v_iretF C hq (Option.some.inj hF) dX9_town_23
  · have hF := ifp hF c12
    refine v_iconst C (-1) dX9_town_7 (by decide) ?_
    exact v_iretF C hq (Option.some.inj hF) dX9_town_8
set_option maxRecDepth 20000 in
set_option maxHeartbeats 2000000 in
theorem M_X9_isBed {Δ : DD} {d : Nat} {x0 : Nat} {x1 : Int32} {σ : Mem} {q : Int32} (hd : 2 ≤ d) (h0 : isK 9 x0 = true) (hF : F_X9_isBed x0 x1 σ = some q) : Mt Δ d yX9_isBed cX9_isBed 2 (some .boolean) [rf Δ x0, .int x1] σ (some (.int q)) σ := by
  obtain ⟨d, rfl⟩ : ∃ e, d = e + 1 := ⟨d - 1, by omega⟩
  have hd : 1 ≤ d := by omega
  refine mt_of (by decide) rfl (Nat.le_of_ble_eq_true rfl) (fun Γ C hq => ?_)
  unfold F_X9_isBed at hF
  show V Δ Γ 2 0 [(0, rf Δ (x0)), (1, .int (x1))] [] σ
  refine v_iload_n C 1 1 dX9_isBed_0 rfl rfl ?_
  refine v_i2l C dX9_isBed_1 ?_
  refine v_lconst C 0 dX9_isBed_2 (by decide) ?_
  refine v_aload_n C 0 0 dX9_isBed_3 rfl rfl ?_
  obtain ⟨p2, g1, hF⟩ := bnd hF
  refine v_gR C fu_X9_7 g1 dX9_isBed_4 ?_
  refine v_iconst C (0) dX9_isBed_7 (by decide) ?_
  obtain ⟨v3, g4, hF⟩ := bnd hF
  refine v_aI C g4 dX9_isBed_8 ?_
  refine v_iconst C (1) dX9_isBed_9 (by decide) ?_
  refine v_isub C dX9_isBed_10 ?_
  refine v_i2l C dX9_isBed_11 ?_
  obtain ⟨q5, g6, hF⟩ := bnd hF
  refine v_cSi C mw_X9_in lk_X9_53 _ (M_X9_in (by omega) g6) rfl rfl (Nat.le_of_ble_eq_true rfl) dX9_isBed_12 ?_
  obtain ⟨_, g7, hF⟩ := bnd hF
  exact v_zretP C hq (Option.some.inj hF) (bz_nr g7) dX9_isBed_15
set_option maxRecDepth 20000 in
set_option maxHeartbeats 2000000 in
theorem M_X9_isTown {Δ : DD} {d : Nat} {x0 : Nat} {σ : Mem} {q : Int32} (hd : 1 ≤ d) (h0 : isK 9 x0 = true) (hF : F_X9_isTown x0 σ = some q) : Mt Δ d yX9_isTown cX9_isTown 1 (some .boolean) [rf Δ x0] σ (some (.int q)) σ := by
  obtain ⟨d, rfl⟩ : ∃ e, d = e + 1 := ⟨d - 1, by omega⟩
  have hd : 0 ≤ d := by omega
  refine mt_of (by decide) rfl (Nat.le_of_ble_eq_true rfl) (fun Γ C hq => ?_)
  unfold F_X9_isTown at hF
  show V Δ Γ 1 0 [(0, rf Δ (x0))] [] σ
  refine v_aload_n C 0 0 dX9_isTown_0 rfl rfl ?_
  obtain ⟨p2, g1, hF⟩ := bnd hF
  refine v_gR C fu_X9_7 g1 dX9_isTown_1 ?_
  refine v_iconst C (0) dX9_isTown_4 (by decide) ?_
  obtain ⟨v3, g4, hF⟩ := bnd hF
  refine v_aI C g4 dX9_isTown_5 ?_
  refine v_if_le C 13 dX9_isTown_6 (by decide) (fun c5 => ?_) (fun c5 => ?_)
  · have hF := ifp hF c5
    refine v_iconst C (0) dX9_isTown_13 (by decide) ?_
    exact v_zretP C hq (Option.some.inj hF) rfl dX9_isTown_14
  · have hF := ifn hF c5
    refine v_iconst C (1) dX9_isTown_9 (by decide) ?_
    refine v_goto C 14 dX9_isTown_10 (by decide) ?_
    exact v_zretP C hq (Option.some.inj hF) rfl dX9_isTown_14
set_option maxRecDepth 20000 in
set_option maxHeartbeats 2000000 in
theorem W_X9_barOf_10 {Δ : DD} {Γ : GG} {d : Nat} {q : Int32} {x1 : Int32}  {σ : Mem} (C : Cx Δ Γ RX9 cX9_barOf 2 d (some .int)) (hq : RetQ Δ Γ (some (.int q)) σ) (hd : 0 ≤ d) (hF : F_X9_barOf_10 x1  σ = some q) : V Δ Γ 2 10 [(1, .int (x1))] [] σ := by
  unfold F_X9_barOf_10 at hF
  refine v_iload_n C 1 0 dX9_barOf_10 rfl rfl ?_
  refine v_iconst C (2) dX9_barOf_11 (by decide) ?_
  refine v_iadd C dX9_barOf_12 ?_
  refine v_goto C 33 dX9_barOf_13 (by decide) ?_
  exact v_iretP C hq (Option.some.inj hF) dX9_barOf_33
set_option maxRecDepth 20000 in
set_option maxHeartbeats 2000000 in
theorem W_X9_barOf_26 {Δ : DD} {Γ : GG} {d : Nat} {q : Int32} {x1 : Int32}  {σ : Mem} (C : Cx Δ Γ RX9 cX9_barOf 2 d (some .int)) (hq : RetQ Δ Γ (some (.int q)) σ) (hd : 0 ≤ d) (hF : F_X9_barOf_26 x1  σ = some q) : V Δ Γ 2 26 [(1, .int (x1))] [] σ := by
  unfold F_X9_barOf_26 at hF
  refine v_iload_n C 1 0 dX9_barOf_26 rfl rfl ?_
  refine v_iconst C (2) dX9_barOf_27 (by decide) ?_
  refine v_idiv C dX9_barOf_28 (by decide) ?_
  refine v_goto C 33 dX9_barOf_29 (by decide) ?_
  exact v_iretP C hq (Option.some.inj hF) dX9_barOf_33
set_option maxRecDepth 20000 in
set_option maxHeartbeats 2000000 in
theorem M_X9_barOf {Δ : DD} {d : Nat} {x0 : Int32} {x1 : Int32} {σ : Mem} {q : Int32} (hd : 1 ≤ d) (hF : F_X9_barOf x0 x1 σ = some q) : Mt Δ d yX9_barOf cX9_barOf 2 (some .int) [.int x0, .int x1] σ (some (.int q)) σ := by
  obtain ⟨d, rfl⟩ : ∃ e, d = e + 1 := ⟨d - 1, by omega⟩
  have hd : 0 ≤ d := by omega
  refine mt_of (by decide) rfl (Nat.le_of_ble_eq_true rfl) (fun Γ C hq => ?_)
  unfold F_X9_barOf at hF
  show V Δ Γ 2 0 [(0, .int (x0)), (1, .int (x1))] [] σ
  refine v_iload_n C 0 0 dX9_barOf_0 rfl rfl ?_
  refine v_iconst C (1) dX9_barOf_1 (by decide) ?_
  refine v_icmp_eq C 10 dX9_barOf_2 (by decide) (fun c1 => ?_) (fun c1 => ?_)
  · have hF := ifp hF c1
    refine v_sub [1] (ll' := [(1, _)]) rfl ?_
    exact W_X9_barOf_10 C hq hd hF
  · have hF := ifn hF c1
    refine v_iload_n C 0 0 dX9_barOf_5 rfl rfl ?_
    refine v_iconst C (5) dX9_barOf_6 (by decide) ?_
    refine v_icmp_ne C 16 dX9_barOf_7 (by decide) (fun c2 => ?_) (fun c2 => ?_)
    · have hF := ifn hF c2
      refine v_iload_n C 0 0 dX9_barOf_16 rfl rfl ?_
      refine v_iconst C (2) dX9_barOf_17 (by decide) ?_
      refine v_icmp_eq C 26 dX9_barOf_18 (by decide) (fun c3 => ?_) (fun c3 => ?_)
      · have hF := ifp hF c3
        refine v_sub [1] (ll' := [(1, _)]) rfl ?_
        exact W_X9_barOf_26 C hq hd hF
      · have hF := ifn hF c3
        refine v_iload_n C 0 0 dX9_barOf_21 rfl rfl ?_
        refine v_iconst C (4) dX9_barOf_22 (by decide) ?_
        refine v_icmp_ne C 32 dX9_barOf_23 (by decide) (fun c4 => ?_) (fun c4 => ?_)
        · have hF := ifn hF c4
          refine v_iload_n C 1 1 dX9_barOf_32 rfl rfl ?_
          exact v_iretP C hq (Option.some.inj hF) dX9_barOf_33
        · have hF := ifp hF c4
          refine v_sub [1] (ll' := [(1, _)]) rfl ?_
          exact W_X9_barOf_26 C hq hd hF
    · have hF := ifp hF c2
      refine v_sub [1] (ll' := [(1, _)]) rfl ?_
      exact W_X9_barOf_10 C hq hd hF
set_option maxRecDepth 20000 in
set_option maxHeartbeats 2000000 in
theorem W_X9_crossBy_33 {Δ : DD} {Γ : GG} {d : Nat} {q : Int32} {x1 : Int32} {x4 : Int32} {y0 : Int32} {σ : Mem} (C : Cx Δ Γ RX9 cX9_crossBy 7 d (some .int)) (hq : RetQ Δ Γ (some (.int q)) σ) (hd : 1 ≤ d) (hF : F_X9_crossBy_33 x1 x4 y0 σ = some q) : V Δ Γ 7 33 [(1, .int (x1)), (4, .int (x4))] [.int (y0)] σ := by
  unfold F_X9_crossBy_33 at hF
  refine v_istore C 6 (ll' := [(6, _), (1, _), (4, _)]) dX9_crossBy_33 (by decide) rfl ?_
  refine v_iload_n C 1 1 dX9_crossBy_35 rfl rfl ?_
  rcases ifc hF with ⟨c1, hF⟩ | ⟨c1, hF⟩
  · refine v_tableEq C 64 (3) (28) dX9_crossBy_36 c1 (by decide) (by decide) (by decide) (by decide) ?_
    refine v_iload C 4 2 dX9_crossBy_64 rfl ?_
    refine v_iconst C (2) dX9_crossBy_66 (by decide) ?_
    refine v_irem C dX9_crossBy_67 (by decide) ?_
    refine v_iconst C (1) dX9_crossBy_68 (by decide) ?_
    refine v_icmp_ne C 76 dX9_crossBy_69 (by decide) (fun c2 => ?_) (fun c2 => ?_)
    · have hF := ifn hF c2
      refine v_iload C 6 0 dX9_crossBy_76 rfl ?_
      exact v_iretP C hq (Option.some.inj hF) dX9_crossBy_78
    · have hF := ifp hF c2
      refine v_iconst C (0) dX9_crossBy_72 (by decide) ?_
      refine v_goto C 78 dX9_crossBy_73 (by decide) ?_
      exact v_iretP C hq (Option.some.inj hF) dX9_crossBy_78
  · skip
    rcases ifc hF with ⟨c3, hF⟩ | ⟨c3, hF⟩
    · refine v_tableEq C 79 (4) (43) dX9_crossBy_36 c3 (by decide) (by decide) (by decide) (by decide) ?_
      refine v_iload C 6 0 dX9_crossBy_79 rfl ?_
      refine v_if_le C 91 dX9_crossBy_81 (by decide) (fun c4 => ?_) (fun c4 => ?_)
      · have hF := ifp hF c4
        refine v_iconst C (0) dX9_crossBy_91 (by decide) ?_
        exact v_iretP C hq (Option.some.inj hF) dX9_crossBy_92
      · have hF := ifn hF c4
        refine v_iload C 6 0 dX9_crossBy_84 rfl ?_
        refine v_iconst C (1) dX9_crossBy_86 (by decide) ?_
        refine v_iadd C dX9_crossBy_87 ?_
        refine v_goto C 92 dX9_crossBy_88 (by decide) ?_
        exact v_iretP C hq (Option.some.inj hF) dX9_crossBy_92
    · skip
      rcases ifc hF with ⟨c5, hF⟩ | ⟨c5, hF⟩
      · refine v_tableEq C 93 (5) (57) dX9_crossBy_36 c5 (by decide) (by decide) (by decide) (by decide) ?_
        refine v_iload C 6 0 dX9_crossBy_93 rfl ?_
        refine v_iconst C (2) dX9_crossBy_95 (by decide) ?_
        refine v_idiv C dX9_crossBy_96 (by decide) ?_
        exact v_iretP C hq (Option.some.inj hF) dX9_crossBy_97
      · skip
        have c1 := lv_neT c1 (a := 3) (by decide)
        have c3 := lv_neT c3 (a := 4) (by decide)
        have c5 := lv_neT c5 (a := 5) (by decide)
        refine v_tableOut C 98 dX9_crossBy_36 (by omega) (by decide) ?_
        refine v_iload C 6 0 dX9_crossBy_98 rfl ?_
        exact v_iretP C hq (Option.some.inj hF) dX9_crossBy_100
set_option maxRecDepth 20000 in
set_option maxHeartbeats 2000000 in
theorem M_X9_crossBy {Δ : DD} {d : Nat} {x0 : Nat} {x1 : Int32} {x2 : Int32} {x3 : Int32} {x4 : Int32} {σ : Mem} {q : Int32} (hd : 2 ≤ d) (h0 : isK 9 x0 = true) (hF : F_X9_crossBy x0 x1 x2 x3 x4 σ = some q) : Mt Δ d yX9_crossBy cX9_crossBy 7 (some .int) [rf Δ x0, .int x1, .int x2, .int x3, .int x4] σ (some (.int q)) σ := by
  obtain ⟨d, rfl⟩ : ∃ e, d = e + 1 := ⟨d - 1, by omega⟩
  have hd : 1 ≤ d := by omega
  refine mt_of (by decide) rfl (Nat.le_of_ble_eq_true rfl) (fun Γ C hq => ?_)
  unfold F_X9_crossBy at hF
  show V Δ Γ 7 0 [(0, rf Δ (x0)), (1, .int (x1)), (2, .int (x2)), (3, .int (x3)), (4, .int (x4))] [] σ
  refine v_iload_n C 3 3 dX9_crossBy_0 rfl rfl ?_
  refine v_aload_n C 0 0 dX9_crossBy_1 rfl rfl ?_
  obtain ⟨p7, g6, hF⟩ := bnd hF
  refine v_gR C fu_X9_7 g6 dX9_crossBy_2 ?_
  refine v_bipush C (39) dX9_crossBy_5 (by decide) ?_
  refine v_iload C 4 4 dX9_crossBy_7 rfl ?_
  refine v_iconst C (4) dX9_crossBy_9 (by decide) ?_
  refine v_irem C dX9_crossBy_10 (by decide) ?_
  refine v_iadd C dX9_crossBy_11 ?_
  obtain ⟨v8, g9, hF⟩ := bnd hF
  refine v_aI C g9 dX9_crossBy_12 ?_
  refine v_iadd C dX9_crossBy_13 ?_
  refine v_iload_n C 1 1 dX9_crossBy_14 rfl rfl ?_
  refine v_iload_n C 2 2 dX9_crossBy_15 rfl rfl ?_
  obtain ⟨q10, g11, hF⟩ := bnd hF
  refine v_cSi C mw_X9_barOf lk_X9_120 _ (M_X9_barOf (by omega) g11) rfl rfl (Nat.le_of_ble_eq_true rfl) dX9_crossBy_16 ?_
  refine v_isub C dX9_crossBy_19 ?_
  refine v_istore C 5 (ll' := [(5, _), (0, _), (1, _), (2, _), (3, _), (4, _)]) dX9_crossBy_20 (by decide) rfl ?_
  refine v_iload C 5 0 dX9_crossBy_22 rfl ?_
  refine v_if_ge C 31 dX9_crossBy_24 (by decide) (fun c12 => ?_) (fun c12 => ?_)
  · have hF := ifp hF c12
    refine v_iload C 5 0 dX9_crossBy_31 rfl ?_
    refine v_sub [2, 5] (ll' := [(1, _), (4, _)]) rfl ?_
    exact W_X9_crossBy_33 C hq hd hF
  · have hF := ifn hF c12
    refine v_iconst C (0) dX9_crossBy_27 (by decide) ?_
    refine v_goto C 33 dX9_crossBy_28 (by decide) ?_
    refine v_sub [2, 5] (ll' := [(1, _), (4, _)]) rfl ?_
    exact W_X9_crossBy_33 C hq hd hF
set_option maxRecDepth 20000 in
set_option maxHeartbeats 2000000 in
theorem M_X9_gapIn {Δ : DD} {d : Nat} {x0 : Nat} {x1 : Int32} {x2 : Int32} {σ : Mem} {q : Int32} (hd : 2 ≤ d) (h0 : isK 9 x0 = true) (hF : F_X9_gapIn x0 x1 x2 σ = some q) : Mt Δ d yX9_gapIn cX9_gapIn 3 (some .int) [rf Δ x0, .int x1, .int x2] σ (some (.int q)) σ := by
  obtain ⟨d, rfl⟩ : ∃ e, d = e + 1 := ⟨d - 1, by omega⟩
  have hd : 1 ≤ d := by omega
  refine mt_of (by decide) rfl (Nat.le_of_ble_eq_true rfl) (fun Γ C hq => ?_)
  unfold F_X9_gapIn at hF
  show V Δ Γ 3 0 [(0, rf Δ (x0)), (1, .int (x1)), (2, .int (x2))] [] σ
  refine v_aload_n C 0 0 dX9_gapIn_0 rfl rfl ?_
  obtain ⟨p2, g1, hF⟩ := bnd hF
  refine v_gR C fu_X9_7 g1 dX9_gapIn_1 ?_
  refine v_iload_n C 1 1 dX9_gapIn_4 rfl rfl ?_
  refine v_bipush C (9) dX9_gapIn_5 (by decide) ?_
  refine v_iadd C dX9_gapIn_7 ?_
  refine v_iload_n C 2 2 dX9_gapIn_8 rfl rfl ?_
  refine v_iadd C dX9_gapIn_9 ?_
  obtain ⟨v3, g4, hF⟩ := bnd hF
  refine v_aI C g4 dX9_gapIn_10 ?_
  refine v_aload_n C 0 0 dX9_gapIn_11 rfl rfl ?_
  obtain ⟨p6, g5, hF⟩ := bnd hF
  refine v_gR C fu_X9_7 g5 dX9_gapIn_12 ?_
  refine v_iload_n C 1 1 dX9_gapIn_15 rfl rfl ?_
  refine v_bipush C (15) dX9_gapIn_16 (by decide) ?_
  refine v_iadd C dX9_gapIn_18 ?_
  refine v_iload_n C 2 2 dX9_gapIn_19 rfl rfl ?_
  refine v_iadd C dX9_gapIn_20 ?_
  obtain ⟨v7, g8, hF⟩ := bnd hF
  refine v_aI C g8 dX9_gapIn_21 ?_
  obtain ⟨q9, g10, hF⟩ := bnd hF
  refine v_cSi C mw_X9_off lk_X9_123 _ (M_X9_off (by omega) g10) rfl rfl (Nat.le_of_ble_eq_true rfl) dX9_gapIn_22 ?_
  exact v_iretP C hq (Option.some.inj hF) dX9_gapIn_25
set_option maxRecDepth 20000 in
set_option maxHeartbeats 2000000 in
theorem M_X9_crossIn {Δ : DD} {d : Nat} {x0 : Nat} {x1 : Int32} {x2 : Int32} {σ : Mem} {q : Int32} (hd : 3 ≤ d) (h0 : isK 9 x0 = true) (hF : F_X9_crossIn x0 x1 x2 σ = some q) : Mt Δ d yX9_crossIn cX9_crossIn 3 (some .int) [rf Δ x0, .int x1, .int x2] σ (some (.int q)) σ := by
  obtain ⟨d, rfl⟩ : ∃ e, d = e + 1 := ⟨d - 1, by omega⟩
  have hd : 2 ≤ d := by omega
  refine mt_of (by decide) rfl (Nat.le_of_ble_eq_true rfl) (fun Γ C hq => ?_)
  unfold F_X9_crossIn at hF
  show V Δ Γ 3 0 [(0, rf Δ (x0)), (1, .int (x1)), (2, .int (x2))] [] σ
  refine v_aload_n C 0 0 dX9_crossIn_0 rfl rfl ?_
  refine v_aload_n C 0 0 dX9_crossIn_1 rfl rfl ?_
  obtain ⟨p2, g1, hF⟩ := bnd hF
  refine v_gR C fu_X9_7 g1 dX9_crossIn_2 ?_
  refine v_iload_n C 1 1 dX9_crossIn_5 rfl rfl ?_
  refine v_iconst C (3) dX9_crossIn_6 (by decide) ?_
  refine v_iadd C dX9_crossIn_7 ?_
  refine v_iload_n C 2 2 dX9_crossIn_8 rfl rfl ?_
  refine v_iadd C dX9_crossIn_9 ?_
  obtain ⟨v3, g4, hF⟩ := bnd hF
  refine v_aI C g4 dX9_crossIn_10 ?_
  refine v_aload_n C 0 0 dX9_crossIn_11 rfl rfl ?_
  obtain ⟨p6, g5, hF⟩ := bnd hF
  refine v_gR C fu_X9_7 g5 dX9_crossIn_12 ?_
  refine v_iload_n C 1 1 dX9_crossIn_15 rfl rfl ?_
  refine v_bipush C (21) dX9_crossIn_16 (by decide) ?_
  refine v_iadd C dX9_crossIn_18 ?_
  refine v_iload_n C 2 2 dX9_crossIn_19 rfl rfl ?_
  refine v_iadd C dX9_crossIn_20 ?_
  obtain ⟨v7, g8, hF⟩ := bnd hF
  refine v_aI C g8 dX9_crossIn_21 ?_
  refine v_aload_n C 0 0 dX9_crossIn_22 rfl rfl ?_
  refine v_iload_n C 1 1 dX9_crossIn_23 rfl rfl ?_
  refine v_iload_n C 2 2 dX9_crossIn_24 rfl rfl ?_
  obtain ⟨q9, g10, hF⟩ := bnd hF
  refine v_cVi C mw_X9_gapIn lk_X9_126 _ (M_X9_gapIn (by omega) h0 g10) h0 rfl rfl (Nat.le_of_ble_eq_true rfl) dX9_crossIn_25 ?_
  refine v_aload_n C 0 0 dX9_crossIn_28 rfl rfl ?_
  obtain ⟨p12, g11, hF⟩ := bnd hF
  refine v_gR C fu_X9_7 g11 dX9_crossIn_29 ?_
  refine v_iload_n C 1 1 dX9_crossIn_32 rfl rfl ?_
  refine v_iconst C (1) dX9_crossIn_33 (by decide) ?_
  refine v_iadd C dX9_crossIn_34 ?_
  obtain ⟨v13, g14, hF⟩ := bnd hF
  refine v_aI C g14 dX9_crossIn_35 ?_
  obtain ⟨q15, g16, hF⟩ := bnd hF
  refine v_cVi C mw_X9_crossBy lk_X9_129 _ (M_X9_crossBy (by omega) h0 g16) h0 rfl rfl (Nat.le_of_ble_eq_true rfl) dX9_crossIn_36 ?_
  exact v_iretP C hq (Option.some.inj hF) dX9_crossIn_39
def K_X9_passes_4 (Δ : DD) (Γ : GG) (q : (Int32 × Mem)) (x0 : Nat) (x1 : Int32) (y : (Int32 × Int32 × Mem) ⊕ (Int32 × Mem)) : Prop := match y with
  | .inl s => V Δ Γ 6 4 [(0, rf Δ (x0)), (1, .int (x1)), (2, .int (s.1)), (3, .int (s.2.1))] [] s.2.2
  | .inr t => (t = q)
set_option maxRecDepth 20000 in
set_option maxHeartbeats 2000000 in
theorem W_X9_passes_102 {Δ : DD} {Γ : GG} {d : Nat} {q : (Int32 × Mem)} {x0 : Nat} {x1 : Int32} {x2 : Int32} {x3 : Int32} {x4 : Int32} {y0 : Int32} {y1 : Int32} {y2 : Int32} {y3 : Nat} {σ : Mem} {y : ((Int32 × Int32 × Mem) ⊕ (Int32 × Mem))} (C : Cx Δ Γ RX9 cX9_passes 6 d (some .int)) (hq : RetQ Δ Γ (some (.int q.1)) q.2) (h0 : isK 9 x0 = true) (hd : 3 ≤ d) (hF : F_X9_passes_102 x0 x1 x2 x3 x4 y0 y1 y2 y3 σ = some y) (hK : (K_X9_passes_4 Δ Γ q x0 x1 y)) : V Δ Γ 6 102 [(0, rf Δ (x0)), (1, .int (x1)), (2, .int (x2)), (3, .int (x3)), (4, .int (x4))] [.int (y0), .int (y1), .int (y2), rf Δ (y3)] σ := by
  unfold F_X9_passes_102 at hF
  refine v_isub C dX9_passes_102 ?_
  obtain ⟨m33, g34, hF⟩ := bnd hF
  refine v_sI C g34 dX9_passes_103 ?_
  refine v_iload_n C 2 2 dX9_passes_104 rfl rfl ?_
  refine v_iload C 4 4 dX9_passes_105 rfl ?_
  refine v_iadd C dX9_passes_107 ?_
  refine v_istore_n C 2 (ll' := [(2, _), (0, _), (1, _), (3, _), (4, _)]) dX9_passes_108 rfl (by decide) rfl ?_
  refine v_iinc C (_ + (1 : Int32)) 3 (ll' := [(3, _), (2, _), (0, _), (1, _), (4, _)]) dX9_passes_109 rfl (inc_eq (by decide)) (by decide) rfl ?_
  refine v_goto C 4 dX9_passes_112 (by decide) ?_
  refine v_sub [2, 3, 1, 0] (ll' := [(0, _), (1, _), (2, _), (3, _)]) rfl ?_
  cases hF
  exact hK
set_option maxRecDepth 20000 in
set_option maxHeartbeats 2000000 in
theorem W_X9_passes_101 {Δ : DD} {Γ : GG} {d : Nat} {q : (Int32 × Mem)} {x0 : Nat} {x1 : Int32} {x2 : Int32} {x3 : Int32} {x4 : Int32} {y0 : Int32} {y1 : Int32} {y2 : Nat} {σ : Mem} {y : ((Int32 × Int32 × Mem) ⊕ (Int32 × Mem))} (C : Cx Δ Γ RX9 cX9_passes 6 d (some .int)) (hq : RetQ Δ Γ (some (.int q.1)) q.2) (h0 : isK 9 x0 = true) (hd : 3 ≤ d) (hF : F_X9_passes_101 x0 x1 x2 x3 x4 y0 y1 y2 σ = some y) (hK : (K_X9_passes_4 Δ Γ q x0 x1 y)) : V Δ Γ 6 101 [(0, rf Δ (x0)), (1, .int (x1)), (2, .int (x2)), (3, .int (x3)), (4, .int (x4))] [.int (y0), .int (y1), rf Δ (y2)] σ := by
  unfold F_X9_passes_101 at hF
  refine v_iconst C (0) dX9_passes_101 (by decide) ?_
  exact W_X9_passes_102 C hq h0 hd hF hK
set_option maxRecDepth 20000 in
set_option maxHeartbeats 2000000 in
theorem W_X9_passes_64 {Δ : DD} {Γ : GG} {d : Nat} {q : (Int32 × Mem)} {x0 : Nat} {x1 : Int32} {x2 : Int32} {x3 : Int32} {x4 : Int32} {y0 : Int32} {y1 : Int32} {y2 : Nat} {σ : Mem} {y : ((Int32 × Int32 × Mem) ⊕ (Int32 × Mem))} (C : Cx Δ Γ RX9 cX9_passes 6 d (some .int)) (hq : RetQ Δ Γ (some (.int q.1)) q.2) (h0 : isK 9 x0 = true) (hd : 3 ≤ d) (hF : F_X9_passes_64 x0 x1 x2 x3 x4 y0 y1 y2 σ = some y) (hK : (K_X9_passes_4 Δ Γ q x0 x1 y)) : V Δ Γ 6 64 [(0, rf Δ (x0)), (1, .int (x1)), (2, .int (x2)), (3, .int (x3)), (4, .int (x4))] [.int (y0), .int (y1), rf Δ (y2)] σ := by
  unfold F_X9_passes_64 at hF
  obtain ⟨m21, g22, hF⟩ := bnd hF
  refine v_sI C g22 dX9_passes_64 ?_
  refine v_aload_n C 0 0 dX9_passes_65 rfl rfl ?_
  obtain ⟨p24, g23, hF⟩ := bnd hF
  refine v_gR C fu_X9_7 g23 dX9_passes_66 ?_
  refine v_iload_n C 1 1 dX9_passes_69 rfl rfl ?_
  refine v_bipush C (21) dX9_passes_70 (by decide) ?_
  refine v_iadd C dX9_passes_72 ?_
  refine v_iload_n C 3 3 dX9_passes_73 rfl rfl ?_
  refine v_iadd C dX9_passes_74 ?_
  refine v_dup2 C dX9_passes_75 rfl rfl ?_
  obtain ⟨v25, g26, hF⟩ := bnd hF
  refine v_aI C g26 dX9_passes_76 ?_
  refine v_iload C 4 4 dX9_passes_77 rfl ?_
  refine v_iconst C (3) dX9_passes_79 (by decide) ?_
  refine v_icmp_lt C 101 dX9_passes_80 (by decide) (fun c27 => ?_) (fun c27 => ?_)
  · have hF := ifp hF c27
    exact W_X9_passes_101 C hq h0 hd hF hK
  · have hF := ifn hF c27
    refine v_aload_n C 0 0 dX9_passes_83 rfl rfl ?_
    obtain ⟨p29, g28, hF⟩ := bnd hF
    refine v_gR C fu_X9_7 g28 dX9_passes_84 ?_
    refine v_iload_n C 1 1 dX9_passes_87 rfl rfl ?_
    refine v_bipush C (21) dX9_passes_88 (by decide) ?_
    refine v_iadd C dX9_passes_90 ?_
    refine v_iload_n C 3 3 dX9_passes_91 rfl rfl ?_
    refine v_iadd C dX9_passes_92 ?_
    obtain ⟨v30, g31, hF⟩ := bnd hF
    refine v_aI C g31 dX9_passes_93 ?_
    refine v_if_le C 101 dX9_passes_94 (by decide) (fun c32 => ?_) (fun c32 => ?_)
    · have hF := ifp hF c32
      exact W_X9_passes_101 C hq h0 hd hF hK
    · have hF := ifn hF c32
      refine v_iconst C (1) dX9_passes_97 (by decide) ?_
      refine v_goto C 102 dX9_passes_98 (by decide) ?_
      exact W_X9_passes_102 C hq h0 hd hF hK
set_option maxRecDepth 20000 in
set_option maxHeartbeats 2000000 in
theorem W_X9_passes_4 {Δ : DD} {Γ : GG} {d : Nat} {q : (Int32 × Mem)} {x0 : Nat} {x1 : Int32} (C : Cx Δ Γ RX9 cX9_passes 6 d (some .int)) (hq : RetQ Δ Γ (some (.int q.1)) q.2) (h0 : isK 9 x0 = true) (hd : 3 ≤ d) {s : Int32 × Int32 × Mem} (hF : F_X9_passes_4 x0 x1  s = some q) : V Δ Γ 6 4 [(0, rf Δ (x0)), (1, .int (x1)), (2, .int (s.1)), (3, .int (s.2.1))] [] s.2.2 := by
  have hF : F_X9_passes_4 x0 x1  s = some q := hF
  refine lp_V (W := fun (s : Int32 × Int32 × Mem) => V Δ Γ 6 4 [(0, rf Δ (x0)), (1, .int (x1)), (2, .int (s.1)), (3, .int (s.2.1))] [] s.2.2) (K := fun t => t = q) (K' := K_X9_passes_4 Δ Γ q x0 x1 ) (fun _ h => h) (fun _ h => h) ?_ s q hF rfl
  clear hF
  intro s z hF hK
  refine v_iload_n C 3 3 dX9_passes_4 rfl rfl ?_
  refine v_aload_n C 0 0 dX9_passes_5 rfl rfl ?_
  obtain ⟨p2, g1, hF⟩ := bnd hF
  refine v_gR C fu_X9_7 g1 dX9_passes_6 ?_
  refine v_iload_n C 1 1 dX9_passes_9 rfl rfl ?_
  refine v_iconst C (0) dX9_passes_10 (by decide) ?_
  refine v_iadd C dX9_passes_11 ?_
  obtain ⟨v3, g4, hF⟩ := bnd hF
  refine v_aI C g4 dX9_passes_12 ?_
  refine v_icmp_ge C 115 dX9_passes_13 (by decide) (fun c5 => ?_) (fun c5 => ?_)
  · have hF := ifp hF c5
    refine v_aload_n C 0 0 dX9_passes_115 rfl rfl ?_
    obtain ⟨p7, g6, hF⟩ := bnd hF
    refine v_gR C fu_X9_7 g6 dX9_passes_116 ?_
    refine v_iload_n C 1 1 dX9_passes_119 rfl rfl ?_
    refine v_iconst C (1) dX9_passes_120 (by decide) ?_
    refine v_iadd C dX9_passes_121 ?_
    refine v_dup2 C dX9_passes_122 rfl rfl ?_
    obtain ⟨v8, g9, hF⟩ := bnd hF
    refine v_aI C g9 dX9_passes_123 ?_
    refine v_iconst C (1) dX9_passes_124 (by decide) ?_
    refine v_iadd C dX9_passes_125 ?_
    obtain ⟨m10, g11, hF⟩ := bnd hF
    refine v_sI C g11 dX9_passes_126 ?_
    refine v_iload_n C 2 2 dX9_passes_127 rfl rfl ?_
    cases hF
    exact v_iretF C hq hK dX9_passes_128
  · have hF := ifn hF c5
    refine v_aload_n C 0 0 dX9_passes_16 rfl rfl ?_
    refine v_iload_n C 1 1 dX9_passes_17 rfl rfl ?_
    refine v_iload_n C 3 3 dX9_passes_18 rfl rfl ?_
    obtain ⟨q12, g13, hF⟩ := bnd hF
    refine v_cVi C mw_X9_crossIn lk_X9_133 _ (M_X9_crossIn (by omega) h0 g13) h0 rfl rfl (Nat.le_of_ble_eq_true rfl) dX9_passes_19 ?_
    refine v_istore C 4 (ll' := [(4, _), (0, _), (1, _), (2, _), (3, _)]) dX9_passes_22 (by decide) rfl ?_
    refine v_aload_n C 0 1 dX9_passes_24 rfl rfl ?_
    obtain ⟨p15, g14, hF⟩ := bnd hF
    refine v_gR C fu_X9_7 g14 dX9_passes_25 ?_
    refine v_iload_n C 1 2 dX9_passes_28 rfl rfl ?_
    refine v_bipush C (27) dX9_passes_29 (by decide) ?_
    refine v_iadd C dX9_passes_31 ?_
    refine v_iload_n C 3 4 dX9_passes_32 rfl rfl ?_
    refine v_iadd C dX9_passes_33 ?_
    obtain ⟨v16, g17, hF⟩ := bnd hF
    refine v_aI C g17 dX9_passes_34 ?_
    refine v_iload C 4 0 dX9_passes_35 rfl ?_
    refine v_iadd C dX9_passes_37 ?_
    refine v_istore C 5 (ll' := [(5, _), (4, _), (0, _), (1, _), (2, _), (3, _)]) dX9_passes_38 (by decide) rfl ?_
    refine v_aload_n C 0 2 dX9_passes_40 rfl rfl ?_
    obtain ⟨p19, g18, hF⟩ := bnd hF
    refine v_gR C fu_X9_7 g18 dX9_passes_41 ?_
    refine v_iload_n C 1 3 dX9_passes_44 rfl rfl ?_
    refine v_bipush C (27) dX9_passes_45 (by decide) ?_
    refine v_iadd C dX9_passes_47 ?_
    refine v_iload_n C 3 5 dX9_passes_48 rfl rfl ?_
    refine v_iadd C dX9_passes_49 ?_
    refine v_iload C 5 0 dX9_passes_50 rfl ?_
    refine v_bipush C (99) dX9_passes_52 (by decide) ?_
    refine v_icmp_le C 62 dX9_passes_54 (by decide) (fun c20 => ?_) (fun c20 => ?_)
    · have hF := ifp hF c20
      refine v_iload C 5 0 dX9_passes_62 rfl ?_
      refine v_sub [2, 3, 4, 5, 1] (ll' := [(0, _), (1, _), (2, _), (3, _), (4, _)]) rfl ?_
      exact W_X9_passes_64 C hq h0 hd hF hK
    · have hF := ifn hF c20
      refine v_bipush C (99) dX9_passes_57 (by decide) ?_
      refine v_goto C 64 dX9_passes_59 (by decide) ?_
      refine v_sub [2, 3, 4, 5, 1] (ll' := [(0, _), (1, _), (2, _), (3, _), (4, _)]) rfl ?_
      exact W_X9_passes_64 C hq h0 hd hF hK
set_option maxRecDepth 20000 in
set_option maxHeartbeats 2000000 in
theorem M_X9_passes {Δ : DD} {d : Nat} {x0 : Nat} {x1 : Int32} {σ : Mem} {q : (Int32 × Mem)} (hd : 4 ≤ d) (h0 : isK 9 x0 = true) (hF : F_X9_passes x0 x1 σ = some q) : Mt Δ d yX9_passes cX9_passes 6 (some .int) [rf Δ x0, .int x1] σ (some (.int q.1)) q.2 := by
  obtain ⟨d, rfl⟩ : ∃ e, d = e + 1 := ⟨d - 1, by omega⟩
  have hd : 3 ≤ d := by omega
  refine mt_of (by decide) rfl (Nat.le_of_ble_eq_true rfl) (fun Γ C hq => ?_)
  unfold F_X9_passes at hF
  show V Δ Γ 6 0 [(0, rf Δ (x0)), (1, .int (x1))] [] σ
  refine v_iconst C (0) dX9_passes_0 (by decide) ?_
  refine v_istore_n C 2 (ll' := [(2, _), (0, _), (1, _)]) dX9_passes_1 rfl (by decide) rfl ?_
  refine v_iconst C (0) dX9_passes_2 (by decide) ?_
  refine v_istore_n C 3 (ll' := [(3, _), (2, _), (0, _), (1, _)]) dX9_passes_3 rfl (by decide) rfl ?_
  refine v_sub [2, 3, 1, 0] (ll' := [(0, _), (1, _), (2, _), (3, _)]) rfl ?_
  exact W_X9_passes_4 C hq h0 hd hF
set_option maxRecDepth 20000 in
set_option maxHeartbeats 2000000 in
theorem M_X9_isDue {Δ : DD} {d : Nat} {x0 : Nat} {x1 : Int32} {x2 : Int32} {σ : Mem} {q : Int32} (hd : 1 ≤ d) (h0 : isK 9 x0 = true) (hF : F_X9_isDue x0 x1 x2 σ = some q) : Mt Δ d yX9_isDue cX9_isDue 3 (some .boolean) [rf Δ x0, .int x1, .int x2] σ (some (.int q)) σ := by
  obtain ⟨d, rfl⟩ : ∃ e, d = e + 1 := ⟨d - 1, by omega⟩
  have hd : 0 ≤ d := by omega
  refine mt_of (by decide) rfl (Nat.le_of_ble_eq_true rfl) (fun Γ C hq => ?_)
  unfold F_X9_isDue at hF
  show V Δ Γ 3 0 [(0, rf Δ (x0)), (1, .int (x1)), (2, .int (x2))] [] σ
  refine v_aload_n C 0 0 dX9_isDue_0 rfl rfl ?_
  obtain ⟨p2, g1, hF⟩ := bnd hF
  refine v_gR C fu_X9_7 g1 dX9_isDue_1 ?_
  refine v_iload_n C 1 1 dX9_isDue_4 rfl rfl ?_
  refine v_bipush C (27) dX9_isDue_5 (by decide) ?_
  refine v_iadd C dX9_isDue_7 ?_
  refine v_iload_n C 2 2 dX9_isDue_8 rfl rfl ?_
  refine v_iadd C dX9_isDue_9 ?_
  obtain ⟨v3, g4, hF⟩ := bnd hF
  refine v_aI C g4 dX9_isDue_10 ?_
  refine v_aload_n C 0 0 dX9_isDue_11 rfl rfl ?_
  obtain ⟨p6, g5, hF⟩ := bnd hF
  refine v_gR C fu_X9_7 g5 dX9_isDue_12 ?_
  refine v_iload_n C 1 1 dX9_isDue_15 rfl rfl ?_
  refine v_bipush C (43) dX9_isDue_16 (by decide) ?_
  refine v_iadd C dX9_isDue_18 ?_
  obtain ⟨v7, g8, hF⟩ := bnd hF
  refine v_aI C g8 dX9_isDue_19 ?_
  refine v_icmp_lt C 27 dX9_isDue_20 (by decide) (fun c9 => ?_) (fun c9 => ?_)
  · have hF := ifp hF c9
    refine v_iconst C (0) dX9_isDue_27 (by decide) ?_
    exact v_zretP C hq (Option.some.inj hF) rfl dX9_isDue_28
  · have hF := ifn hF c9
    refine v_iconst C (1) dX9_isDue_23 (by decide) ?_
    refine v_goto C 28 dX9_isDue_24 (by decide) ?_
    exact v_zretP C hq (Option.some.inj hF) rfl dX9_isDue_28
set_option maxRecDepth 20000 in
set_option maxHeartbeats 2000000 in
theorem M_X9_inspects {Δ : DD} {d : Nat} {x0 : Nat} {x1 : Int32} {x2 : Int32} {σ : Mem} {q : (Int32 × Mem)} (hd : 2 ≤ d) (h0 : isK 9 x0 = true) (hF : F_X9_inspects x0 x1 x2 σ = some q) : Mt Δ d yX9_inspects cX9_inspects 4 (some .int) [rf Δ x0, .int x1, .int x2] σ (some (.int q.1)) q.2 := by
  obtain ⟨d, rfl⟩ : ∃ e, d = e + 1 := ⟨d - 1, by omega⟩
  have hd : 1 ≤ d := by omega
  refine mt_of (by decide) rfl (Nat.le_of_ble_eq_true rfl) (fun Γ C hq => ?_)
  unfold F_X9_inspects at hF
  show V Δ Γ 4 0 [(0, rf Δ (x0)), (1, .int (x1)), (2, .int (x2))] [] σ
  refine v_aload_n C 0 0 dX9_inspects_0 rfl rfl ?_
  refine v_iload_n C 1 1 dX9_inspects_1 rfl rfl ?_
  refine v_iload_n C 2 2 dX9_inspects_2 rfl rfl ?_
  obtain ⟨q1, g2, hF⟩ := bnd hF
  refine v_cVi C mw_X9_isDue lk_X9_136 _ (M_X9_isDue (by omega) h0 g2) h0 rfl rfl (Nat.le_of_ble_eq_true rfl) dX9_inspects_3 ?_
  refine v_if_ne C 11 dX9_inspects_6 (by decide) (fun c3 => ?_) (fun c3 => ?_)
  · have hF := ifn hF c3
    refine v_aload_n C 0 0 dX9_inspects_11 rfl rfl ?_
    obtain ⟨p5, g4, hF⟩ := bnd hF
    refine v_gR C fu_X9_7 g4 dX9_inspects_12 ?_
    refine v_iload_n C 1 1 dX9_inspects_15 rfl rfl ?_
    refine v_bipush C (27) dX9_inspects_16 (by decide) ?_
    refine v_iadd C dX9_inspects_18 ?_
    refine v_iload_n C 2 2 dX9_inspects_19 rfl rfl ?_
    refine v_iadd C dX9_inspects_20 ?_
    obtain ⟨v6, g7, hF⟩ := bnd hF
    refine v_aI C g7 dX9_inspects_21 ?_
    refine v_istore_n C 3 (ll' := [(3, _), (0, _), (1, _), (2, _)]) dX9_inspects_22 rfl (by decide) rfl ?_
    refine v_aload_n C 0 1 dX9_inspects_23 rfl rfl ?_
    obtain ⟨p9, g8, hF⟩ := bnd hF
    refine v_gR C fu_X9_7 g8 dX9_inspects_24 ?_
    refine v_iload_n C 1 2 dX9_inspects_27 rfl rfl ?_
    refine v_bipush C (27) dX9_inspects_28 (by decide) ?_
    refine v_iadd C dX9_inspects_30 ?_
    refine v_iload_n C 2 3 dX9_inspects_31 rfl rfl ?_
    refine v_iadd C dX9_inspects_32 ?_
    refine v_iconst C (0) dX9_inspects_33 (by decide) ?_
    obtain ⟨m10, g11, hF⟩ := bnd hF
    refine v_sI C g11 dX9_inspects_34 ?_
    refine v_aload_n C 0 1 dX9_inspects_35 rfl rfl ?_
    obtain ⟨p13, g12, hF⟩ := bnd hF
    refine v_gR C fu_X9_7 g12 dX9_inspects_36 ?_
    refine v_iload_n C 1 2 dX9_inspects_39 rfl rfl ?_
    refine v_bipush C (21) dX9_inspects_40 (by decide) ?_
    refine v_iadd C dX9_inspects_42 ?_
    refine v_iload_n C 2 3 dX9_inspects_43 rfl rfl ?_
    refine v_iadd C dX9_inspects_44 ?_
    refine v_bipush C (9) dX9_inspects_45 (by decide) ?_
    obtain ⟨m14, g15, hF⟩ := bnd hF
    refine v_sI C g15 dX9_inspects_47 ?_
    refine v_aload_n C 0 1 dX9_inspects_48 rfl rfl ?_
    obtain ⟨p17, g16, hF⟩ := bnd hF
    refine v_gR C fu_X9_7 g16 dX9_inspects_49 ?_
    refine v_iload_n C 1 2 dX9_inspects_52 rfl rfl ?_
    refine v_bipush C (33) dX9_inspects_53 (by decide) ?_
    refine v_iadd C dX9_inspects_55 ?_
    refine v_iload_n C 2 3 dX9_inspects_56 rfl rfl ?_
    refine v_iadd C dX9_inspects_57 ?_
    refine v_dup2 C dX9_inspects_58 rfl rfl ?_
    obtain ⟨v18, g19, hF⟩ := bnd hF
    refine v_aI C g19 dX9_inspects_59 ?_
    refine v_iconst C (1) dX9_inspects_60 (by decide) ?_
    refine v_iadd C dX9_inspects_61 ?_
    obtain ⟨m20, g21, hF⟩ := bnd hF
    refine v_sI C g21 dX9_inspects_62 ?_
    refine v_aload_n C 0 1 dX9_inspects_63 rfl rfl ?_
    obtain ⟨p23, g22, hF⟩ := bnd hF
    refine v_gR C fu_X9_7 g22 dX9_inspects_64 ?_
    refine v_iload_n C 1 2 dX9_inspects_67 rfl rfl ?_
    refine v_iconst C (2) dX9_inspects_68 (by decide) ?_
    refine v_iadd C dX9_inspects_69 ?_
    refine v_dup2 C dX9_inspects_70 rfl rfl ?_
    obtain ⟨v24, g25, hF⟩ := bnd hF
    refine v_aI C g25 dX9_inspects_71 ?_
    refine v_iconst C (1) dX9_inspects_72 (by decide) ?_
    refine v_iadd C dX9_inspects_73 ?_
    obtain ⟨m26, g27, hF⟩ := bnd hF
    refine v_sI C g27 dX9_inspects_74 ?_
    refine v_iload_n C 3 0 dX9_inspects_75 rfl rfl ?_
    exact v_iretF C hq (Option.some.inj hF) dX9_inspects_76
  · have hF := ifp hF c3
    refine v_iconst C (0) dX9_inspects_9 (by decide) ?_
    exact v_iretF C hq (Option.some.inj hF) dX9_inspects_10
set_option maxRecDepth 20000 in
set_option maxHeartbeats 2000000 in
theorem M_X9_bedTells {Δ : DD} {d : Nat} {x0 : Nat} {x1 : Int32} {x2 : Int32} {σ : Mem} {q : Int32} (hd : 4 ≤ d) (h0 : isK 9 x0 = true) (hF : F_X9_bedTells x0 x1 x2 σ = some q) : Mt Δ d yX9_bedTells cX9_bedTells 3 (some .int) [rf Δ x0, .int x1, .int x2] σ (some (.int q)) σ := by
  obtain ⟨d, rfl⟩ : ∃ e, d = e + 1 := ⟨d - 1, by omega⟩
  have hd : 3 ≤ d := by omega
  refine mt_of (by decide) rfl (Nat.le_of_ble_eq_true rfl) (fun Γ C hq => ?_)
  unfold F_X9_bedTells at hF
  show V Δ Γ 3 0 [(0, rf Δ (x0)), (1, .int (x1)), (2, .int (x2))] [] σ
  refine v_iload_n C 2 2 dX9_bedTells_0 rfl rfl ?_
  rcases ifc hF with ⟨c1, hF⟩ | ⟨c1, hF⟩
  · refine v_tableEq C 44 (0) (43) dX9_bedTells_1 c1 (by decide) (by decide) (by decide) (by decide) ?_
    refine v_aload_n C 0 0 dX9_bedTells_44 rfl rfl ?_
    obtain ⟨p3, g2, hF⟩ := bnd hF
    refine v_gR C fu_X9_7 g2 dX9_bedTells_45 ?_
    refine v_iconst C (3) dX9_bedTells_48 (by decide) ?_
    refine v_iload_n C 1 1 dX9_bedTells_49 rfl rfl ?_
    refine v_iadd C dX9_bedTells_50 ?_
    obtain ⟨v4, g5, hF⟩ := bnd hF
    refine v_aI C g5 dX9_bedTells_51 ?_
    exact v_iretP C hq (Option.some.inj hF) dX9_bedTells_52
  · skip
    rcases ifc hF with ⟨c6, hF⟩ | ⟨c6, hF⟩
    · refine v_tableEq C 53 (1) (52) dX9_bedTells_1 c6 (by decide) (by decide) (by decide) (by decide) ?_
      refine v_aload_n C 0 0 dX9_bedTells_53 rfl rfl ?_
      obtain ⟨p8, g7, hF⟩ := bnd hF
      refine v_gR C fu_X9_7 g7 dX9_bedTells_54 ?_
      refine v_bipush C (9) dX9_bedTells_57 (by decide) ?_
      refine v_iload_n C 1 1 dX9_bedTells_59 rfl rfl ?_
      refine v_iadd C dX9_bedTells_60 ?_
      obtain ⟨v9, g10, hF⟩ := bnd hF
      refine v_aI C g10 dX9_bedTells_61 ?_
      exact v_iretP C hq (Option.some.inj hF) dX9_bedTells_62
    · skip
      rcases ifc hF with ⟨c11, hF⟩ | ⟨c11, hF⟩
      · refine v_tableEq C 63 (2) (62) dX9_bedTells_1 c11 (by decide) (by decide) (by decide) (by decide) ?_
        refine v_aload_n C 0 0 dX9_bedTells_63 rfl rfl ?_
        obtain ⟨p13, g12, hF⟩ := bnd hF
        refine v_gR C fu_X9_7 g12 dX9_bedTells_64 ?_
        refine v_bipush C (15) dX9_bedTells_67 (by decide) ?_
        refine v_iload_n C 1 1 dX9_bedTells_69 rfl rfl ?_
        refine v_iadd C dX9_bedTells_70 ?_
        obtain ⟨v14, g15, hF⟩ := bnd hF
        refine v_aI C g15 dX9_bedTells_71 ?_
        exact v_iretP C hq (Option.some.inj hF) dX9_bedTells_72
      · skip
        rcases ifc hF with ⟨c16, hF⟩ | ⟨c16, hF⟩
        · refine v_tableEq C 73 (3) (72) dX9_bedTells_1 c16 (by decide) (by decide) (by decide) (by decide) ?_
          refine v_aload_n C 0 0 dX9_bedTells_73 rfl rfl ?_
          obtain ⟨p18, g17, hF⟩ := bnd hF
          refine v_gR C fu_X9_7 g17 dX9_bedTells_74 ?_
          refine v_bipush C (21) dX9_bedTells_77 (by decide) ?_
          refine v_iload_n C 1 1 dX9_bedTells_79 rfl rfl ?_
          refine v_iadd C dX9_bedTells_80 ?_
          obtain ⟨v19, g20, hF⟩ := bnd hF
          refine v_aI C g20 dX9_bedTells_81 ?_
          exact v_iretP C hq (Option.some.inj hF) dX9_bedTells_82
        · skip
          rcases ifc hF with ⟨c21, hF⟩ | ⟨c21, hF⟩
          · refine v_tableEq C 83 (4) (82) dX9_bedTells_1 c21 (by decide) (by decide) (by decide) (by decide) ?_
            refine v_aload_n C 0 0 dX9_bedTells_83 rfl rfl ?_
            obtain ⟨p23, g22, hF⟩ := bnd hF
            refine v_gR C fu_X9_7 g22 dX9_bedTells_84 ?_
            refine v_bipush C (27) dX9_bedTells_87 (by decide) ?_
            refine v_iload_n C 1 1 dX9_bedTells_89 rfl rfl ?_
            refine v_iadd C dX9_bedTells_90 ?_
            obtain ⟨v24, g25, hF⟩ := bnd hF
            refine v_aI C g25 dX9_bedTells_91 ?_
            exact v_iretP C hq (Option.some.inj hF) dX9_bedTells_92
          · skip
            rcases ifc hF with ⟨c26, hF⟩ | ⟨c26, hF⟩
            · refine v_tableEq C 93 (5) (92) dX9_bedTells_1 c26 (by decide) (by decide) (by decide) (by decide) ?_
              refine v_aload_n C 0 0 dX9_bedTells_93 rfl rfl ?_
              refine v_iconst C (0) dX9_bedTells_94 (by decide) ?_
              refine v_iload_n C 1 1 dX9_bedTells_95 rfl rfl ?_
              obtain ⟨q27, g28, hF⟩ := bnd hF
              refine v_cVi C mw_X9_crossIn lk_X9_133 _ (M_X9_crossIn (by omega) h0 g28) h0 rfl rfl (Nat.le_of_ble_eq_true rfl) dX9_bedTells_96 ?_
              exact v_iretP C hq (Option.some.inj hF) dX9_bedTells_99
            · skip
              rcases ifc hF with ⟨c29, hF⟩ | ⟨c29, hF⟩
              · refine v_tableEq C 100 (6) (99) dX9_bedTells_1 c29 (by decide) (by decide) (by decide) (by decide) ?_
                refine v_aload_n C 0 0 dX9_bedTells_100 rfl rfl ?_
                obtain ⟨p31, g30, hF⟩ := bnd hF
                refine v_gR C fu_X9_7 g30 dX9_bedTells_101 ?_
                refine v_iconst C (3) dX9_bedTells_104 (by decide) ?_
                refine v_iload_n C 1 1 dX9_bedTells_105 rfl rfl ?_
                refine v_iadd C dX9_bedTells_106 ?_
                obtain ⟨v32, g33, hF⟩ := bnd hF
                refine v_aI C g33 dX9_bedTells_107 ?_
                refine v_aload_n C 0 0 dX9_bedTells_108 rfl rfl ?_
                obtain ⟨p35, g34, hF⟩ := bnd hF
                refine v_gR C fu_X9_7 g34 dX9_bedTells_109 ?_
                refine v_bipush C (21) dX9_bedTells_112 (by decide) ?_
                refine v_iload_n C 1 1 dX9_bedTells_114 rfl rfl ?_
                refine v_iadd C dX9_bedTells_115 ?_
                obtain ⟨v36, g37, hF⟩ := bnd hF
                refine v_aI C g37 dX9_bedTells_116 ?_
                obtain ⟨q38, g39, hF⟩ := bnd hF
                refine v_cSi C mw_X9_barOf lk_X9_120 _ (M_X9_barOf (by omega) g39) rfl rfl (Nat.le_of_ble_eq_true rfl) dX9_bedTells_117 ?_
                exact v_iretP C hq (Option.some.inj hF) dX9_bedTells_120
              · skip
                have c1 := lv_neT c1 (a := 0) (by decide)
                have c6 := lv_neT c6 (a := 1) (by decide)
                have c11 := lv_neT c11 (a := 2) (by decide)
                have c16 := lv_neT c16 (a := 3) (by decide)
                have c21 := lv_neT c21 (a := 4) (by decide)
                have c26 := lv_neT c26 (a := 5) (by decide)
                have c29 := lv_neT c29 (a := 6) (by decide)
                refine v_tableOut C 121 dX9_bedTells_1 (by omega) (by decide) ?_
                refine v_aload_n C 0 0 dX9_bedTells_121 rfl rfl ?_
                obtain ⟨p41, g40, hF⟩ := bnd hF
                refine v_gR C fu_X9_7 g40 dX9_bedTells_122 ?_
                refine v_bipush C (33) dX9_bedTells_125 (by decide) ?_
                refine v_iload_n C 1 1 dX9_bedTells_127 rfl rfl ?_
                refine v_iadd C dX9_bedTells_128 ?_
                obtain ⟨v42, g43, hF⟩ := bnd hF
                refine v_aI C g43 dX9_bedTells_129 ?_
                exact v_iretP C hq (Option.some.inj hF) dX9_bedTells_130
set_option maxRecDepth 20000 in
set_option maxHeartbeats 2000000 in
theorem M_X9_bed {Δ : DD} {d : Nat} {x0 : Nat} {x1 : Int32} {x2 : Int32} {σ : Mem} {q : (Int32 × Mem)} (hd : 5 ≤ d) (h0 : isK 9 x0 = true) (hF : F_X9_bed x0 x1 x2 σ = some q) : Mt Δ d yX9_bed cX9_bed 3 (some .int) [rf Δ x0, .int x1, .int x2] σ (some (.int q.1)) q.2 := by
  obtain ⟨d, rfl⟩ : ∃ e, d = e + 1 := ⟨d - 1, by omega⟩
  have hd : 4 ≤ d := by omega
  refine mt_of (by decide) rfl (Nat.le_of_ble_eq_true rfl) (fun Γ C hq => ?_)
  unfold F_X9_bed at hF
  show V Δ Γ 3 0 [(0, rf Δ (x0)), (1, .int (x1)), (2, .int (x2))] [] σ
  refine v_aload_n C 0 0 dX9_bed_0 rfl rfl ?_
  refine v_iload_n C 1 1 dX9_bed_1 rfl rfl ?_
  obtain ⟨q1, g2, hF⟩ := bnd hF
  refine v_cVi C mw_X9_isBed lk_X9_140 _ (M_X9_isBed (by omega) h0 g2) h0 rfl rfl (Nat.le_of_ble_eq_true rfl) dX9_bed_2 ?_
  refine v_if_eq C 34 dX9_bed_5 (by decide) (fun c3 => ?_) (fun c3 => ?_)
  · have hF := ifp hF c3
    refine v_iconst C (-1) dX9_bed_34 (by decide) ?_
    exact v_iretF C hq (Option.some.inj hF) dX9_bed_35
  · have hF := ifn hF c3
    refine v_iload_n C 2 2 dX9_bed_8 rfl rfl ?_
    refine v_i2l C dX9_bed_9 ?_
    refine v_lconst C 0 dX9_bed_10 (by decide) ?_
    refine v_ldc2 C (7) kl_X9_143 dX9_bed_11 ?_
    obtain ⟨q4, g5, hF⟩ := bnd hF
    refine v_cSi C mw_X9_in lk_X9_53 _ (M_X9_in (by omega) g5) rfl rfl (Nat.le_of_ble_eq_true rfl) dX9_bed_14 ?_
    refine v_if_eq C 34 dX9_bed_17 (by decide) (fun c6 => ?_) (fun c6 => ?_)
    · have hF := ifp hF c6
      refine v_iconst C (-1) dX9_bed_34 (by decide) ?_
      exact v_iretF C hq (Option.some.inj hF) dX9_bed_35
    · have hF := ifn hF c6
      refine v_aload_n C 0 0 dX9_bed_20 rfl rfl ?_
      refine v_aload_n C 0 0 dX9_bed_21 rfl rfl ?_
      refine v_iload_n C 1 1 dX9_bed_22 rfl rfl ?_
      refine v_iload_n C 2 2 dX9_bed_23 rfl rfl ?_
      obtain ⟨q7, g8, hF⟩ := bnd hF
      refine v_cVi C mw_X9_bedTells lk_X9_145 _ (M_X9_bedTells (by omega) h0 g8) h0 rfl rfl (Nat.le_of_ble_eq_true rfl) dX9_bed_24 ?_
      refine v_iconst C (1) dX9_bed_27 (by decide) ?_
      obtain ⟨q9, g10, hF⟩ := bnd hF
      refine v_cVi C mw_X9_tells lk_X9_75 _ (M_X9_tells (by omega) h0 g10) h0 rfl rfl (Nat.le_of_ble_eq_true rfl) dX9_bed_28 ?_
      refine v_goto C 35 dX9_bed_31 (by decide) ?_
      exact v_iretF C hq (Option.some.inj hF) dX9_bed_35
set_option maxRecDepth 20000 in
set_option maxHeartbeats 2000000 in
theorem M_X9_crossAs {Δ : DD} {d : Nat} {x0 : Nat} {x1 : Int32} {x2 : Int32} {σ : Mem} {q : Int32} (hd : 3 ≤ d) (h0 : isK 9 x0 = true) (hF : F_X9_crossAs x0 x1 x2 σ = some q) : Mt Δ d yX9_crossAs cX9_crossAs 3 (some .int) [rf Δ x0, .int x1, .int x2] σ (some (.int q)) σ := by
  obtain ⟨d, rfl⟩ : ∃ e, d = e + 1 := ⟨d - 1, by omega⟩
  have hd : 2 ≤ d := by omega
  refine mt_of (by decide) rfl (Nat.le_of_ble_eq_true rfl) (fun Γ C hq => ?_)
  unfold F_X9_crossAs at hF
  show V Δ Γ 3 0 [(0, rf Δ (x0)), (1, .int (x1)), (2, .int (x2))] [] σ
  refine v_aload_n C 0 0 dX9_crossAs_0 rfl rfl ?_
  refine v_iload_n C 2 2 dX9_crossAs_1 rfl rfl ?_
  refine v_aload_n C 0 0 dX9_crossAs_2 rfl rfl ?_
  obtain ⟨p2, g1, hF⟩ := bnd hF
  refine v_gR C fu_X9_7 g1 dX9_crossAs_3 ?_
  refine v_bipush C (21) dX9_crossAs_6 (by decide) ?_
  refine v_iload_n C 1 1 dX9_crossAs_8 rfl rfl ?_
  refine v_iadd C dX9_crossAs_9 ?_
  obtain ⟨v3, g4, hF⟩ := bnd hF
  refine v_aI C g4 dX9_crossAs_10 ?_
  refine v_aload_n C 0 0 dX9_crossAs_11 rfl rfl ?_
  refine v_iconst C (0) dX9_crossAs_12 (by decide) ?_
  refine v_iload_n C 1 1 dX9_crossAs_13 rfl rfl ?_
  obtain ⟨q5, g6, hF⟩ := bnd hF
  refine v_cVi C mw_X9_gapIn lk_X9_126 _ (M_X9_gapIn (by omega) h0 g6) h0 rfl rfl (Nat.le_of_ble_eq_true rfl) dX9_crossAs_14 ?_
  refine v_aload_n C 0 0 dX9_crossAs_17 rfl rfl ?_
  obtain ⟨p8, g7, hF⟩ := bnd hF
  refine v_gR C fu_X9_7 g7 dX9_crossAs_18 ?_
  refine v_iconst C (1) dX9_crossAs_21 (by decide) ?_
  obtain ⟨v9, g10, hF⟩ := bnd hF
  refine v_aI C g10 dX9_crossAs_22 ?_
  obtain ⟨q11, g12, hF⟩ := bnd hF
  refine v_cVi C mw_X9_crossBy lk_X9_129 _ (M_X9_crossBy (by omega) h0 g12) h0 rfl rfl (Nat.le_of_ble_eq_true rfl) dX9_crossAs_23 ?_
  exact v_iretP C hq (Option.some.inj hF) dX9_crossAs_26
set_option maxRecDepth 20000 in
set_option maxHeartbeats 2000000 in
theorem W_X9_mark_61 {Δ : DD} {Γ : GG} {d : Nat} {q : (Int32 × Mem)} {x0 : Nat} {x1 : Int32} {x2 : Int32} {x3 : Int32} {y0 : Int32} {σ : Mem} (C : Cx Δ Γ RX9 cX9_mark 5 d (some .int)) (hq : RetQ Δ Γ (some (.int q.1)) q.2) (h0 : isK 9 x0 = true) (hd : 3 ≤ d) (hF : F_X9_mark_61 x0 x1 x2 x3 y0 σ = some q) : V Δ Γ 5 61 [(0, rf Δ (x0)), (1, .int (x1)), (2, .int (x2)), (3, .int (x3))] [.int (y0)] σ := by
  unfold F_X9_mark_61 at hF
  refine v_istore C 4 (ll' := [(4, _), (0, _), (1, _), (2, _), (3, _)]) dX9_mark_61 (by decide) rfl ?_
  refine v_iload C 4 0 dX9_mark_63 rfl ?_
  refine v_if_ne C 74 dX9_mark_65 (by decide) (fun c3 => ?_) (fun c3 => ?_)
  · have hF := ifn hF c3
    refine v_iload_n C 2 3 dX9_mark_74 rfl rfl ?_
    rcases ifc hF with ⟨c4, hF⟩ | ⟨c4, hF⟩
    · refine v_tableEq C 104 (1) (29) dX9_mark_75 c4 (by decide) (by decide) (by decide) (by decide) ?_
      refine v_aload_n C 0 1 dX9_mark_104 rfl rfl ?_
      refine v_iload_n C 1 2 dX9_mark_105 rfl rfl ?_
      refine v_iconst C (0) dX9_mark_106 (by decide) ?_
      obtain ⟨q5, g6, hF⟩ := bnd hF
      refine v_cVi C mw_X9_crossAs lk_X9_148 _ (M_X9_crossAs (by omega) h0 g6) h0 rfl rfl (Nat.le_of_ble_eq_true rfl) dX9_mark_107 ?_
      refine v_aload_n C 0 1 dX9_mark_110 rfl rfl ?_
      refine v_iconst C (0) dX9_mark_111 (by decide) ?_
      refine v_iload_n C 1 2 dX9_mark_112 rfl rfl ?_
      obtain ⟨q7, g8, hF⟩ := bnd hF
      refine v_cVi C mw_X9_crossIn lk_X9_133 _ (M_X9_crossIn (by omega) h0 g8) h0 rfl rfl (Nat.le_of_ble_eq_true rfl) dX9_mark_113 ?_
      refine v_isub C dX9_mark_116 ?_
      exact v_iretF C hq (Option.some.inj hF) dX9_mark_117
    · skip
      rcases ifc hF with ⟨c9, hF⟩ | ⟨c9, hF⟩
      · refine v_tableEq C 118 (2) (43) dX9_mark_75 c9 (by decide) (by decide) (by decide) (by decide) ?_
        refine v_aload_n C 0 1 dX9_mark_118 rfl rfl ?_
        obtain ⟨p11, g10, hF⟩ := bnd hF
        refine v_gR C fu_X9_7 g10 dX9_mark_119 ?_
        refine v_bipush C (21) dX9_mark_122 (by decide) ?_
        refine v_iload_n C 1 2 dX9_mark_124 rfl rfl ?_
        refine v_iadd C dX9_mark_125 ?_
        obtain ⟨v12, g13, hF⟩ := bnd hF
        refine v_aI C g13 dX9_mark_126 ?_
        refine v_iload_n C 3 4 dX9_mark_127 rfl rfl ?_
        refine v_aload_n C 0 1 dX9_mark_128 rfl rfl ?_
        obtain ⟨p15, g14, hF⟩ := bnd hF
        refine v_gR C fu_X9_7 g14 dX9_mark_129 ?_
        refine v_bipush C (21) dX9_mark_132 (by decide) ?_
        refine v_iload_n C 1 2 dX9_mark_134 rfl rfl ?_
        refine v_iadd C dX9_mark_135 ?_
        obtain ⟨v16, g17, hF⟩ := bnd hF
        refine v_aI C g17 dX9_mark_136 ?_
        obtain ⟨q18, g19, hF⟩ := bnd hF
        refine v_cSi C mw_X9_barOf lk_X9_120 _ (M_X9_barOf (by omega) g19) rfl rfl (Nat.le_of_ble_eq_true rfl) dX9_mark_137 ?_
        refine v_isub C dX9_mark_140 ?_
        exact v_iretF C hq (Option.some.inj hF) dX9_mark_141
      · skip
        rcases ifc hF with ⟨c20, hF⟩ | ⟨c20, hF⟩
        · refine v_tableEq C 142 (3) (67) dX9_mark_75 c20 (by decide) (by decide) (by decide) (by decide) ?_
          refine v_aload_n C 0 1 dX9_mark_142 rfl rfl ?_
          obtain ⟨p22, g21, hF⟩ := bnd hF
          refine v_gR C fu_X9_7 g21 dX9_mark_143 ?_
          refine v_iconst C (1) dX9_mark_146 (by decide) ?_
          obtain ⟨v23, g24, hF⟩ := bnd hF
          refine v_aI C g24 dX9_mark_147 ?_
          refine v_iconst C (2) dX9_mark_148 (by decide) ?_
          refine v_irem C dX9_mark_149 (by decide) ?_
          exact v_iretF C hq (Option.some.inj hF) dX9_mark_150
        · skip
          rcases ifc hF with ⟨c25, hF⟩ | ⟨c25, hF⟩
          · refine v_tableEq C 151 (4) (76) dX9_mark_75 c25 (by decide) (by decide) (by decide) (by decide) ?_
            refine v_aload_n C 0 1 dX9_mark_151 rfl rfl ?_
            refine v_iconst C (0) dX9_mark_152 (by decide) ?_
            refine v_iload_n C 1 2 dX9_mark_153 rfl rfl ?_
            obtain ⟨q26, g27, hF⟩ := bnd hF
            refine v_cVi C mw_X9_crossIn lk_X9_133 _ (M_X9_crossIn (by omega) h0 g27) h0 rfl rfl (Nat.le_of_ble_eq_true rfl) dX9_mark_154 ?_
            refine v_aload_n C 0 1 dX9_mark_157 rfl rfl ?_
            refine v_iload_n C 1 2 dX9_mark_158 rfl rfl ?_
            refine v_iconst C (2) dX9_mark_159 (by decide) ?_
            obtain ⟨q28, g29, hF⟩ := bnd hF
            refine v_cVi C mw_X9_crossAs lk_X9_148 _ (M_X9_crossAs (by omega) h0 g29) h0 rfl rfl (Nat.le_of_ble_eq_true rfl) dX9_mark_160 ?_
            refine v_isub C dX9_mark_163 ?_
            exact v_iretF C hq (Option.some.inj hF) dX9_mark_164
          · skip
            have c4 := lv_neT c4 (a := 1) (by decide)
            have c9 := lv_neT c9 (a := 2) (by decide)
            have c20 := lv_neT c20 (a := 3) (by decide)
            have c25 := lv_neT c25 (a := 4) (by decide)
            refine v_tableOut C 165 dX9_mark_75 (by omega) (by decide) ?_
            refine v_aload_n C 0 1 dX9_mark_165 rfl rfl ?_
            refine v_iload_n C 1 2 dX9_mark_166 rfl rfl ?_
            refine v_iconst C (1) dX9_mark_167 (by decide) ?_
            obtain ⟨q30, g31, hF⟩ := bnd hF
            refine v_cVi C mw_X9_crossAs lk_X9_148 _ (M_X9_crossAs (by omega) h0 g31) h0 rfl rfl (Nat.le_of_ble_eq_true rfl) dX9_mark_168 ?_
            refine v_aload_n C 0 1 dX9_mark_171 rfl rfl ?_
            refine v_iconst C (0) dX9_mark_172 (by decide) ?_
            refine v_iload_n C 1 2 dX9_mark_173 rfl rfl ?_
            obtain ⟨q32, g33, hF⟩ := bnd hF
            refine v_cVi C mw_X9_crossIn lk_X9_133 _ (M_X9_crossIn (by omega) h0 g33) h0 rfl rfl (Nat.le_of_ble_eq_true rfl) dX9_mark_174 ?_
            refine v_isub C dX9_mark_177 ?_
            exact v_iretF C hq (Option.some.inj hF) dX9_mark_178
  · have hF := ifp hF c3
    refine v_aload_n C 0 1 dX9_mark_68 rfl rfl ?_
    refine v_iconst C (3) dX9_mark_69 (by decide) ?_
    obtain ⟨q34, g35, hF⟩ := bnd hF
    refine v_cVi C mw_X9_found lk_X9_63 _ (M_X9_found (by omega) h0 g35) h0 rfl rfl (Nat.le_of_ble_eq_true rfl) dX9_mark_70 ?_
    exact v_iretF C hq (Option.some.inj hF) dX9_mark_73
set_option maxRecDepth 20000 in
set_option maxHeartbeats 2000000 in
theorem W_X9_mark_56 {Δ : DD} {Γ : GG} {d : Nat} {q : (Int32 × Mem)} {x0 : Nat} {x1 : Int32} {x2 : Int32} {x3 : Int32}  {σ : Mem} (C : Cx Δ Γ RX9 cX9_mark 5 d (some .int)) (hq : RetQ Δ Γ (some (.int q.1)) q.2) (h0 : isK 9 x0 = true) (hd : 3 ≤ d) (hF : F_X9_mark_56 x0 x1 x2 x3  σ = some q) : V Δ Γ 5 56 [(0, rf Δ (x0)), (1, .int (x1)), (2, .int (x2)), (3, .int (x3))] [] σ := by
  unfold F_X9_mark_56 at hF
  refine v_iconst C (1) dX9_mark_56 (by decide) ?_
  refine v_goto C 61 dX9_mark_57 (by decide) ?_
  exact W_X9_mark_61 C hq h0 hd hF
set_option maxRecDepth 20000 in
set_option maxHeartbeats 2000000 in
theorem W_X9_mark_60 {Δ : DD} {Γ : GG} {d : Nat} {q : (Int32 × Mem)} {x0 : Nat} {x1 : Int32} {x2 : Int32} {x3 : Int32}  {σ : Mem} (C : Cx Δ Γ RX9 cX9_mark 5 d (some .int)) (hq : RetQ Δ Γ (some (.int q.1)) q.2) (h0 : isK 9 x0 = true) (hd : 3 ≤ d) (hF : F_X9_mark_60 x0 x1 x2 x3  σ = some q) : V Δ Γ 5 60 [(0, rf Δ (x0)), (1, .int (x1)), (2, .int (x2)), (3, .int (x3))] [] σ := by
  unfold F_X9_mark_60 at hF
  refine v_iconst C (0) dX9_mark_60 (by decide) ?_
  exact W_X9_mark_61 C hq h0 hd hF
set_option maxRecDepth 20000 in
set_option maxHeartbeats 2000000 in
theorem W_X9_mark_46 {Δ : DD} {Γ : GG} {d : Nat} {q : (Int32 × Mem)} {x0 : Nat} {x1 : Int32} {x2 : Int32} {x3 : Int32}  {σ : Mem} (C : Cx Δ Γ RX9 cX9_mark 5 d (some .int)) (hq : RetQ Δ Γ (some (.int q.1)) q.2) (h0 : isK 9 x0 = true) (hd : 3 ≤ d) (hF : F_X9_mark_46 x0 x1 x2 x3  σ = some q) : V Δ Γ 5 46 [(0, rf Δ (x0)), (1, .int (x1)), (2, .int (x2)), (3, .int (x3))] [] σ := by
  unfold F_X9_mark_46 at hF
  refine v_iload_n C 2 2 dX9_mark_46 rfl rfl ?_
  refine v_iconst C (2) dX9_mark_47 (by decide) ?_
  refine v_icmp_ne C 60 dX9_mark_48 (by decide) (fun c1 => ?_) (fun c1 => ?_)
  · have hF := ifn hF c1
    exact W_X9_mark_60 C hq h0 hd hF
  · have hF := ifp hF c1
    refine v_iload_n C 3 3 dX9_mark_51 rfl rfl ?_
    refine v_iconst C (4) dX9_mark_52 (by decide) ?_
    refine v_icmp_ne C 60 dX9_mark_53 (by decide) (fun c2 => ?_) (fun c2 => ?_)
    · have hF := ifn hF c2
      exact W_X9_mark_60 C hq h0 hd hF
    · have hF := ifp hF c2
      exact W_X9_mark_56 C hq h0 hd hF
set_option maxRecDepth 20000 in
set_option maxHeartbeats 2000000 in
theorem M_X9_mark {Δ : DD} {d : Nat} {x0 : Nat} {x1 : Int32} {x2 : Int32} {σ : Mem} {q : (Int32 × Mem)} (hd : 4 ≤ d) (h0 : isK 9 x0 = true) (hF : F_X9_mark x0 x1 x2 σ = some q) : Mt Δ d yX9_mark cX9_mark 5 (some .int) [rf Δ x0, .int x1, .int x2] σ (some (.int q.1)) q.2 := by
  obtain ⟨d, rfl⟩ : ∃ e, d = e + 1 := ⟨d - 1, by omega⟩
  have hd : 3 ≤ d := by omega
  refine mt_of (by decide) rfl (Nat.le_of_ble_eq_true rfl) (fun Γ C hq => ?_)
  unfold F_X9_mark at hF
  show V Δ Γ 5 0 [(0, rf Δ (x0)), (1, .int (x1)), (2, .int (x2))] [] σ
  refine v_aload_n C 0 0 dX9_mark_0 rfl rfl ?_
  refine v_iload_n C 1 1 dX9_mark_1 rfl rfl ?_
  obtain ⟨q36, g37, hF⟩ := bnd hF
  refine v_cVi C mw_X9_isBed lk_X9_140 _ (M_X9_isBed (by omega) h0 g37) h0 rfl rfl (Nat.le_of_ble_eq_true rfl) dX9_mark_2 ?_
  refine v_if_eq C 20 dX9_mark_5 (by decide) (fun c38 => ?_) (fun c38 => ?_)
  · have hF := ifp hF c38
    refine v_iconst C (-1) dX9_mark_20 (by decide) ?_
    exact v_iretF C hq (Option.some.inj hF) dX9_mark_21
  · have hF := ifn hF c38
    refine v_iload_n C 2 2 dX9_mark_8 rfl rfl ?_
    refine v_i2l C dX9_mark_9 ?_
    refine v_lconst C 1 dX9_mark_10 (by decide) ?_
    refine v_ldc2 C (5) kl_X9_51 dX9_mark_11 ?_
    obtain ⟨q39, g40, hF⟩ := bnd hF
    refine v_cSi C mw_X9_in lk_X9_53 _ (M_X9_in (by omega) g40) rfl rfl (Nat.le_of_ble_eq_true rfl) dX9_mark_14 ?_
    refine v_if_ne C 22 dX9_mark_17 (by decide) (fun c41 => ?_) (fun c41 => ?_)
    · have hF := ifn hF c41
      refine v_aload_n C 0 0 dX9_mark_22 rfl rfl ?_
      obtain ⟨p43, g42, hF⟩ := bnd hF
      refine v_gR C fu_X9_7 g42 dX9_mark_23 ?_
      refine v_iconst C (3) dX9_mark_26 (by decide) ?_
      refine v_iload_n C 1 1 dX9_mark_27 rfl rfl ?_
      refine v_iadd C dX9_mark_28 ?_
      obtain ⟨v44, g45, hF⟩ := bnd hF
      refine v_aI C g45 dX9_mark_29 ?_
      refine v_istore_n C 3 (ll' := [(3, _), (0, _), (1, _), (2, _)]) dX9_mark_30 rfl (by decide) rfl ?_
      refine v_iload_n C 2 3 dX9_mark_31 rfl rfl ?_
      refine v_iload_n C 3 0 dX9_mark_32 rfl rfl ?_
      refine v_icmp_eq C 56 dX9_mark_33 (by decide) (fun c46 => ?_) (fun c46 => ?_)
      · have hF := ifp hF c46
        refine v_sub [1, 2, 3, 0] (ll' := [(0, _), (1, _), (2, _), (3, _)]) rfl ?_
        exact W_X9_mark_56 C hq h0 hd hF
      · have hF := ifn hF c46
        refine v_iload_n C 2 3 dX9_mark_36 rfl rfl ?_
        refine v_iconst C (1) dX9_mark_37 (by decide) ?_
        refine v_icmp_ne C 46 dX9_mark_38 (by decide) (fun c47 => ?_) (fun c47 => ?_)
        · have hF := ifn hF c47
          refine v_sub [1, 2, 3, 0] (ll' := [(0, _), (1, _), (2, _), (3, _)]) rfl ?_
          exact W_X9_mark_46 C hq h0 hd hF
        · have hF := ifp hF c47
          refine v_iload_n C 3 0 dX9_mark_41 rfl rfl ?_
          refine v_iconst C (5) dX9_mark_42 (by decide) ?_
          refine v_icmp_eq C 56 dX9_mark_43 (by decide) (fun c48 => ?_) (fun c48 => ?_)
          · have hF := ifp hF c48
            refine v_sub [1, 2, 3, 0] (ll' := [(0, _), (1, _), (2, _), (3, _)]) rfl ?_
            exact W_X9_mark_56 C hq h0 hd hF
          · have hF := ifn hF c48
            refine v_sub [1, 2, 3, 0] (ll' := [(0, _), (1, _), (2, _), (3, _)]) rfl ?_
            exact W_X9_mark_46 C hq h0 hd hF
    · have hF := ifp hF c41
      refine v_iconst C (-1) dX9_mark_20 (by decide) ?_
      exact v_iretF C hq (Option.some.inj hF) dX9_mark_21
set_option maxRecDepth 20000 in
set_option maxHeartbeats 2000000 in
theorem M_X9_cross {Δ : DD} {d : Nat} {x0 : Nat} {x1 : Int32} {x2 : Int32} {σ : Mem} {q : Int32} (hd : 3 ≤ d) (h0 : isK 9 x0 = true) (hF : F_X9_cross x0 x1 x2 σ = some q) : Mt Δ d yX9_cross cX9_cross 3 (some .int) [rf Δ x0, .int x1, .int x2] σ (some (.int q)) σ := by
  obtain ⟨d, rfl⟩ : ∃ e, d = e + 1 := ⟨d - 1, by omega⟩
  have hd : 2 ≤ d := by omega
  refine mt_of (by decide) rfl (Nat.le_of_ble_eq_true rfl) (fun Γ C hq => ?_)
  unfold F_X9_cross at hF
  show V Δ Γ 3 0 [(0, rf Δ (x0)), (1, .int (x1)), (2, .int (x2))] [] σ
  refine v_aload_n C 0 0 dX9_cross_0 rfl rfl ?_
  refine v_iload_n C 1 1 dX9_cross_1 rfl rfl ?_
  obtain ⟨q1, g2, hF⟩ := bnd hF
  refine v_cVi C mw_X9_isBed lk_X9_140 _ (M_X9_isBed (by omega) h0 g2) h0 rfl rfl (Nat.le_of_ble_eq_true rfl) dX9_cross_2 ?_
  refine v_if_eq C 51 dX9_cross_5 (by decide) (fun c3 => ?_) (fun c3 => ?_)
  · have hF := ifp hF c3
    refine v_iconst C (-1) dX9_cross_51 (by decide) ?_
    exact v_iretP C hq (Option.some.inj hF) dX9_cross_52
  · have hF := ifn hF c3
    refine v_iload_n C 2 2 dX9_cross_8 rfl rfl ?_
    refine v_i2l C dX9_cross_9 ?_
    refine v_lconst C 0 dX9_cross_10 (by decide) ?_
    refine v_ldc2 C (99) kl_X9_151 dX9_cross_11 ?_
    obtain ⟨q4, g5, hF⟩ := bnd hF
    refine v_cSi C mw_X9_in lk_X9_53 _ (M_X9_in (by omega) g5) rfl rfl (Nat.le_of_ble_eq_true rfl) dX9_cross_14 ?_
    refine v_if_eq C 51 dX9_cross_17 (by decide) (fun c6 => ?_) (fun c6 => ?_)
    · have hF := ifp hF c6
      refine v_iconst C (-1) dX9_cross_51 (by decide) ?_
      exact v_iretP C hq (Option.some.inj hF) dX9_cross_52
    · have hF := ifn hF c6
      refine v_aload_n C 0 0 dX9_cross_20 rfl rfl ?_
      refine v_aload_n C 0 0 dX9_cross_21 rfl rfl ?_
      obtain ⟨p8, g7, hF⟩ := bnd hF
      refine v_gR C fu_X9_7 g7 dX9_cross_22 ?_
      refine v_iconst C (3) dX9_cross_25 (by decide) ?_
      refine v_iload_n C 1 1 dX9_cross_26 rfl rfl ?_
      refine v_iadd C dX9_cross_27 ?_
      obtain ⟨v9, g10, hF⟩ := bnd hF
      refine v_aI C g10 dX9_cross_28 ?_
      refine v_aload_n C 0 0 dX9_cross_29 rfl rfl ?_
      obtain ⟨p12, g11, hF⟩ := bnd hF
      refine v_gR C fu_X9_7 g11 dX9_cross_30 ?_
      refine v_bipush C (21) dX9_cross_33 (by decide) ?_
      refine v_iload_n C 1 1 dX9_cross_35 rfl rfl ?_
      refine v_iadd C dX9_cross_36 ?_
      obtain ⟨v13, g14, hF⟩ := bnd hF
      refine v_aI C g14 dX9_cross_37 ?_
      refine v_aload_n C 0 0 dX9_cross_38 rfl rfl ?_
      refine v_iconst C (0) dX9_cross_39 (by decide) ?_
      refine v_iload_n C 1 1 dX9_cross_40 rfl rfl ?_
      obtain ⟨q15, g16, hF⟩ := bnd hF
      refine v_cVi C mw_X9_gapIn lk_X9_126 _ (M_X9_gapIn (by omega) h0 g16) h0 rfl rfl (Nat.le_of_ble_eq_true rfl) dX9_cross_41 ?_
      refine v_iload_n C 2 2 dX9_cross_44 rfl rfl ?_
      obtain ⟨q17, g18, hF⟩ := bnd hF
      refine v_cVi C mw_X9_crossBy lk_X9_129 _ (M_X9_crossBy (by omega) h0 g18) h0 rfl rfl (Nat.le_of_ble_eq_true rfl) dX9_cross_45 ?_
      refine v_goto C 52 dX9_cross_48 (by decide) ?_
      exact v_iretP C hq (Option.some.inj hF) dX9_cross_52
set_option maxRecDepth 20000 in
set_option maxHeartbeats 2000000 in
theorem M_X9_minds {Δ : DD} {d : Nat} {x0 : Nat} {σ : Mem} {q : Mem} (hd : 2 ≤ d) (h0 : isK 9 x0 = true) (hF : F_X9_minds x0 σ = some q) : Mt Δ d yX9_minds cX9_minds 1 none [rf Δ x0] σ none q := by
  obtain ⟨d, rfl⟩ : ∃ e, d = e + 1 := ⟨d - 1, by omega⟩
  have hd : 1 ≤ d := by omega
  refine mt_of (by decide) rfl (Nat.le_of_ble_eq_true rfl) (fun Γ C hq => ?_)
  unfold F_X9_minds at hF
  show V Δ Γ 1 0 [(0, rf Δ (x0))] [] σ
  refine v_aload_n C 0 0 dX9_minds_0 rfl rfl ?_
  refine v_iconst C (0) dX9_minds_1 (by decide) ?_
  refine v_bipush C (44) dX9_minds_2 (by decide) ?_
  refine v_iconst C (1) dX9_minds_4 (by decide) ?_
  refine v_aload_n C 0 0 dX9_minds_5 rfl rfl ?_
  obtain ⟨v2, g1, hF⟩ := bnd hF
  refine v_gI C fu_X9_117 g1 dX9_minds_6 ?_
  refine v_iadd C dX9_minds_9 ?_
  refine v_imul C dX9_minds_10 ?_
  refine v_bipush C (44) dX9_minds_11 (by decide) ?_
  obtain ⟨q3, g4, hF⟩ := bnd hF
  refine v_cVv C mw_X9_copyAll lk_X9_113 _ (M_X9_copyAll (by omega) h0 g4) h0 rfl rfl (Nat.le_of_ble_eq_true rfl) dX9_minds_13 ?_
  refine v_aload_n C 0 0 dX9_minds_16 rfl rfl ?_
  refine v_dup C dX9_minds_17 rfl ?_
  obtain ⟨v6, g5, hF⟩ := bnd hF
  refine v_gI C fu_X9_117 g5 dX9_minds_18 ?_
  refine v_iconst C (1) dX9_minds_21 (by decide) ?_
  refine v_iadd C dX9_minds_22 ?_
  obtain ⟨m8, g7, hF⟩ := bnd hF
  refine v_pI C fp_X9_117 g7 dX9_minds_23 ?_
  exact v_vretF C hq (Option.some.inj hF) dX9_minds_26
set_option maxRecDepth 20000 in
set_option maxHeartbeats 2000000 in
theorem M_X9_night {Δ : DD} {d : Nat} {x0 : Nat} {σ : Mem} {q : (Int32 × Mem)} (hd : 5 ≤ d) (h0 : isK 9 x0 = true) (hF : F_X9_night x0 σ = some q) : Mt Δ d yX9_night cX9_night 1 (some .int) [rf Δ x0] σ (some (.int q.1)) q.2 := by
  obtain ⟨d, rfl⟩ : ∃ e, d = e + 1 := ⟨d - 1, by omega⟩
  have hd : 4 ≤ d := by omega
  refine mt_of (by decide) rfl (Nat.le_of_ble_eq_true rfl) (fun Γ C hq => ?_)
  unfold F_X9_night at hF
  show V Δ Γ 1 0 [(0, rf Δ (x0))] [] σ
  refine v_aload_n C 0 0 dX9_night_0 rfl rfl ?_
  obtain ⟨q1, g2, hF⟩ := bnd hF
  refine v_cVi C mw_X9_isTown lk_X9_153 _ (M_X9_isTown (by omega) h0 g2) h0 rfl rfl (Nat.le_of_ble_eq_true rfl) dX9_night_1 ?_
  refine v_if_ne C 10 dX9_night_4 (by decide) (fun c3 => ?_) (fun c3 => ?_)
  · have hF := ifn hF c3
    refine v_aload_n C 0 0 dX9_night_10 rfl rfl ?_
    obtain ⟨v5, g4, hF⟩ := bnd hF
    refine v_gI C fu_X9_117 g4 dX9_night_11 ?_
    refine v_bipush C (40) dX9_night_14 (by decide) ?_
    refine v_icmp_ne C 22 dX9_night_16 (by decide) (fun c6 => ?_) (fun c6 => ?_)
    · have hF := ifn hF c6
      refine v_aload_n C 0 0 dX9_night_22 rfl rfl ?_
      obtain ⟨q7, g8, hF⟩ := bnd hF
      refine v_cVv C mw_X9_minds lk_X9_157 _ (M_X9_minds (by omega) h0 g8) h0 rfl rfl (Nat.le_of_ble_eq_true rfl) dX9_night_23 ?_
      refine v_aload_n C 0 0 dX9_night_26 rfl rfl ?_
      refine v_iconst C (0) dX9_night_27 (by decide) ?_
      obtain ⟨q9, g10, hF⟩ := bnd hF
      refine v_cVi C mw_X9_passes lk_X9_160 _ (M_X9_passes (by omega) h0 g10) h0 rfl rfl (Nat.le_of_ble_eq_true rfl) dX9_night_28 ?_
      exact v_iretF C hq (Option.some.inj hF) dX9_night_31
    · have hF := ifp hF c6
      refine v_bipush C (-2) dX9_night_19 (by decide) ?_
      exact v_iretF C hq (Option.some.inj hF) dX9_night_21
  · have hF := ifp hF c3
    refine v_bipush C (-4) dX9_night_7 (by decide) ?_
    exact v_iretF C hq (Option.some.inj hF) dX9_night_9
set_option maxRecDepth 20000 in
set_option maxHeartbeats 2000000 in
theorem M_X9_inspect {Δ : DD} {d : Nat} {x0 : Nat} {x1 : Int32} {σ : Mem} {q : (Int32 × Mem)} (hd : 3 ≤ d) (h0 : isK 9 x0 = true) (hF : F_X9_inspect x0 x1 σ = some q) : Mt Δ d yX9_inspect cX9_inspect 2 (some .int) [rf Δ x0, .int x1] σ (some (.int q.1)) q.2 := by
  obtain ⟨d, rfl⟩ : ∃ e, d = e + 1 := ⟨d - 1, by omega⟩
  have hd : 2 ≤ d := by omega
  refine mt_of (by decide) rfl (Nat.le_of_ble_eq_true rfl) (fun Γ C hq => ?_)
  unfold F_X9_inspect at hF
  show V Δ Γ 2 0 [(0, rf Δ (x0)), (1, .int (x1))] [] σ
  refine v_aload_n C 0 0 dX9_inspect_0 rfl rfl ?_
  refine v_iload_n C 1 1 dX9_inspect_1 rfl rfl ?_
  obtain ⟨q1, g2, hF⟩ := bnd hF
  refine v_cVi C mw_X9_isBed lk_X9_140 _ (M_X9_isBed (by omega) h0 g2) h0 rfl rfl (Nat.le_of_ble_eq_true rfl) dX9_inspect_2 ?_
  refine v_if_ne C 10 dX9_inspect_5 (by decide) (fun c3 => ?_) (fun c3 => ?_)
  · have hF := ifn hF c3
    refine v_aload_n C 0 0 dX9_inspect_10 rfl rfl ?_
    obtain ⟨v5, g4, hF⟩ := bnd hF
    refine v_gI C fu_X9_117 g4 dX9_inspect_11 ?_
    refine v_bipush C (40) dX9_inspect_14 (by decide) ?_
    refine v_icmp_ne C 22 dX9_inspect_16 (by decide) (fun c6 => ?_) (fun c6 => ?_)
    · have hF := ifn hF c6
      refine v_aload_n C 0 0 dX9_inspect_22 rfl rfl ?_
      obtain ⟨q7, g8, hF⟩ := bnd hF
      refine v_cVv C mw_X9_minds lk_X9_157 _ (M_X9_minds (by omega) h0 g8) h0 rfl rfl (Nat.le_of_ble_eq_true rfl) dX9_inspect_23 ?_
      refine v_aload_n C 0 0 dX9_inspect_26 rfl rfl ?_
      refine v_iconst C (0) dX9_inspect_27 (by decide) ?_
      refine v_iload_n C 1 1 dX9_inspect_28 rfl rfl ?_
      obtain ⟨q9, g10, hF⟩ := bnd hF
      refine v_cVi C mw_X9_inspects lk_X9_163 _ (M_X9_inspects (by omega) h0 g10) h0 rfl rfl (Nat.le_of_ble_eq_true rfl) dX9_inspect_29 ?_
      exact v_iretF C hq (Option.some.inj hF) dX9_inspect_32
    · have hF := ifp hF c6
      refine v_bipush C (-2) dX9_inspect_19 (by decide) ?_
      exact v_iretF C hq (Option.some.inj hF) dX9_inspect_21
  · have hF := ifp hF c3
    refine v_iconst C (-1) dX9_inspect_8 (by decide) ?_
    exact v_iretF C hq (Option.some.inj hF) dX9_inspect_9
set_option maxRecDepth 20000 in
set_option maxHeartbeats 2000000 in
theorem M_X9_thin {Δ : DD} {d : Nat} {x0 : Nat} {x1 : Int32} {σ : Mem} {q : (Int32 × Mem)} (hd : 3 ≤ d) (h0 : isK 9 x0 = true) (hF : F_X9_thin x0 x1 σ = some q) : Mt Δ d yX9_thin cX9_thin 2 (some .int) [rf Δ x0, .int x1] σ (some (.int q.1)) q.2 := by
  obtain ⟨d, rfl⟩ : ∃ e, d = e + 1 := ⟨d - 1, by omega⟩
  have hd : 2 ≤ d := by omega
  refine mt_of (by decide) rfl (Nat.le_of_ble_eq_true rfl) (fun Γ C hq => ?_)
  unfold F_X9_thin at hF
  show V Δ Γ 2 0 [(0, rf Δ (x0)), (1, .int (x1))] [] σ
  refine v_aload_n C 0 0 dX9_thin_0 rfl rfl ?_
  refine v_iload_n C 1 1 dX9_thin_1 rfl rfl ?_
  obtain ⟨q1, g2, hF⟩ := bnd hF
  refine v_cVi C mw_X9_isBed lk_X9_140 _ (M_X9_isBed (by omega) h0 g2) h0 rfl rfl (Nat.le_of_ble_eq_true rfl) dX9_thin_2 ?_
  refine v_if_ne C 10 dX9_thin_5 (by decide) (fun c3 => ?_) (fun c3 => ?_)
  · have hF := ifn hF c3
    refine v_aload_n C 0 0 dX9_thin_10 rfl rfl ?_
    obtain ⟨p5, g4, hF⟩ := bnd hF
    refine v_gR C fu_X9_7 g4 dX9_thin_11 ?_
    refine v_bipush C (21) dX9_thin_14 (by decide) ?_
    refine v_iload_n C 1 1 dX9_thin_16 rfl rfl ?_
    refine v_iadd C dX9_thin_17 ?_
    obtain ⟨v6, g7, hF⟩ := bnd hF
    refine v_aI C g7 dX9_thin_18 ?_
    refine v_if_ne C 25 dX9_thin_19 (by decide) (fun c8 => ?_) (fun c8 => ?_)
    · have hF := ifn hF c8
      refine v_aload_n C 0 0 dX9_thin_25 rfl rfl ?_
      obtain ⟨v10, g9, hF⟩ := bnd hF
      refine v_gI C fu_X9_117 g9 dX9_thin_26 ?_
      refine v_bipush C (40) dX9_thin_29 (by decide) ?_
      refine v_icmp_ne C 37 dX9_thin_31 (by decide) (fun c11 => ?_) (fun c11 => ?_)
      · have hF := ifn hF c11
        refine v_aload_n C 0 0 dX9_thin_37 rfl rfl ?_
        obtain ⟨q12, g13, hF⟩ := bnd hF
        refine v_cVv C mw_X9_minds lk_X9_157 _ (M_X9_minds (by omega) h0 g13) h0 rfl rfl (Nat.le_of_ble_eq_true rfl) dX9_thin_38 ?_
        refine v_aload_n C 0 0 dX9_thin_41 rfl rfl ?_
        obtain ⟨p15, g14, hF⟩ := bnd hF
        refine v_gR C fu_X9_7 g14 dX9_thin_42 ?_
        refine v_bipush C (21) dX9_thin_45 (by decide) ?_
        refine v_iload_n C 1 1 dX9_thin_47 rfl rfl ?_
        refine v_iadd C dX9_thin_48 ?_
        refine v_dup2 C dX9_thin_49 rfl rfl ?_
        obtain ⟨v16, g17, hF⟩ := bnd hF
        refine v_aI C g17 dX9_thin_50 ?_
        refine v_iconst C (1) dX9_thin_51 (by decide) ?_
        refine v_isub C dX9_thin_52 ?_
        obtain ⟨m18, g19, hF⟩ := bnd hF
        refine v_sI C g19 dX9_thin_53 ?_
        refine v_aload_n C 0 0 dX9_thin_54 rfl rfl ?_
        obtain ⟨p21, g20, hF⟩ := bnd hF
        refine v_gR C fu_X9_7 g20 dX9_thin_55 ?_
        refine v_bipush C (21) dX9_thin_58 (by decide) ?_
        refine v_iload_n C 1 1 dX9_thin_60 rfl rfl ?_
        refine v_iadd C dX9_thin_61 ?_
        obtain ⟨v22, g23, hF⟩ := bnd hF
        refine v_aI C g23 dX9_thin_62 ?_
        exact v_iretF C hq (Option.some.inj hF) dX9_thin_63
      · have hF := ifp hF c11
        refine v_bipush C (-2) dX9_thin_34 (by decide) ?_
        exact v_iretF C hq (Option.some.inj hF) dX9_thin_36
    · have hF := ifp hF c8
      refine v_bipush C (-4) dX9_thin_22 (by decide) ?_
      exact v_iretF C hq (Option.some.inj hF) dX9_thin_24
  · have hF := ifp hF c3
    refine v_iconst C (-1) dX9_thin_8 (by decide) ?_
    exact v_iretF C hq (Option.some.inj hF) dX9_thin_9
set_option maxRecDepth 20000 in
set_option maxHeartbeats 2000000 in
theorem M_X9_swap {Δ : DD} {d : Nat} {x0 : Nat} {x1 : Int32} {x2 : Int32} {σ : Mem} {q : (Int32 × Mem)} (hd : 3 ≤ d) (h0 : isK 9 x0 = true) (hF : F_X9_swap x0 x1 x2 σ = some q) : Mt Δ d yX9_swap cX9_swap 4 (some .int) [rf Δ x0, .int x1, .int x2] σ (some (.int q.1)) q.2 := by
  obtain ⟨d, rfl⟩ : ∃ e, d = e + 1 := ⟨d - 1, by omega⟩
  have hd : 2 ≤ d := by omega
  refine mt_of (by decide) rfl (Nat.le_of_ble_eq_true rfl) (fun Γ C hq => ?_)
  unfold F_X9_swap at hF
  show V Δ Γ 4 0 [(0, rf Δ (x0)), (1, .int (x1)), (2, .int (x2))] [] σ
  refine v_aload_n C 0 0 dX9_swap_0 rfl rfl ?_
  refine v_iload_n C 1 1 dX9_swap_1 rfl rfl ?_
  obtain ⟨q1, g2, hF⟩ := bnd hF
  refine v_cVi C mw_X9_isBed lk_X9_140 _ (M_X9_isBed (by omega) h0 g2) h0 rfl rfl (Nat.le_of_ble_eq_true rfl) dX9_swap_2 ?_
  refine v_if_eq C 21 dX9_swap_5 (by decide) (fun c3 => ?_) (fun c3 => ?_)
  · have hF := ifp hF c3
    refine v_iconst C (-1) dX9_swap_21 (by decide) ?_
    exact v_iretF C hq (Option.some.inj hF) dX9_swap_22
  · have hF := ifn hF c3
    refine v_aload_n C 0 0 dX9_swap_8 rfl rfl ?_
    refine v_iload_n C 2 2 dX9_swap_9 rfl rfl ?_
    obtain ⟨q4, g5, hF⟩ := bnd hF
    refine v_cVi C mw_X9_isBed lk_X9_140 _ (M_X9_isBed (by omega) h0 g5) h0 rfl rfl (Nat.le_of_ble_eq_true rfl) dX9_swap_10 ?_
    refine v_if_eq C 21 dX9_swap_13 (by decide) (fun c6 => ?_) (fun c6 => ?_)
    · have hF := ifp hF c6
      refine v_iconst C (-1) dX9_swap_21 (by decide) ?_
      exact v_iretF C hq (Option.some.inj hF) dX9_swap_22
    · have hF := ifn hF c6
      refine v_iload_n C 1 1 dX9_swap_16 rfl rfl ?_
      refine v_iload_n C 2 2 dX9_swap_17 rfl rfl ?_
      refine v_icmp_ne C 23 dX9_swap_18 (by decide) (fun c7 => ?_) (fun c7 => ?_)
      · have hF := ifn hF c7
        refine v_aload_n C 0 0 dX9_swap_23 rfl rfl ?_
        obtain ⟨v9, g8, hF⟩ := bnd hF
        refine v_gI C fu_X9_117 g8 dX9_swap_24 ?_
        refine v_bipush C (40) dX9_swap_27 (by decide) ?_
        refine v_icmp_ne C 35 dX9_swap_29 (by decide) (fun c10 => ?_) (fun c10 => ?_)
        · have hF := ifn hF c10
          refine v_aload_n C 0 0 dX9_swap_35 rfl rfl ?_
          obtain ⟨q11, g12, hF⟩ := bnd hF
          refine v_cVv C mw_X9_minds lk_X9_157 _ (M_X9_minds (by omega) h0 g12) h0 rfl rfl (Nat.le_of_ble_eq_true rfl) dX9_swap_36 ?_
          refine v_aload_n C 0 0 dX9_swap_39 rfl rfl ?_
          obtain ⟨p14, g13, hF⟩ := bnd hF
          refine v_gR C fu_X9_7 g13 dX9_swap_40 ?_
          refine v_bipush C (15) dX9_swap_43 (by decide) ?_
          refine v_iload_n C 1 1 dX9_swap_45 rfl rfl ?_
          refine v_iadd C dX9_swap_46 ?_
          obtain ⟨v15, g16, hF⟩ := bnd hF
          refine v_aI C g16 dX9_swap_47 ?_
          refine v_istore_n C 3 (ll' := [(3, _), (0, _), (1, _), (2, _)]) dX9_swap_48 rfl (by decide) rfl ?_
          refine v_aload_n C 0 1 dX9_swap_49 rfl rfl ?_
          obtain ⟨p18, g17, hF⟩ := bnd hF
          refine v_gR C fu_X9_7 g17 dX9_swap_50 ?_
          refine v_bipush C (15) dX9_swap_53 (by decide) ?_
          refine v_iload_n C 1 2 dX9_swap_55 rfl rfl ?_
          refine v_iadd C dX9_swap_56 ?_
          refine v_aload_n C 0 1 dX9_swap_57 rfl rfl ?_
          obtain ⟨p20, g19, hF⟩ := bnd hF
          refine v_gR C fu_X9_7 g19 dX9_swap_58 ?_
          refine v_bipush C (15) dX9_swap_61 (by decide) ?_
          refine v_iload_n C 2 3 dX9_swap_63 rfl rfl ?_
          refine v_iadd C dX9_swap_64 ?_
          obtain ⟨v21, g22, hF⟩ := bnd hF
          refine v_aI C g22 dX9_swap_65 ?_
          obtain ⟨m23, g24, hF⟩ := bnd hF
          refine v_sI C g24 dX9_swap_66 ?_
          refine v_aload_n C 0 1 dX9_swap_67 rfl rfl ?_
          obtain ⟨p26, g25, hF⟩ := bnd hF
          refine v_gR C fu_X9_7 g25 dX9_swap_68 ?_
          refine v_bipush C (15) dX9_swap_71 (by decide) ?_
          refine v_iload_n C 2 3 dX9_swap_73 rfl rfl ?_
          refine v_iadd C dX9_swap_74 ?_
          refine v_iload_n C 3 0 dX9_swap_75 rfl rfl ?_
          obtain ⟨m27, g28, hF⟩ := bnd hF
          refine v_sI C g28 dX9_swap_76 ?_
          refine v_aload_n C 0 1 dX9_swap_77 rfl rfl ?_
          refine v_iconst C (0) dX9_swap_78 (by decide) ?_
          refine v_iload_n C 1 2 dX9_swap_79 rfl rfl ?_
          obtain ⟨q29, g30, hF⟩ := bnd hF
          refine v_cVi C mw_X9_gapIn lk_X9_126 _ (M_X9_gapIn (by omega) h0 g30) h0 rfl rfl (Nat.le_of_ble_eq_true rfl) dX9_swap_80 ?_
          exact v_iretF C hq (Option.some.inj hF) dX9_swap_83
        · have hF := ifp hF c10
          refine v_bipush C (-2) dX9_swap_32 (by decide) ?_
          exact v_iretF C hq (Option.some.inj hF) dX9_swap_34
      · have hF := ifp hF c7
        refine v_iconst C (-1) dX9_swap_21 (by decide) ?_
        exact v_iretF C hq (Option.some.inj hF) dX9_swap_22
set_option maxRecDepth 20000 in
set_option maxHeartbeats 2000000 in
theorem M_X9_undo {Δ : DD} {d : Nat} {x0 : Nat} {x1 : Int32} {σ : Mem} {q : (Int32 × Mem)} (hd : 2 ≤ d) (h0 : isK 9 x0 = true) (hF : F_X9_undo x0 x1 σ = some q) : Mt Δ d yX9_undo cX9_undo 3 (some .int) [rf Δ x0, .int x1] σ (some (.int q.1)) q.2 := by
  obtain ⟨d, rfl⟩ : ∃ e, d = e + 1 := ⟨d - 1, by omega⟩
  have hd : 1 ≤ d := by omega
  refine mt_of (by decide) rfl (Nat.le_of_ble_eq_true rfl) (fun Γ C hq => ?_)
  unfold F_X9_undo at hF
  show V Δ Γ 3 0 [(0, rf Δ (x0)), (1, .int (x1))] [] σ
  refine v_iload_n C 1 1 dX9_undo_0 rfl rfl ?_
  refine v_i2l C dX9_undo_1 ?_
  refine v_lconst C 0 dX9_undo_2 (by decide) ?_
  refine v_aload_n C 0 0 dX9_undo_3 rfl rfl ?_
  obtain ⟨v2, g1, hF⟩ := bnd hF
  refine v_gI C fu_X9_117 g1 dX9_undo_4 ?_
  refine v_i2l C dX9_undo_7 ?_
  obtain ⟨q3, g4, hF⟩ := bnd hF
  refine v_cSi C mw_X9_in lk_X9_53 _ (M_X9_in (by omega) g4) rfl rfl (Nat.le_of_ble_eq_true rfl) dX9_undo_8 ?_
  refine v_if_ne C 16 dX9_undo_11 (by decide) (fun c5 => ?_) (fun c5 => ?_)
  · have hF := ifn hF c5
    refine v_aload_n C 0 0 dX9_undo_16 rfl rfl ?_
    obtain ⟨v7, g6, hF⟩ := bnd hF
    refine v_gI C fu_X9_117 g6 dX9_undo_17 ?_
    refine v_iload_n C 1 1 dX9_undo_20 rfl rfl ?_
    refine v_isub C dX9_undo_21 ?_
    refine v_istore_n C 2 (ll' := [(2, _), (0, _), (1, _)]) dX9_undo_22 rfl (by decide) rfl ?_
    refine v_iload_n C 2 0 dX9_undo_23 rfl rfl ?_
    refine v_if_le C 45 dX9_undo_24 (by decide) (fun c8 => ?_) (fun c8 => ?_)
    · have hF := ifp hF c8
      refine v_iload_n C 2 0 dX9_undo_45 rfl rfl ?_
      exact v_iretF C hq (Option.some.inj hF) dX9_undo_46
    · have hF := ifn hF c8
      refine v_aload_n C 0 1 dX9_undo_27 rfl rfl ?_
      refine v_bipush C (44) dX9_undo_28 (by decide) ?_
      refine v_iconst C (1) dX9_undo_30 (by decide) ?_
      refine v_iload_n C 1 2 dX9_undo_31 rfl rfl ?_
      refine v_iadd C dX9_undo_32 ?_
      refine v_imul C dX9_undo_33 ?_
      refine v_iconst C (0) dX9_undo_34 (by decide) ?_
      refine v_bipush C (44) dX9_undo_35 (by decide) ?_
      obtain ⟨q9, g10, hF⟩ := bnd hF
      refine v_cVv C mw_X9_copyAll lk_X9_113 _ (M_X9_copyAll (by omega) h0 g10) h0 rfl rfl (Nat.le_of_ble_eq_true rfl) dX9_undo_37 ?_
      refine v_aload_n C 0 1 dX9_undo_40 rfl rfl ?_
      refine v_iload_n C 1 2 dX9_undo_41 rfl rfl ?_
      obtain ⟨m12, g11, hF⟩ := bnd hF
      refine v_pI C fp_X9_117 g11 dX9_undo_42 ?_
      refine v_iload_n C 2 0 dX9_undo_45 rfl rfl ?_
      exact v_iretF C hq (Option.some.inj hF) dX9_undo_46
  · have hF := ifp hF c5
    refine v_iconst C (-1) dX9_undo_14 (by decide) ?_
    exact v_iretF C hq (Option.some.inj hF) dX9_undo_15
set_option maxRecDepth 20000 in
set_option maxHeartbeats 2000000 in
theorem M_X9_isKept {Δ : DD} {d : Nat} {x0 : Int32} {σ : Mem} {q : Int32} (hd : 2 ≤ d) (hF : F_X9_isKept x0 σ = some q) : Mt Δ d yX9_isKept cX9_isKept 1 (some .boolean) [.int x0] σ (some (.int q)) σ := by
  obtain ⟨d, rfl⟩ : ∃ e, d = e + 1 := ⟨d - 1, by omega⟩
  have hd : 1 ≤ d := by omega
  refine mt_of (by decide) rfl (Nat.le_of_ble_eq_true rfl) (fun Γ C hq => ?_)
  unfold F_X9_isKept at hF
  show V Δ Γ 1 0 [(0, .int (x0))] [] σ
  refine v_iload_n C 0 0 dX9_isKept_0 rfl rfl ?_
  refine v_i2l C dX9_isKept_1 ?_
  refine v_lconst C 0 dX9_isKept_2 (by decide) ?_
  refine v_ldc2 C (2) kl_X9_166 dX9_isKept_3 ?_
  obtain ⟨q1, g2, hF⟩ := bnd hF
  refine v_cSi C mw_X9_in lk_X9_53 _ (M_X9_in (by omega) g2) rfl rfl (Nat.le_of_ble_eq_true rfl) dX9_isKept_6 ?_
  obtain ⟨_, g3, hF⟩ := bnd hF
  exact v_zretP C hq (Option.some.inj hF) (bz_nr g3) dX9_isKept_9
set_option maxRecDepth 20000 in
set_option maxHeartbeats 2000000 in
theorem M_X9_keep {Δ : DD} {d : Nat} {x0 : Nat} {x1 : Int32} {σ : Mem} {q : (Int32 × Mem)} (hd : 3 ≤ d) (h0 : isK 9 x0 = true) (hF : F_X9_keep x0 x1 σ = some q) : Mt Δ d yX9_keep cX9_keep 2 (some .int) [rf Δ x0, .int x1] σ (some (.int q.1)) q.2 := by
  obtain ⟨d, rfl⟩ : ∃ e, d = e + 1 := ⟨d - 1, by omega⟩
  have hd : 2 ≤ d := by omega
  refine mt_of (by decide) rfl (Nat.le_of_ble_eq_true rfl) (fun Γ C hq => ?_)
  unfold F_X9_keep at hF
  show V Δ Γ 2 0 [(0, rf Δ (x0)), (1, .int (x1))] [] σ
  refine v_iload_n C 1 1 dX9_keep_0 rfl rfl ?_
  obtain ⟨q1, g2, hF⟩ := bnd hF
  refine v_cSi C mw_X9_isKept lk_X9_168 _ (M_X9_isKept (by omega) g2) rfl rfl (Nat.le_of_ble_eq_true rfl) dX9_keep_1 ?_
  refine v_if_ne C 9 dX9_keep_4 (by decide) (fun c3 => ?_) (fun c3 => ?_)
  · have hF := ifn hF c3
    refine v_aload_n C 0 0 dX9_keep_9 rfl rfl ?_
    obtain ⟨q4, g5, hF⟩ := bnd hF
    refine v_cVi C mw_X9_isTown lk_X9_153 _ (M_X9_isTown (by omega) h0 g5) h0 rfl rfl (Nat.le_of_ble_eq_true rfl) dX9_keep_10 ?_
    refine v_if_ne C 19 dX9_keep_13 (by decide) (fun c6 => ?_) (fun c6 => ?_)
    · have hF := ifn hF c6
      refine v_aload_n C 0 0 dX9_keep_19 rfl rfl ?_
      refine v_iconst C (0) dX9_keep_20 (by decide) ?_
      refine v_sipush C (1804) dX9_keep_21 (by decide) ?_
      refine v_iconst C (1) dX9_keep_24 (by decide) ?_
      refine v_iload_n C 1 1 dX9_keep_25 rfl rfl ?_
      refine v_iadd C dX9_keep_26 ?_
      refine v_imul C dX9_keep_27 ?_
      refine v_sipush C (1804) dX9_keep_28 (by decide) ?_
      obtain ⟨q7, g8, hF⟩ := bnd hF
      refine v_cVv C mw_X9_copyAll lk_X9_113 _ (M_X9_copyAll (by omega) h0 g8) h0 rfl rfl (Nat.le_of_ble_eq_true rfl) dX9_keep_31 ?_
      refine v_aload_n C 0 0 dX9_keep_34 rfl rfl ?_
      obtain ⟨p10, g9, hF⟩ := bnd hF
      refine v_gR C fu_X9_13 g9 dX9_keep_35 ?_
      refine v_iload_n C 1 1 dX9_keep_38 rfl rfl ?_
      refine v_aload_n C 0 0 dX9_keep_39 rfl rfl ?_
      obtain ⟨v12, g11, hF⟩ := bnd hF
      refine v_gI C fu_X9_117 g11 dX9_keep_40 ?_
      obtain ⟨m13, g14, hF⟩ := bnd hF
      refine v_sI C g14 dX9_keep_43 ?_
      refine v_aload_n C 0 0 dX9_keep_44 rfl rfl ?_
      obtain ⟨v16, g15, hF⟩ := bnd hF
      refine v_gI C fu_X9_117 g15 dX9_keep_45 ?_
      exact v_iretF C hq (Option.some.inj hF) dX9_keep_48
    · have hF := ifp hF c6
      refine v_bipush C (-4) dX9_keep_16 (by decide) ?_
      exact v_iretF C hq (Option.some.inj hF) dX9_keep_18
  · have hF := ifp hF c3
    refine v_iconst C (-1) dX9_keep_7 (by decide) ?_
    exact v_iretF C hq (Option.some.inj hF) dX9_keep_8
set_option maxRecDepth 20000 in
set_option maxHeartbeats 2000000 in
theorem M_X9_on {Δ : DD} {d : Nat} {x0 : Nat} {x1 : Int32} {σ : Mem} {q : (Int32 × Mem)} (hd : 3 ≤ d) (h0 : isK 9 x0 = true) (hF : F_X9_on x0 x1 σ = some q) : Mt Δ d yX9_on cX9_on 2 (some .int) [rf Δ x0, .int x1] σ (some (.int q.1)) q.2 := by
  obtain ⟨d, rfl⟩ : ∃ e, d = e + 1 := ⟨d - 1, by omega⟩
  have hd : 2 ≤ d := by omega
  refine mt_of (by decide) rfl (Nat.le_of_ble_eq_true rfl) (fun Γ C hq => ?_)
  unfold F_X9_on at hF
  show V Δ Γ 2 0 [(0, rf Δ (x0)), (1, .int (x1))] [] σ
  refine v_iload_n C 1 1 dX9_on_0 rfl rfl ?_
  obtain ⟨q1, g2, hF⟩ := bnd hF
  refine v_cSi C mw_X9_isKept lk_X9_168 _ (M_X9_isKept (by omega) g2) rfl rfl (Nat.le_of_ble_eq_true rfl) dX9_on_1 ?_
  refine v_if_ne C 9 dX9_on_4 (by decide) (fun c3 => ?_) (fun c3 => ?_)
  · have hF := ifn hF c3
    refine v_aload_n C 0 0 dX9_on_9 rfl rfl ?_
    obtain ⟨p5, g4, hF⟩ := bnd hF
    refine v_gR C fu_X9_13 g4 dX9_on_10 ?_
    refine v_iload_n C 1 1 dX9_on_13 rfl rfl ?_
    obtain ⟨v6, g7, hF⟩ := bnd hF
    refine v_aI C g7 dX9_on_14 ?_
    refine v_if_ge C 24 dX9_on_15 (by decide) (fun c8 => ?_) (fun c8 => ?_)
    · have hF := ifp hF c8
      refine v_aload_n C 0 0 dX9_on_24 rfl rfl ?_
      refine v_sipush C (1804) dX9_on_25 (by decide) ?_
      refine v_iconst C (1) dX9_on_28 (by decide) ?_
      refine v_iload_n C 1 1 dX9_on_29 rfl rfl ?_
      refine v_iadd C dX9_on_30 ?_
      refine v_imul C dX9_on_31 ?_
      refine v_iconst C (0) dX9_on_32 (by decide) ?_
      refine v_sipush C (1804) dX9_on_33 (by decide) ?_
      obtain ⟨q9, g10, hF⟩ := bnd hF
      refine v_cVv C mw_X9_copyAll lk_X9_113 _ (M_X9_copyAll (by omega) h0 g10) h0 rfl rfl (Nat.le_of_ble_eq_true rfl) dX9_on_36 ?_
      refine v_aload_n C 0 0 dX9_on_39 rfl rfl ?_
      refine v_aload_n C 0 0 dX9_on_40 rfl rfl ?_
      obtain ⟨p12, g11, hF⟩ := bnd hF
      refine v_gR C fu_X9_13 g11 dX9_on_41 ?_
      refine v_iload_n C 1 1 dX9_on_44 rfl rfl ?_
      obtain ⟨v13, g14, hF⟩ := bnd hF
      refine v_aI C g14 dX9_on_45 ?_
      obtain ⟨m16, g15, hF⟩ := bnd hF
      refine v_pI C fp_X9_117 g15 dX9_on_46 ?_
      refine v_aload_n C 0 0 dX9_on_49 rfl rfl ?_
      obtain ⟨v18, g17, hF⟩ := bnd hF
      refine v_gI C fu_X9_117 g17 dX9_on_50 ?_
      exact v_iretF C hq (Option.some.inj hF) dX9_on_53
    · have hF := ifn hF c8
      refine v_aload_n C 0 0 dX9_on_18 rfl rfl ?_
      refine v_iconst C (1) dX9_on_19 (by decide) ?_
      obtain ⟨q19, g20, hF⟩ := bnd hF
      refine v_cVi C mw_X9_found lk_X9_63 _ (M_X9_found (by omega) h0 g20) h0 rfl rfl (Nat.le_of_ble_eq_true rfl) dX9_on_20 ?_
      exact v_iretF C hq (Option.some.inj hF) dX9_on_23
  · have hF := ifp hF c3
    refine v_iconst C (-1) dX9_on_7 (by decide) ?_
    exact v_iretF C hq (Option.some.inj hF) dX9_on_8
set_option maxRecDepth 20000 in
set_option maxHeartbeats 2000000 in
theorem M_X9_tries {Δ : DD} {d : Nat} {x0 : Nat} {σ : Mem} {q : Mem} (hd : 2 ≤ d) (h0 : isK 9 x0 = true) (hF : F_X9_tries x0 σ = some q) : Mt Δ d yX9_tries cX9_tries 1 none [rf Δ x0] σ none q := by
  obtain ⟨d, rfl⟩ : ∃ e, d = e + 1 := ⟨d - 1, by omega⟩
  have hd : 1 ≤ d := by omega
  refine mt_of (by decide) rfl (Nat.le_of_ble_eq_true rfl) (fun Γ C hq => ?_)
  unfold F_X9_tries at hF
  show V Δ Γ 1 0 [(0, rf Δ (x0))] [] σ
  refine v_aload_n C 0 0 dX9_tries_0 rfl rfl ?_
  refine v_iconst C (0) dX9_tries_1 (by decide) ?_
  refine v_sipush C (7260) dX9_tries_2 (by decide) ?_
  refine v_bipush C (44) dX9_tries_5 (by decide) ?_
  obtain ⟨q1, g2, hF⟩ := bnd hF
  refine v_cVv C mw_X9_copyAll lk_X9_113 _ (M_X9_copyAll (by omega) h0 g2) h0 rfl rfl (Nat.le_of_ble_eq_true rfl) dX9_tries_7 ?_
  exact v_vretF C hq (Option.some.inj hF) dX9_tries_10

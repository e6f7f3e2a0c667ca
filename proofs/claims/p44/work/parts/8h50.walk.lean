set_option maxRecDepth 20000 in
set_option maxHeartbeats 2000000 in
theorem M_X6_size {Δ : DD} {d : Nat} {x0 : Nat} {x1 : Int32} {σ : Mem} {q : Int32} (hd : 1 ≤ d) (h0 : isK 6 x0 = true) (hF : F_X6_size x0 x1 σ = some q) : Mt Δ d yX6_size cX6_size 2 (some .int) [rf Δ x0, .int x1] σ (some (.int q)) σ := by
  obtain ⟨d, rfl⟩ : ∃ e, d = e + 1 := ⟨d - 1, by omega⟩
  have hd : 0 ≤ d := by omega
  refine mt_of (by decide) rfl (Nat.le_of_ble_eq_true rfl) (fun Γ C hq => ?_)
  unfold F_X6_size at hF
  show V Δ Γ 2 0 [(0, rf Δ (x0)), (1, .int (x1))] [] σ
  refine v_iload_n C 1 1 dX6_size_0 rfl rfl ?_
  refine v_if_lt C 22 dX6_size_1 (by decide) (fun c1 => ?_) (fun c1 => ?_)
  · have hF := ifp hF c1
    refine v_iconst C (-1) dX6_size_22 (by decide) ?_
    exact v_iretP C hq (Option.some.inj hF) dX6_size_23
  · have hF := ifn hF c1
    refine v_iload_n C 1 1 dX6_size_4 rfl rfl ?_
    refine v_aload_n C 0 0 dX6_size_5 rfl rfl ?_
    obtain ⟨p3, g2, hF⟩ := bnd hF
    refine v_gR C fu_X6_21 g2 dX6_size_6 ?_
    obtain ⟨v4, g5, hF⟩ := bnd hF
    refine v_aN C g5 dX6_size_9 ?_
    refine v_icmp_ge C 22 dX6_size_10 (by decide) (fun c6 => ?_) (fun c6 => ?_)
    · have hF := ifp hF c6
      refine v_iconst C (-1) dX6_size_22 (by decide) ?_
      exact v_iretP C hq (Option.some.inj hF) dX6_size_23
    · have hF := ifn hF c6
      refine v_aload_n C 0 0 dX6_size_13 rfl rfl ?_
      obtain ⟨p8, g7, hF⟩ := bnd hF
      refine v_gR C fu_X6_21 g7 dX6_size_14 ?_
      refine v_iload_n C 1 1 dX6_size_17 rfl rfl ?_
      obtain ⟨v9, g10, hF⟩ := bnd hF
      refine v_aI C g10 dX6_size_18 ?_
      refine v_goto C 23 dX6_size_19 (by decide) ?_
      exact v_iretP C hq (Option.some.inj hF) dX6_size_23
set_option maxRecDepth 20000 in
set_option maxHeartbeats 2000000 in
theorem M_X8_read {Δ : DD} {d : Nat} {x0 : Nat} {x1 : Int32} {σ : Mem} {q : Int32} (hd : 1 ≤ d) (hF : F_X8_read x0 x1 σ = some q) : Mt Δ d yX8_read cX8_read 2 (some .int) [rf Δ x0, .int x1] σ (some (.int q)) σ := by
  obtain ⟨d, rfl⟩ : ∃ e, d = e + 1 := ⟨d - 1, by omega⟩
  have hd : 0 ≤ d := by omega
  refine mt_of (by decide) rfl (Nat.le_of_ble_eq_true rfl) (fun Γ C hq => ?_)
  unfold F_X8_read at hF
  show V Δ Γ 2 0 [(0, rf Δ (x0)), (1, .int (x1))] [] σ
  refine v_iload_n C 1 1 dX8_read_0 rfl rfl ?_
  refine v_if_lt C 16 dX8_read_1 (by decide) (fun c1 => ?_) (fun c1 => ?_)
  · have hF := ifp hF c1
    refine v_iconst C (0) dX8_read_16 (by decide) ?_
    exact v_iretP C hq (Option.some.inj hF) dX8_read_17
  · have hF := ifn hF c1
    refine v_iload_n C 1 1 dX8_read_4 rfl rfl ?_
    refine v_aload_n C 0 0 dX8_read_5 rfl rfl ?_
    obtain ⟨v2, g3, hF⟩ := bnd hF
    refine v_aN C g3 dX8_read_6 ?_
    refine v_icmp_ge C 16 dX8_read_7 (by decide) (fun c4 => ?_) (fun c4 => ?_)
    · have hF := ifp hF c4
      refine v_iconst C (0) dX8_read_16 (by decide) ?_
      exact v_iretP C hq (Option.some.inj hF) dX8_read_17
    · have hF := ifn hF c4
      refine v_aload_n C 0 0 dX8_read_10 rfl rfl ?_
      refine v_iload_n C 1 1 dX8_read_11 rfl rfl ?_
      obtain ⟨v5, g6, hF⟩ := bnd hF
      refine v_aI C g6 dX8_read_12 ?_
      refine v_goto C 17 dX8_read_13 (by decide) ?_
      exact v_iretP C hq (Option.some.inj hF) dX8_read_17
set_option maxRecDepth 20000 in
set_option maxHeartbeats 2000000 in
theorem M_X8_readK {Δ : DD} {d : Nat} {x1 : Int32} {σ : Mem} {q : Int32} (hd : 1 ≤ d) (hF : F_X8_readK x1 σ = some q) : Mt Δ d yX8_read cX8_read 2 (some .int) [.ref Δ.2.2.2.2.2, .int x1] σ (some (.int q)) σ := by
  obtain ⟨d, rfl⟩ : ∃ e, d = e + 1 := ⟨d - 1, by omega⟩
  have hd : 0 ≤ d := by omega
  refine mt_of (by decide) rfl (Nat.le_of_ble_eq_true rfl) (fun Γ C hq => ?_)
  unfold F_X8_readK at hF
  show V Δ Γ 2 0 [(0, .ref Δ.2.2.2.2.2), (1, .int (x1))] [] σ
  refine v_iload_n C 1 1 dX8_read_0 rfl rfl ?_
  refine v_if_lt C 16 dX8_read_1 (by decide) (fun c1 => ?_) (fun c1 => ?_)
  · have hF := ifp hF c1
    refine v_iconst C (0) dX8_read_16 (by decide) ?_
    exact v_iretP C hq (Option.some.inj hF) dX8_read_17
  · have hF := ifn hF c1
    refine v_iload_n C 1 1 dX8_read_4 rfl rfl ?_
    refine v_aload_n C 0 0 dX8_read_5 rfl rfl ?_
    refine v_nK C dX8_read_6 ?_
    refine v_icmp_ge C 16 dX8_read_7 (by decide) (fun c2 => ?_) (fun c2 => ?_)
    · have hF := ifp hF c2
      refine v_iconst C (0) dX8_read_16 (by decide) ?_
      exact v_iretP C hq (Option.some.inj hF) dX8_read_17
    · have hF := ifn hF c2
      refine v_aload_n C 0 0 dX8_read_10 rfl rfl ?_
      refine v_iload_n C 1 1 dX8_read_11 rfl rfl ?_
      obtain ⟨v3, g4, hF⟩ := bnd hF
      refine v_aK C g4 dX8_read_12 ?_
      refine v_goto C 17 dX8_read_13 (by decide) ?_
      exact v_iretP C hq (Option.some.inj hF) dX8_read_17
set_option maxRecDepth 20000 in
set_option maxHeartbeats 2000000 in
theorem M_X6_get {Δ : DD} {d : Nat} {x0 : Nat} {x1 : Int32} {x2 : Int32} {σ : Mem} {q : Int32} (hd : 2 ≤ d) (h0 : isK 6 x0 = true) (hF : F_X6_get x0 x1 x2 σ = some q) : Mt Δ d yX6_get cX6_get 3 (some .int) [rf Δ x0, .int x1, .int x2] σ (some (.int q)) σ := by
  obtain ⟨d, rfl⟩ : ∃ e, d = e + 1 := ⟨d - 1, by omega⟩
  have hd : 1 ≤ d := by omega
  refine mt_of (by decide) rfl (Nat.le_of_ble_eq_true rfl) (fun Γ C hq => ?_)
  unfold F_X6_get at hF
  show V Δ Γ 3 0 [(0, rf Δ (x0)), (1, .int (x1)), (2, .int (x2))] [] σ
  refine v_iload_n C 2 2 dX6_get_0 rfl rfl ?_
  refine v_if_lt C 31 dX6_get_1 (by decide) (fun c1 => ?_) (fun c1 => ?_)
  · have hF := ifp hF c1
    refine v_iconst C (0) dX6_get_31 (by decide) ?_
    exact v_iretP C hq (Option.some.inj hF) dX6_get_32
  · have hF := ifn hF c1
    refine v_iload_n C 2 2 dX6_get_4 rfl rfl ?_
    refine v_aload_n C 0 0 dX6_get_5 rfl rfl ?_
    refine v_iload_n C 1 1 dX6_get_6 rfl rfl ?_
    obtain ⟨q2, g3, hF⟩ := bnd hF
    refine v_cVi C mw_X6_size lk_X6_34 _ (M_X6_size (by omega) h0 g3) h0 rfl rfl (Nat.le_of_ble_eq_true rfl) dX6_get_7 ?_
    refine v_icmp_ge C 31 dX6_get_10 (by decide) (fun c4 => ?_) (fun c4 => ?_)
    · have hF := ifp hF c4
      refine v_iconst C (0) dX6_get_31 (by decide) ?_
      exact v_iretP C hq (Option.some.inj hF) dX6_get_32
    · have hF := ifn hF c4
      refine v_aload_n C 0 0 dX6_get_13 rfl rfl ?_
      obtain ⟨p6, g5, hF⟩ := bnd hF
      refine v_gR C fu_X6_25 g5 dX6_get_14 ?_
      refine v_iload_n C 1 1 dX6_get_17 rfl rfl ?_
      refine v_aload_n C 0 0 dX6_get_18 rfl rfl ?_
      obtain ⟨v8, g7, hF⟩ := bnd hF
      refine v_gI C fu_X6_15 g7 dX6_get_19 ?_
      refine v_imul C dX6_get_22 ?_
      refine v_iload_n C 2 2 dX6_get_23 rfl rfl ?_
      refine v_iadd C dX6_get_24 ?_
      obtain ⟨q9, g10, hF⟩ := bnd hF
      refine v_cSi C mw_X8_read lk_X6_38 _ (M_X8_read (by omega) g10) rfl rfl (Nat.le_of_ble_eq_true rfl) dX6_get_25 ?_
      refine v_goto C 32 dX6_get_28 (by decide) ?_
      exact v_iretP C hq (Option.some.inj hF) dX6_get_32
set_option maxRecDepth 20000 in
set_option maxHeartbeats 2000000 in
theorem M_X8_write {Δ : DD} {d : Nat} {x0 : Nat} {x1 : Int32} {x2 : Int32} {σ : Mem} {q : Mem} (hd : 1 ≤ d) (hF : F_X8_write x0 x1 x2 σ = some q) : Mt Δ d yX8_write cX8_write 3 none [rf Δ x0, .int x1, .int x2] σ none q := by
  obtain ⟨d, rfl⟩ : ∃ e, d = e + 1 := ⟨d - 1, by omega⟩
  have hd : 0 ≤ d := by omega
  refine mt_of (by decide) rfl (Nat.le_of_ble_eq_true rfl) (fun Γ C hq => ?_)
  unfold F_X8_write at hF
  show V Δ Γ 3 0 [(0, rf Δ (x0)), (1, .int (x1)), (2, .int (x2))] [] σ
  refine v_iload_n C 1 1 dX8_write_0 rfl rfl ?_
  refine v_if_lt C 14 dX8_write_1 (by decide) (fun c1 => ?_) (fun c1 => ?_)
  · have hF := ifp hF c1
    exact v_vretF C hq (Option.some.inj hF) dX8_write_14
  · have hF := ifn hF c1
    refine v_iload_n C 1 1 dX8_write_4 rfl rfl ?_
    refine v_aload_n C 0 0 dX8_write_5 rfl rfl ?_
    obtain ⟨v2, g3, hF⟩ := bnd hF
    refine v_aN C g3 dX8_write_6 ?_
    refine v_icmp_ge C 14 dX8_write_7 (by decide) (fun c4 => ?_) (fun c4 => ?_)
    · have hF := ifp hF c4
      exact v_vretF C hq (Option.some.inj hF) dX8_write_14
    · have hF := ifn hF c4
      refine v_aload_n C 0 0 dX8_write_10 rfl rfl ?_
      refine v_iload_n C 1 1 dX8_write_11 rfl rfl ?_
      refine v_iload_n C 2 2 dX8_write_12 rfl rfl ?_
      obtain ⟨m5, g6, hF⟩ := bnd hF
      refine v_sI C g6 dX8_write_13 ?_
      exact v_vretF C hq (Option.some.inj hF) dX8_write_14
def K_X0_take_13 (Δ : DD) (Γ : GG) (q : (Int32 × Mem)) (x0 : Nat) (x1 : Nat) (x2 : Int32) (y : (Int32 × Mem) ⊕ (Int32 × Mem)) : Prop := match y with
  | .inl s => V Δ Γ 6 13 [(0, rf Δ (x0)), (1, rf Δ (x1)), (2, .int (x2)), (3, .int (s.1))] [] s.2
  | .inr t => (t = q)
set_option maxRecDepth 20000 in
set_option maxHeartbeats 2000000 in
theorem W_X0_take_13 {Δ : DD} {Γ : GG} {d : Nat} {q : (Int32 × Mem)} {x0 : Nat} {x1 : Nat} {x2 : Int32} (C : Cx Δ Γ RX0 cX0_take 6 d (some .boolean)) (hq : RetQ Δ Γ (some (.int q.1)) q.2) (h0 : isK 0 x0 = true) (hd : 2 ≤ d) {s : Int32 × Mem} (hF : F_X0_take_13 x0 x1 x2  s = some q) : V Δ Γ 6 13 [(0, rf Δ (x0)), (1, rf Δ (x1)), (2, .int (x2)), (3, .int (s.1))] [] s.2 := by
  have hF : F_X0_take_13 x0 x1 x2  s = some q := hF
  refine lp_V (W := fun (s : Int32 × Mem) => V Δ Γ 6 13 [(0, rf Δ (x0)), (1, rf Δ (x1)), (2, .int (x2)), (3, .int (s.1))] [] s.2) (K := fun t => t = q) (K' := K_X0_take_13 Δ Γ q x0 x1 x2 ) (fun _ h => h) (fun _ h => h) ?_ s q hF rfl
  clear hF
  intro s z hF hK
  refine v_iload_n C 3 3 dX0_take_13 rfl rfl ?_
  refine v_aload_n C 0 0 dX0_take_14 rfl rfl ?_
  obtain ⟨v2, g1, hF⟩ := bnd hF
  refine v_gI C fu_X0_24 g1 dX0_take_15 ?_
  refine v_icmp_ge C 95 dX0_take_18 (by decide) (fun c3 => ?_) (fun c3 => ?_)
  · have hF := ifp hF c3
    refine v_iconst C (1) dX0_take_95 (by decide) ?_
    cases hF
    exact v_zretF C hq hK rfl dX0_take_96
  · have hF := ifn hF c3
    refine v_aload_n C 1 1 dX0_take_21 rfl rfl ?_
    refine v_iload_n C 2 2 dX0_take_22 rfl rfl ?_
    refine v_iconst C (2) dX0_take_23 (by decide) ?_
    refine v_iload_n C 3 3 dX0_take_24 rfl rfl ?_
    refine v_imul C dX0_take_25 ?_
    obtain ⟨_, g4, hF⟩ := bnd hF
    obtain ⟨q5, g6, hF⟩ := bnd hF
    refine v_cVi C mw_X6_get lk_X0_37 _ (M_X6_get (by omega) (chk_k g4) g6) (chk_k g4) rfl rfl (Nat.le_of_ble_eq_true rfl) dX0_take_26 ?_
    refine v_istore C 4 (ll' := [(4, _), (0, _), (1, _), (2, _), (3, _)]) dX0_take_29 (by decide) rfl ?_
    refine v_aload_n C 1 2 dX0_take_31 rfl rfl ?_
    refine v_iload_n C 2 3 dX0_take_32 rfl rfl ?_
    refine v_iconst C (2) dX0_take_33 (by decide) ?_
    refine v_iload_n C 3 4 dX0_take_34 rfl rfl ?_
    refine v_imul C dX0_take_35 ?_
    refine v_iconst C (1) dX0_take_36 (by decide) ?_
    refine v_iadd C dX0_take_37 ?_
    obtain ⟨_, g7, hF⟩ := bnd hF
    obtain ⟨q8, g9, hF⟩ := bnd hF
    refine v_cVi C mw_X6_get lk_X0_37 _ (M_X6_get (by omega) (chk_k g7) g9) (chk_k g7) rfl rfl (Nat.le_of_ble_eq_true rfl) dX0_take_38 ?_
    refine v_istore C 5 (ll' := [(5, _), (4, _), (0, _), (1, _), (2, _), (3, _)]) dX0_take_41 (by decide) rfl ?_
    refine v_aload_n C 0 2 dX0_take_43 rfl rfl ?_
    obtain ⟨p11, g10, hF⟩ := bnd hF
    refine v_gR C fu_X0_9 g10 dX0_take_44 ?_
    refine v_iload_n C 3 5 dX0_take_47 rfl rfl ?_
    refine v_iload C 4 1 dX0_take_48 rfl ?_
    obtain ⟨q12, g13, hF⟩ := bnd hF
    refine v_cSv C mw_X8_write lk_X0_41 _ (M_X8_write (by omega) g13) rfl rfl (Nat.le_of_ble_eq_true rfl) dX0_take_50 ?_
    refine v_aload_n C 0 2 dX0_take_53 rfl rfl ?_
    obtain ⟨p15, g14, hF⟩ := bnd hF
    refine v_gR C fu_X0_15 g14 dX0_take_54 ?_
    refine v_iload_n C 3 5 dX0_take_57 rfl rfl ?_
    refine v_iload C 5 0 dX0_take_58 rfl ?_
    obtain ⟨q16, g17, hF⟩ := bnd hF
    refine v_cSv C mw_X8_write lk_X0_41 _ (M_X8_write (by omega) g17) rfl rfl (Nat.le_of_ble_eq_true rfl) dX0_take_60 ?_
    refine v_iload C 4 1 dX0_take_63 rfl ?_
    refine v_if_lt C 87 dX0_take_65 (by decide) (fun c18 => ?_) (fun c18 => ?_)
    · have hF := ifp hF c18
      refine v_iconst C (0) dX0_take_87 (by decide) ?_
      cases hF
      exact v_zretF C hq hK rfl dX0_take_88
    · have hF := ifn hF c18
      refine v_iload C 4 1 dX0_take_68 rfl ?_
      refine v_bipush C (99) dX0_take_70 (by decide) ?_
      refine v_icmp_gt C 87 dX0_take_72 (by decide) (fun c19 => ?_) (fun c19 => ?_)
      · have hF := ifp hF c19
        refine v_iconst C (0) dX0_take_87 (by decide) ?_
        cases hF
        exact v_zretF C hq hK rfl dX0_take_88
      · have hF := ifn hF c19
        refine v_iload C 5 0 dX0_take_75 rfl ?_
        refine v_if_lt C 87 dX0_take_77 (by decide) (fun c20 => ?_) (fun c20 => ?_)
        · have hF := ifp hF c20
          refine v_iconst C (0) dX0_take_87 (by decide) ?_
          cases hF
          exact v_zretF C hq hK rfl dX0_take_88
        · have hF := ifn hF c20
          refine v_iload C 5 0 dX0_take_80 rfl ?_
          refine v_bipush C (30) dX0_take_82 (by decide) ?_
          refine v_icmp_le C 89 dX0_take_84 (by decide) (fun c21 => ?_) (fun c21 => ?_)
          · have hF := ifp hF c21
            refine v_iinc C (_ + (1 : Int32)) 5 (ll' := [(3, _), (5, _), (4, _), (0, _), (1, _), (2, _)]) dX0_take_89 rfl (inc_eq (by decide)) (by decide) rfl ?_
            refine v_goto C 13 dX0_take_92 (by decide) ?_
            refine v_sub [3, 4, 5, 0] (ll' := [(0, _), (1, _), (2, _), (3, _)]) rfl ?_
            cases hF
            exact hK
          · have hF := ifn hF c21
            refine v_iconst C (0) dX0_take_87 (by decide) ?_
            cases hF
            exact v_zretF C hq hK rfl dX0_take_88
set_option maxRecDepth 20000 in
set_option maxHeartbeats 2000000 in
theorem M_X0_take {Δ : DD} {d : Nat} {x0 : Nat} {x1 : Nat} {x2 : Int32} {σ : Mem} {q : (Int32 × Mem)} (hd : 3 ≤ d) (h0 : isK 0 x0 = true) (hF : F_X0_take x0 x1 x2 σ = some q) : Mt Δ d yX0_take cX0_take 6 (some .boolean) [rf Δ x0, rf Δ x1, .int x2] σ (some (.int q.1)) q.2 := by
  obtain ⟨d, rfl⟩ : ∃ e, d = e + 1 := ⟨d - 1, by omega⟩
  have hd : 2 ≤ d := by omega
  refine mt_of (by decide) rfl (Nat.le_of_ble_eq_true rfl) (fun Γ C hq => ?_)
  unfold F_X0_take at hF
  show V Δ Γ 6 0 [(0, rf Δ (x0)), (1, rf Δ (x1)), (2, .int (x2))] [] σ
  refine v_aload_n C 0 0 dX0_take_0 rfl rfl ?_
  refine v_aload_n C 1 1 dX0_take_1 rfl rfl ?_
  refine v_iload_n C 2 2 dX0_take_2 rfl rfl ?_
  obtain ⟨_, g22, hF⟩ := bnd hF
  obtain ⟨q23, g24, hF⟩ := bnd hF
  refine v_cVi C mw_X6_size lk_X0_31 _ (M_X6_size (by omega) (chk_k g22) g24) (chk_k g22) rfl rfl (Nat.le_of_ble_eq_true rfl) dX0_take_3 ?_
  refine v_iconst C (2) dX0_take_6 (by decide) ?_
  refine v_idiv C dX0_take_7 (by decide) ?_
  obtain ⟨m26, g25, hF⟩ := bnd hF
  refine v_pI C fp_X0_24 g25 dX0_take_8 ?_
  refine v_iconst C (0) dX0_take_11 (by decide) ?_
  refine v_istore_n C 3 (ll' := [(3, _), (0, _), (1, _), (2, _)]) dX0_take_12 rfl (by decide) rfl ?_
  refine v_sub [1, 2, 3, 0] (ll' := [(0, _), (1, _), (2, _), (3, _)]) rfl ?_
  exact W_X0_take_13 C hq h0 hd hF
set_option maxRecDepth 20000 in
set_option maxHeartbeats 2000000 in
theorem M_X7_gapWith {Δ : DD} {d : Nat} {x0 : Nat} {x1 : Int32} {x2 : Int32} {σ : Mem} {q : Int32} (hd : 2 ≤ d) (h0 : isK 7 x0 = true) (hF : F_X7_gapWith x0 x1 x2 σ = some q) : Mt Δ d yX7_gapWith cX7_gapWith 3 (some .int) [rf Δ x0, .int x1, .int x2] σ (some (.int q)) σ := by
  obtain ⟨d, rfl⟩ : ∃ e, d = e + 1 := ⟨d - 1, by omega⟩
  have hd : 1 ≤ d := by omega
  refine mt_of (by decide) rfl (Nat.le_of_ble_eq_true rfl) (fun Γ C hq => ?_)
  unfold F_X7_gapWith at hF
  show V Δ Γ 3 0 [(0, rf Δ (x0)), (1, .int (x1)), (2, .int (x2))] [] σ
  refine v_aload_n C 0 0 dX7_gapWith_0 rfl rfl ?_
  obtain ⟨p2, g1, hF⟩ := bnd hF
  refine v_gR C fu_X7_18 g1 dX7_gapWith_1 ?_
  refine v_iload_n C 1 1 dX7_gapWith_4 rfl rfl ?_
  obtain ⟨q3, g4, hF⟩ := bnd hF
  refine v_cSi C mw_X8_read lk_X7_47 _ (M_X8_read (by omega) g4) rfl rfl (Nat.le_of_ble_eq_true rfl) dX7_gapWith_5 ?_
  refine v_aload_n C 0 0 dX7_gapWith_8 rfl rfl ?_
  obtain ⟨p6, g5, hF⟩ := bnd hF
  refine v_gR C fu_X7_21 g5 dX7_gapWith_9 ?_
  refine v_iload_n C 2 2 dX7_gapWith_12 rfl rfl ?_
  obtain ⟨q7, g8, hF⟩ := bnd hF
  refine v_cSi C mw_X8_read lk_X7_47 _ (M_X8_read (by omega) g8) rfl rfl (Nat.le_of_ble_eq_true rfl) dX7_gapWith_13 ?_
  refine v_isub C dX7_gapWith_16 ?_
  refine v_abs C ml_X7_51 mm_abs_s mm_i mm_abs_c (Nat.le_of_ble_eq_true rfl) dX7_gapWith_17 ?_
  exact v_iretP C hq (Option.some.inj hF) dX7_gapWith_20
set_option maxRecDepth 20000 in
set_option maxHeartbeats 2000000 in
theorem M_X7_coldOf {Δ : DD} {d : Nat} {x0 : Nat} {x1 : Int32} {σ : Mem} {q : Int32} (hd : 2 ≤ d) (h0 : isK 7 x0 = true) (hF : F_X7_coldOf x0 x1 σ = some q) : Mt Δ d yX7_coldOf cX7_coldOf 2 (some .int) [rf Δ x0, .int x1] σ (some (.int q)) σ := by
  obtain ⟨d, rfl⟩ : ∃ e, d = e + 1 := ⟨d - 1, by omega⟩
  have hd : 1 ≤ d := by omega
  refine mt_of (by decide) rfl (Nat.le_of_ble_eq_true rfl) (fun Γ C hq => ?_)
  unfold F_X7_coldOf at hF
  show V Δ Γ 2 0 [(0, rf Δ (x0)), (1, .int (x1))] [] σ
  refine v_aload_n C 0 0 dX7_coldOf_0 rfl rfl ?_
  obtain ⟨p2, g1, hF⟩ := bnd hF
  refine v_gR C fu_X7_9 g1 dX7_coldOf_1 ?_
  refine v_iload_n C 1 1 dX7_coldOf_4 rfl rfl ?_
  refine v_iconst C (4) dX7_coldOf_5 (by decide) ?_
  refine v_irem C dX7_coldOf_6 (by decide) ?_
  obtain ⟨q3, g4, hF⟩ := bnd hF
  refine v_cSi C mw_X8_read lk_X7_47 _ (M_X8_read (by omega) g4) rfl rfl (Nat.le_of_ble_eq_true rfl) dX7_coldOf_7 ?_
  exact v_iretP C hq (Option.some.inj hF) dX7_coldOf_10
set_option maxRecDepth 20000 in
set_option maxHeartbeats 2000000 in
theorem M_X8_barOf {Δ : DD} {d : Nat} {x0 : Int32} {x1 : Int32} {σ : Mem} {q : Int32} (hd : 1 ≤ d) (hF : F_X8_barOf x0 x1 σ = some q) : Mt Δ d yX8_barOf cX8_barOf 2 (some .int) [.int x0, .int x1] σ (some (.int q)) σ := by
  obtain ⟨d, rfl⟩ : ∃ e, d = e + 1 := ⟨d - 1, by omega⟩
  have hd : 0 ≤ d := by omega
  refine mt_of (by decide) rfl (Nat.le_of_ble_eq_true rfl) (fun Γ C hq => ?_)
  unfold F_X8_barOf at hF
  show V Δ Γ 2 0 [(0, .int (x0)), (1, .int (x1))] [] σ
  refine v_iload_n C 0 0 dX8_barOf_0 rfl rfl ?_
  rcases ifc hF with ⟨c1, hF⟩ | ⟨c1, hF⟩
  · refine v_tableEq C 36 (1) (35) dX8_barOf_1 c1 (by decide) (by decide) (by decide) (by decide) ?_
    refine v_iload_n C 1 1 dX8_barOf_36 rfl rfl ?_
    refine v_iconst C (2) dX8_barOf_37 (by decide) ?_
    refine v_iadd C dX8_barOf_38 ?_
    exact v_iretP C hq (Option.some.inj hF) dX8_barOf_39
  · skip
    rcases ifc hF with ⟨c2, hF⟩ | ⟨c2, hF⟩
    · refine v_tableEq C 40 (2) (39) dX8_barOf_1 c2 (by decide) (by decide) (by decide) (by decide) ?_
      refine v_iload_n C 1 1 dX8_barOf_40 rfl rfl ?_
      refine v_iconst C (2) dX8_barOf_41 (by decide) ?_
      refine v_idiv C dX8_barOf_42 (by decide) ?_
      exact v_iretP C hq (Option.some.inj hF) dX8_barOf_43
    · skip
      rcases ifc hF with ⟨c3, hF⟩ | ⟨c3, hF⟩
      · refine v_tableEq C 44 (3) (43) dX8_barOf_1 c3 (by decide) (by decide) (by decide) (by decide) ?_
        refine v_iload_n C 1 1 dX8_barOf_44 rfl rfl ?_
        exact v_iretP C hq (Option.some.inj hF) dX8_barOf_45
      · skip
        rcases ifc hF with ⟨c4, hF⟩ | ⟨c4, hF⟩
        · refine v_tableEq C 40 (4) (39) dX8_barOf_1 c4 (by decide) (by decide) (by decide) (by decide) ?_
          refine v_iload_n C 1 1 dX8_barOf_40 rfl rfl ?_
          refine v_iconst C (2) dX8_barOf_41 (by decide) ?_
          refine v_idiv C dX8_barOf_42 (by decide) ?_
          exact v_iretP C hq (Option.some.inj hF) dX8_barOf_43
        · skip
          rcases ifc hF with ⟨c5, hF⟩ | ⟨c5, hF⟩
          · refine v_tableEq C 36 (5) (35) dX8_barOf_1 c5 (by decide) (by decide) (by decide) (by decide) ?_
            refine v_iload_n C 1 1 dX8_barOf_36 rfl rfl ?_
            refine v_iconst C (2) dX8_barOf_37 (by decide) ?_
            refine v_iadd C dX8_barOf_38 ?_
            exact v_iretP C hq (Option.some.inj hF) dX8_barOf_39
          · skip
            have c1 := lv_neT c1 (a := 1) (by decide)
            have c2 := lv_neT c2 (a := 2) (by decide)
            have c3 := lv_neT c3 (a := 3) (by decide)
            have c4 := lv_neT c4 (a := 4) (by decide)
            have c5 := lv_neT c5 (a := 5) (by decide)
            refine v_tableOut C 44 dX8_barOf_1 (by omega) (by decide) ?_
            refine v_iload_n C 1 1 dX8_barOf_44 rfl rfl ?_
            exact v_iretP C hq (Option.some.inj hF) dX8_barOf_45
set_option maxRecDepth 20000 in
set_option maxHeartbeats 2000000 in
theorem M_X8_crossing {Δ : DD} {d : Nat} {x0 : Int32} {x1 : Int32} {x2 : Int32} {x3 : Int32} {x4 : Int32} {σ : Mem} {q : Int32} (hd : 2 ≤ d) (hF : F_X8_crossing x0 x1 x2 x3 x4 σ = some q) : Mt Δ d yX8_crossing cX8_crossing 6 (some .int) [.int x0, .int x1, .int x2, .int x3, .int x4] σ (some (.int q)) σ := by
  obtain ⟨d, rfl⟩ : ∃ e, d = e + 1 := ⟨d - 1, by omega⟩
  have hd : 1 ≤ d := by omega
  refine mt_of (by decide) rfl (Nat.le_of_ble_eq_true rfl) (fun Γ C hq => ?_)
  unfold F_X8_crossing at hF
  show V Δ Γ 6 0 [(0, .int (x0)), (1, .int (x1)), (2, .int (x2)), (3, .int (x3)), (4, .int (x4))] [] σ
  refine v_iconst C (0) dX8_crossing_0 (by decide) ?_
  refine v_iload_n C 1 1 dX8_crossing_1 rfl rfl ?_
  refine v_iload C 4 4 dX8_crossing_2 rfl ?_
  refine v_iadd C dX8_crossing_4 ?_
  refine v_iload_n C 0 0 dX8_crossing_5 rfl rfl ?_
  refine v_iload_n C 2 2 dX8_crossing_6 rfl rfl ?_
  obtain ⟨q1, g2, hF⟩ := bnd hF
  refine v_cSi C mw_X8_barOf lk_X8_187 _ (M_X8_barOf (by omega) g2) rfl rfl (Nat.le_of_ble_eq_true rfl) dX8_crossing_7 ?_
  refine v_isub C dX8_crossing_10 ?_
  refine v_max C ml_X8_351 mm_max_s mm_i mm_max_c (Nat.le_of_ble_eq_true rfl) dX8_crossing_11 ?_
  refine v_istore C 5 (ll' := [(5, _), (0, _), (1, _), (2, _), (3, _), (4, _)]) dX8_crossing_14 (by decide) rfl ?_
  refine v_iload_n C 0 1 dX8_crossing_16 rfl rfl ?_
  rcases ifc hF with ⟨c4, hF⟩ | ⟨c4, hF⟩
  · refine v_tableEq C 44 (3) (27) dX8_crossing_17 c4 (by decide) (by decide) (by decide) (by decide) ?_
    refine v_iload_n C 3 4 dX8_crossing_44 rfl rfl ?_
    refine v_iconst C (2) dX8_crossing_45 (by decide) ?_
    refine v_irem C dX8_crossing_46 (by decide) ?_
    refine v_if_ne C 55 dX8_crossing_47 (by decide) (fun c5 => ?_) (fun c5 => ?_)
    · have hF := ifn hF c5
      refine v_iconst C (0) dX8_crossing_55 (by decide) ?_
      exact v_iretP C hq (Option.some.inj hF) dX8_crossing_56
    · have hF := ifp hF c5
      refine v_iload C 5 0 dX8_crossing_50 rfl ?_
      refine v_goto C 56 dX8_crossing_52 (by decide) ?_
      exact v_iretP C hq (Option.some.inj hF) dX8_crossing_56
  · skip
    rcases ifc hF with ⟨c6, hF⟩ | ⟨c6, hF⟩
    · refine v_tableEq C 57 (4) (40) dX8_crossing_17 c6 (by decide) (by decide) (by decide) (by decide) ?_
      refine v_iload C 5 0 dX8_crossing_57 rfl ?_
      refine v_if_le C 69 dX8_crossing_59 (by decide) (fun c7 => ?_) (fun c7 => ?_)
      · have hF := ifp hF c7
        refine v_iconst C (0) dX8_crossing_69 (by decide) ?_
        exact v_iretP C hq (Option.some.inj hF) dX8_crossing_70
      · have hF := ifn hF c7
        refine v_iload C 5 0 dX8_crossing_62 rfl ?_
        refine v_iconst C (1) dX8_crossing_64 (by decide) ?_
        refine v_iadd C dX8_crossing_65 ?_
        refine v_goto C 70 dX8_crossing_66 (by decide) ?_
        exact v_iretP C hq (Option.some.inj hF) dX8_crossing_70
    · skip
      rcases ifc hF with ⟨c8, hF⟩ | ⟨c8, hF⟩
      · refine v_tableEq C 71 (5) (54) dX8_crossing_17 c8 (by decide) (by decide) (by decide) (by decide) ?_
        refine v_iload C 5 0 dX8_crossing_71 rfl ?_
        refine v_iconst C (2) dX8_crossing_73 (by decide) ?_
        refine v_idiv C dX8_crossing_74 (by decide) ?_
        exact v_iretP C hq (Option.some.inj hF) dX8_crossing_75
      · skip
        have c4 := lv_neT c4 (a := 3) (by decide)
        have c6 := lv_neT c6 (a := 4) (by decide)
        have c8 := lv_neT c8 (a := 5) (by decide)
        refine v_tableOut C 76 dX8_crossing_17 (by omega) (by decide) ?_
        refine v_iload C 5 0 dX8_crossing_76 rfl ?_
        exact v_iretP C hq (Option.some.inj hF) dX8_crossing_78
set_option maxRecDepth 20000 in
set_option maxHeartbeats 2000000 in
theorem M_X7_crossesAs {Δ : DD} {d : Nat} {x0 : Nat} {x1 : Int32} {x2 : Int32} {x3 : Int32} {x4 : Int32} {σ : Mem} {q : Int32} (hd : 3 ≤ d) (h0 : isK 7 x0 = true) (hF : F_X7_crossesAs x0 x1 x2 x3 x4 σ = some q) : Mt Δ d yX7_crossesAs cX7_crossesAs 5 (some .int) [rf Δ x0, .int x1, .int x2, .int x3, .int x4] σ (some (.int q)) σ := by
  obtain ⟨d, rfl⟩ : ∃ e, d = e + 1 := ⟨d - 1, by omega⟩
  have hd : 2 ≤ d := by omega
  refine mt_of (by decide) rfl (Nat.le_of_ble_eq_true rfl) (fun Γ C hq => ?_)
  unfold F_X7_crossesAs at hF
  show V Δ Γ 5 0 [(0, rf Δ (x0)), (1, .int (x1)), (2, .int (x2)), (3, .int (x3)), (4, .int (x4))] [] σ
  refine v_iload_n C 2 2 dX7_crossesAs_0 rfl rfl ?_
  refine v_aload_n C 0 0 dX7_crossesAs_1 rfl rfl ?_
  refine v_iload_n C 1 1 dX7_crossesAs_2 rfl rfl ?_
  refine v_iload_n C 1 1 dX7_crossesAs_3 rfl rfl ?_
  obtain ⟨q1, g2, hF⟩ := bnd hF
  refine v_cVi C mw_X7_gapWith lk_X7_60 _ (M_X7_gapWith (by omega) h0 g2) h0 rfl rfl (Nat.le_of_ble_eq_true rfl) dX7_crossesAs_4 ?_
  refine v_iload_n C 3 3 dX7_crossesAs_7 rfl rfl ?_
  refine v_iload C 4 4 dX7_crossesAs_8 rfl ?_
  refine v_aload_n C 0 0 dX7_crossesAs_10 rfl rfl ?_
  refine v_iload C 4 4 dX7_crossesAs_11 rfl ?_
  obtain ⟨q3, g4, hF⟩ := bnd hF
  refine v_cVi C mw_X7_coldOf lk_X7_67 _ (M_X7_coldOf (by omega) h0 g4) h0 rfl rfl (Nat.le_of_ble_eq_true rfl) dX7_crossesAs_13 ?_
  obtain ⟨q5, g6, hF⟩ := bnd hF
  refine v_cSi C mw_X8_crossing lk_X7_70 _ (M_X8_crossing (by omega) g6) rfl rfl (Nat.le_of_ble_eq_true rfl) dX7_crossesAs_16 ?_
  exact v_iretP C hq (Option.some.inj hF) dX7_crossesAs_19
def K_X0_fits_3 (Δ : DD) (Γ : GG) (q : Int32) (x0 : Nat) (x1 : Nat) (x2 : Int32) (x3 : Int32) (x4 : Int32) (σ : Mem) (y : (Int32) ⊕ Int32) : Prop := match y with
  | .inl s => V Δ Γ 6 3 [(0, rf Δ (x0)), (1, rf Δ (x1)), (2, .int (x2)), (3, .int (x3)), (4, .int (x4)), (5, .int (s))] [] σ
  | .inr t => (t = q)
set_option maxRecDepth 20000 in
set_option maxHeartbeats 2000000 in
theorem W_X0_fits_3 {Δ : DD} {Γ : GG} {d : Nat} {q : Int32} {x0 : Nat} {x1 : Nat} {x2 : Int32} {x3 : Int32} {x4 : Int32} {σ : Mem} (C : Cx Δ Γ RX0 cX0_fits 6 d (some .boolean)) (hq : RetQ Δ Γ (some (.int q)) σ) (h0 : isK 0 x0 = true) (hd : 3 ≤ d) {s : Int32} (hF : F_X0_fits_3 x0 x1 x2 x3 x4 σ s = some q) : V Δ Γ 6 3 [(0, rf Δ (x0)), (1, rf Δ (x1)), (2, .int (x2)), (3, .int (x3)), (4, .int (x4)), (5, .int (s))] [] σ := by
  have hF : F_X0_fits_3 x0 x1 x2 x3 x4 σ s = some q := hF
  refine lp_V (W := fun (s : Int32) => V Δ Γ 6 3 [(0, rf Δ (x0)), (1, rf Δ (x1)), (2, .int (x2)), (3, .int (x3)), (4, .int (x4)), (5, .int (s))] [] σ) (K := fun t => t = q) (K' := K_X0_fits_3 Δ Γ q x0 x1 x2 x3 x4 σ) (fun _ h => h) (fun _ h => h) ?_ s q hF rfl
  clear hF
  intro s z hF hK
  refine v_iload C 5 5 dX0_fits_3 rfl ?_
  refine v_aload_n C 0 0 dX0_fits_5 rfl rfl ?_
  obtain ⟨v2, g1, hF⟩ := bnd hF
  refine v_gI C fu_X0_24 g1 dX0_fits_6 ?_
  refine v_icmp_ge C 49 dX0_fits_9 (by decide) (fun c3 => ?_) (fun c3 => ?_)
  · have hF := ifp hF c3
    refine v_iconst C (1) dX0_fits_49 (by decide) ?_
    cases hF
    exact v_zretP C hq hK rfl dX0_fits_50
  · have hF := ifn hF c3
    refine v_aload_n C 1 1 dX0_fits_12 rfl rfl ?_
    refine v_iload_n C 2 2 dX0_fits_13 rfl rfl ?_
    refine v_iload_n C 3 3 dX0_fits_14 rfl rfl ?_
    refine v_iload C 4 4 dX0_fits_15 rfl ?_
    refine v_aload_n C 0 0 dX0_fits_17 rfl rfl ?_
    obtain ⟨p5, g4, hF⟩ := bnd hF
    refine v_gR C fu_X0_9 g4 dX0_fits_18 ?_
    refine v_iload C 5 5 dX0_fits_21 rfl ?_
    obtain ⟨q6, g7, hF⟩ := bnd hF
    refine v_cSi C mw_X8_read lk_X0_63 _ (M_X8_read (by omega) g7) rfl rfl (Nat.le_of_ble_eq_true rfl) dX0_fits_23 ?_
    obtain ⟨_, g8, hF⟩ := bnd hF
    obtain ⟨q9, g10, hF⟩ := bnd hF
    refine v_cVi C mw_X7_crossesAs lk_X0_67 _ (M_X7_crossesAs (by omega) (chk_k g8) g10) (chk_k g8) rfl rfl (Nat.le_of_ble_eq_true rfl) dX0_fits_26 ?_
    refine v_aload_n C 0 0 dX0_fits_29 rfl rfl ?_
    obtain ⟨p12, g11, hF⟩ := bnd hF
    refine v_gR C fu_X0_15 g11 dX0_fits_30 ?_
    refine v_iload C 5 5 dX0_fits_33 rfl ?_
    obtain ⟨q13, g14, hF⟩ := bnd hF
    refine v_cSi C mw_X8_read lk_X0_63 _ (M_X8_read (by omega) g14) rfl rfl (Nat.le_of_ble_eq_true rfl) dX0_fits_35 ?_
    refine v_icmp_eq C 43 dX0_fits_38 (by decide) (fun c15 => ?_) (fun c15 => ?_)
    · have hF := ifp hF c15
      refine v_iinc C (_ + (1 : Int32)) 5 (ll' := [(5, _), (0, _), (1, _), (2, _), (3, _), (4, _)]) dX0_fits_43 rfl (inc_eq (by decide)) (by decide) rfl ?_
      refine v_goto C 3 dX0_fits_46 (by decide) ?_
      refine v_sub [1, 2, 3, 4, 5, 0] (ll' := [(0, _), (1, _), (2, _), (3, _), (4, _), (5, _)]) rfl ?_
      cases hF
      exact hK
    · have hF := ifn hF c15
      refine v_iconst C (0) dX0_fits_41 (by decide) ?_
      cases hF
      exact v_zretP C hq hK rfl dX0_fits_42
set_option maxRecDepth 20000 in
set_option maxHeartbeats 2000000 in
theorem M_X0_fits {Δ : DD} {d : Nat} {x0 : Nat} {x1 : Nat} {x2 : Int32} {x3 : Int32} {x4 : Int32} {σ : Mem} {q : Int32} (hd : 4 ≤ d) (h0 : isK 0 x0 = true) (hF : F_X0_fits x0 x1 x2 x3 x4 σ = some q) : Mt Δ d yX0_fits cX0_fits 6 (some .boolean) [rf Δ x0, rf Δ x1, .int x2, .int x3, .int x4] σ (some (.int q)) σ := by
  obtain ⟨d, rfl⟩ : ∃ e, d = e + 1 := ⟨d - 1, by omega⟩
  have hd : 3 ≤ d := by omega
  refine mt_of (by decide) rfl (Nat.le_of_ble_eq_true rfl) (fun Γ C hq => ?_)
  unfold F_X0_fits at hF
  show V Δ Γ 6 0 [(0, rf Δ (x0)), (1, rf Δ (x1)), (2, .int (x2)), (3, .int (x3)), (4, .int (x4))] [] σ
  refine v_iconst C (0) dX0_fits_0 (by decide) ?_
  refine v_istore C 5 (ll' := [(5, _), (0, _), (1, _), (2, _), (3, _), (4, _)]) dX0_fits_1 (by decide) rfl ?_
  refine v_sub [1, 2, 3, 4, 5, 0] (ll' := [(0, _), (1, _), (2, _), (3, _), (4, _), (5, _)]) rfl ?_
  exact W_X0_fits_3 C hq h0 hd hF
def K_X0_thicksFitting_6 (Δ : DD) (Γ : GG) (q : Int32) (x0 : Nat) (x1 : Nat) (x2 : Int32) (x3 : Int32) (σ : Mem) (y : (Int32 × Int32) ⊕ Int32) : Prop := match y with
  | .inl s => V Δ Γ 6 6 [(0, rf Δ (x0)), (1, rf Δ (x1)), (2, .int (x2)), (3, .int (x3)), (4, .int (s.1)), (5, .int (s.2))] [] σ
  | .inr t => (t = q)
set_option maxRecDepth 20000 in
set_option maxHeartbeats 2000000 in
theorem W_X0_thicksFitting_35 {Δ : DD} {Γ : GG} {d : Nat} {q : Int32} {x0 : Nat} {x1 : Nat} {x2 : Int32} {x3 : Int32} {x5 : Int32} {y0 : Int32} {y1 : Int32} {σ : Mem} {y : ((Int32 × Int32) ⊕ Int32)} (C : Cx Δ Γ RX0 cX0_thicksFitting 6 d (some .int)) (hq : RetQ Δ Γ (some (.int q)) σ) (h0 : isK 0 x0 = true) (hd : 4 ≤ d) (hF : F_X0_thicksFitting_35 x0 x1 x2 x3 x5 y0 y1 σ = some y) (hK : (K_X0_thicksFitting_6 Δ Γ q x0 x1 x2 x3 σ y)) : V Δ Γ 6 35 [(0, rf Δ (x0)), (1, rf Δ (x1)), (2, .int (x2)), (3, .int (x3)), (5, .int (x5))] [.int (y0), .int (y1)] σ := by
  unfold F_X0_thicksFitting_35 at hF
  refine v_ior C dX0_thicksFitting_35 ?_
  refine v_istore C 4 (ll' := [(4, _), (0, _), (1, _), (2, _), (3, _), (5, _)]) dX0_thicksFitting_36 (by decide) rfl ?_
  refine v_iinc C (_ + (1 : Int32)) 5 (ll' := [(5, _), (4, _), (0, _), (1, _), (2, _), (3, _)]) dX0_thicksFitting_38 rfl (inc_eq (by decide)) (by decide) rfl ?_
  refine v_goto C 6 dX0_thicksFitting_41 (by decide) ?_
  refine v_sub [2, 3, 4, 5, 1, 0] (ll' := [(0, _), (1, _), (2, _), (3, _), (4, _), (5, _)]) rfl ?_
  cases hF
  exact hK
set_option maxRecDepth 20000 in
set_option maxHeartbeats 2000000 in
theorem W_X0_thicksFitting_6 {Δ : DD} {Γ : GG} {d : Nat} {q : Int32} {x0 : Nat} {x1 : Nat} {x2 : Int32} {x3 : Int32} {σ : Mem} (C : Cx Δ Γ RX0 cX0_thicksFitting 6 d (some .int)) (hq : RetQ Δ Γ (some (.int q)) σ) (h0 : isK 0 x0 = true) (hd : 4 ≤ d) {s : Int32 × Int32} (hF : F_X0_thicksFitting_6 x0 x1 x2 x3 σ s = some q) : V Δ Γ 6 6 [(0, rf Δ (x0)), (1, rf Δ (x1)), (2, .int (x2)), (3, .int (x3)), (4, .int (s.1)), (5, .int (s.2))] [] σ := by
  have hF : F_X0_thicksFitting_6 x0 x1 x2 x3 σ s = some q := hF
  refine lp_V (W := fun (s : Int32 × Int32) => V Δ Γ 6 6 [(0, rf Δ (x0)), (1, rf Δ (x1)), (2, .int (x2)), (3, .int (x3)), (4, .int (s.1)), (5, .int (s.2))] [] σ) (K := fun t => t = q) (K' := K_X0_thicksFitting_6 Δ Γ q x0 x1 x2 x3 σ) (fun _ h => h) (fun _ h => h) ?_ s q hF rfl
  clear hF
  intro s z hF hK
  refine v_iload C 5 5 dX0_thicksFitting_6 rfl ?_
  refine v_bipush C (9) dX0_thicksFitting_8 (by decide) ?_
  refine v_icmp_gt C 44 dX0_thicksFitting_10 (by decide) (fun c1 => ?_) (fun c1 => ?_)
  · have hF := ifp hF c1
    refine v_iload C 4 4 dX0_thicksFitting_44 rfl ?_
    cases hF
    exact v_iretP C hq hK dX0_thicksFitting_46
  · have hF := ifn hF c1
    refine v_iload C 4 4 dX0_thicksFitting_13 rfl ?_
    refine v_aload_n C 0 0 dX0_thicksFitting_15 rfl rfl ?_
    refine v_aload_n C 1 1 dX0_thicksFitting_16 rfl rfl ?_
    refine v_iload_n C 2 2 dX0_thicksFitting_17 rfl rfl ?_
    refine v_iload_n C 3 3 dX0_thicksFitting_18 rfl rfl ?_
    refine v_iload C 5 5 dX0_thicksFitting_19 rfl ?_
    obtain ⟨q2, g3, hF⟩ := bnd hF
    refine v_cVi C mw_X0_fits lk_X0_45 _ (M_X0_fits (by omega) h0 g3) h0 rfl rfl (Nat.le_of_ble_eq_true rfl) dX0_thicksFitting_21 ?_
    refine v_if_eq C 34 dX0_thicksFitting_24 (by decide) (fun c4 => ?_) (fun c4 => ?_)
    · have hF := ifp hF c4
      refine v_iconst C (0) dX0_thicksFitting_34 (by decide) ?_
      refine v_sub [0, 1, 2, 3, 5] (ll' := [(0, _), (1, _), (2, _), (3, _), (5, _)]) rfl ?_
      exact W_X0_thicksFitting_35 C hq h0 hd hF hK
    · have hF := ifn hF c4
      refine v_iconst C (1) dX0_thicksFitting_27 (by decide) ?_
      refine v_iload C 5 5 dX0_thicksFitting_28 rfl ?_
      refine v_ishl C dX0_thicksFitting_30 ?_
      refine v_goto C 35 dX0_thicksFitting_31 (by decide) ?_
      refine v_sub [0, 1, 2, 3, 5] (ll' := [(0, _), (1, _), (2, _), (3, _), (5, _)]) rfl ?_
      exact W_X0_thicksFitting_35 C hq h0 hd hF hK
set_option maxRecDepth 20000 in
set_option maxHeartbeats 2000000 in
theorem M_X0_thicksFitting {Δ : DD} {d : Nat} {x0 : Nat} {x1 : Nat} {x2 : Int32} {x3 : Int32} {σ : Mem} {q : Int32} (hd : 5 ≤ d) (h0 : isK 0 x0 = true) (hF : F_X0_thicksFitting x0 x1 x2 x3 σ = some q) : Mt Δ d yX0_thicksFitting cX0_thicksFitting 6 (some .int) [rf Δ x0, rf Δ x1, .int x2, .int x3] σ (some (.int q)) σ := by
  obtain ⟨d, rfl⟩ : ∃ e, d = e + 1 := ⟨d - 1, by omega⟩
  have hd : 4 ≤ d := by omega
  refine mt_of (by decide) rfl (Nat.le_of_ble_eq_true rfl) (fun Γ C hq => ?_)
  unfold F_X0_thicksFitting at hF
  show V Δ Γ 6 0 [(0, rf Δ (x0)), (1, rf Δ (x1)), (2, .int (x2)), (3, .int (x3))] [] σ
  refine v_iconst C (0) dX0_thicksFitting_0 (by decide) ?_
  refine v_istore C 4 (ll' := [(4, _), (0, _), (1, _), (2, _), (3, _)]) dX0_thicksFitting_1 (by decide) rfl ?_
  refine v_iconst C (0) dX0_thicksFitting_3 (by decide) ?_
  refine v_istore C 5 (ll' := [(5, _), (4, _), (0, _), (1, _), (2, _), (3, _)]) dX0_thicksFitting_4 (by decide) rfl ?_
  refine v_sub [2, 3, 4, 5, 1, 0] (ll' := [(0, _), (1, _), (2, _), (3, _), (4, _), (5, _)]) rfl ?_
  exact W_X0_thicksFitting_6 C hq h0 hd hF
def K_X0_kindsFitting_6 (Δ : DD) (Γ : GG) (q : Int32) (x0 : Nat) (x1 : Nat) (x2 : Int32) (x3 : Int32) (σ : Mem) (y : (Int32 × Int32) ⊕ Int32) : Prop := match y with
  | .inl s => V Δ Γ 6 6 [(0, rf Δ (x0)), (1, rf Δ (x1)), (2, .int (x2)), (3, .int (x3)), (4, .int (s.1)), (5, .int (s.2))] [] σ
  | .inr t => (t = q)
set_option maxRecDepth 20000 in
set_option maxHeartbeats 2000000 in
theorem W_X0_kindsFitting_35 {Δ : DD} {Γ : GG} {d : Nat} {q : Int32} {x0 : Nat} {x1 : Nat} {x2 : Int32} {x3 : Int32} {x5 : Int32} {y0 : Int32} {y1 : Int32} {σ : Mem} {y : ((Int32 × Int32) ⊕ Int32)} (C : Cx Δ Γ RX0 cX0_kindsFitting 6 d (some .int)) (hq : RetQ Δ Γ (some (.int q)) σ) (h0 : isK 0 x0 = true) (hd : 4 ≤ d) (hF : F_X0_kindsFitting_35 x0 x1 x2 x3 x5 y0 y1 σ = some y) (hK : (K_X0_kindsFitting_6 Δ Γ q x0 x1 x2 x3 σ y)) : V Δ Γ 6 35 [(0, rf Δ (x0)), (1, rf Δ (x1)), (2, .int (x2)), (3, .int (x3)), (5, .int (x5))] [.int (y0), .int (y1)] σ := by
  unfold F_X0_kindsFitting_35 at hF
  refine v_ior C dX0_kindsFitting_35 ?_
  refine v_istore C 4 (ll' := [(4, _), (0, _), (1, _), (2, _), (3, _), (5, _)]) dX0_kindsFitting_36 (by decide) rfl ?_
  refine v_iinc C (_ + (1 : Int32)) 5 (ll' := [(5, _), (4, _), (0, _), (1, _), (2, _), (3, _)]) dX0_kindsFitting_38 rfl (inc_eq (by decide)) (by decide) rfl ?_
  refine v_goto C 6 dX0_kindsFitting_41 (by decide) ?_
  refine v_sub [2, 3, 4, 5, 1, 0] (ll' := [(0, _), (1, _), (2, _), (3, _), (4, _), (5, _)]) rfl ?_
  cases hF
  exact hK
set_option maxRecDepth 20000 in
set_option maxHeartbeats 2000000 in
theorem W_X0_kindsFitting_6 {Δ : DD} {Γ : GG} {d : Nat} {q : Int32} {x0 : Nat} {x1 : Nat} {x2 : Int32} {x3 : Int32} {σ : Mem} (C : Cx Δ Γ RX0 cX0_kindsFitting 6 d (some .int)) (hq : RetQ Δ Γ (some (.int q)) σ) (h0 : isK 0 x0 = true) (hd : 4 ≤ d) {s : Int32 × Int32} (hF : F_X0_kindsFitting_6 x0 x1 x2 x3 σ s = some q) : V Δ Γ 6 6 [(0, rf Δ (x0)), (1, rf Δ (x1)), (2, .int (x2)), (3, .int (x3)), (4, .int (s.1)), (5, .int (s.2))] [] σ := by
  have hF : F_X0_kindsFitting_6 x0 x1 x2 x3 σ s = some q := hF
  refine lp_V (W := fun (s : Int32 × Int32) => V Δ Γ 6 6 [(0, rf Δ (x0)), (1, rf Δ (x1)), (2, .int (x2)), (3, .int (x3)), (4, .int (s.1)), (5, .int (s.2))] [] σ) (K := fun t => t = q) (K' := K_X0_kindsFitting_6 Δ Γ q x0 x1 x2 x3 σ) (fun _ h => h) (fun _ h => h) ?_ s q hF rfl
  clear hF
  intro s z hF hK
  refine v_iload C 5 5 dX0_kindsFitting_6 rfl ?_
  refine v_bipush C (6) dX0_kindsFitting_8 (by decide) ?_
  refine v_icmp_ge C 44 dX0_kindsFitting_10 (by decide) (fun c1 => ?_) (fun c1 => ?_)
  · have hF := ifp hF c1
    refine v_iload C 4 4 dX0_kindsFitting_44 rfl ?_
    cases hF
    exact v_iretP C hq hK dX0_kindsFitting_46
  · have hF := ifn hF c1
    refine v_iload C 4 4 dX0_kindsFitting_13 rfl ?_
    refine v_aload_n C 0 0 dX0_kindsFitting_15 rfl rfl ?_
    refine v_aload_n C 1 1 dX0_kindsFitting_16 rfl rfl ?_
    refine v_iload_n C 2 2 dX0_kindsFitting_17 rfl rfl ?_
    refine v_iload C 5 5 dX0_kindsFitting_18 rfl ?_
    refine v_iload_n C 3 3 dX0_kindsFitting_20 rfl rfl ?_
    obtain ⟨q2, g3, hF⟩ := bnd hF
    refine v_cVi C mw_X0_fits lk_X0_45 _ (M_X0_fits (by omega) h0 g3) h0 rfl rfl (Nat.le_of_ble_eq_true rfl) dX0_kindsFitting_21 ?_
    refine v_if_eq C 34 dX0_kindsFitting_24 (by decide) (fun c4 => ?_) (fun c4 => ?_)
    · have hF := ifp hF c4
      refine v_iconst C (0) dX0_kindsFitting_34 (by decide) ?_
      refine v_sub [0, 1, 2, 3, 5] (ll' := [(0, _), (1, _), (2, _), (3, _), (5, _)]) rfl ?_
      exact W_X0_kindsFitting_35 C hq h0 hd hF hK
    · have hF := ifn hF c4
      refine v_iconst C (1) dX0_kindsFitting_27 (by decide) ?_
      refine v_iload C 5 5 dX0_kindsFitting_28 rfl ?_
      refine v_ishl C dX0_kindsFitting_30 ?_
      refine v_goto C 35 dX0_kindsFitting_31 (by decide) ?_
      refine v_sub [0, 1, 2, 3, 5] (ll' := [(0, _), (1, _), (2, _), (3, _), (5, _)]) rfl ?_
      exact W_X0_kindsFitting_35 C hq h0 hd hF hK
set_option maxRecDepth 20000 in
set_option maxHeartbeats 2000000 in
theorem M_X0_kindsFitting {Δ : DD} {d : Nat} {x0 : Nat} {x1 : Nat} {x2 : Int32} {x3 : Int32} {σ : Mem} {q : Int32} (hd : 5 ≤ d) (h0 : isK 0 x0 = true) (hF : F_X0_kindsFitting x0 x1 x2 x3 σ = some q) : Mt Δ d yX0_kindsFitting cX0_kindsFitting 6 (some .int) [rf Δ x0, rf Δ x1, .int x2, .int x3] σ (some (.int q)) σ := by
  obtain ⟨d, rfl⟩ : ∃ e, d = e + 1 := ⟨d - 1, by omega⟩
  have hd : 4 ≤ d := by omega
  refine mt_of (by decide) rfl (Nat.le_of_ble_eq_true rfl) (fun Γ C hq => ?_)
  unfold F_X0_kindsFitting at hF
  show V Δ Γ 6 0 [(0, rf Δ (x0)), (1, rf Δ (x1)), (2, .int (x2)), (3, .int (x3))] [] σ
  refine v_iconst C (0) dX0_kindsFitting_0 (by decide) ?_
  refine v_istore C 4 (ll' := [(4, _), (0, _), (1, _), (2, _), (3, _)]) dX0_kindsFitting_1 (by decide) rfl ?_
  refine v_iconst C (0) dX0_kindsFitting_3 (by decide) ?_
  refine v_istore C 5 (ll' := [(5, _), (4, _), (0, _), (1, _), (2, _), (3, _)]) dX0_kindsFitting_4 (by decide) rfl ?_
  refine v_sub [2, 3, 4, 5, 1, 0] (ll' := [(0, _), (1, _), (2, _), (3, _), (4, _), (5, _)]) rfl ?_
  exact W_X0_kindsFitting_6 C hq h0 hd hF
def K_J7_fill_53178_5 (Δ : DD) (Γ : GG) (q : Mem) (x0 : Nat) (x1 : Int32) (x3 : Int32) (y : (Int32 × Mem) ⊕ Mem) : Prop := match y with
  | .inl s => V Δ Γ 4 5 [(0, rf Δ (x0)), (1, .int (x1)), (2, .int (s.1)), (3, .int (x3))] [] s.2
  | .inr t => (t = q)
set_option maxRecDepth 20000 in
set_option maxHeartbeats 2000000 in
theorem W_J7_fill_53178_5 {Δ : DD} {Γ : GG} {d : Nat} {q : Mem} {x0 : Nat} {x1 : Int32} {x3 : Int32} (C : Cx Δ Γ RJ7 cJ7_fill_53178 4 d none) (hq : RetQ Δ Γ none q) (hd : 0 ≤ d) {s : Int32 × Mem} (hF : F_J7_fill_53178_5 x0 x1 x3  s = some q) : V Δ Γ 4 5 [(0, rf Δ (x0)), (1, .int (x1)), (2, .int (s.1)), (3, .int (x3))] [] s.2 := by
  have hF : F_J7_fill_53178_5 x0 x1 x3  s = some q := hF
  refine lp_V (W := fun (s : Int32 × Mem) => V Δ Γ 4 5 [(0, rf Δ (x0)), (1, .int (x1)), (2, .int (s.1)), (3, .int (x3))] [] s.2) (K := fun t => t = q) (K' := K_J7_fill_53178_5 Δ Γ q x0 x1 x3 ) (fun _ h => h) (fun _ h => h) ?_ s q hF rfl
  clear hF
  intro s z hF hK
  refine v_iload_n C 2 2 dJ7_fill_53178_5 rfl rfl ?_
  refine v_iload_n C 3 3 dJ7_fill_53178_6 rfl rfl ?_
  refine v_icmp_ge C 20 dJ7_fill_53178_7 (by decide) (fun c1 => ?_) (fun c1 => ?_)
  · have hF := ifp hF c1
    cases hF
    exact v_vretF C hq hK dJ7_fill_53178_20
  · have hF := ifn hF c1
    refine v_aload_n C 0 0 dJ7_fill_53178_10 rfl rfl ?_
    refine v_iload_n C 2 2 dJ7_fill_53178_11 rfl rfl ?_
    refine v_iload_n C 1 1 dJ7_fill_53178_12 rfl rfl ?_
    obtain ⟨m2, g3, hF⟩ := bnd hF
    refine v_sI C g3 dJ7_fill_53178_13 ?_
    refine v_iinc C (_ + (1 : Int32)) 2 (ll' := [(2, _), (0, _), (1, _), (3, _)]) dJ7_fill_53178_14 rfl (inc_eq (by decide)) (by decide) rfl ?_
    refine v_goto C 5 dJ7_fill_53178_17 (by decide) ?_
    refine v_sub [1, 2, 0, 3] (ll' := [(0, _), (1, _), (2, _), (3, _)]) rfl ?_
    cases hF
    exact hK
set_option maxRecDepth 20000 in
set_option maxHeartbeats 2000000 in
theorem M_J7_fill_53178 {Δ : DD} {d : Nat} {x0 : Nat} {x1 : Int32} {σ : Mem} {q : Mem} (hd : 1 ≤ d) (hF : F_J7_fill_53178 x0 x1 σ = some q) : Mt Δ d yJ7_fill_53178 cJ7_fill_53178 4 none [rf Δ x0, .int x1] σ none q := by
  obtain ⟨d, rfl⟩ : ∃ e, d = e + 1 := ⟨d - 1, by omega⟩
  have hd : 0 ≤ d := by omega
  refine mt_of (by decide) rfl (Nat.le_of_ble_eq_true rfl) (fun Γ C hq => ?_)
  unfold F_J7_fill_53178 at hF
  show V Δ Γ 4 0 [(0, rf Δ (x0)), (1, .int (x1))] [] σ
  refine v_iconst C (0) dJ7_fill_53178_0 (by decide) ?_
  refine v_istore_n C 2 (ll' := [(2, _), (0, _), (1, _)]) dJ7_fill_53178_1 rfl (by decide) rfl ?_
  refine v_aload_n C 0 1 dJ7_fill_53178_2 rfl rfl ?_
  obtain ⟨v4, g5, hF⟩ := bnd hF
  refine v_aN C g5 dJ7_fill_53178_3 ?_
  refine v_istore_n C 3 (ll' := [(3, _), (2, _), (0, _), (1, _)]) dJ7_fill_53178_4 rfl (by decide) rfl ?_
  refine v_sub [2, 3, 1, 0] (ll' := [(0, _), (1, _), (2, _), (3, _)]) rfl ?_
  exact W_J7_fill_53178_5 C hq hd hF
def K_X0_greatestPart_14 (Δ : DD) (Γ : GG) (q : (Int32 × Mem)) (x0 : Nat) (x1 : Nat) (x2 : Int32) (x3 : Int32) (y : (Int32 × Int32 × Mem) ⊕ (Int32 × Mem)) : Prop := match y with
  | .inl s => V Δ Γ 8 14 [(0, rf Δ (x0)), (1, rf Δ (x1)), (2, .int (x2)), (3, .int (x3)), (4, .int (s.1)), (5, .int (s.2.1))] [] s.2.2
  | .inr t => (t = q)
def K_X0_greatestPart_24 (Δ : DD) (Γ : GG) (q : (Int32 × Mem)) (x0 : Nat) (x1 : Nat) (x2 : Int32) (x3 : Int32) (x5 : Int32) (y : (Int32 × Int32 × Mem) ⊕ ((Int32 × Int32 × Mem) ⊕ (Int32 × Mem))) : Prop := match y with
  | .inl s => V Δ Γ 8 24 [(0, rf Δ (x0)), (1, rf Δ (x1)), (2, .int (x2)), (3, .int (x3)), (4, .int (s.1)), (5, .int (x5)), (6, .int (s.2.1))] [] s.2.2
  | .inr t => (K_X0_greatestPart_14 Δ Γ q x0 x1 x2 x3 t)
set_option maxRecDepth 20000 in
set_option maxHeartbeats 2000000 in
theorem W_X0_greatestPart_24 {Δ : DD} {Γ : GG} {d : Nat} {q : (Int32 × Mem)} {x0 : Nat} {x1 : Nat} {x2 : Int32} {x3 : Int32} {x5 : Int32} (C : Cx Δ Γ RX0 cX0_greatestPart 8 d (some .int)) (hq : RetQ Δ Γ (some (.int q.1)) q.2) (h0 : isK 0 x0 = true) (hd : 3 ≤ d) {s : Int32 × Int32 × Mem} {y : ((Int32 × Int32 × Mem) ⊕ (Int32 × Mem))} (hF : F_X0_greatestPart_24 x0 x1 x2 x3 x5  s = some y) (hK : (K_X0_greatestPart_14 Δ Γ q x0 x1 x2 x3 y)) : V Δ Γ 8 24 [(0, rf Δ (x0)), (1, rf Δ (x1)), (2, .int (x2)), (3, .int (x3)), (4, .int (s.1)), (5, .int (x5)), (6, .int (s.2.1))] [] s.2.2 := by
  refine lp_V (W := fun (s : Int32 × Int32 × Mem) => V Δ Γ 8 24 [(0, rf Δ (x0)), (1, rf Δ (x1)), (2, .int (x2)), (3, .int (x3)), (4, .int (s.1)), (5, .int (x5)), (6, .int (s.2.1))] [] s.2.2) (K := fun (t : ((Int32 × Int32 × Mem) ⊕ (Int32 × Mem))) => (K_X0_greatestPart_14 Δ Γ q x0 x1 x2 x3 t)) (K' := K_X0_greatestPart_24 Δ Γ q x0 x1 x2 x3 x5 ) (fun _ h => h) (fun _ h => h) ?_ s y hF hK
  clear hF hK
  intro s z hF hK
  refine v_iload C 6 6 dX0_greatestPart_24 rfl ?_
  refine v_bipush C (9) dX0_greatestPart_26 (by decide) ?_
  refine v_icmp_gt C 103 dX0_greatestPart_28 (by decide) (fun c2 => ?_) (fun c2 => ?_)
  · have hF := ifp hF c2
    refine v_iinc C (_ + (1 : Int32)) 5 (ll' := [(5, _), (0, _), (1, _), (2, _), (3, _), (4, _), (6, _)]) dX0_greatestPart_103 rfl (inc_eq (by decide)) (by decide) rfl ?_
    refine v_goto C 14 dX0_greatestPart_106 (by decide) ?_
    refine v_sub [1, 2, 3, 4, 5, 0] (ll' := [(0, _), (1, _), (2, _), (3, _), (4, _), (5, _)]) rfl ?_
    cases hF
    exact hK
  · have hF := ifn hF c2
    refine v_aload_n C 0 0 dX0_greatestPart_31 rfl rfl ?_
    obtain ⟨p4, g3, hF⟩ := bnd hF
    refine v_gR C fu_X0_18 g3 dX0_greatestPart_32 ?_
    refine v_iload C 5 5 dX0_greatestPart_35 rfl ?_
    obtain ⟨q5, g6, hF⟩ := bnd hF
    refine v_cSi C mw_X8_read lk_X0_63 _ (M_X8_read (by omega) g6) rfl rfl (Nat.le_of_ble_eq_true rfl) dX0_greatestPart_37 ?_
    refine v_iload C 6 6 dX0_greatestPart_40 rfl ?_
    refine v_ishr C dX0_greatestPart_42 ?_
    refine v_iconst C (1) dX0_greatestPart_43 (by decide) ?_
    refine v_iand C dX0_greatestPart_44 ?_
    refine v_iconst C (1) dX0_greatestPart_45 (by decide) ?_
    refine v_icmp_ne C 97 dX0_greatestPart_46 (by decide) (fun c7 => ?_) (fun c7 => ?_)
    · have hF := ifn hF c7
      refine v_iinc C (_ + (1 : Int32)) 6 (ll' := [(6, _), (0, _), (1, _), (2, _), (3, _), (4, _), (5, _)]) dX0_greatestPart_97 rfl (inc_eq (by decide)) (by decide) rfl ?_
      refine v_goto C 24 dX0_greatestPart_100 (by decide) ?_
      refine v_sub [1, 2, 3, 4, 5, 6, 0] (ll' := [(0, _), (1, _), (2, _), (3, _), (4, _), (5, _), (6, _)]) rfl ?_
      cases hF
      exact hK
    · have hF := ifp hF c7
      refine v_aload_n C 1 1 dX0_greatestPart_49 rfl rfl ?_
      refine v_iload_n C 2 2 dX0_greatestPart_50 rfl rfl ?_
      refine v_iload C 5 5 dX0_greatestPart_51 rfl ?_
      refine v_iload C 6 6 dX0_greatestPart_53 rfl ?_
      refine v_iload_n C 3 3 dX0_greatestPart_55 rfl rfl ?_
      obtain ⟨_, g8, hF⟩ := bnd hF
      obtain ⟨q9, g10, hF⟩ := bnd hF
      refine v_cVi C mw_X7_crossesAs lk_X0_67 _ (M_X7_crossesAs (by omega) (chk_k g8) g10) (chk_k g8) rfl rfl (Nat.le_of_ble_eq_true rfl) dX0_greatestPart_56 ?_
      refine v_istore C 7 (ll' := [(7, _), (0, _), (1, _), (2, _), (3, _), (4, _), (5, _), (6, _)]) dX0_greatestPart_59 (by decide) rfl ?_
      refine v_aload_n C 0 1 dX0_greatestPart_61 rfl rfl ?_
      obtain ⟨p12, g11, hF⟩ := bnd hF
      refine v_gR C fu_X0_21 g11 dX0_greatestPart_62 ?_
      refine v_iload C 7 0 dX0_greatestPart_65 rfl ?_
      refine v_aload_n C 0 1 dX0_greatestPart_67 rfl rfl ?_
      obtain ⟨p14, g13, hF⟩ := bnd hF
      refine v_gR C fu_X0_21 g13 dX0_greatestPart_68 ?_
      refine v_iload C 7 0 dX0_greatestPart_71 rfl ?_
      obtain ⟨q15, g16, hF⟩ := bnd hF
      refine v_cSi C mw_X8_read lk_X0_63 _ (M_X8_read (by omega) g16) rfl rfl (Nat.le_of_ble_eq_true rfl) dX0_greatestPart_73 ?_
      refine v_iconst C (1) dX0_greatestPart_76 (by decide) ?_
      refine v_iadd C dX0_greatestPart_77 ?_
      obtain ⟨q17, g18, hF⟩ := bnd hF
      refine v_cSv C mw_X8_write lk_X0_41 _ (M_X8_write (by omega) g18) rfl rfl (Nat.le_of_ble_eq_true rfl) dX0_greatestPart_78 ?_
      refine v_iload C 4 5 dX0_greatestPart_81 rfl ?_
      refine v_aload_n C 0 1 dX0_greatestPart_83 rfl rfl ?_
      obtain ⟨p20, g19, hF⟩ := bnd hF
      refine v_gR C fu_X0_21 g19 dX0_greatestPart_84 ?_
      refine v_iload C 7 0 dX0_greatestPart_87 rfl ?_
      obtain ⟨q21, g22, hF⟩ := bnd hF
      refine v_cSi C mw_X8_read lk_X0_63 _ (M_X8_read (by omega) g22) rfl rfl (Nat.le_of_ble_eq_true rfl) dX0_greatestPart_89 ?_
      refine v_max C ml_X0_73 mm_max_s mm_i mm_max_c (Nat.le_of_ble_eq_true rfl) dX0_greatestPart_92 ?_
      refine v_istore C 4 (ll' := [(4, _), (7, _), (0, _), (1, _), (2, _), (3, _), (5, _), (6, _)]) dX0_greatestPart_95 (by decide) rfl ?_
      refine v_iinc C (_ + (1 : Int32)) 7 (ll' := [(6, _), (4, _), (7, _), (0, _), (1, _), (2, _), (3, _), (5, _)]) dX0_greatestPart_97 rfl (inc_eq (by decide)) (by decide) rfl ?_
      refine v_goto C 24 dX0_greatestPart_100 (by decide) ?_
      refine v_sub [3, 4, 5, 6, 1, 7, 0] (ll' := [(0, _), (1, _), (2, _), (3, _), (4, _), (5, _), (6, _)]) rfl ?_
      cases hF
      exact hK
set_option maxRecDepth 20000 in
set_option maxHeartbeats 2000000 in
theorem W_X0_greatestPart_14 {Δ : DD} {Γ : GG} {d : Nat} {q : (Int32 × Mem)} {x0 : Nat} {x1 : Nat} {x2 : Int32} {x3 : Int32} (C : Cx Δ Γ RX0 cX0_greatestPart 8 d (some .int)) (hq : RetQ Δ Γ (some (.int q.1)) q.2) (h0 : isK 0 x0 = true) (hd : 3 ≤ d) {s : Int32 × Int32 × Mem} (hF : F_X0_greatestPart_14 x0 x1 x2 x3  s = some q) : V Δ Γ 8 14 [(0, rf Δ (x0)), (1, rf Δ (x1)), (2, .int (x2)), (3, .int (x3)), (4, .int (s.1)), (5, .int (s.2.1))] [] s.2.2 := by
  have hF : F_X0_greatestPart_14 x0 x1 x2 x3  s = some q := hF
  refine lp_V (W := fun (s : Int32 × Int32 × Mem) => V Δ Γ 8 14 [(0, rf Δ (x0)), (1, rf Δ (x1)), (2, .int (x2)), (3, .int (x3)), (4, .int (s.1)), (5, .int (s.2.1))] [] s.2.2) (K := fun t => t = q) (K' := K_X0_greatestPart_14 Δ Γ q x0 x1 x2 x3 ) (fun _ h => h) (fun _ h => h) ?_ s q hF rfl
  clear hF
  intro s z hF hK
  refine v_iload C 5 5 dX0_greatestPart_14 rfl ?_
  refine v_bipush C (6) dX0_greatestPart_16 (by decide) ?_
  refine v_icmp_ge C 109 dX0_greatestPart_18 (by decide) (fun c1 => ?_) (fun c1 => ?_)
  · have hF := ifp hF c1
    refine v_iload C 4 4 dX0_greatestPart_109 rfl ?_
    cases hF
    exact v_iretF C hq hK dX0_greatestPart_111
  · have hF := ifn hF c1
    refine v_iconst C (0) dX0_greatestPart_21 (by decide) ?_
    refine v_istore C 6 (ll' := [(6, _), (0, _), (1, _), (2, _), (3, _), (4, _), (5, _)]) dX0_greatestPart_22 (by decide) rfl ?_
    refine v_sub [1, 2, 3, 4, 5, 6, 0] (ll' := [(0, _), (1, _), (2, _), (3, _), (4, _), (5, _), (6, _)]) rfl ?_
    exact W_X0_greatestPart_24 C hq h0 hd hF hK
set_option maxRecDepth 20000 in
set_option maxHeartbeats 2000000 in
theorem M_X0_greatestPart {Δ : DD} {d : Nat} {x0 : Nat} {x1 : Nat} {x2 : Int32} {x3 : Int32} {σ : Mem} {q : (Int32 × Mem)} (hd : 4 ≤ d) (h0 : isK 0 x0 = true) (hF : F_X0_greatestPart x0 x1 x2 x3 σ = some q) : Mt Δ d yX0_greatestPart cX0_greatestPart 8 (some .int) [rf Δ x0, rf Δ x1, .int x2, .int x3] σ (some (.int q.1)) q.2 := by
  obtain ⟨d, rfl⟩ : ∃ e, d = e + 1 := ⟨d - 1, by omega⟩
  have hd : 3 ≤ d := by omega
  refine mt_of (by decide) rfl (Nat.le_of_ble_eq_true rfl) (fun Γ C hq => ?_)
  unfold F_X0_greatestPart at hF
  show V Δ Γ 8 0 [(0, rf Δ (x0)), (1, rf Δ (x1)), (2, .int (x2)), (3, .int (x3))] [] σ
  refine v_aload_n C 0 0 dX0_greatestPart_0 rfl rfl ?_
  obtain ⟨p24, g23, hF⟩ := bnd hF
  refine v_gR C fu_X0_21 g23 dX0_greatestPart_1 ?_
  refine v_iconst C (0) dX0_greatestPart_4 (by decide) ?_
  obtain ⟨q25, g26, hF⟩ := bnd hF
  refine v_cSv C mw_J7_fill_53178 lk_X0_57 _ (M_J7_fill_53178 (by omega) g26) rfl rfl (Nat.le_of_ble_eq_true rfl) dX0_greatestPart_5 ?_
  refine v_iconst C (0) dX0_greatestPart_8 (by decide) ?_
  refine v_istore C 4 (ll' := [(4, _), (0, _), (1, _), (2, _), (3, _)]) dX0_greatestPart_9 (by decide) rfl ?_
  refine v_iconst C (0) dX0_greatestPart_11 (by decide) ?_
  refine v_istore C 5 (ll' := [(5, _), (4, _), (0, _), (1, _), (2, _), (3, _)]) dX0_greatestPart_12 (by decide) rfl ?_
  refine v_sub [2, 3, 4, 5, 1, 0] (ll' := [(0, _), (1, _), (2, _), (3, _), (4, _), (5, _)]) rfl ?_
  exact W_X0_greatestPart_14 C hq h0 hd hF
def K_X0_tellingNight_5 (Δ : DD) (Γ : GG) (q : (Int32 × Mem)) (x0 : Nat) (x1 : Nat) (x2 : Int32) (y : (Int32 × Int32 × Mem) ⊕ (Int32 × Mem)) : Prop := match y with
  | .inl s => V Δ Γ 7 5 [(0, rf Δ (x0)), (1, rf Δ (x1)), (2, .int (x2)), (3, .int (s.1)), (4, .int (s.2.1))] [] s.2.2
  | .inr t => (t = q)
def K_X0_tellingNight_63 (Δ : DD) (Γ : GG) (q : (Int32 × Mem)) (x0 : Nat) (x1 : Nat) (x2 : Int32) (y : (Int32 × Int32 × Mem) ⊕ (Int32 × Mem)) : Prop := match y with
  | .inl s => V Δ Γ 7 63 [(0, rf Δ (x0)), (1, rf Δ (x1)), (2, .int (x2)), (4, .int (s.1)), (5, .int (s.2.1))] [] s.2.2
  | .inr t => (t = q)
set_option maxRecDepth 20000 in
set_option maxHeartbeats 2000000 in
theorem W_X0_tellingNight_63 {Δ : DD} {Γ : GG} {d : Nat} {q : (Int32 × Mem)} {x0 : Nat} {x1 : Nat} {x2 : Int32} (C : Cx Δ Γ RX0 cX0_tellingNight 7 d (some .int)) (hq : RetQ Δ Γ (some (.int q.1)) q.2) (h0 : isK 0 x0 = true) (hd : 5 ≤ d) {s : Int32 × Int32 × Mem} (hF : F_X0_tellingNight_63 x0 x1 x2  s = some q) : V Δ Γ 7 63 [(0, rf Δ (x0)), (1, rf Δ (x1)), (2, .int (x2)), (4, .int (s.1)), (5, .int (s.2.1))] [] s.2.2 := by
  have hF : F_X0_tellingNight_63 x0 x1 x2  s = some q := hF
  refine lp_V (W := fun (s : Int32 × Int32 × Mem) => V Δ Γ 7 63 [(0, rf Δ (x0)), (1, rf Δ (x1)), (2, .int (x2)), (4, .int (s.1)), (5, .int (s.2.1))] [] s.2.2) (K := fun t => t = q) (K' := K_X0_tellingNight_63 Δ Γ q x0 x1 x2 ) (fun _ h => h) (fun _ h => h) ?_ s q hF rfl
  clear hF
  intro s z hF hK
  refine v_iload C 5 4 dX0_tellingNight_63 rfl ?_
  refine v_bipush C (8) dX0_tellingNight_65 (by decide) ?_
  refine v_icmp_ge C 105 dX0_tellingNight_67 (by decide) (fun c11 => ?_) (fun c11 => ?_)
  · have hF := ifp hF c11
    refine v_iload C 4 3 dX0_tellingNight_105 rfl ?_
    cases hF
    exact v_iretF C hq hK dX0_tellingNight_107
  · have hF := ifn hF c11
    refine v_aload_n C 0 0 dX0_tellingNight_70 rfl rfl ?_
    refine v_aload_n C 1 1 dX0_tellingNight_71 rfl rfl ?_
    refine v_iload_n C 2 2 dX0_tellingNight_72 rfl rfl ?_
    refine v_iload C 5 4 dX0_tellingNight_73 rfl ?_
    obtain ⟨q12, g13, hF⟩ := bnd hF
    refine v_cVi C mw_X0_greatestPart lk_X0_54 _ (M_X0_greatestPart (by omega) h0 g13) h0 rfl rfl (Nat.le_of_ble_eq_true rfl) dX0_tellingNight_75 ?_
    refine v_istore C 6 (ll' := [(6, _), (0, _), (1, _), (2, _), (4, _), (5, _)]) dX0_tellingNight_78 (by decide) rfl ?_
    refine v_iload C 6 0 dX0_tellingNight_80 rfl ?_
    refine v_aload_n C 0 1 dX0_tellingNight_82 rfl rfl ?_
    obtain ⟨v15, g14, hF⟩ := bnd hF
    refine v_gI C fu_X0_28 g14 dX0_tellingNight_83 ?_
    refine v_icmp_ge C 99 dX0_tellingNight_86 (by decide) (fun c16 => ?_) (fun c16 => ?_)
    · have hF := ifp hF c16
      refine v_iinc C (_ + (1 : Int32)) 5 (ll' := [(5, _), (6, _), (0, _), (1, _), (2, _), (4, _)]) dX0_tellingNight_99 rfl (inc_eq (by decide)) (by decide) rfl ?_
      refine v_goto C 63 dX0_tellingNight_102 (by decide) ?_
      refine v_sub [2, 3, 4, 5, 0] (ll' := [(0, _), (1, _), (2, _), (4, _), (5, _)]) rfl ?_
      cases hF
      exact hK
    · have hF := ifn hF c16
      refine v_aload_n C 0 1 dX0_tellingNight_89 rfl rfl ?_
      refine v_iload C 6 0 dX0_tellingNight_90 rfl ?_
      obtain ⟨m18, g17, hF⟩ := bnd hF
      refine v_pI C fp_X0_28 g17 dX0_tellingNight_92 ?_
      refine v_iload C 5 5 dX0_tellingNight_95 rfl ?_
      refine v_istore C 4 (ll' := [(4, _), (6, _), (0, _), (1, _), (2, _), (5, _)]) dX0_tellingNight_97 (by decide) rfl ?_
      refine v_iinc C (_ + (1 : Int32)) 5 (ll' := [(5, _), (4, _), (6, _), (0, _), (1, _), (2, _)]) dX0_tellingNight_99 rfl (inc_eq (by decide)) (by decide) rfl ?_
      refine v_goto C 63 dX0_tellingNight_102 (by decide) ?_
      refine v_sub [3, 4, 5, 1, 0] (ll' := [(0, _), (1, _), (2, _), (4, _), (5, _)]) rfl ?_
      cases hF
      exact hK
set_option maxRecDepth 20000 in
set_option maxHeartbeats 2000000 in
theorem W_X0_tellingNight_5 {Δ : DD} {Γ : GG} {d : Nat} {q : (Int32 × Mem)} {x0 : Nat} {x1 : Nat} {x2 : Int32} (C : Cx Δ Γ RX0 cX0_tellingNight 7 d (some .int)) (hq : RetQ Δ Γ (some (.int q.1)) q.2) (h0 : isK 0 x0 = true) (hd : 5 ≤ d) {s : Int32 × Int32 × Mem} (hF : F_X0_tellingNight_5 x0 x1 x2  s = some q) : V Δ Γ 7 5 [(0, rf Δ (x0)), (1, rf Δ (x1)), (2, .int (x2)), (3, .int (s.1)), (4, .int (s.2.1))] [] s.2.2 := by
  have hF : F_X0_tellingNight_5 x0 x1 x2  s = some q := hF
  refine lp_V (W := fun (s : Int32 × Int32 × Mem) => V Δ Γ 7 5 [(0, rf Δ (x0)), (1, rf Δ (x1)), (2, .int (x2)), (3, .int (s.1)), (4, .int (s.2.1))] [] s.2.2) (K := fun t => t = q) (K' := K_X0_tellingNight_5 Δ Γ q x0 x1 x2 ) (fun _ h => h) (fun _ h => h) ?_ s q hF rfl
  clear hF
  intro s z hF hK
  refine v_iload C 4 4 dX0_tellingNight_5 rfl ?_
  refine v_bipush C (6) dX0_tellingNight_7 (by decide) ?_
  refine v_icmp_ge C 44 dX0_tellingNight_9 (by decide) (fun c1 => ?_) (fun c1 => ?_)
  · have hF := ifp hF c1
    refine v_iload_n C 3 3 dX0_tellingNight_44 rfl rfl ?_
    refine v_if_ne C 51 dX0_tellingNight_45 (by decide) (fun c2 => ?_) (fun c2 => ?_)
    · have hF := ifn hF c2
      refine v_iconst C (0) dX0_tellingNight_51 (by decide) ?_
      refine v_istore C 4 (ll' := [(4, _), (0, _), (1, _), (2, _), (3, _)]) dX0_tellingNight_52 (by decide) rfl ?_
      refine v_aload_n C 0 1 dX0_tellingNight_54 rfl rfl ?_
      refine v_ldc C (1000000) kc_X0_53 dX0_tellingNight_55 ?_
      obtain ⟨m4, g3, hF⟩ := bnd hF
      refine v_pI C fp_X0_28 g3 dX0_tellingNight_57 ?_
      refine v_iconst C (0) dX0_tellingNight_60 (by decide) ?_
      refine v_istore C 5 (ll' := [(5, _), (4, _), (0, _), (1, _), (2, _), (3, _)]) dX0_tellingNight_61 (by decide) rfl ?_
      refine v_sub [2, 3, 4, 1, 0] (ll' := [(0, _), (1, _), (2, _), (4, _), (5, _)]) rfl ?_
      obtain ⟨z, hz, e⟩ := mapd hF
      subst e
      exact W_X0_tellingNight_63 C hq h0 hd (hz.trans (congrArg some hK))
    · have hF := ifp hF c2
      refine v_bipush C (-9) dX0_tellingNight_48 (by decide) ?_
      cases hF
      exact v_iretF C hq hK dX0_tellingNight_50
  · have hF := ifn hF c1
    refine v_aload_n C 0 0 dX0_tellingNight_12 rfl rfl ?_
    refine v_aload_n C 1 1 dX0_tellingNight_13 rfl rfl ?_
    refine v_iload_n C 2 2 dX0_tellingNight_14 rfl rfl ?_
    refine v_iload C 4 4 dX0_tellingNight_15 rfl ?_
    obtain ⟨q5, g6, hF⟩ := bnd hF
    refine v_cVi C mw_X0_thicksFitting lk_X0_49 _ (M_X0_thicksFitting (by omega) h0 g6) h0 rfl rfl (Nat.le_of_ble_eq_true rfl) dX0_tellingNight_17 ?_
    refine v_istore C 5 (ll' := [(5, _), (0, _), (1, _), (2, _), (3, _), (4, _)]) dX0_tellingNight_20 (by decide) rfl ?_
    refine v_aload_n C 0 1 dX0_tellingNight_22 rfl rfl ?_
    obtain ⟨p8, g7, hF⟩ := bnd hF
    refine v_gR C fu_X0_18 g7 dX0_tellingNight_23 ?_
    refine v_iload C 4 5 dX0_tellingNight_26 rfl ?_
    refine v_iload C 5 0 dX0_tellingNight_28 rfl ?_
    obtain ⟨q9, g10, hF⟩ := bnd hF
    refine v_cSv C mw_X8_write lk_X0_41 _ (M_X8_write (by omega) g10) rfl rfl (Nat.le_of_ble_eq_true rfl) dX0_tellingNight_30 ?_
    refine v_iload_n C 3 4 dX0_tellingNight_33 rfl rfl ?_
    refine v_iload C 5 0 dX0_tellingNight_34 rfl ?_
    refine v_ior C dX0_tellingNight_36 ?_
    refine v_istore_n C 3 (ll' := [(3, _), (5, _), (0, _), (1, _), (2, _), (4, _)]) dX0_tellingNight_37 rfl (by decide) rfl ?_
    refine v_iinc C (_ + (1 : Int32)) 5 (ll' := [(4, _), (3, _), (5, _), (0, _), (1, _), (2, _)]) dX0_tellingNight_38 rfl (inc_eq (by decide)) (by decide) rfl ?_
    refine v_goto C 5 dX0_tellingNight_41 (by decide) ?_
    refine v_sub [3, 4, 5, 1, 0] (ll' := [(0, _), (1, _), (2, _), (3, _), (4, _)]) rfl ?_
    cases hF
    exact hK
set_option maxRecDepth 20000 in
set_option maxHeartbeats 2000000 in
theorem M_X0_tellingNight {Δ : DD} {d : Nat} {x0 : Nat} {x1 : Nat} {x2 : Int32} {σ : Mem} {q : (Int32 × Mem)} (hd : 6 ≤ d) (h0 : isK 0 x0 = true) (hF : F_X0_tellingNight x0 x1 x2 σ = some q) : Mt Δ d yX0_tellingNight cX0_tellingNight 7 (some .int) [rf Δ x0, rf Δ x1, .int x2] σ (some (.int q.1)) q.2 := by
  obtain ⟨d, rfl⟩ : ∃ e, d = e + 1 := ⟨d - 1, by omega⟩
  have hd : 5 ≤ d := by omega
  refine mt_of (by decide) rfl (Nat.le_of_ble_eq_true rfl) (fun Γ C hq => ?_)
  unfold F_X0_tellingNight at hF
  show V Δ Γ 7 0 [(0, rf Δ (x0)), (1, rf Δ (x1)), (2, .int (x2))] [] σ
  refine v_iconst C (0) dX0_tellingNight_0 (by decide) ?_
  refine v_istore_n C 3 (ll' := [(3, _), (0, _), (1, _), (2, _)]) dX0_tellingNight_1 rfl (by decide) rfl ?_
  refine v_iconst C (0) dX0_tellingNight_2 (by decide) ?_
  refine v_istore C 4 (ll' := [(4, _), (3, _), (0, _), (1, _), (2, _)]) dX0_tellingNight_3 (by decide) rfl ?_
  refine v_sub [2, 3, 4, 1, 0] (ll' := [(0, _), (1, _), (2, _), (3, _), (4, _)]) rfl ?_
  exact W_X0_tellingNight_5 C hq h0 hd hF
set_option maxRecDepth 20000 in
set_option maxHeartbeats 2000000 in
theorem M_X7_thickOf {Δ : DD} {d : Nat} {x0 : Nat} {x1 : Int32} {σ : Mem} {q : Int32} (hd : 2 ≤ d) (h0 : isK 7 x0 = true) (hF : F_X7_thickOf x0 x1 σ = some q) : Mt Δ d yX7_thickOf cX7_thickOf 2 (some .int) [rf Δ x0, .int x1] σ (some (.int q)) σ := by
  obtain ⟨d, rfl⟩ : ∃ e, d = e + 1 := ⟨d - 1, by omega⟩
  have hd : 1 ≤ d := by omega
  refine mt_of (by decide) rfl (Nat.le_of_ble_eq_true rfl) (fun Γ C hq => ?_)
  unfold F_X7_thickOf at hF
  show V Δ Γ 2 0 [(0, rf Δ (x0)), (1, .int (x1))] [] σ
  refine v_aload_n C 0 0 dX7_thickOf_0 rfl rfl ?_
  obtain ⟨p2, g1, hF⟩ := bnd hF
  refine v_gR C fu_X7_24 g1 dX7_thickOf_1 ?_
  refine v_iload_n C 1 1 dX7_thickOf_4 rfl rfl ?_
  obtain ⟨q3, g4, hF⟩ := bnd hF
  refine v_cSi C mw_X8_read lk_X7_47 _ (M_X8_read (by omega) g4) rfl rfl (Nat.le_of_ble_eq_true rfl) dX7_thickOf_5 ?_
  exact v_iretP C hq (Option.some.inj hF) dX7_thickOf_8
set_option maxRecDepth 20000 in
set_option maxHeartbeats 2000000 in
theorem M_X8_copyAll {Δ : DD} {d : Nat} {x0 : Nat} {x1 : Nat} {σ : Mem} {q : Mem} (hd : 1 ≤ d) (hF : F_X8_copyAll x0 x1 σ = some q) : Mt Δ d yX8_copyAll cX8_copyAll 2 none [rf Δ x0, rf Δ x1] σ none q := by
  obtain ⟨d, rfl⟩ : ∃ e, d = e + 1 := ⟨d - 1, by omega⟩
  have hd : 0 ≤ d := by omega
  refine mt_of (by decide) rfl (Nat.le_of_ble_eq_true rfl) (fun Γ C hq => ?_)
  unfold F_X8_copyAll at hF
  show V Δ Γ 2 0 [(0, rf Δ (x0)), (1, rf Δ (x1))] [] σ
  refine v_aload_n C 0 0 dX8_copyAll_0 rfl rfl ?_
  refine v_iconst C (0) dX8_copyAll_1 (by decide) ?_
  refine v_aload_n C 1 1 dX8_copyAll_2 rfl rfl ?_
  refine v_iconst C (0) dX8_copyAll_3 (by decide) ?_
  refine v_aload_n C 0 0 dX8_copyAll_4 rfl rfl ?_
  obtain ⟨v1, g2, hF⟩ := bnd hF
  refine v_aN C g2 dX8_copyAll_5 ?_
  refine v_aload_n C 1 1 dX8_copyAll_6 rfl rfl ?_
  obtain ⟨v3, g4, hF⟩ := bnd hF
  refine v_aN C g4 dX8_copyAll_7 ?_
  refine v_min C ml_X8_346 mm_min_s mm_i mm_min_c (Nat.le_of_ble_eq_true rfl) dX8_copyAll_8 ?_
  obtain ⟨m5, g6, hF⟩ := bnd hF
  refine v_copy C al_X8_340 ac_n ac_s ac_i g6 (Nat.le_of_ble_eq_true rfl) dX8_copyAll_11 ?_
  exact v_vretF C hq (Option.some.inj hF) dX8_copyAll_14
set_option maxRecDepth 20000 in
set_option maxHeartbeats 2000000 in
theorem M_X7_copyFrom {Δ : DD} {d : Nat} {x0 : Nat} {x1 : Nat} {σ : Mem} {q : Mem} (hd : 2 ≤ d) (h0 : isK 7 x0 = true) (hF : F_X7_copyFrom x0 x1 σ = some q) : Mt Δ d yX7_copyFrom cX7_copyFrom 2 none [rf Δ x0, rf Δ x1] σ none q := by
  obtain ⟨d, rfl⟩ : ∃ e, d = e + 1 := ⟨d - 1, by omega⟩
  have hd : 1 ≤ d := by omega
  refine mt_of (by decide) rfl (Nat.le_of_ble_eq_true rfl) (fun Γ C hq => ?_)
  unfold F_X7_copyFrom at hF
  show V Δ Γ 2 0 [(0, rf Δ (x0)), (1, rf Δ (x1))] [] σ
  refine v_aload_n C 1 1 dX7_copyFrom_0 rfl rfl ?_
  obtain ⟨p2, g1, hF⟩ := bnd hF
  refine v_gR C fu_X7_9 g1 dX7_copyFrom_1 ?_
  refine v_aload_n C 0 0 dX7_copyFrom_4 rfl rfl ?_
  obtain ⟨p4, g3, hF⟩ := bnd hF
  refine v_gR C fu_X7_9 g3 dX7_copyFrom_5 ?_
  obtain ⟨q5, g6, hF⟩ := bnd hF
  refine v_cSv C mw_X8_copyAll lk_X7_43 _ (M_X8_copyAll (by omega) g6) rfl rfl (Nat.le_of_ble_eq_true rfl) dX7_copyFrom_8 ?_
  refine v_aload_n C 1 1 dX7_copyFrom_11 rfl rfl ?_
  obtain ⟨p8, g7, hF⟩ := bnd hF
  refine v_gR C fu_X7_15 g7 dX7_copyFrom_12 ?_
  refine v_aload_n C 0 0 dX7_copyFrom_15 rfl rfl ?_
  obtain ⟨p10, g9, hF⟩ := bnd hF
  refine v_gR C fu_X7_15 g9 dX7_copyFrom_16 ?_
  obtain ⟨q11, g12, hF⟩ := bnd hF
  refine v_cSv C mw_X8_copyAll lk_X7_43 _ (M_X8_copyAll (by omega) g12) rfl rfl (Nat.le_of_ble_eq_true rfl) dX7_copyFrom_19 ?_
  refine v_aload_n C 1 1 dX7_copyFrom_22 rfl rfl ?_
  obtain ⟨p14, g13, hF⟩ := bnd hF
  refine v_gR C fu_X7_18 g13 dX7_copyFrom_23 ?_
  refine v_aload_n C 0 0 dX7_copyFrom_26 rfl rfl ?_
  obtain ⟨p16, g15, hF⟩ := bnd hF
  refine v_gR C fu_X7_18 g15 dX7_copyFrom_27 ?_
  obtain ⟨q17, g18, hF⟩ := bnd hF
  refine v_cSv C mw_X8_copyAll lk_X7_43 _ (M_X8_copyAll (by omega) g18) rfl rfl (Nat.le_of_ble_eq_true rfl) dX7_copyFrom_30 ?_
  refine v_aload_n C 1 1 dX7_copyFrom_33 rfl rfl ?_
  obtain ⟨p20, g19, hF⟩ := bnd hF
  refine v_gR C fu_X7_21 g19 dX7_copyFrom_34 ?_
  refine v_aload_n C 0 0 dX7_copyFrom_37 rfl rfl ?_
  obtain ⟨p22, g21, hF⟩ := bnd hF
  refine v_gR C fu_X7_21 g21 dX7_copyFrom_38 ?_
  obtain ⟨q23, g24, hF⟩ := bnd hF
  refine v_cSv C mw_X8_copyAll lk_X7_43 _ (M_X8_copyAll (by omega) g24) rfl rfl (Nat.le_of_ble_eq_true rfl) dX7_copyFrom_41 ?_
  refine v_aload_n C 1 1 dX7_copyFrom_44 rfl rfl ?_
  obtain ⟨p26, g25, hF⟩ := bnd hF
  refine v_gR C fu_X7_24 g25 dX7_copyFrom_45 ?_
  refine v_aload_n C 0 0 dX7_copyFrom_48 rfl rfl ?_
  obtain ⟨p28, g27, hF⟩ := bnd hF
  refine v_gR C fu_X7_24 g27 dX7_copyFrom_49 ?_
  obtain ⟨q29, g30, hF⟩ := bnd hF
  refine v_cSv C mw_X8_copyAll lk_X7_43 _ (M_X8_copyAll (by omega) g30) rfl rfl (Nat.le_of_ble_eq_true rfl) dX7_copyFrom_52 ?_
  refine v_aload_n C 1 1 dX7_copyFrom_55 rfl rfl ?_
  obtain ⟨p32, g31, hF⟩ := bnd hF
  refine v_gR C fu_X7_27 g31 dX7_copyFrom_56 ?_
  refine v_aload_n C 0 0 dX7_copyFrom_59 rfl rfl ?_
  obtain ⟨p34, g33, hF⟩ := bnd hF
  refine v_gR C fu_X7_27 g33 dX7_copyFrom_60 ?_
  obtain ⟨q35, g36, hF⟩ := bnd hF
  refine v_cSv C mw_X8_copyAll lk_X7_43 _ (M_X8_copyAll (by omega) g36) rfl rfl (Nat.le_of_ble_eq_true rfl) dX7_copyFrom_63 ?_
  refine v_aload_n C 1 1 dX7_copyFrom_66 rfl rfl ?_
  obtain ⟨p38, g37, hF⟩ := bnd hF
  refine v_gR C fu_X7_30 g37 dX7_copyFrom_67 ?_
  refine v_aload_n C 0 0 dX7_copyFrom_70 rfl rfl ?_
  obtain ⟨p40, g39, hF⟩ := bnd hF
  refine v_gR C fu_X7_30 g39 dX7_copyFrom_71 ?_
  obtain ⟨q41, g42, hF⟩ := bnd hF
  refine v_cSv C mw_X8_copyAll lk_X7_43 _ (M_X8_copyAll (by omega) g42) rfl rfl (Nat.le_of_ble_eq_true rfl) dX7_copyFrom_74 ?_
  refine v_aload_n C 0 0 dX7_copyFrom_77 rfl rfl ?_
  refine v_aload_n C 1 1 dX7_copyFrom_78 rfl rfl ?_
  obtain ⟨v44, g43, hF⟩ := bnd hF
  refine v_gI C fu_X7_33 g43 dX7_copyFrom_79 ?_
  obtain ⟨m46, g45, hF⟩ := bnd hF
  refine v_pI C fp_X7_33 g45 dX7_copyFrom_82 ?_
  refine v_aload_n C 0 0 dX7_copyFrom_85 rfl rfl ?_
  refine v_aload_n C 1 1 dX7_copyFrom_86 rfl rfl ?_
  obtain ⟨v48, g47, hF⟩ := bnd hF
  refine v_gI C fu_X7_37 g47 dX7_copyFrom_87 ?_
  obtain ⟨m50, g49, hF⟩ := bnd hF
  refine v_pI C fp_X7_37 g49 dX7_copyFrom_90 ?_
  refine v_aload_n C 0 0 dX7_copyFrom_93 rfl rfl ?_
  refine v_aload_n C 1 1 dX7_copyFrom_94 rfl rfl ?_
  obtain ⟨v52, g51, hF⟩ := bnd hF
  refine v_gI C fu_X7_40 g51 dX7_copyFrom_95 ?_
  obtain ⟨m54, g53, hF⟩ := bnd hF
  refine v_pI C fp_X7_40 g53 dX7_copyFrom_98 ?_
  exact v_vretF C hq (Option.some.inj hF) dX7_copyFrom_101
set_option maxRecDepth 20000 in
set_option maxHeartbeats 2000000 in
theorem M_X2_copyAt {Δ : DD} {d : Nat} {x0 : Nat} {x1 : Int32} {x2 : Nat} {σ : Mem} {q : (Option Nat × Mem)} (hd : 3 ≤ d) (h0 : isK 2 x0 = true) (hF : F_X2_copyAt x0 x1 x2 σ = some q) : Mt Δ d yX2_copyAt cX2_copyAt 4 (some (.object "BolsterBeds$Town")) [rf Δ x0, .int x1, rf Δ x2] σ (some (vr Δ q.1)) q.2 := by
  obtain ⟨d, rfl⟩ : ∃ e, d = e + 1 := ⟨d - 1, by omega⟩
  have hd : 2 ≤ d := by omega
  refine mt_of (by decide) rfl (Nat.le_of_ble_eq_true rfl) (fun Γ C hq => ?_)
  unfold F_X2_copyAt at hF
  show V Δ Γ 4 0 [(0, rf Δ (x0)), (1, .int (x1)), (2, rf Δ (x2))] [] σ
  refine v_iload_n C 1 1 dX2_copyAt_0 rfl rfl ?_
  refine v_if_lt C 22 dX2_copyAt_1 (by decide) (fun c1 => ?_) (fun c1 => ?_)
  · have hF := ifp hF c1
    refine v_null C dX2_copyAt_22 ?_
    refine v_astore_nN C 3 (ll' := [(3, _), (0, _), (1, _), (2, _)]) dX2_copyAt_23 rfl (by decide) rfl ?_
    refine v_aload_nN C 3 0 dX2_copyAt_24 rfl rfl ?_
    refine v_ifnullN C 33 dX2_copyAt_25 (by decide) ?_
    refine v_aload_nN C 3 0 dX2_copyAt_33 rfl rfl ?_
    exact v_aretN C hq (Option.some.inj hF) dX2_copyAt_34
  · have hF := ifn hF c1
    refine v_iload_n C 1 1 dX2_copyAt_4 rfl rfl ?_
    refine v_aload_n C 0 0 dX2_copyAt_5 rfl rfl ?_
    obtain ⟨p3, g2, hF⟩ := bnd hF
    refine v_gR C fu_X2_15 g2 dX2_copyAt_6 ?_
    obtain ⟨v4, g5, hF⟩ := bnd hF
    refine v_aN C g5 dX2_copyAt_9 ?_
    refine v_icmp_ge C 22 dX2_copyAt_10 (by decide) (fun c6 => ?_) (fun c6 => ?_)
    · have hF := ifp hF c6
      refine v_null C dX2_copyAt_22 ?_
      refine v_astore_nN C 3 (ll' := [(3, _), (0, _), (1, _), (2, _)]) dX2_copyAt_23 rfl (by decide) rfl ?_
      refine v_aload_nN C 3 0 dX2_copyAt_24 rfl rfl ?_
      refine v_ifnullN C 33 dX2_copyAt_25 (by decide) ?_
      refine v_aload_nN C 3 0 dX2_copyAt_33 rfl rfl ?_
      exact v_aretN C hq (Option.some.inj hF) dX2_copyAt_34
    · have hF := ifn hF c6
      refine v_aload_n C 0 0 dX2_copyAt_13 rfl rfl ?_
      obtain ⟨p8, g7, hF⟩ := bnd hF
      refine v_gR C fu_X2_15 g7 dX2_copyAt_14 ?_
      refine v_iload_n C 1 1 dX2_copyAt_17 rfl rfl ?_
      obtain ⟨p9, g10, hF⟩ := bnd hF
      refine v_aR C g10 dX2_copyAt_18 ?_
      refine v_goto C 23 dX2_copyAt_19 (by decide) ?_
      refine v_astore_n C 3 (ll' := [(3, _), (0, _), (1, _), (2, _)]) dX2_copyAt_23 rfl (by decide) rfl ?_
      refine v_aload_n C 3 0 dX2_copyAt_24 rfl rfl ?_
      refine v_ifnull C dX2_copyAt_25 ?_
      refine v_aload_n C 3 0 dX2_copyAt_28 rfl rfl ?_
      refine v_aload_n C 2 3 dX2_copyAt_29 rfl rfl ?_
      obtain ⟨_, g11, hF⟩ := bnd hF
      obtain ⟨q12, g13, hF⟩ := bnd hF
      refine v_cVv C mw_X7_copyFrom lk_X2_22 _ (M_X7_copyFrom (by omega) (chk_k g11) g13) (chk_k g11) rfl rfl (Nat.le_of_ble_eq_true rfl) dX2_copyAt_30 ?_
      refine v_aload_n C 3 0 dX2_copyAt_33 rfl rfl ?_
      exact v_aretR C hq (Option.some.inj hF) dX2_copyAt_34
set_option maxRecDepth 20000 in
set_option maxHeartbeats 2000000 in
theorem M_X7_thinBed {Δ : DD} {d : Nat} {x0 : Nat} {x1 : Int32} {x2 : Int32} {σ : Mem} {q : Mem} (hd : 2 ≤ d) (h0 : isK 7 x0 = true) (hF : F_X7_thinBed x0 x1 x2 σ = some q) : Mt Δ d yX7_thinBed cX7_thinBed 3 none [rf Δ x0, .int x1, .int x2] σ none q := by
  obtain ⟨d, rfl⟩ : ∃ e, d = e + 1 := ⟨d - 1, by omega⟩
  have hd : 1 ≤ d := by omega
  refine mt_of (by decide) rfl (Nat.le_of_ble_eq_true rfl) (fun Γ C hq => ?_)
  unfold F_X7_thinBed at hF
  show V Δ Γ 3 0 [(0, rf Δ (x0)), (1, .int (x1)), (2, .int (x2))] [] σ
  refine v_aload_n C 0 0 dX7_thinBed_0 rfl rfl ?_
  obtain ⟨p2, g1, hF⟩ := bnd hF
  refine v_gR C fu_X7_24 g1 dX7_thinBed_1 ?_
  refine v_iload_n C 1 1 dX7_thinBed_4 rfl rfl ?_
  refine v_iconst C (0) dX7_thinBed_5 (by decide) ?_
  refine v_aload_n C 0 0 dX7_thinBed_6 rfl rfl ?_
  obtain ⟨p4, g3, hF⟩ := bnd hF
  refine v_gR C fu_X7_24 g3 dX7_thinBed_7 ?_
  refine v_iload_n C 1 1 dX7_thinBed_10 rfl rfl ?_
  obtain ⟨q5, g6, hF⟩ := bnd hF
  refine v_cSi C mw_X8_read lk_X7_47 _ (M_X8_read (by omega) g6) rfl rfl (Nat.le_of_ble_eq_true rfl) dX7_thinBed_11 ?_
  refine v_iload_n C 2 2 dX7_thinBed_14 rfl rfl ?_
  refine v_isub C dX7_thinBed_15 ?_
  refine v_max C ml_X7_94 mm_max_s mm_i mm_max_c (Nat.le_of_ble_eq_true rfl) dX7_thinBed_16 ?_
  obtain ⟨q7, g8, hF⟩ := bnd hF
  refine v_cSv C mw_X8_write lk_X7_117 _ (M_X8_write (by omega) g8) rfl rfl (Nat.le_of_ble_eq_true rfl) dX7_thinBed_19 ?_
  exact v_vretF C hq (Option.some.inj hF) dX7_thinBed_22
set_option maxRecDepth 20000 in
set_option maxHeartbeats 2000000 in
theorem M_X7_kindOf {Δ : DD} {d : Nat} {x0 : Nat} {x1 : Int32} {σ : Mem} {q : Int32} (hd : 2 ≤ d) (h0 : isK 7 x0 = true) (hF : F_X7_kindOf x0 x1 σ = some q) : Mt Δ d yX7_kindOf cX7_kindOf 2 (some .int) [rf Δ x0, .int x1] σ (some (.int q)) σ := by
  obtain ⟨d, rfl⟩ : ∃ e, d = e + 1 := ⟨d - 1, by omega⟩
  have hd : 1 ≤ d := by omega
  refine mt_of (by decide) rfl (Nat.le_of_ble_eq_true rfl) (fun Γ C hq => ?_)
  unfold F_X7_kindOf at hF
  show V Δ Γ 2 0 [(0, rf Δ (x0)), (1, .int (x1))] [] σ
  refine v_aload_n C 0 0 dX7_kindOf_0 rfl rfl ?_
  obtain ⟨p2, g1, hF⟩ := bnd hF
  refine v_gR C fu_X7_15 g1 dX7_kindOf_1 ?_
  refine v_iload_n C 1 1 dX7_kindOf_4 rfl rfl ?_
  obtain ⟨q3, g4, hF⟩ := bnd hF
  refine v_cSi C mw_X8_read lk_X7_47 _ (M_X8_read (by omega) g4) rfl rfl (Nat.le_of_ble_eq_true rfl) dX7_kindOf_5 ?_
  exact v_iretP C hq (Option.some.inj hF) dX7_kindOf_8
set_option maxRecDepth 20000 in
set_option maxHeartbeats 2000000 in
theorem M_X7_liesIn {Δ : DD} {d : Nat} {x0 : Nat} {x1 : Int32} {σ : Mem} {q : Int32} (hd : 2 ≤ d) (h0 : isK 7 x0 = true) (hF : F_X7_liesIn x0 x1 σ = some q) : Mt Δ d yX7_liesIn cX7_liesIn 2 (some .int) [rf Δ x0, .int x1] σ (some (.int q)) σ := by
  obtain ⟨d, rfl⟩ : ∃ e, d = e + 1 := ⟨d - 1, by omega⟩
  have hd : 1 ≤ d := by omega
  refine mt_of (by decide) rfl (Nat.le_of_ble_eq_true rfl) (fun Γ C hq => ?_)
  unfold F_X7_liesIn at hF
  show V Δ Γ 2 0 [(0, rf Δ (x0)), (1, .int (x1))] [] σ
  refine v_aload_n C 0 0 dX7_liesIn_0 rfl rfl ?_
  obtain ⟨p2, g1, hF⟩ := bnd hF
  refine v_gR C fu_X7_27 g1 dX7_liesIn_1 ?_
  refine v_iload_n C 1 1 dX7_liesIn_4 rfl rfl ?_
  obtain ⟨q3, g4, hF⟩ := bnd hF
  refine v_cSi C mw_X8_read lk_X7_47 _ (M_X8_read (by omega) g4) rfl rfl (Nat.le_of_ble_eq_true rfl) dX7_liesIn_5 ?_
  exact v_iretP C hq (Option.some.inj hF) dX7_liesIn_8
set_option maxRecDepth 20000 in
set_option maxHeartbeats 2000000 in
theorem M_X7_sleepIn {Δ : DD} {d : Nat} {x0 : Nat} {x1 : Int32} {σ : Mem} {q : (Int32 × Mem)} (hd : 3 ≤ d) (h0 : isK 7 x0 = true) (hF : F_X7_sleepIn x0 x1 σ = some q) : Mt Δ d yX7_sleepIn cX7_sleepIn 3 (some .int) [rf Δ x0, .int x1] σ (some (.int q.1)) q.2 := by
  obtain ⟨d, rfl⟩ : ∃ e, d = e + 1 := ⟨d - 1, by omega⟩
  have hd : 2 ≤ d := by omega
  refine mt_of (by decide) rfl (Nat.le_of_ble_eq_true rfl) (fun Γ C hq => ?_)
  unfold F_X7_sleepIn at hF
  show V Δ Γ 3 0 [(0, rf Δ (x0)), (1, .int (x1))] [] σ
  refine v_aload_n C 0 0 dX7_sleepIn_0 rfl rfl ?_
  refine v_iload_n C 1 1 dX7_sleepIn_1 rfl rfl ?_
  obtain ⟨q1, g2, hF⟩ := bnd hF
  refine v_cVi C mw_X7_kindOf lk_X7_57 _ (M_X7_kindOf (by omega) h0 g2) h0 rfl rfl (Nat.le_of_ble_eq_true rfl) dX7_sleepIn_2 ?_
  refine v_aload_n C 0 0 dX7_sleepIn_5 rfl rfl ?_
  refine v_iload_n C 1 1 dX7_sleepIn_6 rfl rfl ?_
  refine v_iload_n C 1 1 dX7_sleepIn_7 rfl rfl ?_
  obtain ⟨q3, g4, hF⟩ := bnd hF
  refine v_cVi C mw_X7_gapWith lk_X7_60 _ (M_X7_gapWith (by omega) h0 g4) h0 rfl rfl (Nat.le_of_ble_eq_true rfl) dX7_sleepIn_8 ?_
  refine v_aload_n C 0 0 dX7_sleepIn_11 rfl rfl ?_
  refine v_iload_n C 1 1 dX7_sleepIn_12 rfl rfl ?_
  obtain ⟨q5, g6, hF⟩ := bnd hF
  refine v_cVi C mw_X7_thickOf lk_X7_64 _ (M_X7_thickOf (by omega) h0 g6) h0 rfl rfl (Nat.le_of_ble_eq_true rfl) dX7_sleepIn_13 ?_
  refine v_aload_n C 0 0 dX7_sleepIn_16 rfl rfl ?_
  obtain ⟨v8, g7, hF⟩ := bnd hF
  refine v_gI C fu_X7_40 g7 dX7_sleepIn_17 ?_
  refine v_aload_n C 0 0 dX7_sleepIn_20 rfl rfl ?_
  refine v_aload_n C 0 0 dX7_sleepIn_21 rfl rfl ?_
  obtain ⟨v10, g9, hF⟩ := bnd hF
  refine v_gI C fu_X7_40 g9 dX7_sleepIn_22 ?_
  obtain ⟨q11, g12, hF⟩ := bnd hF
  refine v_cVi C mw_X7_coldOf lk_X7_67 _ (M_X7_coldOf (by omega) h0 g12) h0 rfl rfl (Nat.le_of_ble_eq_true rfl) dX7_sleepIn_25 ?_
  obtain ⟨q13, g14, hF⟩ := bnd hF
  refine v_cSi C mw_X8_crossing lk_X7_70 _ (M_X8_crossing (by omega) g14) rfl rfl (Nat.le_of_ble_eq_true rfl) dX7_sleepIn_28 ?_
  refine v_istore_n C 2 (ll' := [(2, _), (0, _), (1, _)]) dX7_sleepIn_31 rfl (by decide) rfl ?_
  refine v_aload_n C 0 1 dX7_sleepIn_32 rfl rfl ?_
  obtain ⟨p16, g15, hF⟩ := bnd hF
  refine v_gR C fu_X7_27 g15 dX7_sleepIn_33 ?_
  refine v_iload_n C 1 2 dX7_sleepIn_36 rfl rfl ?_
  refine v_bipush C (99) dX7_sleepIn_37 (by decide) ?_
  refine v_aload_n C 0 1 dX7_sleepIn_39 rfl rfl ?_
  refine v_iload_n C 1 2 dX7_sleepIn_40 rfl rfl ?_
  obtain ⟨q17, g18, hF⟩ := bnd hF
  refine v_cVi C mw_X7_liesIn lk_X7_74 _ (M_X7_liesIn (by omega) h0 g18) h0 rfl rfl (Nat.le_of_ble_eq_true rfl) dX7_sleepIn_41 ?_
  refine v_iload_n C 2 0 dX7_sleepIn_44 rfl rfl ?_
  refine v_iadd C dX7_sleepIn_45 ?_
  refine v_min C ml_X7_114 mm_min_s mm_i mm_min_c (Nat.le_of_ble_eq_true rfl) dX7_sleepIn_46 ?_
  obtain ⟨q19, g20, hF⟩ := bnd hF
  refine v_cSv C mw_X8_write lk_X7_117 _ (M_X8_write (by omega) g20) rfl rfl (Nat.le_of_ble_eq_true rfl) dX7_sleepIn_49 ?_
  refine v_iload_n C 2 0 dX7_sleepIn_52 rfl rfl ?_
  refine v_iconst C (3) dX7_sleepIn_53 (by decide) ?_
  refine v_icmp_lt C 63 dX7_sleepIn_54 (by decide) (fun c21 => ?_) (fun c21 => ?_)
  · have hF := ifp hF c21
    refine v_iload_n C 2 0 dX7_sleepIn_63 rfl rfl ?_
    exact v_iretF C hq (Option.some.inj hF) dX7_sleepIn_64
  · have hF := ifn hF c21
    refine v_aload_n C 0 1 dX7_sleepIn_57 rfl rfl ?_
    refine v_iload_n C 1 2 dX7_sleepIn_58 rfl rfl ?_
    refine v_iconst C (1) dX7_sleepIn_59 (by decide) ?_
    obtain ⟨q22, g23, hF⟩ := bnd hF
    refine v_cVv C mw_X7_thinBed lk_X7_100 _ (M_X7_thinBed (by omega) h0 g23) h0 rfl rfl (Nat.le_of_ble_eq_true rfl) dX7_sleepIn_60 ?_
    refine v_iload_n C 2 0 dX7_sleepIn_63 rfl rfl ?_
    exact v_iretF C hq (Option.some.inj hF) dX7_sleepIn_64
def K_X7_passNight_4 (Δ : DD) (Γ : GG) (q : (Int32 × Mem)) (x0 : Nat) (y : (Int32 × Int32 × Mem) ⊕ (Int32 × Mem)) : Prop := match y with
  | .inl s => V Δ Γ 3 4 [(0, rf Δ (x0)), (1, .int (s.1)), (2, .int (s.2.1))] [] s.2.2
  | .inr t => (t = q)
set_option maxRecDepth 20000 in
set_option maxHeartbeats 2000000 in
theorem W_X7_passNight_4 {Δ : DD} {Γ : GG} {d : Nat} {q : (Int32 × Mem)} {x0 : Nat} (C : Cx Δ Γ RX7 cX7_passNight 3 d (some .int)) (hq : RetQ Δ Γ (some (.int q.1)) q.2) (h0 : isK 7 x0 = true) (hd : 3 ≤ d) {s : Int32 × Int32 × Mem} (hF : F_X7_passNight_4 x0  s = some q) : V Δ Γ 3 4 [(0, rf Δ (x0)), (1, .int (s.1)), (2, .int (s.2.1))] [] s.2.2 := by
  have hF : F_X7_passNight_4 x0  s = some q := hF
  refine lp_V (W := fun (s : Int32 × Int32 × Mem) => V Δ Γ 3 4 [(0, rf Δ (x0)), (1, .int (s.1)), (2, .int (s.2.1))] [] s.2.2) (K := fun t => t = q) (K' := K_X7_passNight_4 Δ Γ q x0 ) (fun _ h => h) (fun _ h => h) ?_ s q hF rfl
  clear hF
  intro s z hF hK
  refine v_iload_n C 2 2 dX7_passNight_4 rfl rfl ?_
  refine v_aload_n C 0 0 dX7_passNight_5 rfl rfl ?_
  obtain ⟨v2, g1, hF⟩ := bnd hF
  refine v_gI C fu_X7_37 g1 dX7_passNight_6 ?_
  refine v_icmp_ge C 26 dX7_passNight_9 (by decide) (fun c3 => ?_) (fun c3 => ?_)
  · have hF := ifp hF c3
    refine v_aload_n C 0 0 dX7_passNight_26 rfl rfl ?_
    refine v_dup C dX7_passNight_27 rfl ?_
    obtain ⟨v5, g4, hF⟩ := bnd hF
    refine v_gI C fu_X7_40 g4 dX7_passNight_28 ?_
    refine v_iconst C (1) dX7_passNight_31 (by decide) ?_
    refine v_iadd C dX7_passNight_32 ?_
    obtain ⟨m7, g6, hF⟩ := bnd hF
    refine v_pI C fp_X7_40 g6 dX7_passNight_33 ?_
    refine v_iload_n C 1 1 dX7_passNight_36 rfl rfl ?_
    cases hF
    exact v_iretF C hq hK dX7_passNight_37
  · have hF := ifn hF c3
    refine v_iload_n C 1 1 dX7_passNight_12 rfl rfl ?_
    refine v_aload_n C 0 0 dX7_passNight_13 rfl rfl ?_
    refine v_iload_n C 2 2 dX7_passNight_14 rfl rfl ?_
    obtain ⟨q8, g9, hF⟩ := bnd hF
    refine v_cVi C mw_X7_sleepIn lk_X7_111 _ (M_X7_sleepIn (by omega) h0 g9) h0 rfl rfl (Nat.le_of_ble_eq_true rfl) dX7_passNight_15 ?_
    refine v_iadd C dX7_passNight_18 ?_
    refine v_istore_n C 1 (ll' := [(1, _), (0, _), (2, _)]) dX7_passNight_19 rfl (by decide) rfl ?_
    refine v_iinc C (_ + (1 : Int32)) 2 (ll' := [(2, _), (1, _), (0, _)]) dX7_passNight_20 rfl (inc_eq (by decide)) (by decide) rfl ?_
    refine v_goto C 4 dX7_passNight_23 (by decide) ?_
    refine v_sub [2, 1, 0] (ll' := [(0, _), (1, _), (2, _)]) rfl ?_
    cases hF
    exact hK
set_option maxRecDepth 20000 in
set_option maxHeartbeats 2000000 in
theorem M_X7_passNight {Δ : DD} {d : Nat} {x0 : Nat} {σ : Mem} {q : (Int32 × Mem)} (hd : 4 ≤ d) (h0 : isK 7 x0 = true) (hF : F_X7_passNight x0 σ = some q) : Mt Δ d yX7_passNight cX7_passNight 3 (some .int) [rf Δ x0] σ (some (.int q.1)) q.2 := by
  obtain ⟨d, rfl⟩ : ∃ e, d = e + 1 := ⟨d - 1, by omega⟩
  have hd : 3 ≤ d := by omega
  refine mt_of (by decide) rfl (Nat.le_of_ble_eq_true rfl) (fun Γ C hq => ?_)
  unfold F_X7_passNight at hF
  show V Δ Γ 3 0 [(0, rf Δ (x0))] [] σ
  refine v_iconst C (0) dX7_passNight_0 (by decide) ?_
  refine v_istore_n C 1 (ll' := [(1, _), (0, _)]) dX7_passNight_1 rfl (by decide) rfl ?_
  refine v_iconst C (0) dX7_passNight_2 (by decide) ?_
  refine v_istore_n C 2 (ll' := [(2, _), (1, _), (0, _)]) dX7_passNight_3 rfl (by decide) rfl ?_
  refine v_sub [2, 1, 0] (ll' := [(0, _), (1, _), (2, _)]) rfl ?_
  exact W_X7_passNight_4 C hq h0 hd hF
def K_X1_fewestFrom_7 (Δ : DD) (Γ : GG) (q : (Int32 × Mem)) (x0 : Nat) (x1 : Nat) (x2 : Int32) (x3 : Int32) (y : (Int32 × Int32 × Mem) ⊕ (Int32 × Mem)) : Prop := match y with
  | .inl s => V Δ Γ 7 7 [(0, rf Δ (x0)), (1, rf Δ (x1)), (2, .int (x2)), (3, .int (x3)), (4, .int (s.1)), (5, .int (s.2.1))] [] s.2.2
  | .inr t => (t = q)
set_option maxRecDepth 20000 in
set_option maxHeartbeats 2000000 in
theorem W_X1_fewestFrom_30 {Δ : DD} {Γ : GG} {d : Nat} {rec : Nat → Nat → Int32 → Int32 → Mem → Option (Int32 × Mem)} {q : (Int32 × Mem)} {x0 : Nat} {x1 : Nat} {x2 : Int32} {x3 : Int32} {x4 : Int32} {x5 : Int32}  {σ : Mem} {y : ((Int32 × Int32 × Mem) ⊕ (Int32 × Mem))} (C : Cx Δ Γ RX1 cX1_fewestFrom 7 d (some .int)) (hq : RetQ Δ Γ (some (.int q.1)) q.2) (hrec : ∀ {k : Nat} {a0 : Nat} {a1 : Int32} {a2 : Int32} {μ : Mem} {r : (Int32 × Mem)}, isK 1 k = true → rec k a0 a1 a2 μ = some r → Mt Δ d yX1_foundFrom cX1_foundFrom 4 (some .int) [rf Δ k, rf Δ a0, .int a1, .int a2] μ (some (.int r.1)) r.2) (h0 : isK 1 x0 = true) (hd : 4 ≤ d) (hF : F_X1_fewestFrom_30 rec x0 x1 x2 x3 x4 x5  σ = some y) (hK : (K_X1_fewestFrom_7 Δ Γ q x0 x1 x2 x3 y)) : V Δ Γ 7 30 [(0, rf Δ (x0)), (1, rf Δ (x1)), (2, .int (x2)), (3, .int (x3)), (4, .int (x4)), (5, .int (x5))] [] σ := by
  unfold F_X1_fewestFrom_30 at hF
  refine v_aload_n C 0 0 dX1_fewestFrom_30 rfl rfl ?_
  obtain ⟨p10, g9, hF⟩ := bnd hF
  refine v_gR C fu_X1_14 g9 dX1_fewestFrom_31 ?_
  refine v_iload_n C 2 2 dX1_fewestFrom_34 rfl rfl ?_
  refine v_aload_n C 1 1 dX1_fewestFrom_35 rfl rfl ?_
  obtain ⟨_, g11, hF⟩ := bnd hF
  obtain ⟨q12, g13, hF⟩ := bnd hF
  obtain ⟨o14, m15⟩ := q12
  cases o14 with
  | none =>
    refine v_cVN C mw_X2_copyAt lk_X1_38 _ (M_X2_copyAt (by omega) (chk_k g11) g13) (chk_k g11) rfl rfl (Nat.le_of_ble_eq_true rfl) dX1_fewestFrom_36 ?_
    refine v_astoreN C 6 (ll' := [(6, _), (0, _), (1, _), (2, _), (3, _), (4, _), (5, _)]) dX1_fewestFrom_39 (by decide) rfl ?_
    refine v_aloadN C 6 0 dX1_fewestFrom_41 rfl ?_
    refine v_ifnullN C 77 dX1_fewestFrom_43 (by decide) ?_
    refine v_iinc C (_ + (1 : Int32)) 6 (ll' := [(5, _), (6, _), (0, _), (1, _), (2, _), (3, _), (4, _)]) dX1_fewestFrom_77 rfl (inc_eq (by decide)) (by decide) rfl ?_
    refine v_goto C 7 dX1_fewestFrom_80 (by decide) ?_
    refine v_sub [2, 3, 4, 5, 6, 0] (ll' := [(0, _), (1, _), (2, _), (3, _), (4, _), (5, _)]) rfl ?_
    cases hF
    exact hK
  | some p16 =>
    refine v_cVR C mw_X2_copyAt lk_X1_38 _ (M_X2_copyAt (by omega) (chk_k g11) g13) (chk_k g11) rfl rfl (Nat.le_of_ble_eq_true rfl) dX1_fewestFrom_36 ?_
    refine v_astore C 6 (ll' := [(6, _), (0, _), (1, _), (2, _), (3, _), (4, _), (5, _)]) dX1_fewestFrom_39 (by decide) rfl ?_
    refine v_aload C 6 0 dX1_fewestFrom_41 rfl ?_
    refine v_ifnull C dX1_fewestFrom_43 ?_
    refine v_aload C 6 0 dX1_fewestFrom_46 rfl ?_
    refine v_iload C 5 6 dX1_fewestFrom_48 rfl ?_
    refine v_iconst C (1) dX1_fewestFrom_50 (by decide) ?_
    obtain ⟨_, g17, hF⟩ := bnd hF
    obtain ⟨q18, g19, hF⟩ := bnd hF
    refine v_cVv C mw_X7_thinBed lk_X1_42 _ (M_X7_thinBed (by omega) (chk_k g17) g19) (chk_k g17) rfl rfl (Nat.le_of_ble_eq_true rfl) dX1_fewestFrom_51 ?_
    refine v_aload C 6 0 dX1_fewestFrom_54 rfl ?_
    obtain ⟨_, g20, hF⟩ := bnd hF
    obtain ⟨q21, g22, hF⟩ := bnd hF
    refine v_cVi C mw_X7_passNight lk_X1_46 _ (M_X7_passNight (by omega) (chk_k g20) g22) (chk_k g20) rfl rfl (Nat.le_of_ble_eq_true rfl) dX1_fewestFrom_56 ?_
    refine v_pop C dX1_fewestFrom_59 rfl ?_
    refine v_iload C 4 5 dX1_fewestFrom_60 rfl ?_
    refine v_aload_n C 0 1 dX1_fewestFrom_62 rfl rfl ?_
    refine v_aload C 6 0 dX1_fewestFrom_63 rfl ?_
    refine v_iload_n C 2 3 dX1_fewestFrom_65 rfl rfl ?_
    refine v_iconst C (1) dX1_fewestFrom_66 (by decide) ?_
    refine v_iadd C dX1_fewestFrom_67 ?_
    refine v_iload_n C 3 4 dX1_fewestFrom_68 rfl rfl ?_
    obtain ⟨q23, g24, hF⟩ := bnd hF
    refine v_cVi C mw_X1_foundFrom lk_X1_50 _ (hrec h0 g24) h0 rfl rfl (Nat.le_of_ble_eq_true rfl) dX1_fewestFrom_69 ?_
    refine v_min C ml_X1_53 mm_min_s mm_i mm_min_c (Nat.le_of_ble_eq_true rfl) dX1_fewestFrom_72 ?_
    refine v_istore C 4 (ll' := [(4, _), (6, _), (0, _), (1, _), (2, _), (3, _), (5, _)]) dX1_fewestFrom_75 (by decide) rfl ?_
    refine v_iinc C (_ + (1 : Int32)) 6 (ll' := [(5, _), (4, _), (6, _), (0, _), (1, _), (2, _), (3, _)]) dX1_fewestFrom_77 rfl (inc_eq (by decide)) (by decide) rfl ?_
    refine v_goto C 7 dX1_fewestFrom_80 (by decide) ?_
    refine v_sub [3, 4, 5, 6, 1, 0] (ll' := [(0, _), (1, _), (2, _), (3, _), (4, _), (5, _)]) rfl ?_
    cases hF
    exact hK
set_option maxRecDepth 20000 in
set_option maxHeartbeats 2000000 in
theorem W_X1_fewestFrom_7 {Δ : DD} {Γ : GG} {d : Nat} {rec : Nat → Nat → Int32 → Int32 → Mem → Option (Int32 × Mem)} {q : (Int32 × Mem)} {x0 : Nat} {x1 : Nat} {x2 : Int32} {x3 : Int32} (C : Cx Δ Γ RX1 cX1_fewestFrom 7 d (some .int)) (hq : RetQ Δ Γ (some (.int q.1)) q.2) (hrec : ∀ {k : Nat} {a0 : Nat} {a1 : Int32} {a2 : Int32} {μ : Mem} {r : (Int32 × Mem)}, isK 1 k = true → rec k a0 a1 a2 μ = some r → Mt Δ d yX1_foundFrom cX1_foundFrom 4 (some .int) [rf Δ k, rf Δ a0, .int a1, .int a2] μ (some (.int r.1)) r.2) (h0 : isK 1 x0 = true) (hd : 4 ≤ d) {s : Int32 × Int32 × Mem} (hF : F_X1_fewestFrom_7 rec x0 x1 x2 x3  s = some q) : V Δ Γ 7 7 [(0, rf Δ (x0)), (1, rf Δ (x1)), (2, .int (x2)), (3, .int (x3)), (4, .int (s.1)), (5, .int (s.2.1))] [] s.2.2 := by
  have hF : F_X1_fewestFrom_7 rec x0 x1 x2 x3  s = some q := hF
  refine lp_V (W := fun (s : Int32 × Int32 × Mem) => V Δ Γ 7 7 [(0, rf Δ (x0)), (1, rf Δ (x1)), (2, .int (x2)), (3, .int (x3)), (4, .int (s.1)), (5, .int (s.2.1))] [] s.2.2) (K := fun t => t = q) (K' := K_X1_fewestFrom_7 Δ Γ q x0 x1 x2 x3 ) (fun _ h => h) (fun _ h => h) ?_ s q hF rfl
  clear hF
  intro s z hF hK
  refine v_iload C 5 5 dX1_fewestFrom_7 rfl ?_
  refine v_aload_n C 1 1 dX1_fewestFrom_9 rfl rfl ?_
  obtain ⟨v2, g1, hF⟩ := bnd hF
  refine v_gI C fu_X1_28 g1 dX1_fewestFrom_10 ?_
  refine v_icmp_ge C 83 dX1_fewestFrom_13 (by decide) (fun c3 => ?_) (fun c3 => ?_)
  · have hF := ifp hF c3
    refine v_iload C 4 4 dX1_fewestFrom_83 rfl ?_
    cases hF
    exact v_iretF C hq hK dX1_fewestFrom_85
  · have hF := ifn hF c3
    refine v_iload C 5 5 dX1_fewestFrom_16 rfl ?_
    refine v_if_lt C 30 dX1_fewestFrom_18 (by decide) (fun c4 => ?_) (fun c4 => ?_)
    · have hF := ifp hF c4
      exact W_X1_fewestFrom_30 C hq hrec h0 hd hF hK
    · have hF := ifn hF c4
      refine v_aload_n C 1 1 dX1_fewestFrom_21 rfl rfl ?_
      refine v_iload C 5 5 dX1_fewestFrom_22 rfl ?_
      obtain ⟨_, g5, hF⟩ := bnd hF
      obtain ⟨q6, g7, hF⟩ := bnd hF
      refine v_cVi C mw_X7_thickOf lk_X1_34 _ (M_X7_thickOf (by omega) (chk_k g5) g7) (chk_k g5) rfl rfl (Nat.le_of_ble_eq_true rfl) dX1_fewestFrom_24 ?_
      refine v_if_le C 77 dX1_fewestFrom_27 (by decide) (fun c8 => ?_) (fun c8 => ?_)
      · have hF := ifp hF c8
        refine v_iinc C (_ + (1 : Int32)) 5 (ll' := [(5, _), (0, _), (1, _), (2, _), (3, _), (4, _)]) dX1_fewestFrom_77 rfl (inc_eq (by decide)) (by decide) rfl ?_
        refine v_goto C 7 dX1_fewestFrom_80 (by decide) ?_
        refine v_sub [1, 2, 3, 4, 5, 0] (ll' := [(0, _), (1, _), (2, _), (3, _), (4, _), (5, _)]) rfl ?_
        cases hF
        exact hK
      · have hF := ifn hF c8
        exact W_X1_fewestFrom_30 C hq hrec h0 hd hF hK
set_option maxRecDepth 20000 in
set_option maxHeartbeats 2000000 in
theorem M_X1_fewestFrom {Δ : DD} {d : Nat} {rec : Nat → Nat → Int32 → Int32 → Mem → Option (Int32 × Mem)} {x0 : Nat} {x1 : Nat} {x2 : Int32} {x3 : Int32} {σ : Mem} {q : (Int32 × Mem)} (hd : 4 + 1 ≤ d) (hrec : ∀ {k : Nat} {a0 : Nat} {a1 : Int32} {a2 : Int32} {μ : Mem} {r : (Int32 × Mem)}, isK 1 k = true → rec k a0 a1 a2 μ = some r → Mt Δ (d - 1) yX1_foundFrom cX1_foundFrom 4 (some .int) [rf Δ k, rf Δ a0, .int a1, .int a2] μ (some (.int r.1)) r.2) (h0 : isK 1 x0 = true) (hF : F_X1_fewestFrom rec x0 x1 x2 x3 σ = some q) : Mt Δ d yX1_fewestFrom cX1_fewestFrom 7 (some .int) [rf Δ x0, rf Δ x1, .int x2, .int x3] σ (some (.int q.1)) q.2 := by
  obtain ⟨d, rfl⟩ : ∃ e, d = e + 1 := ⟨d - 1, by omega⟩
  rw [Nat.add_sub_cancel] at hrec
  have hd : 4 ≤ d := by omega
  refine mt_of (by decide) rfl (Nat.le_of_ble_eq_true rfl) (fun Γ C hq => ?_)
  unfold F_X1_fewestFrom at hF
  show V Δ Γ 7 0 [(0, rf Δ (x0)), (1, rf Δ (x1)), (2, .int (x2)), (3, .int (x3))] [] σ
  refine v_ldc C (1000000) kc_X1_27 dX1_fewestFrom_0 ?_
  refine v_istore C 4 (ll' := [(4, _), (0, _), (1, _), (2, _), (3, _)]) dX1_fewestFrom_2 (by decide) rfl ?_
  refine v_iconst C (-1) dX1_fewestFrom_4 (by decide) ?_
  refine v_istore C 5 (ll' := [(5, _), (4, _), (0, _), (1, _), (2, _), (3, _)]) dX1_fewestFrom_5 (by decide) rfl ?_
  refine v_sub [2, 3, 4, 5, 1, 0] (ll' := [(0, _), (1, _), (2, _), (3, _), (4, _), (5, _)]) rfl ?_
  exact W_X1_fewestFrom_7 C hq hrec h0 hd hF
set_option maxRecDepth 20000 in
set_option maxHeartbeats 2000000 in
theorem M_X7_has {Δ : DD} {d : Nat} {x0 : Nat} {x1 : Int32} {σ : Mem} {q : Int32} (hd : 1 ≤ d) (h0 : isK 7 x0 = true) (hF : F_X7_has x0 x1 σ = some q) : Mt Δ d yX7_has cX7_has 2 (some .boolean) [rf Δ x0, .int x1] σ (some (.int q)) σ := by
  obtain ⟨d, rfl⟩ : ∃ e, d = e + 1 := ⟨d - 1, by omega⟩
  have hd : 0 ≤ d := by omega
  refine mt_of (by decide) rfl (Nat.le_of_ble_eq_true rfl) (fun Γ C hq => ?_)
  unfold F_X7_has at hF
  show V Δ Γ 2 0 [(0, rf Δ (x0)), (1, .int (x1))] [] σ
  refine v_iload_n C 1 1 dX7_has_0 rfl rfl ?_
  refine v_if_lt C 16 dX7_has_1 (by decide) (fun c1 => ?_) (fun c1 => ?_)
  · have hF := ifp hF c1
    refine v_iconst C (0) dX7_has_16 (by decide) ?_
    exact v_zretP C hq (Option.some.inj hF) rfl dX7_has_17
  · have hF := ifn hF c1
    refine v_iload_n C 1 1 dX7_has_4 rfl rfl ?_
    refine v_aload_n C 0 0 dX7_has_5 rfl rfl ?_
    obtain ⟨v3, g2, hF⟩ := bnd hF
    refine v_gI C fu_X7_37 g2 dX7_has_6 ?_
    refine v_icmp_ge C 16 dX7_has_9 (by decide) (fun c4 => ?_) (fun c4 => ?_)
    · have hF := ifp hF c4
      refine v_iconst C (0) dX7_has_16 (by decide) ?_
      exact v_zretP C hq (Option.some.inj hF) rfl dX7_has_17
    · have hF := ifn hF c4
      refine v_iconst C (1) dX7_has_12 (by decide) ?_
      refine v_goto C 17 dX7_has_13 (by decide) ?_
      exact v_zretP C hq (Option.some.inj hF) rfl dX7_has_17
set_option maxRecDepth 20000 in
set_option maxHeartbeats 2000000 in
theorem M_X7_wouldBeFound {Δ : DD} {d : Nat} {x0 : Nat} {x1 : Int32} {σ : Mem} {q : Int32} (hd : 2 ≤ d) (h0 : isK 7 x0 = true) (hF : F_X7_wouldBeFound x0 x1 σ = some q) : Mt Δ d yX7_wouldBeFound cX7_wouldBeFound 2 (some .boolean) [rf Δ x0, .int x1] σ (some (.int q)) σ := by
  obtain ⟨d, rfl⟩ : ∃ e, d = e + 1 := ⟨d - 1, by omega⟩
  have hd : 1 ≤ d := by omega
  refine mt_of (by decide) rfl (Nat.le_of_ble_eq_true rfl) (fun Γ C hq => ?_)
  unfold F_X7_wouldBeFound at hF
  show V Δ Γ 2 0 [(0, rf Δ (x0)), (1, .int (x1))] [] σ
  refine v_aload_n C 0 0 dX7_wouldBeFound_0 rfl rfl ?_
  refine v_iload_n C 1 1 dX7_wouldBeFound_1 rfl rfl ?_
  obtain ⟨q1, g2, hF⟩ := bnd hF
  refine v_cVi C mw_X7_has lk_X7_83 _ (M_X7_has (by omega) h0 g2) h0 rfl rfl (Nat.le_of_ble_eq_true rfl) dX7_wouldBeFound_2 ?_
  refine v_if_eq C 27 dX7_wouldBeFound_5 (by decide) (fun c3 => ?_) (fun c3 => ?_)
  · have hF := ifp hF c3
    refine v_iconst C (0) dX7_wouldBeFound_27 (by decide) ?_
    exact v_zretP C hq (Option.some.inj hF) rfl dX7_wouldBeFound_28
  · have hF := ifn hF c3
    refine v_aload_n C 0 0 dX7_wouldBeFound_8 rfl rfl ?_
    obtain ⟨p5, g4, hF⟩ := bnd hF
    refine v_gR C fu_X7_27 g4 dX7_wouldBeFound_9 ?_
    refine v_iload_n C 1 1 dX7_wouldBeFound_12 rfl rfl ?_
    obtain ⟨q6, g7, hF⟩ := bnd hF
    refine v_cSi C mw_X8_read lk_X7_47 _ (M_X8_read (by omega) g7) rfl rfl (Nat.le_of_ble_eq_true rfl) dX7_wouldBeFound_13 ?_
    refine v_aload_n C 0 0 dX7_wouldBeFound_16 rfl rfl ?_
    obtain ⟨v9, g8, hF⟩ := bnd hF
    refine v_gI C fu_X7_33 g8 dX7_wouldBeFound_17 ?_
    refine v_icmp_lt C 27 dX7_wouldBeFound_20 (by decide) (fun c10 => ?_) (fun c10 => ?_)
    · have hF := ifp hF c10
      refine v_iconst C (0) dX7_wouldBeFound_27 (by decide) ?_
      exact v_zretP C hq (Option.some.inj hF) rfl dX7_wouldBeFound_28
    · have hF := ifn hF c10
      refine v_iconst C (1) dX7_wouldBeFound_23 (by decide) ?_
      refine v_goto C 28 dX7_wouldBeFound_24 (by decide) ?_
      exact v_zretP C hq (Option.some.inj hF) rfl dX7_wouldBeFound_28
set_option maxRecDepth 20000 in
set_option maxHeartbeats 2000000 in
theorem M_X7_inspectBed {Δ : DD} {d : Nat} {x0 : Nat} {x1 : Int32} {σ : Mem} {q : (Int32 × Mem)} (hd : 3 ≤ d) (h0 : isK 7 x0 = true) (hF : F_X7_inspectBed x0 x1 σ = some q) : Mt Δ d yX7_inspectBed cX7_inspectBed 3 (some .int) [rf Δ x0, .int x1] σ (some (.int q.1)) q.2 := by
  obtain ⟨d, rfl⟩ : ∃ e, d = e + 1 := ⟨d - 1, by omega⟩
  have hd : 2 ≤ d := by omega
  refine mt_of (by decide) rfl (Nat.le_of_ble_eq_true rfl) (fun Γ C hq => ?_)
  unfold F_X7_inspectBed at hF
  show V Δ Γ 3 0 [(0, rf Δ (x0)), (1, .int (x1))] [] σ
  refine v_aload_n C 0 0 dX7_inspectBed_0 rfl rfl ?_
  refine v_iload_n C 1 1 dX7_inspectBed_1 rfl rfl ?_
  obtain ⟨q1, g2, hF⟩ := bnd hF
  refine v_cVi C mw_X7_wouldBeFound lk_X7_87 _ (M_X7_wouldBeFound (by omega) h0 g2) h0 rfl rfl (Nat.le_of_ble_eq_true rfl) dX7_inspectBed_2 ?_
  refine v_if_ne C 10 dX7_inspectBed_5 (by decide) (fun c3 => ?_) (fun c3 => ?_)
  · have hF := ifn hF c3
    refine v_aload_n C 0 0 dX7_inspectBed_10 rfl rfl ?_
    refine v_iload_n C 1 1 dX7_inspectBed_11 rfl rfl ?_
    obtain ⟨q4, g5, hF⟩ := bnd hF
    refine v_cVi C mw_X7_liesIn lk_X7_74 _ (M_X7_liesIn (by omega) h0 g5) h0 rfl rfl (Nat.le_of_ble_eq_true rfl) dX7_inspectBed_12 ?_
    refine v_istore_n C 2 (ll' := [(2, _), (0, _), (1, _)]) dX7_inspectBed_15 rfl (by decide) rfl ?_
    refine v_aload_n C 0 1 dX7_inspectBed_16 rfl rfl ?_
    obtain ⟨p7, g6, hF⟩ := bnd hF
    refine v_gR C fu_X7_27 g6 dX7_inspectBed_17 ?_
    refine v_iload_n C 1 2 dX7_inspectBed_20 rfl rfl ?_
    refine v_iconst C (0) dX7_inspectBed_21 (by decide) ?_
    obtain ⟨q8, g9, hF⟩ := bnd hF
    refine v_cSv C mw_X8_write lk_X7_117 _ (M_X8_write (by omega) g9) rfl rfl (Nat.le_of_ble_eq_true rfl) dX7_inspectBed_22 ?_
    refine v_aload_n C 0 1 dX7_inspectBed_25 rfl rfl ?_
    obtain ⟨p11, g10, hF⟩ := bnd hF
    refine v_gR C fu_X7_24 g10 dX7_inspectBed_26 ?_
    refine v_iload_n C 1 2 dX7_inspectBed_29 rfl rfl ?_
    refine v_bipush C (9) dX7_inspectBed_30 (by decide) ?_
    obtain ⟨q12, g13, hF⟩ := bnd hF
    refine v_cSv C mw_X8_write lk_X7_117 _ (M_X8_write (by omega) g13) rfl rfl (Nat.le_of_ble_eq_true rfl) dX7_inspectBed_32 ?_
    refine v_aload_n C 0 1 dX7_inspectBed_35 rfl rfl ?_
    obtain ⟨p15, g14, hF⟩ := bnd hF
    refine v_gR C fu_X7_30 g14 dX7_inspectBed_36 ?_
    refine v_iload_n C 1 2 dX7_inspectBed_39 rfl rfl ?_
    refine v_aload_n C 0 1 dX7_inspectBed_40 rfl rfl ?_
    obtain ⟨p17, g16, hF⟩ := bnd hF
    refine v_gR C fu_X7_30 g16 dX7_inspectBed_41 ?_
    refine v_iload_n C 1 2 dX7_inspectBed_44 rfl rfl ?_
    obtain ⟨q18, g19, hF⟩ := bnd hF
    refine v_cSi C mw_X8_read lk_X7_47 _ (M_X8_read (by omega) g19) rfl rfl (Nat.le_of_ble_eq_true rfl) dX7_inspectBed_45 ?_
    refine v_iconst C (1) dX7_inspectBed_48 (by decide) ?_
    refine v_iadd C dX7_inspectBed_49 ?_
    obtain ⟨q20, g21, hF⟩ := bnd hF
    refine v_cSv C mw_X8_write lk_X7_117 _ (M_X8_write (by omega) g21) rfl rfl (Nat.le_of_ble_eq_true rfl) dX7_inspectBed_50 ?_
    refine v_iload_n C 2 0 dX7_inspectBed_53 rfl rfl ?_
    exact v_iretF C hq (Option.some.inj hF) dX7_inspectBed_54
  · have hF := ifp hF c3
    refine v_iconst C (0) dX7_inspectBed_8 (by decide) ?_
    exact v_iretF C hq (Option.some.inj hF) dX7_inspectBed_9
def K_X1_mostFrom_6 (Δ : DD) (Γ : GG) (q : (Int32 × Mem)) (x0 : Nat) (x1 : Nat) (x2 : Int32) (x3 : Int32) (y : (Int32 × Int32 × Mem) ⊕ (Int32 × Mem)) : Prop := match y with
  | .inl s => V Δ Γ 8 6 [(0, rf Δ (x0)), (1, rf Δ (x1)), (2, .int (x2)), (3, .int (x3)), (4, .int (s.1)), (5, .int (s.2.1))] [] s.2.2
  | .inr t => (t = q)
set_option maxRecDepth 20000 in
set_option maxHeartbeats 2000000 in
theorem W_X1_mostFrom_29 {Δ : DD} {Γ : GG} {d : Nat} {rec : Nat → Nat → Int32 → Int32 → Mem → Option (Int32 × Mem)} {q : (Int32 × Mem)} {x0 : Nat} {x1 : Nat} {x2 : Int32} {x3 : Int32} {x4 : Int32} {x5 : Int32}  {σ : Mem} {y : ((Int32 × Int32 × Mem) ⊕ (Int32 × Mem))} (C : Cx Δ Γ RX1 cX1_mostFrom 8 d (some .int)) (hq : RetQ Δ Γ (some (.int q.1)) q.2) (hrec : ∀ {k : Nat} {a0 : Nat} {a1 : Int32} {a2 : Int32} {μ : Mem} {r : (Int32 × Mem)}, isK 1 k = true → rec k a0 a1 a2 μ = some r → Mt Δ d yX1_foundFrom cX1_foundFrom 4 (some .int) [rf Δ k, rf Δ a0, .int a1, .int a2] μ (some (.int r.1)) r.2) (h0 : isK 1 x0 = true) (hd : 3 ≤ d) (hF : F_X1_mostFrom_29 rec x0 x1 x2 x3 x4 x5  σ = some y) (hK : (K_X1_mostFrom_6 Δ Γ q x0 x1 x2 x3 y)) : V Δ Γ 8 29 [(0, rf Δ (x0)), (1, rf Δ (x1)), (2, .int (x2)), (3, .int (x3)), (4, .int (x4)), (5, .int (x5))] [] σ := by
  unfold F_X1_mostFrom_29 at hF
  refine v_aload_n C 0 0 dX1_mostFrom_29 rfl rfl ?_
  obtain ⟨p10, g9, hF⟩ := bnd hF
  refine v_gR C fu_X1_14 g9 dX1_mostFrom_30 ?_
  refine v_iload_n C 2 2 dX1_mostFrom_33 rfl rfl ?_
  refine v_aload_n C 1 1 dX1_mostFrom_34 rfl rfl ?_
  obtain ⟨_, g11, hF⟩ := bnd hF
  obtain ⟨q12, g13, hF⟩ := bnd hF
  obtain ⟨o14, m15⟩ := q12
  cases o14 with
  | none =>
    refine v_cVN C mw_X2_copyAt lk_X1_38 _ (M_X2_copyAt (by omega) (chk_k g11) g13) (chk_k g11) rfl rfl (Nat.le_of_ble_eq_true rfl) dX1_mostFrom_35 ?_
    refine v_astoreN C 6 (ll' := [(6, _), (0, _), (1, _), (2, _), (3, _), (4, _), (5, _)]) dX1_mostFrom_38 (by decide) rfl ?_
    refine v_aloadN C 6 0 dX1_mostFrom_40 rfl ?_
    refine v_ifnullN C 74 dX1_mostFrom_42 (by decide) ?_
    refine v_iinc C (_ + (1 : Int32)) 6 (ll' := [(5, _), (6, _), (0, _), (1, _), (2, _), (3, _), (4, _)]) dX1_mostFrom_74 rfl (inc_eq (by decide)) (by decide) rfl ?_
    refine v_goto C 6 dX1_mostFrom_77 (by decide) ?_
    refine v_sub [2, 3, 4, 5, 6, 0] (ll' := [(0, _), (1, _), (2, _), (3, _), (4, _), (5, _)]) rfl ?_
    cases hF
    exact hK
  | some p16 =>
    refine v_cVR C mw_X2_copyAt lk_X1_38 _ (M_X2_copyAt (by omega) (chk_k g11) g13) (chk_k g11) rfl rfl (Nat.le_of_ble_eq_true rfl) dX1_mostFrom_35 ?_
    refine v_astore C 6 (ll' := [(6, _), (0, _), (1, _), (2, _), (3, _), (4, _), (5, _)]) dX1_mostFrom_38 (by decide) rfl ?_
    refine v_aload C 6 0 dX1_mostFrom_40 rfl ?_
    refine v_ifnull C dX1_mostFrom_42 ?_
    refine v_aload C 6 0 dX1_mostFrom_45 rfl ?_
    refine v_iload C 5 6 dX1_mostFrom_47 rfl ?_
    obtain ⟨_, g17, hF⟩ := bnd hF
    obtain ⟨q18, g19, hF⟩ := bnd hF
    refine v_cVi C mw_X7_inspectBed lk_X1_63 _ (M_X7_inspectBed (by omega) (chk_k g17) g19) (chk_k g17) rfl rfl (Nat.le_of_ble_eq_true rfl) dX1_mostFrom_49 ?_
    refine v_istore C 7 (ll' := [(7, _), (6, _), (0, _), (1, _), (2, _), (3, _), (4, _), (5, _)]) dX1_mostFrom_52 (by decide) rfl ?_
    refine v_iload C 4 6 dX1_mostFrom_54 rfl ?_
    refine v_iload C 7 0 dX1_mostFrom_56 rfl ?_
    refine v_aload_n C 0 2 dX1_mostFrom_58 rfl rfl ?_
    refine v_aload C 6 1 dX1_mostFrom_59 rfl ?_
    refine v_iload_n C 2 4 dX1_mostFrom_61 rfl rfl ?_
    refine v_iconst C (1) dX1_mostFrom_62 (by decide) ?_
    refine v_iadd C dX1_mostFrom_63 ?_
    refine v_iload_n C 3 5 dX1_mostFrom_64 rfl rfl ?_
    obtain ⟨q20, g21, hF⟩ := bnd hF
    refine v_cVi C mw_X1_foundFrom lk_X1_50 _ (hrec h0 g21) h0 rfl rfl (Nat.le_of_ble_eq_true rfl) dX1_mostFrom_65 ?_
    refine v_iadd C dX1_mostFrom_68 ?_
    refine v_max C ml_X1_66 mm_max_s mm_i mm_max_c (Nat.le_of_ble_eq_true rfl) dX1_mostFrom_69 ?_
    refine v_istore C 4 (ll' := [(4, _), (7, _), (6, _), (0, _), (1, _), (2, _), (3, _), (5, _)]) dX1_mostFrom_72 (by decide) rfl ?_
    refine v_iinc C (_ + (1 : Int32)) 7 (ll' := [(5, _), (4, _), (7, _), (6, _), (0, _), (1, _), (2, _), (3, _)]) dX1_mostFrom_74 rfl (inc_eq (by decide)) (by decide) rfl ?_
    refine v_goto C 6 dX1_mostFrom_77 (by decide) ?_
    refine v_sub [4, 5, 6, 7, 1, 0] (ll' := [(0, _), (1, _), (2, _), (3, _), (4, _), (5, _)]) rfl ?_
    cases hF
    exact hK
set_option maxRecDepth 20000 in
set_option maxHeartbeats 2000000 in
theorem W_X1_mostFrom_6 {Δ : DD} {Γ : GG} {d : Nat} {rec : Nat → Nat → Int32 → Int32 → Mem → Option (Int32 × Mem)} {q : (Int32 × Mem)} {x0 : Nat} {x1 : Nat} {x2 : Int32} {x3 : Int32} (C : Cx Δ Γ RX1 cX1_mostFrom 8 d (some .int)) (hq : RetQ Δ Γ (some (.int q.1)) q.2) (hrec : ∀ {k : Nat} {a0 : Nat} {a1 : Int32} {a2 : Int32} {μ : Mem} {r : (Int32 × Mem)}, isK 1 k = true → rec k a0 a1 a2 μ = some r → Mt Δ d yX1_foundFrom cX1_foundFrom 4 (some .int) [rf Δ k, rf Δ a0, .int a1, .int a2] μ (some (.int r.1)) r.2) (h0 : isK 1 x0 = true) (hd : 3 ≤ d) {s : Int32 × Int32 × Mem} (hF : F_X1_mostFrom_6 rec x0 x1 x2 x3  s = some q) : V Δ Γ 8 6 [(0, rf Δ (x0)), (1, rf Δ (x1)), (2, .int (x2)), (3, .int (x3)), (4, .int (s.1)), (5, .int (s.2.1))] [] s.2.2 := by
  have hF : F_X1_mostFrom_6 rec x0 x1 x2 x3  s = some q := hF
  refine lp_V (W := fun (s : Int32 × Int32 × Mem) => V Δ Γ 8 6 [(0, rf Δ (x0)), (1, rf Δ (x1)), (2, .int (x2)), (3, .int (x3)), (4, .int (s.1)), (5, .int (s.2.1))] [] s.2.2) (K := fun t => t = q) (K' := K_X1_mostFrom_6 Δ Γ q x0 x1 x2 x3 ) (fun _ h => h) (fun _ h => h) ?_ s q hF rfl
  clear hF
  intro s z hF hK
  refine v_iload C 5 5 dX1_mostFrom_6 rfl ?_
  refine v_aload_n C 1 1 dX1_mostFrom_8 rfl rfl ?_
  obtain ⟨v2, g1, hF⟩ := bnd hF
  refine v_gI C fu_X1_28 g1 dX1_mostFrom_9 ?_
  refine v_icmp_ge C 80 dX1_mostFrom_12 (by decide) (fun c3 => ?_) (fun c3 => ?_)
  · have hF := ifp hF c3
    refine v_iload C 4 4 dX1_mostFrom_80 rfl ?_
    cases hF
    exact v_iretF C hq hK dX1_mostFrom_82
  · have hF := ifn hF c3
    refine v_iload C 5 5 dX1_mostFrom_15 rfl ?_
    refine v_if_lt C 29 dX1_mostFrom_17 (by decide) (fun c4 => ?_) (fun c4 => ?_)
    · have hF := ifp hF c4
      exact W_X1_mostFrom_29 C hq hrec h0 hd hF hK
    · have hF := ifn hF c4
      refine v_aload_n C 1 1 dX1_mostFrom_20 rfl rfl ?_
      refine v_iload C 5 5 dX1_mostFrom_21 rfl ?_
      obtain ⟨_, g5, hF⟩ := bnd hF
      obtain ⟨q6, g7, hF⟩ := bnd hF
      refine v_cVi C mw_X7_wouldBeFound lk_X1_59 _ (M_X7_wouldBeFound (by omega) (chk_k g5) g7) (chk_k g5) rfl rfl (Nat.le_of_ble_eq_true rfl) dX1_mostFrom_23 ?_
      refine v_if_eq C 74 dX1_mostFrom_26 (by decide) (fun c8 => ?_) (fun c8 => ?_)
      · have hF := ifp hF c8
        refine v_iinc C (_ + (1 : Int32)) 5 (ll' := [(5, _), (0, _), (1, _), (2, _), (3, _), (4, _)]) dX1_mostFrom_74 rfl (inc_eq (by decide)) (by decide) rfl ?_
        refine v_goto C 6 dX1_mostFrom_77 (by decide) ?_
        refine v_sub [1, 2, 3, 4, 5, 0] (ll' := [(0, _), (1, _), (2, _), (3, _), (4, _), (5, _)]) rfl ?_
        cases hF
        exact hK
      · have hF := ifn hF c8
        exact W_X1_mostFrom_29 C hq hrec h0 hd hF hK
set_option maxRecDepth 20000 in
set_option maxHeartbeats 2000000 in
theorem M_X1_mostFrom {Δ : DD} {d : Nat} {rec : Nat → Nat → Int32 → Int32 → Mem → Option (Int32 × Mem)} {x0 : Nat} {x1 : Nat} {x2 : Int32} {x3 : Int32} {σ : Mem} {q : (Int32 × Mem)} (hd : 3 + 1 ≤ d) (hrec : ∀ {k : Nat} {a0 : Nat} {a1 : Int32} {a2 : Int32} {μ : Mem} {r : (Int32 × Mem)}, isK 1 k = true → rec k a0 a1 a2 μ = some r → Mt Δ (d - 1) yX1_foundFrom cX1_foundFrom 4 (some .int) [rf Δ k, rf Δ a0, .int a1, .int a2] μ (some (.int r.1)) r.2) (h0 : isK 1 x0 = true) (hF : F_X1_mostFrom rec x0 x1 x2 x3 σ = some q) : Mt Δ d yX1_mostFrom cX1_mostFrom 8 (some .int) [rf Δ x0, rf Δ x1, .int x2, .int x3] σ (some (.int q.1)) q.2 := by
  obtain ⟨d, rfl⟩ : ∃ e, d = e + 1 := ⟨d - 1, by omega⟩
  rw [Nat.add_sub_cancel] at hrec
  have hd : 3 ≤ d := by omega
  refine mt_of (by decide) rfl (Nat.le_of_ble_eq_true rfl) (fun Γ C hq => ?_)
  unfold F_X1_mostFrom at hF
  show V Δ Γ 8 0 [(0, rf Δ (x0)), (1, rf Δ (x1)), (2, .int (x2)), (3, .int (x3))] [] σ
  refine v_iconst C (0) dX1_mostFrom_0 (by decide) ?_
  refine v_istore C 4 (ll' := [(4, _), (0, _), (1, _), (2, _), (3, _)]) dX1_mostFrom_1 (by decide) rfl ?_
  refine v_iconst C (-1) dX1_mostFrom_3 (by decide) ?_
  refine v_istore C 5 (ll' := [(5, _), (4, _), (0, _), (1, _), (2, _), (3, _)]) dX1_mostFrom_4 (by decide) rfl ?_
  refine v_sub [2, 3, 4, 5, 1, 0] (ll' := [(0, _), (1, _), (2, _), (3, _), (4, _), (5, _)]) rfl ?_
  exact W_X1_mostFrom_6 C hq hrec h0 hd hF
set_option maxRecDepth 20000 in
set_option maxHeartbeats 2000000 in
theorem N_X1_foundFrom {Δ : DD} {d : Nat} {rec : Nat → Nat → Int32 → Int32 → Mem → Option (Int32 × Mem)} {x0 : Nat} {x1 : Nat} {x2 : Int32} {x3 : Int32} {σ : Mem} {q : (Int32 × Mem)} (hd : 5 + 1 ≤ d) (hrec : ∀ {k : Nat} {a0 : Nat} {a1 : Int32} {a2 : Int32} {μ : Mem} {r : (Int32 × Mem)}, isK 1 k = true → rec k a0 a1 a2 μ = some r → Mt Δ (d - 2) yX1_foundFrom cX1_foundFrom 4 (some .int) [rf Δ k, rf Δ a0, .int a1, .int a2] μ (some (.int r.1)) r.2) (h0 : isK 1 x0 = true) (hF : B_X1_foundFrom rec x0 x1 x2 x3 σ = some q) : Mt Δ d yX1_foundFrom cX1_foundFrom 4 (some .int) [rf Δ x0, rf Δ x1, .int x2, .int x3] σ (some (.int q.1)) q.2 := by
  obtain ⟨d, rfl⟩ : ∃ e, d = e + 1 := ⟨d - 1, by omega⟩
  rw [show d + 1 - 2 = d - 1 from rfl] at hrec
  have hd : 5 ≤ d := by omega
  refine mt_of (by decide) rfl (Nat.le_of_ble_eq_true rfl) (fun Γ C hq => ?_)
  unfold B_X1_foundFrom at hF
  show V Δ Γ 4 0 [(0, rf Δ (x0)), (1, rf Δ (x1)), (2, .int (x2)), (3, .int (x3))] [] σ
  refine v_iload_n C 2 2 dX1_foundFrom_0 rfl rfl ?_
  refine v_iload_n C 3 3 dX1_foundFrom_1 rfl rfl ?_
  refine v_icmp_lt C 7 dX1_foundFrom_2 (by decide) (fun c1 => ?_) (fun c1 => ?_)
  · have hF := ifp hF c1
    refine v_iload_n C 2 2 dX1_foundFrom_7 rfl rfl ?_
    refine v_iconst C (2) dX1_foundFrom_8 (by decide) ?_
    refine v_irem C dX1_foundFrom_9 (by decide) ?_
    refine v_if_ne C 23 dX1_foundFrom_10 (by decide) (fun c2 => ?_) (fun c2 => ?_)
    · have hF := ifn hF c2
      refine v_aload_n C 0 0 dX1_foundFrom_23 rfl rfl ?_
      refine v_aload_n C 1 1 dX1_foundFrom_24 rfl rfl ?_
      refine v_iload_n C 2 2 dX1_foundFrom_25 rfl rfl ?_
      refine v_iload_n C 3 3 dX1_foundFrom_26 rfl rfl ?_
      obtain ⟨q3, g4, hF⟩ := bnd hF
      refine v_cVi C mw_X1_mostFrom lk_X1_24 _ (M_X1_mostFrom (by omega) hrec h0 g4) h0 rfl rfl (Nat.le_of_ble_eq_true rfl) dX1_foundFrom_27 ?_
      exact v_iretF C hq (Option.some.inj hF) dX1_foundFrom_30
    · have hF := ifp hF c2
      refine v_aload_n C 0 0 dX1_foundFrom_13 rfl rfl ?_
      refine v_aload_n C 1 1 dX1_foundFrom_14 rfl rfl ?_
      refine v_iload_n C 2 2 dX1_foundFrom_15 rfl rfl ?_
      refine v_iload_n C 3 3 dX1_foundFrom_16 rfl rfl ?_
      obtain ⟨q5, g6, hF⟩ := bnd hF
      refine v_cVi C mw_X1_fewestFrom lk_X1_20 _ (M_X1_fewestFrom (by omega) hrec h0 g6) h0 rfl rfl (Nat.le_of_ble_eq_true rfl) dX1_foundFrom_17 ?_
      refine v_goto C 30 dX1_foundFrom_20 (by decide) ?_
      exact v_iretF C hq (Option.some.inj hF) dX1_foundFrom_30
  · have hF := ifn hF c1
    refine v_iconst C (0) dX1_foundFrom_5 (by decide) ?_
    exact v_iretF C hq (Option.some.inj hF) dX1_foundFrom_6
set_option maxRecDepth 20000 in
set_option maxHeartbeats 2000000 in
theorem M_X1_foundFrom {Δ : DD} : ∀ (n : Nat) {d : Nat} {x0 : Nat} {x1 : Nat} {x2 : Int32} {x3 : Int32} {σ : Mem} {q : (Int32 × Mem)}, 7 + 2 * n ≤ d → isK 1 x0 = true → F_X1_foundFrom n x0 x1 x2 x3 σ = some q → Mt Δ d yX1_foundFrom cX1_foundFrom 4 (some .int) [rf Δ (x0), rf Δ (x1), .int (x2), .int (x3)] σ (some (.int q.1)) q.2
  | 0, _, _, _, _, _, _, _, _, _, h => by cases h
  | n + 1, d, _, _, _, _, _, _, hd, h0, h => N_X1_foundFrom (by omega) (fun k1 h1 => M_X1_foundFrom n (by omega) k1 h1) h0 h
set_option maxRecDepth 20000 in
set_option maxHeartbeats 2000000 in
theorem M_X7_crossesWith {Δ : DD} {d : Nat} {x0 : Nat} {x1 : Int32} {x2 : Int32} {σ : Mem} {q : Int32} (hd : 3 ≤ d) (h0 : isK 7 x0 = true) (hF : F_X7_crossesWith x0 x1 x2 σ = some q) : Mt Δ d yX7_crossesWith cX7_crossesWith 3 (some .int) [rf Δ x0, .int x1, .int x2] σ (some (.int q)) σ := by
  obtain ⟨d, rfl⟩ : ∃ e, d = e + 1 := ⟨d - 1, by omega⟩
  have hd : 2 ≤ d := by omega
  refine mt_of (by decide) rfl (Nat.le_of_ble_eq_true rfl) (fun Γ C hq => ?_)
  unfold F_X7_crossesWith at hF
  show V Δ Γ 3 0 [(0, rf Δ (x0)), (1, .int (x1)), (2, .int (x2))] [] σ
  refine v_aload_n C 0 0 dX7_crossesWith_0 rfl rfl ?_
  refine v_iload_n C 1 1 dX7_crossesWith_1 rfl rfl ?_
  obtain ⟨q1, g2, hF⟩ := bnd hF
  refine v_cVi C mw_X7_kindOf lk_X7_57 _ (M_X7_kindOf (by omega) h0 g2) h0 rfl rfl (Nat.le_of_ble_eq_true rfl) dX7_crossesWith_2 ?_
  refine v_aload_n C 0 0 dX7_crossesWith_5 rfl rfl ?_
  refine v_iload_n C 1 1 dX7_crossesWith_6 rfl rfl ?_
  refine v_iload_n C 2 2 dX7_crossesWith_7 rfl rfl ?_
  obtain ⟨q3, g4, hF⟩ := bnd hF
  refine v_cVi C mw_X7_gapWith lk_X7_60 _ (M_X7_gapWith (by omega) h0 g4) h0 rfl rfl (Nat.le_of_ble_eq_true rfl) dX7_crossesWith_8 ?_
  refine v_aload_n C 0 0 dX7_crossesWith_11 rfl rfl ?_
  refine v_iload_n C 1 1 dX7_crossesWith_12 rfl rfl ?_
  obtain ⟨q5, g6, hF⟩ := bnd hF
  refine v_cVi C mw_X7_thickOf lk_X7_64 _ (M_X7_thickOf (by omega) h0 g6) h0 rfl rfl (Nat.le_of_ble_eq_true rfl) dX7_crossesWith_13 ?_
  refine v_aload_n C 0 0 dX7_crossesWith_16 rfl rfl ?_
  obtain ⟨v8, g7, hF⟩ := bnd hF
  refine v_gI C fu_X7_40 g7 dX7_crossesWith_17 ?_
  refine v_aload_n C 0 0 dX7_crossesWith_20 rfl rfl ?_
  refine v_aload_n C 0 0 dX7_crossesWith_21 rfl rfl ?_
  obtain ⟨v10, g9, hF⟩ := bnd hF
  refine v_gI C fu_X7_40 g9 dX7_crossesWith_22 ?_
  obtain ⟨q11, g12, hF⟩ := bnd hF
  refine v_cVi C mw_X7_coldOf lk_X7_67 _ (M_X7_coldOf (by omega) h0 g12) h0 rfl rfl (Nat.le_of_ble_eq_true rfl) dX7_crossesWith_25 ?_
  obtain ⟨q13, g14, hF⟩ := bnd hF
  refine v_cSi C mw_X8_crossing lk_X7_70 _ (M_X8_crossing (by omega) g14) rfl rfl (Nat.le_of_ble_eq_true rfl) dX7_crossesWith_28 ?_
  exact v_iretP C hq (Option.some.inj hF) dX7_crossesWith_31
def K_X3_giveEach_3 (Δ : DD) (Γ : GG) (q : Mem) (x0 : Nat) (x1 : Nat) (x2 : Int32) (x3 : Int32) (x4 : Int32) (y : (Int32 × Mem) ⊕ Mem) : Prop := match y with
  | .inl s => V Δ Γ 6 3 [(0, rf Δ (x0)), (1, rf Δ (x1)), (2, .int (x2)), (3, .int (x3)), (4, .int (x4)), (5, .int (s.1))] [] s.2
  | .inr t => (t = q)
set_option maxRecDepth 20000 in
set_option maxHeartbeats 2000000 in
theorem W_X3_giveEach_3 {Δ : DD} {Γ : GG} {d : Nat} {rec : Nat → Nat → Int32 → Int32 → Int32 → Mem → Option Mem} {q : Mem} {x0 : Nat} {x1 : Nat} {x2 : Int32} {x3 : Int32} {x4 : Int32} (C : Cx Δ Γ RX3 cX3_giveEach 6 d none) (hq : RetQ Δ Γ none q) (hrec : ∀ {k : Nat} {a0 : Nat} {a1 : Int32} {a2 : Int32} {a3 : Int32} {μ : Mem} {r : Mem}, isK 3 k = true → rec k a0 a1 a2 a3 μ = some r → Mt Δ d yX3_give cX3_give 5 none [rf Δ k, rf Δ a0, .int a1, .int a2, .int a3] μ none r) (h0 : isK 3 x0 = true) (hd : 3 ≤ d) {s : Int32 × Mem} (hF : F_X3_giveEach_3 rec x0 x1 x2 x3 x4  s = some q) : V Δ Γ 6 3 [(0, rf Δ (x0)), (1, rf Δ (x1)), (2, .int (x2)), (3, .int (x3)), (4, .int (x4)), (5, .int (s.1))] [] s.2 := by
  have hF : F_X3_giveEach_3 rec x0 x1 x2 x3 x4  s = some q := hF
  refine lp_V (W := fun (s : Int32 × Mem) => V Δ Γ 6 3 [(0, rf Δ (x0)), (1, rf Δ (x1)), (2, .int (x2)), (3, .int (x3)), (4, .int (x4)), (5, .int (s.1))] [] s.2) (K := fun t => t = q) (K' := K_X3_giveEach_3 Δ Γ q x0 x1 x2 x3 x4 ) (fun _ h => h) (fun _ h => h) ?_ s q hF rfl
  clear hF
  intro s z hF hK
  refine v_iload C 5 5 dX3_giveEach_3 rfl ?_
  refine v_aload_n C 1 1 dX3_giveEach_5 rfl rfl ?_
  obtain ⟨v2, g1, hF⟩ := bnd hF
  refine v_gI C fu_X3_27 g1 dX3_giveEach_6 ?_
  refine v_icmp_ge C 61 dX3_giveEach_9 (by decide) (fun c3 => ?_) (fun c3 => ?_)
  · have hF := ifp hF c3
    cases hF
    exact v_vretF C hq hK dX3_giveEach_61
  · have hF := ifn hF c3
    refine v_iload_n C 3 3 dX3_giveEach_12 rfl rfl ?_
    refine v_iload C 5 5 dX3_giveEach_13 rfl ?_
    refine v_ishr C dX3_giveEach_15 ?_
    refine v_iconst C (1) dX3_giveEach_16 (by decide) ?_
    refine v_iand C dX3_giveEach_17 ?_
    refine v_if_ne C 55 dX3_giveEach_18 (by decide) (fun c4 => ?_) (fun c4 => ?_)
    · have hF := ifn hF c4
      refine v_iinc C (_ + (1 : Int32)) 5 (ll' := [(5, _), (0, _), (1, _), (2, _), (3, _), (4, _)]) dX3_giveEach_55 rfl (inc_eq (by decide)) (by decide) rfl ?_
      refine v_goto C 3 dX3_giveEach_58 (by decide) ?_
      refine v_sub [1, 2, 3, 4, 5, 0] (ll' := [(0, _), (1, _), (2, _), (3, _), (4, _), (5, _)]) rfl ?_
      cases hF
      exact hK
    · have hF := ifp hF c4
      refine v_aload_n C 0 0 dX3_giveEach_21 rfl rfl ?_
      obtain ⟨p6, g5, hF⟩ := bnd hF
      refine v_gR C fu_X3_15 g5 dX3_giveEach_22 ?_
      refine v_iload_n C 2 2 dX3_giveEach_25 rfl rfl ?_
      refine v_iload C 5 5 dX3_giveEach_26 rfl ?_
      obtain ⟨q7, g8, hF⟩ := bnd hF
      refine v_cSv C mw_X8_write lk_X3_39 _ (M_X8_write (by omega) g8) rfl rfl (Nat.le_of_ble_eq_true rfl) dX3_giveEach_28 ?_
      refine v_aload_n C 0 0 dX3_giveEach_31 rfl rfl ?_
      refine v_aload_n C 1 1 dX3_giveEach_32 rfl rfl ?_
      refine v_iload_n C 2 2 dX3_giveEach_33 rfl rfl ?_
      refine v_iconst C (1) dX3_giveEach_34 (by decide) ?_
      refine v_iadd C dX3_giveEach_35 ?_
      refine v_iload_n C 3 3 dX3_giveEach_36 rfl rfl ?_
      refine v_iconst C (1) dX3_giveEach_37 (by decide) ?_
      refine v_iload C 5 5 dX3_giveEach_38 rfl ?_
      refine v_ishl C dX3_giveEach_40 ?_
      refine v_ior C dX3_giveEach_41 ?_
      refine v_iload C 4 4 dX3_giveEach_42 rfl ?_
      refine v_aload_n C 1 1 dX3_giveEach_44 rfl rfl ?_
      refine v_iload_n C 2 2 dX3_giveEach_45 rfl rfl ?_
      refine v_iload C 5 5 dX3_giveEach_46 rfl ?_
      obtain ⟨_, g9, hF⟩ := bnd hF
      obtain ⟨q10, g11, hF⟩ := bnd hF
      refine v_cVi C mw_X7_crossesWith lk_X3_43 _ (M_X7_crossesWith (by omega) (chk_k g9) g11) (chk_k g9) rfl rfl (Nat.le_of_ble_eq_true rfl) dX3_giveEach_48 ?_
      refine v_iadd C dX3_giveEach_51 ?_
      obtain ⟨q12, g13, hF⟩ := bnd hF
      refine v_cVv C mw_X3_give lk_X3_23 _ (hrec h0 g13) h0 rfl rfl (Nat.le_of_ble_eq_true rfl) dX3_giveEach_52 ?_
      refine v_iinc C (_ + (1 : Int32)) 5 (ll' := [(5, _), (0, _), (1, _), (2, _), (3, _), (4, _)]) dX3_giveEach_55 rfl (inc_eq (by decide)) (by decide) rfl ?_
      refine v_goto C 3 dX3_giveEach_58 (by decide) ?_
      refine v_sub [1, 2, 3, 4, 5, 0] (ll' := [(0, _), (1, _), (2, _), (3, _), (4, _), (5, _)]) rfl ?_
      cases hF
      exact hK
set_option maxRecDepth 20000 in
set_option maxHeartbeats 2000000 in
theorem M_X3_giveEach {Δ : DD} {d : Nat} {rec : Nat → Nat → Int32 → Int32 → Int32 → Mem → Option Mem} {x0 : Nat} {x1 : Nat} {x2 : Int32} {x3 : Int32} {x4 : Int32} {σ : Mem} {q : Mem} (hd : 3 + 1 ≤ d) (hrec : ∀ {k : Nat} {a0 : Nat} {a1 : Int32} {a2 : Int32} {a3 : Int32} {μ : Mem} {r : Mem}, isK 3 k = true → rec k a0 a1 a2 a3 μ = some r → Mt Δ (d - 1) yX3_give cX3_give 5 none [rf Δ k, rf Δ a0, .int a1, .int a2, .int a3] μ none r) (h0 : isK 3 x0 = true) (hF : F_X3_giveEach rec x0 x1 x2 x3 x4 σ = some q) : Mt Δ d yX3_giveEach cX3_giveEach 6 none [rf Δ x0, rf Δ x1, .int x2, .int x3, .int x4] σ none q := by
  obtain ⟨d, rfl⟩ : ∃ e, d = e + 1 := ⟨d - 1, by omega⟩
  rw [Nat.add_sub_cancel] at hrec
  have hd : 3 ≤ d := by omega
  refine mt_of (by decide) rfl (Nat.le_of_ble_eq_true rfl) (fun Γ C hq => ?_)
  unfold F_X3_giveEach at hF
  show V Δ Γ 6 0 [(0, rf Δ (x0)), (1, rf Δ (x1)), (2, .int (x2)), (3, .int (x3)), (4, .int (x4))] [] σ
  refine v_iconst C (0) dX3_giveEach_0 (by decide) ?_
  refine v_istore C 5 (ll' := [(5, _), (0, _), (1, _), (2, _), (3, _), (4, _)]) dX3_giveEach_1 (by decide) rfl ?_
  refine v_sub [1, 2, 3, 4, 5, 0] (ll' := [(0, _), (1, _), (2, _), (3, _), (4, _), (5, _)]) rfl ?_
  exact W_X3_giveEach_3 C hq hrec h0 hd hF

set_option maxRecDepth 20000 in
set_option maxHeartbeats 2000000 in
theorem N_X3_give {Δ : DD} {d : Nat} {rec : Nat → Nat → Int32 → Int32 → Int32 → Mem → Option Mem} {x0 : Nat} {x1 : Nat} {x2 : Int32} {x3 : Int32} {x4 : Int32} {σ : Mem} {q : Mem} (hd : 4 + 1 ≤ d) (hrec : ∀ {k : Nat} {a0 : Nat} {a1 : Int32} {a2 : Int32} {a3 : Int32} {μ : Mem} {r : Mem}, isK 3 k = true → rec k a0 a1 a2 a3 μ = some r → Mt Δ (d - 2) yX3_give cX3_give 5 none [rf Δ k, rf Δ a0, .int a1, .int a2, .int a3] μ none r) (h0 : isK 3 x0 = true) (hF : B_X3_give rec x0 x1 x2 x3 x4 σ = some q) : Mt Δ d yX3_give cX3_give 5 none [rf Δ x0, rf Δ x1, .int x2, .int x3, .int x4] σ none q := by
  obtain ⟨d, rfl⟩ : ∃ e, d = e + 1 := ⟨d - 1, by omega⟩
  rw [show d + 1 - 2 = d - 1 from rfl] at hrec
  have hd : 4 ≤ d := by omega
  refine mt_of (by decide) rfl (Nat.le_of_ble_eq_true rfl) (fun Γ C hq => ?_)
  unfold B_X3_give at hF
  show V Δ Γ 5 0 [(0, rf Δ (x0)), (1, rf Δ (x1)), (2, .int (x2)), (3, .int (x3)), (4, .int (x4))] [] σ
  refine v_iload C 4 4 dX3_give_0 rfl ?_
  refine v_aload_n C 0 0 dX3_give_2 rfl rfl ?_
  obtain ⟨v2, g1, hF⟩ := bnd hF
  refine v_gI C fu_X3_18 g1 dX3_give_3 ?_
  refine v_icmp_lt C 10 dX3_give_6 (by decide) (fun c3 => ?_) (fun c3 => ?_)
  · have hF := ifp hF c3
    refine v_iload_n C 2 2 dX3_give_10 rfl rfl ?_
    refine v_aload_n C 1 1 dX3_give_11 rfl rfl ?_
    obtain ⟨v5, g4, hF⟩ := bnd hF
    refine v_gI C fu_X3_27 g4 dX3_give_12 ?_
    refine v_icmp_lt C 36 dX3_give_15 (by decide) (fun c6 => ?_) (fun c6 => ?_)
    · have hF := ifp hF c6
      refine v_aload_n C 0 0 dX3_give_36 rfl rfl ?_
      refine v_aload_n C 1 1 dX3_give_37 rfl rfl ?_
      refine v_iload_n C 2 2 dX3_give_38 rfl rfl ?_
      refine v_iload_n C 3 3 dX3_give_39 rfl rfl ?_
      refine v_iload C 4 4 dX3_give_40 rfl ?_
      obtain ⟨q7, g8, hF⟩ := bnd hF
      refine v_cVv C mw_X3_giveEach lk_X3_36 _ (M_X3_giveEach (by omega) hrec h0 g8) h0 rfl rfl (Nat.le_of_ble_eq_true rfl) dX3_give_42 ?_
      exact v_vretF C hq (Option.some.inj hF) dX3_give_45
    · have hF := ifn hF c6
      refine v_aload_n C 0 0 dX3_give_18 rfl rfl ?_
      refine v_iload C 4 4 dX3_give_19 rfl ?_
      obtain ⟨m10, g9, hF⟩ := bnd hF
      refine v_pI C fp_X3_18 g9 dX3_give_21 ?_
      refine v_aload_n C 0 0 dX3_give_24 rfl rfl ?_
      obtain ⟨p12, g11, hF⟩ := bnd hF
      refine v_gR C fu_X3_15 g11 dX3_give_25 ?_
      refine v_aload_n C 0 0 dX3_give_28 rfl rfl ?_
      obtain ⟨p14, g13, hF⟩ := bnd hF
      refine v_gR C fu_X3_9 g13 dX3_give_29 ?_
      obtain ⟨q15, g16, hF⟩ := bnd hF
      refine v_cSv C mw_X8_copyAll lk_X3_32 _ (M_X8_copyAll (by omega) g16) rfl rfl (Nat.le_of_ble_eq_true rfl) dX3_give_32 ?_
      exact v_vretF C hq (Option.some.inj hF) dX3_give_35
  · have hF := ifn hF c3
    exact v_vretF C hq (Option.some.inj hF) dX3_give_9
set_option maxRecDepth 20000 in
set_option maxHeartbeats 2000000 in
theorem M_X3_give {Δ : DD} : ∀ (n : Nat) {d : Nat} {x0 : Nat} {x1 : Nat} {x2 : Int32} {x3 : Int32} {x4 : Int32} {σ : Mem} {q : Mem}, 6 + 2 * n ≤ d → isK 3 x0 = true → F_X3_give n x0 x1 x2 x3 x4 σ = some q → Mt Δ d yX3_give cX3_give 5 none [rf Δ (x0), rf Δ (x1), .int (x2), .int (x3), .int (x4)] σ none q
  | 0, _, _, _, _, _, _, _, _, _, _, h => by cases h
  | n + 1, d, _, _, _, _, _, _, _, hd, h0, h => N_X3_give (by omega) (fun k1 h1 => M_X3_give n (by omega) k1 h1) h0 h
set_option maxRecDepth 20000 in
set_option maxHeartbeats 2000000 in
theorem M_X3_fewestCrossing {Δ : DD} {d : Nat} {x0 : Nat} {x1 : Nat} {σ : Mem} {q : (Int32 × Mem)} (hd : 23 ≤ d) (h0 : isK 3 x0 = true) (hF : F_X3_fewestCrossing x0 x1 σ = some q) : Mt Δ d yX3_fewestCrossing cX3_fewestCrossing 2 (some .int) [rf Δ x0, rf Δ x1] σ (some (.int q.1)) q.2 := by
  obtain ⟨d, rfl⟩ : ∃ e, d = e + 1 := ⟨d - 1, by omega⟩
  have hd : 22 ≤ d := by omega
  refine mt_of (by decide) rfl (Nat.le_of_ble_eq_true rfl) (fun Γ C hq => ?_)
  unfold F_X3_fewestCrossing at hF
  show V Δ Γ 2 0 [(0, rf Δ (x0)), (1, rf Δ (x1))] [] σ
  refine v_aload_n C 0 0 dX3_fewestCrossing_0 rfl rfl ?_
  refine v_ldc C (1000000) kc_X3_22 dX3_fewestCrossing_1 ?_
  obtain ⟨m2, g1, hF⟩ := bnd hF
  refine v_pI C fp_X3_18 g1 dX3_fewestCrossing_3 ?_
  refine v_aload_n C 0 0 dX3_fewestCrossing_6 rfl rfl ?_
  refine v_aload_n C 1 1 dX3_fewestCrossing_7 rfl rfl ?_
  refine v_iconst C (0) dX3_fewestCrossing_8 (by decide) ?_
  refine v_iconst C (0) dX3_fewestCrossing_9 (by decide) ?_
  refine v_iconst C (0) dX3_fewestCrossing_10 (by decide) ?_
  obtain ⟨q3, g4, hF⟩ := bnd hF
  refine v_cVv C mw_X3_give lk_X3_23 _ (M_X3_give 8 (by omega) h0 g4) h0 rfl rfl (Nat.le_of_ble_eq_true rfl) dX3_fewestCrossing_11 ?_
  refine v_aload_n C 0 0 dX3_fewestCrossing_14 rfl rfl ?_
  obtain ⟨v6, g5, hF⟩ := bnd hF
  refine v_gI C fu_X3_18 g5 dX3_fewestCrossing_15 ?_
  exact v_iretF C hq (Option.some.inj hF) dX3_fewestCrossing_18
set_option maxRecDepth 20000 in
set_option maxHeartbeats 2000000 in
theorem M_X7_clearBeds {Δ : DD} {d : Nat} {x0 : Nat} {σ : Mem} {q : Mem} (hd : 1 ≤ d) (h0 : isK 7 x0 = true) (hF : F_X7_clearBeds x0 σ = some q) : Mt Δ d yX7_clearBeds cX7_clearBeds 1 none [rf Δ x0] σ none q := by
  obtain ⟨d, rfl⟩ : ∃ e, d = e + 1 := ⟨d - 1, by omega⟩
  have hd : 0 ≤ d := by omega
  refine mt_of (by decide) rfl (Nat.le_of_ble_eq_true rfl) (fun Γ C hq => ?_)
  unfold F_X7_clearBeds at hF
  show V Δ Γ 1 0 [(0, rf Δ (x0))] [] σ
  refine v_aload_n C 0 0 dX7_clearBeds_0 rfl rfl ?_
  refine v_iconst C (0) dX7_clearBeds_1 (by decide) ?_
  obtain ⟨m2, g1, hF⟩ := bnd hF
  refine v_pI C fp_X7_37 g1 dX7_clearBeds_2 ?_
  exact v_vretF C hq (Option.some.inj hF) dX7_clearBeds_5
set_option maxRecDepth 20000 in
set_option maxHeartbeats 2000000 in
theorem M_X4_here {Δ : DD} {d : Nat} {x0 : Nat} {σ : Mem} {q : Int32} (hd : 2 ≤ d) (h0 : isK 4 x0 = true) (hF : F_X4_here x0 σ = some q) : Mt Δ d yX4_here cX4_here 1 (some .int) [rf Δ x0] σ (some (.int q)) σ := by
  obtain ⟨d, rfl⟩ : ∃ e, d = e + 1 := ⟨d - 1, by omega⟩
  have hd : 1 ≤ d := by omega
  refine mt_of (by decide) rfl (Nat.le_of_ble_eq_true rfl) (fun Γ C hq => ?_)
  unfold F_X4_here at hF
  show V Δ Γ 1 0 [(0, rf Δ (x0))] [] σ
  refine v_aload_n C 0 0 dX4_here_0 rfl rfl ?_
  obtain ⟨v2, g1, hF⟩ := bnd hF
  refine v_gI C fu_X4_26 g1 dX4_here_1 ?_
  refine v_aload_n C 0 0 dX4_here_4 rfl rfl ?_
  obtain ⟨v4, g3, hF⟩ := bnd hF
  refine v_gI C fu_X4_22 g3 dX4_here_5 ?_
  refine v_icmp_ge C 25 dX4_here_8 (by decide) (fun c5 => ?_) (fun c5 => ?_)
  · have hF := ifp hF c5
    refine v_iconst C (0) dX4_here_25 (by decide) ?_
    exact v_iretP C hq (Option.some.inj hF) dX4_here_26
  · have hF := ifn hF c5
    refine v_aload_n C 0 0 dX4_here_11 rfl rfl ?_
    obtain ⟨p7, g6, hF⟩ := bnd hF
    refine v_gR C fu_X4_18 g6 dX4_here_12 ?_
    refine v_aload_n C 0 0 dX4_here_15 rfl rfl ?_
    obtain ⟨v9, g8, hF⟩ := bnd hF
    refine v_gI C fu_X4_26 g8 dX4_here_16 ?_
    obtain ⟨q10, g11, hF⟩ := bnd hF
    refine v_cSi C mw_X8_read lk_X4_81 _ (M_X8_read (by omega) g11) rfl rfl (Nat.le_of_ble_eq_true rfl) dX4_here_19 ?_
    refine v_goto C 26 dX4_here_22 (by decide) ?_
    exact v_iretP C hq (Option.some.inj hF) dX4_here_26
def K_X4_skipBlanks_0 (Δ : DD) (Γ : GG) (q : Mem) (x0 : Nat) (y : (Mem) ⊕ Mem) : Prop := match y with
  | .inl s => V Δ Γ 1 0 [(0, rf Δ (x0))] [] s
  | .inr t => (t = q)
set_option maxRecDepth 20000 in
set_option maxHeartbeats 2000000 in
theorem W_X4_skipBlanks_0 {Δ : DD} {Γ : GG} {d : Nat} {q : Mem} {x0 : Nat} (C : Cx Δ Γ RX4 cX4_skipBlanks 1 d none) (hq : RetQ Δ Γ none q) (h0 : isK 4 x0 = true) (hd : 2 ≤ d) {s : Mem} (hF : F_X4_skipBlanks_0 x0  s = some q) : V Δ Γ 1 0 [(0, rf Δ (x0))] [] s := by
  have hF : F_X4_skipBlanks_0 x0  s = some q := hF
  refine lp_V (W := fun (s : Mem) => V Δ Γ 1 0 [(0, rf Δ (x0))] [] s) (K := fun t => t = q) (K' := K_X4_skipBlanks_0 Δ Γ q x0 ) (fun _ h => h) (fun _ h => h) ?_ s q hF rfl
  clear hF
  intro s z hF hK
  refine v_aload_n C 0 0 dX4_skipBlanks_0 rfl rfl ?_
  obtain ⟨v2, g1, hF⟩ := bnd hF
  refine v_gI C fu_X4_26 g1 dX4_skipBlanks_1 ?_
  refine v_aload_n C 0 0 dX4_skipBlanks_4 rfl rfl ?_
  obtain ⟨v4, g3, hF⟩ := bnd hF
  refine v_gI C fu_X4_22 g3 dX4_skipBlanks_5 ?_
  refine v_icmp_ge C 33 dX4_skipBlanks_8 (by decide) (fun c5 => ?_) (fun c5 => ?_)
  · have hF := ifp hF c5
    cases hF
    exact v_vretF C hq hK dX4_skipBlanks_33
  · have hF := ifn hF c5
    refine v_aload_n C 0 0 dX4_skipBlanks_11 rfl rfl ?_
    obtain ⟨q6, g7, hF⟩ := bnd hF
    refine v_cVi C mw_X4_here lk_X4_58 _ (M_X4_here (by omega) h0 g7) h0 rfl rfl (Nat.le_of_ble_eq_true rfl) dX4_skipBlanks_12 ?_
    refine v_bipush C (32) dX4_skipBlanks_15 (by decide) ?_
    refine v_icmp_ne C 33 dX4_skipBlanks_17 (by decide) (fun c8 => ?_) (fun c8 => ?_)
    · have hF := ifn hF c8
      cases hF
      exact v_vretF C hq hK dX4_skipBlanks_33
    · have hF := ifp hF c8
      refine v_aload_n C 0 0 dX4_skipBlanks_20 rfl rfl ?_
      refine v_dup C dX4_skipBlanks_21 rfl ?_
      obtain ⟨v10, g9, hF⟩ := bnd hF
      refine v_gI C fu_X4_26 g9 dX4_skipBlanks_22 ?_
      refine v_iconst C (1) dX4_skipBlanks_25 (by decide) ?_
      refine v_iadd C dX4_skipBlanks_26 ?_
      obtain ⟨m12, g11, hF⟩ := bnd hF
      refine v_pI C fp_X4_26 g11 dX4_skipBlanks_27 ?_
      refine v_goto C 0 dX4_skipBlanks_30 (by decide) ?_
      cases hF
      exact hK
set_option maxRecDepth 20000 in
set_option maxHeartbeats 2000000 in
theorem M_X4_skipBlanks {Δ : DD} {d : Nat} {x0 : Nat} {σ : Mem} {q : Mem} (hd : 3 ≤ d) (h0 : isK 4 x0 = true) (hF : F_X4_skipBlanks x0 σ = some q) : Mt Δ d yX4_skipBlanks cX4_skipBlanks 1 none [rf Δ x0] σ none q := by
  obtain ⟨d, rfl⟩ : ∃ e, d = e + 1 := ⟨d - 1, by omega⟩
  have hd : 2 ≤ d := by omega
  refine mt_of (by decide) rfl (Nat.le_of_ble_eq_true rfl) (fun Γ C hq => ?_)
  unfold F_X4_skipBlanks at hF
  show V Δ Γ 1 0 [(0, rf Δ (x0))] [] σ
  exact W_X4_skipBlanks_0 C hq h0 hd hF
set_option maxRecDepth 20000 in
set_option maxHeartbeats 2000000 in
theorem M_X4_takeFigure {Δ : DD} {d : Nat} {x0 : Nat} {x1 : Int32} {σ : Mem} {q : (Int32 × Mem)} (hd : 3 ≤ d) (h0 : isK 4 x0 = true) (hF : F_X4_takeFigure x0 x1 σ = some q) : Mt Δ d yX4_takeFigure cX4_takeFigure 3 (some .int) [rf Δ x0, .int x1] σ (some (.int q.1)) q.2 := by
  obtain ⟨d, rfl⟩ : ∃ e, d = e + 1 := ⟨d - 1, by omega⟩
  have hd : 2 ≤ d := by omega
  refine mt_of (by decide) rfl (Nat.le_of_ble_eq_true rfl) (fun Γ C hq => ?_)
  unfold F_X4_takeFigure at hF
  show V Δ Γ 3 0 [(0, rf Δ (x0)), (1, .int (x1))] [] σ
  refine v_aload_n C 0 0 dX4_takeFigure_0 rfl rfl ?_
  obtain ⟨q1, g2, hF⟩ := bnd hF
  refine v_cVi C mw_X4_here lk_X4_58 _ (M_X4_here (by omega) h0 g2) h0 rfl rfl (Nat.le_of_ble_eq_true rfl) dX4_takeFigure_1 ?_
  refine v_bipush C (48) dX4_takeFigure_4 (by decide) ?_
  refine v_isub C dX4_takeFigure_6 ?_
  refine v_istore_n C 2 (ll' := [(2, _), (0, _), (1, _)]) dX4_takeFigure_7 rfl (by decide) rfl ?_
  refine v_iload_n C 2 0 dX4_takeFigure_8 rfl rfl ?_
  refine v_iload_n C 1 2 dX4_takeFigure_9 rfl rfl ?_
  refine v_icmp_lt C 19 dX4_takeFigure_10 (by decide) (fun c3 => ?_) (fun c3 => ?_)
  · have hF := ifp hF c3
    refine v_iconst C (-1) dX4_takeFigure_19 (by decide) ?_
    exact v_iretF C hq (Option.some.inj hF) dX4_takeFigure_20
  · have hF := ifn hF c3
    refine v_iload_n C 2 0 dX4_takeFigure_13 rfl rfl ?_
    refine v_bipush C (9) dX4_takeFigure_14 (by decide) ?_
    refine v_icmp_le C 21 dX4_takeFigure_16 (by decide) (fun c4 => ?_) (fun c4 => ?_)
    · have hF := ifp hF c4
      refine v_aload_n C 0 1 dX4_takeFigure_21 rfl rfl ?_
      refine v_dup C dX4_takeFigure_22 rfl ?_
      obtain ⟨v6, g5, hF⟩ := bnd hF
      refine v_gI C fu_X4_26 g5 dX4_takeFigure_23 ?_
      refine v_iconst C (1) dX4_takeFigure_26 (by decide) ?_
      refine v_iadd C dX4_takeFigure_27 ?_
      obtain ⟨m8, g7, hF⟩ := bnd hF
      refine v_pI C fp_X4_26 g7 dX4_takeFigure_28 ?_
      refine v_iload_n C 2 0 dX4_takeFigure_31 rfl rfl ?_
      exact v_iretF C hq (Option.some.inj hF) dX4_takeFigure_32
    · have hF := ifn hF c4
      refine v_iconst C (-1) dX4_takeFigure_19 (by decide) ?_
      exact v_iretF C hq (Option.some.inj hF) dX4_takeFigure_20
def K_X4_takesHead_23 (Δ : DD) (Γ : GG) (q : (Int32 × Mem)) (x0 : Nat) (y : (Int32 × Mem) ⊕ (Int32 × Mem)) : Prop := match y with
  | .inl s => V Δ Γ 3 23 [(0, rf Δ (x0)), (1, .int (s.1))] [] s.2
  | .inr t => (t = q)
set_option maxRecDepth 20000 in
set_option maxHeartbeats 2000000 in
theorem W_X4_takesHead_23 {Δ : DD} {Γ : GG} {d : Nat} {q : (Int32 × Mem)} {x0 : Nat} (C : Cx Δ Γ RX4 cX4_takesHead 3 d (some .boolean)) (hq : RetQ Δ Γ (some (.int q.1)) q.2) (h0 : isK 4 x0 = true) (hd : 3 ≤ d) {s : Int32 × Mem} (hF : F_X4_takesHead_23 x0  s = some q) : V Δ Γ 3 23 [(0, rf Δ (x0)), (1, .int (s.1))] [] s.2 := by
  have hF : F_X4_takesHead_23 x0  s = some q := hF
  refine lp_V (W := fun (s : Int32 × Mem) => V Δ Γ 3 23 [(0, rf Δ (x0)), (1, .int (s.1))] [] s.2) (K := fun t => t = q) (K' := K_X4_takesHead_23 Δ Γ q x0 ) (fun _ h => h) (fun _ h => h) ?_ s q hF rfl
  clear hF
  intro s z hF hK
  refine v_iload_n C 1 1 dX4_takesHead_23 rfl rfl ?_
  refine v_iconst C (4) dX4_takesHead_24 (by decide) ?_
  refine v_icmp_ge C 59 dX4_takesHead_25 (by decide) (fun c1 => ?_) (fun c1 => ?_)
  · have hF := ifp hF c1
    refine v_aload_n C 0 0 dX4_takesHead_59 rfl rfl ?_
    refine v_iconst C (1) dX4_takesHead_60 (by decide) ?_
    obtain ⟨q2, g3, hF⟩ := bnd hF
    refine v_cVi C mw_X4_takeFigure lk_X4_62 _ (M_X4_takeFigure (by omega) h0 g3) h0 rfl rfl (Nat.le_of_ble_eq_true rfl) dX4_takesHead_61 ?_
    refine v_istore_n C 1 (ll' := [(1, _), (0, _)]) dX4_takesHead_64 rfl (by decide) rfl ?_
    refine v_aload_n C 0 1 dX4_takesHead_65 rfl rfl ?_
    obtain ⟨p5, g4, hF⟩ := bnd hF
    refine v_gR C fu_X4_12 g4 dX4_takesHead_66 ?_
    refine v_iload_n C 1 0 dX4_takesHead_69 rfl rfl ?_
    obtain ⟨m7, g6, hF⟩ := bnd hF
    refine v_pI C fp_X4_68 g6 dX4_takesHead_70 ?_
    refine v_iload_n C 1 0 dX4_takesHead_73 rfl rfl ?_
    refine v_iconst C (-1) dX4_takesHead_74 (by decide) ?_
    refine v_icmp_eq C 82 dX4_takesHead_75 (by decide) (fun c8 => ?_) (fun c8 => ?_)
    · have hF := ifp hF c8
      refine v_iconst C (0) dX4_takesHead_82 (by decide) ?_
      cases hF
      exact v_zretF C hq hK rfl dX4_takesHead_83
    · have hF := ifn hF c8
      refine v_iconst C (1) dX4_takesHead_78 (by decide) ?_
      refine v_goto C 83 dX4_takesHead_79 (by decide) ?_
      cases hF
      exact v_zretF C hq hK rfl dX4_takesHead_83
  · have hF := ifn hF c1
    refine v_aload_n C 0 0 dX4_takesHead_28 rfl rfl ?_
    refine v_iconst C (0) dX4_takesHead_29 (by decide) ?_
    obtain ⟨q9, g10, hF⟩ := bnd hF
    refine v_cVi C mw_X4_takeFigure lk_X4_62 _ (M_X4_takeFigure (by omega) h0 g10) h0 rfl rfl (Nat.le_of_ble_eq_true rfl) dX4_takesHead_30 ?_
    refine v_istore_n C 2 (ll' := [(2, _), (0, _), (1, _)]) dX4_takesHead_33 rfl (by decide) rfl ?_
    refine v_iload_n C 2 0 dX4_takesHead_34 rfl rfl ?_
    refine v_iconst C (-1) dX4_takesHead_35 (by decide) ?_
    refine v_icmp_ne C 41 dX4_takesHead_36 (by decide) (fun c11 => ?_) (fun c11 => ?_)
    · have hF := ifn hF c11
      refine v_aload_n C 0 1 dX4_takesHead_41 rfl rfl ?_
      obtain ⟨p13, g12, hF⟩ := bnd hF
      refine v_gR C fu_X4_12 g12 dX4_takesHead_42 ?_
      obtain ⟨p15, g14, hF⟩ := bnd hF
      refine v_gR C fu_X4_65 g14 dX4_takesHead_45 ?_
      refine v_iload_n C 1 2 dX4_takesHead_48 rfl rfl ?_
      refine v_iload_n C 2 0 dX4_takesHead_49 rfl rfl ?_
      obtain ⟨q16, g17, hF⟩ := bnd hF
      refine v_cSv C mw_X8_write lk_X4_38 _ (M_X8_write (by omega) g17) rfl rfl (Nat.le_of_ble_eq_true rfl) dX4_takesHead_50 ?_
      refine v_iinc C (_ + (1 : Int32)) 2 (ll' := [(1, _), (2, _), (0, _)]) dX4_takesHead_53 rfl (inc_eq (by decide)) (by decide) rfl ?_
      refine v_goto C 23 dX4_takesHead_56 (by decide) ?_
      refine v_sub [2, 0] (ll' := [(0, _), (1, _)]) rfl ?_
      cases hF
      exact hK
    · have hF := ifp hF c11
      refine v_iconst C (0) dX4_takesHead_39 (by decide) ?_
      cases hF
      exact v_zretF C hq hK rfl dX4_takesHead_40
set_option maxRecDepth 20000 in
set_option maxHeartbeats 2000000 in
theorem M_X4_takesHead {Δ : DD} {d : Nat} {x0 : Nat} {σ : Mem} {q : (Int32 × Mem)} (hd : 4 ≤ d) (h0 : isK 4 x0 = true) (hF : F_X4_takesHead x0 σ = some q) : Mt Δ d yX4_takesHead cX4_takesHead 3 (some .boolean) [rf Δ x0] σ (some (.int q.1)) q.2 := by
  obtain ⟨d, rfl⟩ : ∃ e, d = e + 1 := ⟨d - 1, by omega⟩
  have hd : 3 ≤ d := by omega
  refine mt_of (by decide) rfl (Nat.le_of_ble_eq_true rfl) (fun Γ C hq => ?_)
  unfold F_X4_takesHead at hF
  show V Δ Γ 3 0 [(0, rf Δ (x0))] [] σ
  refine v_aload_n C 0 0 dX4_takesHead_0 rfl rfl ?_
  obtain ⟨q18, g19, hF⟩ := bnd hF
  refine v_cVi C mw_X4_here lk_X4_58 _ (M_X4_here (by omega) h0 g19) h0 rfl rfl (Nat.le_of_ble_eq_true rfl) dX4_takesHead_1 ?_
  refine v_bipush C (110) dX4_takesHead_4 (by decide) ?_
  refine v_icmp_eq C 11 dX4_takesHead_6 (by decide) (fun c20 => ?_) (fun c20 => ?_)
  · have hF := ifp hF c20
    refine v_aload_n C 0 0 dX4_takesHead_11 rfl rfl ?_
    refine v_dup C dX4_takesHead_12 rfl ?_
    obtain ⟨v22, g21, hF⟩ := bnd hF
    refine v_gI C fu_X4_26 g21 dX4_takesHead_13 ?_
    refine v_iconst C (1) dX4_takesHead_16 (by decide) ?_
    refine v_iadd C dX4_takesHead_17 ?_
    obtain ⟨m24, g23, hF⟩ := bnd hF
    refine v_pI C fp_X4_26 g23 dX4_takesHead_18 ?_
    refine v_iconst C (0) dX4_takesHead_21 (by decide) ?_
    refine v_istore_n C 1 (ll' := [(1, _), (0, _)]) dX4_takesHead_22 rfl (by decide) rfl ?_
    refine v_sub [1, 0] (ll' := [(0, _), (1, _)]) rfl ?_
    exact W_X4_takesHead_23 C hq h0 hd hF
  · have hF := ifn hF c20
    refine v_iconst C (0) dX4_takesHead_9 (by decide) ?_
    exact v_zretF C hq (Option.some.inj hF) rfl dX4_takesHead_10
def K_X4_kindHere_2 (Δ : DD) (Γ : GG) (q : Int32) (x0 : Nat) (σ : Mem) (y : (Int32) ⊕ Int32) : Prop := match y with
  | .inl s => V Δ Γ 2 2 [(0, rf Δ (x0)), (1, .int (s))] [] σ
  | .inr t => (t = q)
set_option maxRecDepth 20000 in
set_option maxHeartbeats 2000000 in
theorem W_X4_kindHere_2 {Δ : DD} {Γ : GG} {d : Nat} {q : Int32} {x0 : Nat} {σ : Mem} (C : Cx Δ Γ RX4 cX4_kindHere 2 d (some .int)) (hq : RetQ Δ Γ (some (.int q)) σ) (h0 : isK 4 x0 = true) (hd : 2 ≤ d) {s : Int32} (hF : F_X4_kindHere_2 x0 σ s = some q) : V Δ Γ 2 2 [(0, rf Δ (x0)), (1, .int (s))] [] σ := by
  have hF : F_X4_kindHere_2 x0 σ s = some q := hF
  refine lp_V (W := fun (s : Int32) => V Δ Γ 2 2 [(0, rf Δ (x0)), (1, .int (s))] [] σ) (K := fun t => t = q) (K' := K_X4_kindHere_2 Δ Γ q x0 σ) (fun _ h => h) (fun _ h => h) ?_ s q hF rfl
  clear hF
  intro s z hF hK
  refine v_iload_n C 1 1 dX4_kindHere_2 rfl rfl ?_
  refine v_bipush C (6) dX4_kindHere_3 (by decide) ?_
  refine v_icmp_ge C 30 dX4_kindHere_5 (by decide) (fun c1 => ?_) (fun c1 => ?_)
  · have hF := ifp hF c1
    refine v_iconst C (-1) dX4_kindHere_30 (by decide) ?_
    cases hF
    exact v_iretP C hq hK dX4_kindHere_31
  · have hF := ifn hF c1
    refine v_aload_n C 0 0 dX4_kindHere_8 rfl rfl ?_
    obtain ⟨q2, g3, hF⟩ := bnd hF
    refine v_cVi C mw_X4_here lk_X4_58 _ (M_X4_here (by omega) h0 g3) h0 rfl rfl (Nat.le_of_ble_eq_true rfl) dX4_kindHere_9 ?_
    refine v_gK C nk_X4_78 dX4_kindHere_12 ?_
    refine v_iload_n C 1 1 dX4_kindHere_15 rfl rfl ?_
    obtain ⟨q4, g5, hF⟩ := bnd hF
    refine v_cSi C mw_X8_read lk_X4_81 _ (M_X8_readK (by omega) g5) rfl rfl (Nat.le_of_ble_eq_true rfl) dX4_kindHere_16 ?_
    refine v_icmp_ne C 24 dX4_kindHere_19 (by decide) (fun c6 => ?_) (fun c6 => ?_)
    · have hF := ifn hF c6
      refine v_iinc C (_ + (1 : Int32)) 1 (ll' := [(1, _), (0, _)]) dX4_kindHere_24 rfl (inc_eq (by decide)) (by decide) rfl ?_
      refine v_goto C 2 dX4_kindHere_27 (by decide) ?_
      refine v_sub [1, 0] (ll' := [(0, _), (1, _)]) rfl ?_
      cases hF
      exact hK
    · have hF := ifp hF c6
      refine v_iload_n C 1 1 dX4_kindHere_22 rfl rfl ?_
      cases hF
      exact v_iretP C hq hK dX4_kindHere_23
set_option maxRecDepth 20000 in
set_option maxHeartbeats 2000000 in
theorem M_X4_kindHere {Δ : DD} {d : Nat} {x0 : Nat} {σ : Mem} {q : Int32} (hd : 3 ≤ d) (h0 : isK 4 x0 = true) (hF : F_X4_kindHere x0 σ = some q) : Mt Δ d yX4_kindHere cX4_kindHere 2 (some .int) [rf Δ x0] σ (some (.int q)) σ := by
  obtain ⟨d, rfl⟩ : ∃ e, d = e + 1 := ⟨d - 1, by omega⟩
  have hd : 2 ≤ d := by omega
  refine mt_of (by decide) rfl (Nat.le_of_ble_eq_true rfl) (fun Γ C hq => ?_)
  unfold F_X4_kindHere at hF
  show V Δ Γ 2 0 [(0, rf Δ (x0))] [] σ
  refine v_iconst C (0) dX4_kindHere_0 (by decide) ?_
  refine v_istore_n C 1 (ll' := [(1, _), (0, _)]) dX4_kindHere_1 rfl (by decide) rfl ?_
  refine v_sub [1, 0] (ll' := [(0, _), (1, _)]) rfl ?_
  exact W_X4_kindHere_2 C hq h0 hd hF
set_option maxRecDepth 20000 in
set_option maxHeartbeats 2000000 in
theorem M_X7_addBed {Δ : DD} {d : Nat} {x0 : Nat} {x1 : Int32} {x2 : Int32} {x3 : Int32} {x4 : Int32} {σ : Mem} {q : Mem} (hd : 2 ≤ d) (h0 : isK 7 x0 = true) (hF : F_X7_addBed x0 x1 x2 x3 x4 σ = some q) : Mt Δ d yX7_addBed cX7_addBed 5 none [rf Δ x0, .int x1, .int x2, .int x3, .int x4] σ none q := by
  obtain ⟨d, rfl⟩ : ∃ e, d = e + 1 := ⟨d - 1, by omega⟩
  have hd : 1 ≤ d := by omega
  refine mt_of (by decide) rfl (Nat.le_of_ble_eq_true rfl) (fun Γ C hq => ?_)
  unfold F_X7_addBed at hF
  show V Δ Γ 5 0 [(0, rf Δ (x0)), (1, .int (x1)), (2, .int (x2)), (3, .int (x3)), (4, .int (x4))] [] σ
  refine v_aload_n C 0 0 dX7_addBed_0 rfl rfl ?_
  obtain ⟨p2, g1, hF⟩ := bnd hF
  refine v_gR C fu_X7_15 g1 dX7_addBed_1 ?_
  refine v_aload_n C 0 0 dX7_addBed_4 rfl rfl ?_
  obtain ⟨v4, g3, hF⟩ := bnd hF
  refine v_gI C fu_X7_37 g3 dX7_addBed_5 ?_
  refine v_iload_n C 1 1 dX7_addBed_8 rfl rfl ?_
  obtain ⟨q5, g6, hF⟩ := bnd hF
  refine v_cSv C mw_X8_write lk_X7_117 _ (M_X8_write (by omega) g6) rfl rfl (Nat.le_of_ble_eq_true rfl) dX7_addBed_9 ?_
  refine v_aload_n C 0 0 dX7_addBed_12 rfl rfl ?_
  obtain ⟨p8, g7, hF⟩ := bnd hF
  refine v_gR C fu_X7_18 g7 dX7_addBed_13 ?_
  refine v_aload_n C 0 0 dX7_addBed_16 rfl rfl ?_
  obtain ⟨v10, g9, hF⟩ := bnd hF
  refine v_gI C fu_X7_37 g9 dX7_addBed_17 ?_
  refine v_iload_n C 2 2 dX7_addBed_20 rfl rfl ?_
  obtain ⟨q11, g12, hF⟩ := bnd hF
  refine v_cSv C mw_X8_write lk_X7_117 _ (M_X8_write (by omega) g12) rfl rfl (Nat.le_of_ble_eq_true rfl) dX7_addBed_21 ?_
  refine v_aload_n C 0 0 dX7_addBed_24 rfl rfl ?_
  obtain ⟨p14, g13, hF⟩ := bnd hF
  refine v_gR C fu_X7_21 g13 dX7_addBed_25 ?_
  refine v_aload_n C 0 0 dX7_addBed_28 rfl rfl ?_
  obtain ⟨v16, g15, hF⟩ := bnd hF
  refine v_gI C fu_X7_37 g15 dX7_addBed_29 ?_
  refine v_iload_n C 3 3 dX7_addBed_32 rfl rfl ?_
  obtain ⟨q17, g18, hF⟩ := bnd hF
  refine v_cSv C mw_X8_write lk_X7_117 _ (M_X8_write (by omega) g18) rfl rfl (Nat.le_of_ble_eq_true rfl) dX7_addBed_33 ?_
  refine v_aload_n C 0 0 dX7_addBed_36 rfl rfl ?_
  obtain ⟨p20, g19, hF⟩ := bnd hF
  refine v_gR C fu_X7_24 g19 dX7_addBed_37 ?_
  refine v_aload_n C 0 0 dX7_addBed_40 rfl rfl ?_
  obtain ⟨v22, g21, hF⟩ := bnd hF
  refine v_gI C fu_X7_37 g21 dX7_addBed_41 ?_
  refine v_iload C 4 4 dX7_addBed_44 rfl ?_
  obtain ⟨q23, g24, hF⟩ := bnd hF
  refine v_cSv C mw_X8_write lk_X7_117 _ (M_X8_write (by omega) g24) rfl rfl (Nat.le_of_ble_eq_true rfl) dX7_addBed_46 ?_
  refine v_aload_n C 0 0 dX7_addBed_49 rfl rfl ?_
  refine v_dup C dX7_addBed_50 rfl ?_
  obtain ⟨v26, g25, hF⟩ := bnd hF
  refine v_gI C fu_X7_37 g25 dX7_addBed_51 ?_
  refine v_iconst C (1) dX7_addBed_54 (by decide) ?_
  refine v_iadd C dX7_addBed_55 ?_
  obtain ⟨m28, g27, hF⟩ := bnd hF
  refine v_pI C fp_X7_37 g27 dX7_addBed_56 ?_
  exact v_vretF C hq (Option.some.inj hF) dX7_addBed_59
set_option maxRecDepth 20000 in
set_option maxHeartbeats 2000000 in
theorem W_X4_takesBed_69 {Δ : DD} {Γ : GG} {d : Nat} {q : (Int32 × Mem)} {x0 : Nat} {x1 : Int32} {x2 : Int32} {x3 : Int32} {y0 : Int32} {σ : Mem} (C : Cx Δ Γ RX4 cX4_takesBed 5 d (some .boolean)) (hq : RetQ Δ Γ (some (.int q.1)) q.2) (h0 : isK 4 x0 = true) (hd : 3 ≤ d) (hF : F_X4_takesBed_69 x0 x1 x2 x3 y0 σ = some q) : V Δ Γ 5 69 [(0, rf Δ (x0)), (1, .int (x1)), (2, .int (x2)), (3, .int (x3))] [.int (y0)] σ := by
  unfold F_X4_takesBed_69 at hF
  refine v_istore C 4 (ll' := [(4, _), (0, _), (1, _), (2, _), (3, _)]) dX4_takesBed_69 (by decide) rfl ?_
  refine v_iload C 4 0 dX4_takesBed_71 rfl ?_
  refine v_iconst C (-1) dX4_takesBed_73 (by decide) ?_
  refine v_icmp_ne C 79 dX4_takesBed_74 (by decide) (fun c4 => ?_) (fun c4 => ?_)
  · have hF := ifn hF c4
    refine v_aload_n C 0 1 dX4_takesBed_79 rfl rfl ?_
    obtain ⟨p6, g5, hF⟩ := bnd hF
    refine v_gR C fu_X4_12 g5 dX4_takesBed_80 ?_
    refine v_iload_n C 1 2 dX4_takesBed_83 rfl rfl ?_
    refine v_iload_n C 2 3 dX4_takesBed_84 rfl rfl ?_
    refine v_iload_n C 3 4 dX4_takesBed_85 rfl rfl ?_
    refine v_iload C 4 0 dX4_takesBed_86 rfl ?_
    obtain ⟨_, g7, hF⟩ := bnd hF
    obtain ⟨q8, g9, hF⟩ := bnd hF
    refine v_cVv C mw_X7_addBed lk_X4_74 _ (M_X7_addBed (by omega) (chk_k g7) g9) (chk_k g7) rfl rfl (Nat.le_of_ble_eq_true rfl) dX4_takesBed_88 ?_
    refine v_iconst C (1) dX4_takesBed_91 (by decide) ?_
    exact v_zretF C hq (Option.some.inj hF) rfl dX4_takesBed_92
  · have hF := ifp hF c4
    refine v_iconst C (0) dX4_takesBed_77 (by decide) ?_
    exact v_zretF C hq (Option.some.inj hF) rfl dX4_takesBed_78
set_option maxRecDepth 20000 in
set_option maxHeartbeats 2000000 in
theorem W_X4_takesBed_54 {Δ : DD} {Γ : GG} {d : Nat} {q : (Int32 × Mem)} {x0 : Nat} {x1 : Int32} {x2 : Int32} {y0 : Int32} {σ : Mem} (C : Cx Δ Γ RX4 cX4_takesBed 5 d (some .boolean)) (hq : RetQ Δ Γ (some (.int q.1)) q.2) (h0 : isK 4 x0 = true) (hd : 3 ≤ d) (hF : F_X4_takesBed_54 x0 x1 x2 y0 σ = some q) : V Δ Γ 5 54 [(0, rf Δ (x0)), (1, .int (x1)), (2, .int (x2))] [.int (y0)] σ := by
  unfold F_X4_takesBed_54 at hF
  refine v_istore_n C 3 (ll' := [(3, _), (0, _), (1, _), (2, _)]) dX4_takesBed_54 rfl (by decide) rfl ?_
  refine v_iload_n C 3 0 dX4_takesBed_55 rfl rfl ?_
  refine v_iconst C (-1) dX4_takesBed_56 (by decide) ?_
  refine v_icmp_ne C 64 dX4_takesBed_57 (by decide) (fun c1 => ?_) (fun c1 => ?_)
  · have hF := ifn hF c1
    refine v_aload_n C 0 1 dX4_takesBed_64 rfl rfl ?_
    refine v_iconst C (0) dX4_takesBed_65 (by decide) ?_
    obtain ⟨q2, g3, hF⟩ := bnd hF
    refine v_cVi C mw_X4_takeFigure lk_X4_62 _ (M_X4_takeFigure (by omega) h0 g3) h0 rfl rfl (Nat.le_of_ble_eq_true rfl) dX4_takesBed_66 ?_
    refine v_sub [1, 2, 3, 0] (ll' := [(0, _), (1, _), (2, _), (3, _)]) rfl ?_
    exact W_X4_takesBed_69 C hq h0 hd hF
  · have hF := ifp hF c1
    refine v_iconst C (-1) dX4_takesBed_60 (by decide) ?_
    refine v_goto C 69 dX4_takesBed_61 (by decide) ?_
    refine v_sub [1, 2, 3, 0] (ll' := [(0, _), (1, _), (2, _), (3, _)]) rfl ?_
    exact W_X4_takesBed_69 C hq h0 hd hF
set_option maxRecDepth 20000 in
set_option maxHeartbeats 2000000 in
theorem M_X4_takesBed {Δ : DD} {d : Nat} {x0 : Nat} {σ : Mem} {q : (Int32 × Mem)} (hd : 4 ≤ d) (h0 : isK 4 x0 = true) (hF : F_X4_takesBed x0 σ = some q) : Mt Δ d yX4_takesBed cX4_takesBed 5 (some .boolean) [rf Δ x0] σ (some (.int q.1)) q.2 := by
  obtain ⟨d, rfl⟩ : ∃ e, d = e + 1 := ⟨d - 1, by omega⟩
  have hd : 3 ≤ d := by omega
  refine mt_of (by decide) rfl (Nat.le_of_ble_eq_true rfl) (fun Γ C hq => ?_)
  unfold F_X4_takesBed at hF
  show V Δ Γ 5 0 [(0, rf Δ (x0))] [] σ
  refine v_aload_n C 0 0 dX4_takesBed_0 rfl rfl ?_
  obtain ⟨q10, g11, hF⟩ := bnd hF
  refine v_cVi C mw_X4_kindHere lk_X4_71 _ (M_X4_kindHere (by omega) h0 g11) h0 rfl rfl (Nat.le_of_ble_eq_true rfl) dX4_takesBed_1 ?_
  refine v_istore_n C 1 (ll' := [(1, _), (0, _)]) dX4_takesBed_4 rfl (by decide) rfl ?_
  refine v_iload_n C 1 0 dX4_takesBed_5 rfl rfl ?_
  refine v_iconst C (-1) dX4_takesBed_6 (by decide) ?_
  refine v_icmp_eq C 22 dX4_takesBed_7 (by decide) (fun c12 => ?_) (fun c12 => ?_)
  · have hF := ifp hF c12
    refine v_iconst C (0) dX4_takesBed_22 (by decide) ?_
    exact v_zretF C hq (Option.some.inj hF) rfl dX4_takesBed_23
  · have hF := ifn hF c12
    refine v_aload_n C 0 1 dX4_takesBed_10 rfl rfl ?_
    obtain ⟨p14, g13, hF⟩ := bnd hF
    refine v_gR C fu_X4_12 g13 dX4_takesBed_11 ?_
    obtain ⟨v16, g15, hF⟩ := bnd hF
    refine v_gI C fu_X4_52 g15 dX4_takesBed_14 ?_
    refine v_bipush C (6) dX4_takesBed_17 (by decide) ?_
    refine v_icmp_lt C 24 dX4_takesBed_19 (by decide) (fun c17 => ?_) (fun c17 => ?_)
    · have hF := ifp hF c17
      refine v_aload_n C 0 1 dX4_takesBed_24 rfl rfl ?_
      refine v_dup C dX4_takesBed_25 rfl ?_
      obtain ⟨v19, g18, hF⟩ := bnd hF
      refine v_gI C fu_X4_26 g18 dX4_takesBed_26 ?_
      refine v_iconst C (1) dX4_takesBed_29 (by decide) ?_
      refine v_iadd C dX4_takesBed_30 ?_
      obtain ⟨m21, g20, hF⟩ := bnd hF
      refine v_pI C fp_X4_26 g20 dX4_takesBed_31 ?_
      refine v_aload_n C 0 1 dX4_takesBed_34 rfl rfl ?_
      refine v_iconst C (0) dX4_takesBed_35 (by decide) ?_
      obtain ⟨q22, g23, hF⟩ := bnd hF
      refine v_cVi C mw_X4_takeFigure lk_X4_62 _ (M_X4_takeFigure (by omega) h0 g23) h0 rfl rfl (Nat.le_of_ble_eq_true rfl) dX4_takesBed_36 ?_
      refine v_istore_n C 2 (ll' := [(2, _), (1, _), (0, _)]) dX4_takesBed_39 rfl (by decide) rfl ?_
      refine v_iload_n C 2 0 dX4_takesBed_40 rfl rfl ?_
      refine v_iconst C (-1) dX4_takesBed_41 (by decide) ?_
      refine v_icmp_ne C 49 dX4_takesBed_42 (by decide) (fun c24 => ?_) (fun c24 => ?_)
      · have hF := ifn hF c24
        refine v_aload_n C 0 2 dX4_takesBed_49 rfl rfl ?_
        refine v_iconst C (0) dX4_takesBed_50 (by decide) ?_
        obtain ⟨q25, g26, hF⟩ := bnd hF
        refine v_cVi C mw_X4_takeFigure lk_X4_62 _ (M_X4_takeFigure (by omega) h0 g26) h0 rfl rfl (Nat.le_of_ble_eq_true rfl) dX4_takesBed_51 ?_
        refine v_sub [2, 1, 0] (ll' := [(0, _), (1, _), (2, _)]) rfl ?_
        exact W_X4_takesBed_54 C hq h0 hd hF
      · have hF := ifp hF c24
        refine v_iconst C (-1) dX4_takesBed_45 (by decide) ?_
        refine v_goto C 54 dX4_takesBed_46 (by decide) ?_
        refine v_sub [2, 1, 0] (ll' := [(0, _), (1, _), (2, _)]) rfl ?_
        exact W_X4_takesBed_54 C hq h0 hd hF
    · have hF := ifn hF c17
      refine v_iconst C (0) dX4_takesBed_22 (by decide) ?_
      exact v_zretF C hq (Option.some.inj hF) rfl dX4_takesBed_23
def K_X4_readTown_11 (Δ : DD) (Γ : GG) (q : (Int32 × Mem)) (x0 : Nat) (x1 : Nat) (x2 : Int32) (y : (Int32 × Mem) ⊕ (Int32 × Mem)) : Prop := match y with
  | .inl s => V Δ Γ 4 11 [(0, rf Δ (x0)), (1, rf Δ (x1)), (2, .int (x2)), (3, .int (s.1))] [] s.2
  | .inr t => (t = q)
def K_X4_readTown_69 (Δ : DD) (Γ : GG) (q : (Int32 × Mem)) (x0 : Nat) (y : (Int32 × Mem) ⊕ (Int32 × Mem)) : Prop := match y with
  | .inl s => V Δ Γ 4 69 [(0, rf Δ (x0)), (3, .int (s.1))] [] s.2
  | .inr t => (t = q)
set_option maxRecDepth 20000 in
set_option maxHeartbeats 2000000 in
theorem W_X4_readTown_69 {Δ : DD} {Γ : GG} {d : Nat} {q : (Int32 × Mem)} {x0 : Nat} (C : Cx Δ Γ RX4 cX4_readTown 4 d (some .int)) (hq : RetQ Δ Γ (some (.int q.1)) q.2) (h0 : isK 4 x0 = true) (hd : 4 ≤ d) {s : Int32 × Mem} (hF : F_X4_readTown_69 x0  s = some q) : V Δ Γ 4 69 [(0, rf Δ (x0)), (3, .int (s.1))] [] s.2 := by
  have hF : F_X4_readTown_69 x0  s = some q := hF
  refine lp_V (W := fun (s : Int32 × Mem) => V Δ Γ 4 69 [(0, rf Δ (x0)), (3, .int (s.1))] [] s.2) (K := fun t => t = q) (K' := K_X4_readTown_69 Δ Γ q x0 ) (fun _ h => h) (fun _ h => h) ?_ s q hF rfl
  clear hF
  intro s z hF hK
  refine v_iload_n C 3 1 dX4_readTown_69 rfl rfl ?_
  refine v_bipush C (6) dX4_readTown_70 (by decide) ?_
  refine v_icmp_gt C 128 dX4_readTown_72 (by decide) (fun c25 => ?_) (fun c25 => ?_)
  · have hF := ifp hF c25
    refine v_aload_n C 0 0 dX4_readTown_128 rfl rfl ?_
    obtain ⟨v27, g26, hF⟩ := bnd hF
    refine v_gI C fu_X4_26 g26 dX4_readTown_129 ?_
    cases hF
    exact v_iretF C hq hK dX4_readTown_132
  · have hF := ifn hF c25
    refine v_aload_n C 0 0 dX4_readTown_75 rfl rfl ?_
    obtain ⟨q28, g29, hF⟩ := bnd hF
    refine v_cVv C mw_X4_skipBlanks lk_X4_45 _ (M_X4_skipBlanks (by omega) h0 g29) h0 rfl rfl (Nat.le_of_ble_eq_true rfl) dX4_readTown_76 ?_
    refine v_aload_n C 0 0 dX4_readTown_79 rfl rfl ?_
    obtain ⟨v31, g30, hF⟩ := bnd hF
    refine v_gI C fu_X4_26 g30 dX4_readTown_80 ?_
    refine v_aload_n C 0 0 dX4_readTown_83 rfl rfl ?_
    obtain ⟨v33, g32, hF⟩ := bnd hF
    refine v_gI C fu_X4_22 g32 dX4_readTown_84 ?_
    refine v_icmp_lt C 110 dX4_readTown_87 (by decide) (fun c34 => ?_) (fun c34 => ?_)
    · have hF := ifp hF c34
      refine v_aload_n C 0 0 dX4_readTown_110 rfl rfl ?_
      obtain ⟨q35, g36, hF⟩ := bnd hF
      refine v_cVi C mw_X4_takesBed lk_X4_55 _ (M_X4_takesBed (by omega) h0 g36) h0 rfl rfl (Nat.le_of_ble_eq_true rfl) dX4_readTown_111 ?_
      refine v_if_ne C 122 dX4_readTown_114 (by decide) (fun c37 => ?_) (fun c37 => ?_)
      · have hF := ifn hF c37
        refine v_iinc C (_ + (1 : Int32)) 1 (ll' := [(3, _), (0, _)]) dX4_readTown_122 rfl (inc_eq (by decide)) (by decide) rfl ?_
        refine v_goto C 69 dX4_readTown_125 (by decide) ?_
        refine v_sub [1, 0] (ll' := [(0, _), (3, _)]) rfl ?_
        cases hF
        exact hK
      · have hF := ifp hF c37
        refine v_aload_n C 0 0 dX4_readTown_117 rfl rfl ?_
        obtain ⟨v39, g38, hF⟩ := bnd hF
        refine v_gI C fu_X4_26 g38 dX4_readTown_118 ?_
        cases hF
        exact v_iretF C hq hK dX4_readTown_121
    · have hF := ifn hF c34
      refine v_aload_n C 0 0 dX4_readTown_90 rfl rfl ?_
      obtain ⟨p41, g40, hF⟩ := bnd hF
      refine v_gR C fu_X4_12 g40 dX4_readTown_91 ?_
      obtain ⟨v43, g42, hF⟩ := bnd hF
      refine v_gI C fu_X4_52 g42 dX4_readTown_94 ?_
      refine v_if_le C 105 dX4_readTown_97 (by decide) (fun c44 => ?_) (fun c44 => ?_)
      · have hF := ifp hF c44
        refine v_aload_n C 0 0 dX4_readTown_105 rfl rfl ?_
        obtain ⟨v46, g45, hF⟩ := bnd hF
        refine v_gI C fu_X4_26 g45 dX4_readTown_106 ?_
        cases hF
        exact v_iretF C hq hK dX4_readTown_109
      · have hF := ifn hF c44
        refine v_bipush C (-9) dX4_readTown_100 (by decide) ?_
        refine v_goto C 109 dX4_readTown_102 (by decide) ?_
        cases hF
        exact v_iretF C hq hK dX4_readTown_109
set_option maxRecDepth 20000 in
set_option maxHeartbeats 2000000 in
theorem W_X4_readTown_11 {Δ : DD} {Γ : GG} {d : Nat} {q : (Int32 × Mem)} {x0 : Nat} {x1 : Nat} {x2 : Int32} (C : Cx Δ Γ RX4 cX4_readTown 4 d (some .int)) (hq : RetQ Δ Γ (some (.int q.1)) q.2) (h0 : isK 4 x0 = true) (hd : 4 ≤ d) {s : Int32 × Mem} (hF : F_X4_readTown_11 x0 x1 x2  s = some q) : V Δ Γ 4 11 [(0, rf Δ (x0)), (1, rf Δ (x1)), (2, .int (x2)), (3, .int (s.1))] [] s.2 := by
  have hF : F_X4_readTown_11 x0 x1 x2  s = some q := hF
  refine lp_V (W := fun (s : Int32 × Mem) => V Δ Γ 4 11 [(0, rf Δ (x0)), (1, rf Δ (x1)), (2, .int (x2)), (3, .int (s.1))] [] s.2) (K := fun t => t = q) (K' := K_X4_readTown_11 Δ Γ q x0 x1 x2 ) (fun _ h => h) (fun _ h => h) ?_ s q hF rfl
  clear hF
  intro s z hF hK
  refine v_iload_n C 3 3 dX4_readTown_11 rfl rfl ?_
  refine v_aload_n C 0 0 dX4_readTown_12 rfl rfl ?_
  obtain ⟨v2, g1, hF⟩ := bnd hF
  refine v_gI C fu_X4_22 g1 dX4_readTown_13 ?_
  refine v_icmp_ge C 39 dX4_readTown_16 (by decide) (fun c3 => ?_) (fun c3 => ?_)
  · have hF := ifp hF c3
    refine v_aload_n C 0 0 dX4_readTown_39 rfl rfl ?_
    refine v_iconst C (0) dX4_readTown_40 (by decide) ?_
    obtain ⟨m5, g4, hF⟩ := bnd hF
    refine v_pI C fp_X4_26 g4 dX4_readTown_41 ?_
    refine v_aload_n C 0 0 dX4_readTown_44 rfl rfl ?_
    obtain ⟨p7, g6, hF⟩ := bnd hF
    refine v_gR C fu_X4_12 g6 dX4_readTown_45 ?_
    obtain ⟨_, g8, hF⟩ := bnd hF
    obtain ⟨q9, g10, hF⟩ := bnd hF
    refine v_cVv C mw_X7_clearBeds lk_X4_42 _ (M_X7_clearBeds (by omega) (chk_k g8) g10) (chk_k g8) rfl rfl (Nat.le_of_ble_eq_true rfl) dX4_readTown_48 ?_
    refine v_aload_n C 0 0 dX4_readTown_51 rfl rfl ?_
    obtain ⟨q11, g12, hF⟩ := bnd hF
    refine v_cVv C mw_X4_skipBlanks lk_X4_45 _ (M_X4_skipBlanks (by omega) h0 g12) h0 rfl rfl (Nat.le_of_ble_eq_true rfl) dX4_readTown_52 ?_
    refine v_aload_n C 0 0 dX4_readTown_55 rfl rfl ?_
    obtain ⟨q13, g14, hF⟩ := bnd hF
    refine v_cVi C mw_X4_takesHead lk_X4_48 _ (M_X4_takesHead (by omega) h0 g14) h0 rfl rfl (Nat.le_of_ble_eq_true rfl) dX4_readTown_56 ?_
    refine v_if_ne C 67 dX4_readTown_59 (by decide) (fun c15 => ?_) (fun c15 => ?_)
    · have hF := ifn hF c15
      refine v_iconst C (0) dX4_readTown_67 (by decide) ?_
      refine v_istore_n C 3 (ll' := [(3, _), (0, _), (1, _), (2, _)]) dX4_readTown_68 rfl (by decide) rfl ?_
      refine v_sub [1, 0] (ll' := [(0, _), (3, _)]) rfl ?_
      obtain ⟨z, hz, e⟩ := mapd hF
      subst e
      exact W_X4_readTown_69 C hq h0 hd (hz.trans (congrArg some hK))
    · have hF := ifp hF c15
      refine v_aload_n C 0 0 dX4_readTown_62 rfl rfl ?_
      obtain ⟨v17, g16, hF⟩ := bnd hF
      refine v_gI C fu_X4_26 g16 dX4_readTown_63 ?_
      cases hF
      exact v_iretF C hq hK dX4_readTown_66
  · have hF := ifn hF c3
    refine v_aload_n C 0 0 dX4_readTown_19 rfl rfl ?_
    obtain ⟨p19, g18, hF⟩ := bnd hF
    refine v_gR C fu_X4_18 g18 dX4_readTown_20 ?_
    refine v_iload_n C 3 3 dX4_readTown_23 rfl rfl ?_
    refine v_aload_n C 1 1 dX4_readTown_24 rfl rfl ?_
    refine v_iload_n C 2 2 dX4_readTown_25 rfl rfl ?_
    refine v_iload_n C 3 3 dX4_readTown_26 rfl rfl ?_
    obtain ⟨_, g20, hF⟩ := bnd hF
    obtain ⟨q21, g22, hF⟩ := bnd hF
    refine v_cVi C mw_X6_get lk_X4_34 _ (M_X6_get (by omega) (chk_k g20) g22) (chk_k g20) rfl rfl (Nat.le_of_ble_eq_true rfl) dX4_readTown_27 ?_
    obtain ⟨q23, g24, hF⟩ := bnd hF
    refine v_cSv C mw_X8_write lk_X4_38 _ (M_X8_write (by omega) g24) rfl rfl (Nat.le_of_ble_eq_true rfl) dX4_readTown_30 ?_
    refine v_iinc C (_ + (1 : Int32)) 3 (ll' := [(3, _), (0, _), (1, _), (2, _)]) dX4_readTown_33 rfl (inc_eq (by decide)) (by decide) rfl ?_
    refine v_goto C 11 dX4_readTown_36 (by decide) ?_
    refine v_sub [1, 2, 3, 0] (ll' := [(0, _), (1, _), (2, _), (3, _)]) rfl ?_
    cases hF
    exact hK
set_option maxRecDepth 20000 in
set_option maxHeartbeats 2000000 in
theorem M_X4_readTown {Δ : DD} {d : Nat} {x0 : Nat} {x1 : Nat} {x2 : Int32} {σ : Mem} {q : (Int32 × Mem)} (hd : 5 ≤ d) (h0 : isK 4 x0 = true) (hF : F_X4_readTown x0 x1 x2 σ = some q) : Mt Δ d yX4_readTown cX4_readTown 4 (some .int) [rf Δ x0, rf Δ x1, .int x2] σ (some (.int q.1)) q.2 := by
  obtain ⟨d, rfl⟩ : ∃ e, d = e + 1 := ⟨d - 1, by omega⟩
  have hd : 4 ≤ d := by omega
  refine mt_of (by decide) rfl (Nat.le_of_ble_eq_true rfl) (fun Γ C hq => ?_)
  unfold F_X4_readTown at hF
  show V Δ Γ 4 0 [(0, rf Δ (x0)), (1, rf Δ (x1)), (2, .int (x2))] [] σ
  refine v_aload_n C 0 0 dX4_readTown_0 rfl rfl ?_
  refine v_aload_n C 1 1 dX4_readTown_1 rfl rfl ?_
  refine v_iload_n C 2 2 dX4_readTown_2 rfl rfl ?_
  obtain ⟨_, g47, hF⟩ := bnd hF
  obtain ⟨q48, g49, hF⟩ := bnd hF
  refine v_cVi C mw_X6_size lk_X4_29 _ (M_X6_size (by omega) (chk_k g47) g49) (chk_k g47) rfl rfl (Nat.le_of_ble_eq_true rfl) dX4_readTown_3 ?_
  obtain ⟨m51, g50, hF⟩ := bnd hF
  refine v_pI C fp_X4_22 g50 dX4_readTown_6 ?_
  refine v_iconst C (0) dX4_readTown_9 (by decide) ?_
  refine v_istore_n C 3 (ll' := [(3, _), (0, _), (1, _), (2, _)]) dX4_readTown_10 rfl (by decide) rfl ?_
  refine v_sub [1, 2, 3, 0] (ll' := [(0, _), (1, _), (2, _), (3, _)]) rfl ?_
  exact W_X4_readTown_11 C hq h0 hd hF
set_option maxRecDepth 20000 in
set_option maxHeartbeats 2000000 in
theorem M_X5_takeIfMore {Δ : DD} {d : Nat} {x0 : Nat} {x1 : Int32} {σ : Mem} {q : Mem} (hd : 2 ≤ d) (h0 : isK 5 x0 = true) (hF : F_X5_takeIfMore x0 x1 σ = some q) : Mt Δ d yX5_takeIfMore cX5_takeIfMore 2 none [rf Δ x0, .int x1] σ none q := by
  obtain ⟨d, rfl⟩ : ∃ e, d = e + 1 := ⟨d - 1, by omega⟩
  have hd : 1 ≤ d := by omega
  refine mt_of (by decide) rfl (Nat.le_of_ble_eq_true rfl) (fun Γ C hq => ?_)
  unfold F_X5_takeIfMore at hF
  show V Δ Γ 2 0 [(0, rf Δ (x0)), (1, .int (x1))] [] σ
  refine v_iload_n C 1 1 dX5_takeIfMore_0 rfl rfl ?_
  refine v_aload_n C 0 0 dX5_takeIfMore_1 rfl rfl ?_
  obtain ⟨v2, g1, hF⟩ := bnd hF
  refine v_gI C fu_X5_27 g1 dX5_takeIfMore_2 ?_
  refine v_icmp_le C 24 dX5_takeIfMore_5 (by decide) (fun c3 => ?_) (fun c3 => ?_)
  · have hF := ifp hF c3
    exact v_vretF C hq (Option.some.inj hF) dX5_takeIfMore_24
  · have hF := ifn hF c3
    refine v_aload_n C 0 0 dX5_takeIfMore_8 rfl rfl ?_
    refine v_iload_n C 1 1 dX5_takeIfMore_9 rfl rfl ?_
    obtain ⟨m5, g4, hF⟩ := bnd hF
    refine v_pI C fp_X5_27 g4 dX5_takeIfMore_10 ?_
    refine v_aload_n C 0 0 dX5_takeIfMore_13 rfl rfl ?_
    obtain ⟨p7, g6, hF⟩ := bnd hF
    refine v_gR C fu_X5_24 g6 dX5_takeIfMore_14 ?_
    refine v_aload_n C 0 0 dX5_takeIfMore_17 rfl rfl ?_
    obtain ⟨p9, g8, hF⟩ := bnd hF
    refine v_gR C fu_X5_20 g8 dX5_takeIfMore_18 ?_
    obtain ⟨q10, g11, hF⟩ := bnd hF
    refine v_cSv C mw_X8_copyAll lk_X5_66 _ (M_X8_copyAll (by omega) g11) rfl rfl (Nat.le_of_ble_eq_true rfl) dX5_takeIfMore_21 ?_
    exact v_vretF C hq (Option.some.inj hF) dX5_takeIfMore_24
def K_X5_inspectEach_3 (Δ : DD) (Γ : GG) (q : Mem) (x0 : Nat) (x1 : Nat) (x2 : Int32) (x3 : Int32) (x4 : Int32) (y : (Int32 × Mem) ⊕ Mem) : Prop := match y with
  | .inl s => V Δ Γ 7 3 [(0, rf Δ (x0)), (1, rf Δ (x1)), (2, .int (x2)), (3, .int (x3)), (4, .int (x4)), (5, .int (s.1))] [] s.2
  | .inr t => (t = q)
set_option maxRecDepth 20000 in
set_option maxHeartbeats 2000000 in
theorem W_X5_inspectEach_26 {Δ : DD} {Γ : GG} {d : Nat} {rec : Nat → Option Nat → Int32 → Int32 → Int32 → Mem → Option Mem} {q : Mem} {x0 : Nat} {x1 : Nat} {x2 : Int32} {x3 : Int32} {x4 : Int32} {x5 : Int32}  {σ : Mem} {y : ((Int32 × Mem) ⊕ Mem)} (C : Cx Δ Γ RX5 cX5_inspectEach 7 d none) (hq : RetQ Δ Γ none q) (hrec : ∀ {k : Nat} {a0 : Option Nat} {a1 : Int32} {a2 : Int32} {a3 : Int32} {μ : Mem} {r : Mem}, isK 5 k = true → rec k a0 a1 a2 a3 μ = some r → Mt Δ d yX5_goOn cX5_goOn 5 none [rf Δ k, vr Δ a0, .int a1, .int a2, .int a3] μ none r) (h0 : isK 5 x0 = true) (hd : 3 ≤ d) (hF : F_X5_inspectEach_26 rec x0 x1 x2 x3 x4 x5  σ = some y) (hK : (K_X5_inspectEach_3 Δ Γ q x0 x1 x2 x3 x4 y)) : V Δ Γ 7 26 [(0, rf Δ (x0)), (1, rf Δ (x1)), (2, .int (x2)), (3, .int (x3)), (4, .int (x4)), (5, .int (x5))] [] σ := by
  unfold F_X5_inspectEach_26 at hF
  refine v_aload_n C 0 0 dX5_inspectEach_26 rfl rfl ?_
  obtain ⟨p10, g9, hF⟩ := bnd hF
  refine v_gR C fu_X5_14 g9 dX5_inspectEach_27 ?_
  refine v_iload_n C 2 2 dX5_inspectEach_30 rfl rfl ?_
  refine v_iconst C (1) dX5_inspectEach_31 (by decide) ?_
  refine v_iadd C dX5_inspectEach_32 ?_
  refine v_aload_n C 1 1 dX5_inspectEach_33 rfl rfl ?_
  obtain ⟨_, g11, hF⟩ := bnd hF
  obtain ⟨q12, g13, hF⟩ := bnd hF
  obtain ⟨o14, m15⟩ := q12
  cases o14 with
  | none =>
    refine v_cVN C mw_X2_copyAt lk_X5_31 _ (M_X2_copyAt (by omega) (chk_k g11) g13) (chk_k g11) rfl rfl (Nat.le_of_ble_eq_true rfl) dX5_inspectEach_34 ?_
    refine v_astoreN C 6 (ll' := [(6, _), (0, _), (1, _), (2, _), (3, _), (4, _), (5, _)]) dX5_inspectEach_37 (by decide) rfl ?_
    refine v_aload_n C 0 1 dX5_inspectEach_39 rfl rfl ?_
    obtain ⟨p17, g16, hF⟩ := bnd hF
    refine v_gR C fu_X5_24 g16 dX5_inspectEach_40 ?_
    refine v_iload_n C 2 3 dX5_inspectEach_43 rfl rfl ?_
    refine v_iload C 5 6 dX5_inspectEach_44 rfl ?_
    refine v_if_ge C 54 dX5_inspectEach_46 (by decide) (fun c18 => ?_) (fun c18 => ?_)
    · have hF := ifp hF c18
      refine v_iload C 5 6 dX5_inspectEach_54 rfl ?_
      obtain ⟨q19, g20, hF⟩ := bnd hF
      refine v_cSv C mw_X8_write lk_X5_58 _ (M_X8_write (by omega) g20) rfl rfl (Nat.le_of_ble_eq_true rfl) dX5_inspectEach_56 ?_
      refine v_aload_n C 0 1 dX5_inspectEach_59 rfl rfl ?_
      refine v_aloadN C 6 0 dX5_inspectEach_60 rfl ?_
      refine v_iload_n C 2 3 dX5_inspectEach_62 rfl rfl ?_
      refine v_iconst C (1) dX5_inspectEach_63 (by decide) ?_
      refine v_iadd C dX5_inspectEach_64 ?_
      refine v_iload_n C 3 4 dX5_inspectEach_65 rfl rfl ?_
      refine v_iload C 4 5 dX5_inspectEach_66 rfl ?_
      refine v_aloadN C 6 0 dX5_inspectEach_68 rfl ?_
      refine v_ifnonnullN C dX5_inspectEach_70 ?_
      refine v_iconst C (0) dX5_inspectEach_73 (by decide) ?_
      refine v_goto C 84 dX5_inspectEach_74 (by decide) ?_
      refine v_iadd C dX5_inspectEach_84 ?_
      obtain ⟨q21, g22, hF⟩ := bnd hF
      refine v_cVv C mw_X5_goOn lk_X5_35 _ (hrec h0 g22) h0 rfl rfl (Nat.le_of_ble_eq_true rfl) dX5_inspectEach_85 ?_
      refine v_iinc C (_ + (1 : Int32)) 6 (ll' := [(5, _), (6, _), (0, _), (1, _), (2, _), (3, _), (4, _)]) dX5_inspectEach_88 rfl (inc_eq (by decide)) (by decide) rfl ?_
      refine v_goto C 3 dX5_inspectEach_91 (by decide) ?_
      refine v_sub [2, 3, 4, 5, 6, 0] (ll' := [(0, _), (1, _), (2, _), (3, _), (4, _), (5, _)]) rfl ?_
      cases hF
      exact hK
    · have hF := ifn hF c18
      refine v_bipush C (-9) dX5_inspectEach_49 (by decide) ?_
      refine v_goto C 56 dX5_inspectEach_51 (by decide) ?_
      obtain ⟨q23, g24, hF⟩ := bnd hF
      refine v_cSv C mw_X8_write lk_X5_58 _ (M_X8_write (by omega) g24) rfl rfl (Nat.le_of_ble_eq_true rfl) dX5_inspectEach_56 ?_
      refine v_aload_n C 0 1 dX5_inspectEach_59 rfl rfl ?_
      refine v_aloadN C 6 0 dX5_inspectEach_60 rfl ?_
      refine v_iload_n C 2 3 dX5_inspectEach_62 rfl rfl ?_
      refine v_iconst C (1) dX5_inspectEach_63 (by decide) ?_
      refine v_iadd C dX5_inspectEach_64 ?_
      refine v_iload_n C 3 4 dX5_inspectEach_65 rfl rfl ?_
      refine v_iload C 4 5 dX5_inspectEach_66 rfl ?_
      refine v_aloadN C 6 0 dX5_inspectEach_68 rfl ?_
      refine v_ifnonnullN C dX5_inspectEach_70 ?_
      refine v_iconst C (0) dX5_inspectEach_73 (by decide) ?_
      refine v_goto C 84 dX5_inspectEach_74 (by decide) ?_
      refine v_iadd C dX5_inspectEach_84 ?_
      obtain ⟨q25, g26, hF⟩ := bnd hF
      refine v_cVv C mw_X5_goOn lk_X5_35 _ (hrec h0 g26) h0 rfl rfl (Nat.le_of_ble_eq_true rfl) dX5_inspectEach_85 ?_
      refine v_iinc C (_ + (1 : Int32)) 6 (ll' := [(5, _), (6, _), (0, _), (1, _), (2, _), (3, _), (4, _)]) dX5_inspectEach_88 rfl (inc_eq (by decide)) (by decide) rfl ?_
      refine v_goto C 3 dX5_inspectEach_91 (by decide) ?_
      refine v_sub [2, 3, 4, 5, 6, 0] (ll' := [(0, _), (1, _), (2, _), (3, _), (4, _), (5, _)]) rfl ?_
      cases hF
      exact hK
  | some p27 =>
    refine v_cVR C mw_X2_copyAt lk_X5_31 _ (M_X2_copyAt (by omega) (chk_k g11) g13) (chk_k g11) rfl rfl (Nat.le_of_ble_eq_true rfl) dX5_inspectEach_34 ?_
    refine v_astore C 6 (ll' := [(6, _), (0, _), (1, _), (2, _), (3, _), (4, _), (5, _)]) dX5_inspectEach_37 (by decide) rfl ?_
    refine v_aload_n C 0 1 dX5_inspectEach_39 rfl rfl ?_
    obtain ⟨p29, g28, hF⟩ := bnd hF
    refine v_gR C fu_X5_24 g28 dX5_inspectEach_40 ?_
    refine v_iload_n C 2 3 dX5_inspectEach_43 rfl rfl ?_
    refine v_iload C 5 6 dX5_inspectEach_44 rfl ?_
    refine v_if_ge C 54 dX5_inspectEach_46 (by decide) (fun c30 => ?_) (fun c30 => ?_)
    · have hF := ifp hF c30
      refine v_iload C 5 6 dX5_inspectEach_54 rfl ?_
      obtain ⟨q31, g32, hF⟩ := bnd hF
      refine v_cSv C mw_X8_write lk_X5_58 _ (M_X8_write (by omega) g32) rfl rfl (Nat.le_of_ble_eq_true rfl) dX5_inspectEach_56 ?_
      refine v_aload_n C 0 1 dX5_inspectEach_59 rfl rfl ?_
      refine v_aload C 6 0 dX5_inspectEach_60 rfl ?_
      refine v_iload_n C 2 3 dX5_inspectEach_62 rfl rfl ?_
      refine v_iconst C (1) dX5_inspectEach_63 (by decide) ?_
      refine v_iadd C dX5_inspectEach_64 ?_
      refine v_iload_n C 3 4 dX5_inspectEach_65 rfl rfl ?_
      refine v_iload C 4 5 dX5_inspectEach_66 rfl ?_
      refine v_aload C 6 0 dX5_inspectEach_68 rfl ?_
      refine v_ifnonnull C 77 dX5_inspectEach_70 (by decide) ?_
      refine v_aload C 6 0 dX5_inspectEach_77 rfl ?_
      refine v_iload C 5 6 dX5_inspectEach_79 rfl ?_
      obtain ⟨_, g33, hF⟩ := bnd hF
      obtain ⟨q34, g35, hF⟩ := bnd hF
      refine v_cVi C mw_X7_inspectBed lk_X5_62 _ (M_X7_inspectBed (by omega) (chk_k g33) g35) (chk_k g33) rfl rfl (Nat.le_of_ble_eq_true rfl) dX5_inspectEach_81 ?_
      refine v_iadd C dX5_inspectEach_84 ?_
      obtain ⟨q36, g37, hF⟩ := bnd hF
      refine v_cVv C mw_X5_goOn lk_X5_35 _ (hrec h0 g37) h0 rfl rfl (Nat.le_of_ble_eq_true rfl) dX5_inspectEach_85 ?_
      refine v_iinc C (_ + (1 : Int32)) 6 (ll' := [(5, _), (6, _), (0, _), (1, _), (2, _), (3, _), (4, _)]) dX5_inspectEach_88 rfl (inc_eq (by decide)) (by decide) rfl ?_
      refine v_goto C 3 dX5_inspectEach_91 (by decide) ?_
      refine v_sub [2, 3, 4, 5, 6, 0] (ll' := [(0, _), (1, _), (2, _), (3, _), (4, _), (5, _)]) rfl ?_
      cases hF
      exact hK
    · have hF := ifn hF c30
      refine v_bipush C (-9) dX5_inspectEach_49 (by decide) ?_
      refine v_goto C 56 dX5_inspectEach_51 (by decide) ?_
      obtain ⟨q38, g39, hF⟩ := bnd hF
      refine v_cSv C mw_X8_write lk_X5_58 _ (M_X8_write (by omega) g39) rfl rfl (Nat.le_of_ble_eq_true rfl) dX5_inspectEach_56 ?_
      refine v_aload_n C 0 1 dX5_inspectEach_59 rfl rfl ?_
      refine v_aload C 6 0 dX5_inspectEach_60 rfl ?_
      refine v_iload_n C 2 3 dX5_inspectEach_62 rfl rfl ?_
      refine v_iconst C (1) dX5_inspectEach_63 (by decide) ?_
      refine v_iadd C dX5_inspectEach_64 ?_
      refine v_iload_n C 3 4 dX5_inspectEach_65 rfl rfl ?_
      refine v_iload C 4 5 dX5_inspectEach_66 rfl ?_
      refine v_aload C 6 0 dX5_inspectEach_68 rfl ?_
      refine v_ifnonnull C 77 dX5_inspectEach_70 (by decide) ?_
      refine v_aload C 6 0 dX5_inspectEach_77 rfl ?_
      refine v_iload C 5 6 dX5_inspectEach_79 rfl ?_
      obtain ⟨_, g40, hF⟩ := bnd hF
      obtain ⟨q41, g42, hF⟩ := bnd hF
      refine v_cVi C mw_X7_inspectBed lk_X5_62 _ (M_X7_inspectBed (by omega) (chk_k g40) g42) (chk_k g40) rfl rfl (Nat.le_of_ble_eq_true rfl) dX5_inspectEach_81 ?_
      refine v_iadd C dX5_inspectEach_84 ?_
      obtain ⟨q43, g44, hF⟩ := bnd hF
      refine v_cVv C mw_X5_goOn lk_X5_35 _ (hrec h0 g44) h0 rfl rfl (Nat.le_of_ble_eq_true rfl) dX5_inspectEach_85 ?_
      refine v_iinc C (_ + (1 : Int32)) 6 (ll' := [(5, _), (6, _), (0, _), (1, _), (2, _), (3, _), (4, _)]) dX5_inspectEach_88 rfl (inc_eq (by decide)) (by decide) rfl ?_
      refine v_goto C 3 dX5_inspectEach_91 (by decide) ?_
      refine v_sub [2, 3, 4, 5, 6, 0] (ll' := [(0, _), (1, _), (2, _), (3, _), (4, _), (5, _)]) rfl ?_
      cases hF
      exact hK
set_option maxRecDepth 20000 in
set_option maxHeartbeats 2000000 in
theorem W_X5_inspectEach_3 {Δ : DD} {Γ : GG} {d : Nat} {rec : Nat → Option Nat → Int32 → Int32 → Int32 → Mem → Option Mem} {q : Mem} {x0 : Nat} {x1 : Nat} {x2 : Int32} {x3 : Int32} {x4 : Int32} (C : Cx Δ Γ RX5 cX5_inspectEach 7 d none) (hq : RetQ Δ Γ none q) (hrec : ∀ {k : Nat} {a0 : Option Nat} {a1 : Int32} {a2 : Int32} {a3 : Int32} {μ : Mem} {r : Mem}, isK 5 k = true → rec k a0 a1 a2 a3 μ = some r → Mt Δ d yX5_goOn cX5_goOn 5 none [rf Δ k, vr Δ a0, .int a1, .int a2, .int a3] μ none r) (h0 : isK 5 x0 = true) (hd : 3 ≤ d) {s : Int32 × Mem} (hF : F_X5_inspectEach_3 rec x0 x1 x2 x3 x4  s = some q) : V Δ Γ 7 3 [(0, rf Δ (x0)), (1, rf Δ (x1)), (2, .int (x2)), (3, .int (x3)), (4, .int (x4)), (5, .int (s.1))] [] s.2 := by
  have hF : F_X5_inspectEach_3 rec x0 x1 x2 x3 x4  s = some q := hF
  refine lp_V (W := fun (s : Int32 × Mem) => V Δ Γ 7 3 [(0, rf Δ (x0)), (1, rf Δ (x1)), (2, .int (x2)), (3, .int (x3)), (4, .int (x4)), (5, .int (s.1))] [] s.2) (K := fun t => t = q) (K' := K_X5_inspectEach_3 Δ Γ q x0 x1 x2 x3 x4 ) (fun _ h => h) (fun _ h => h) ?_ s q hF rfl
  clear hF
  intro s z hF hK
  refine v_iload C 5 5 dX5_inspectEach_3 rfl ?_
  refine v_aload_n C 1 1 dX5_inspectEach_5 rfl rfl ?_
  obtain ⟨v2, g1, hF⟩ := bnd hF
  refine v_gI C fu_X5_51 g1 dX5_inspectEach_6 ?_
  refine v_icmp_ge C 94 dX5_inspectEach_9 (by decide) (fun c3 => ?_) (fun c3 => ?_)
  · have hF := ifp hF c3
    cases hF
    exact v_vretF C hq hK dX5_inspectEach_94
  · have hF := ifn hF c3
    refine v_iload C 5 5 dX5_inspectEach_12 rfl ?_
    refine v_if_lt C 26 dX5_inspectEach_14 (by decide) (fun c4 => ?_) (fun c4 => ?_)
    · have hF := ifp hF c4
      exact W_X5_inspectEach_26 C hq hrec h0 hd hF hK
    · have hF := ifn hF c4
      refine v_aload_n C 1 1 dX5_inspectEach_17 rfl rfl ?_
      refine v_iload C 5 5 dX5_inspectEach_18 rfl ?_
      obtain ⟨_, g5, hF⟩ := bnd hF
      obtain ⟨q6, g7, hF⟩ := bnd hF
      refine v_cVi C mw_X7_wouldBeFound lk_X5_54 _ (M_X7_wouldBeFound (by omega) (chk_k g5) g7) (chk_k g5) rfl rfl (Nat.le_of_ble_eq_true rfl) dX5_inspectEach_20 ?_
      refine v_if_eq C 88 dX5_inspectEach_23 (by decide) (fun c8 => ?_) (fun c8 => ?_)
      · have hF := ifp hF c8
        refine v_iinc C (_ + (1 : Int32)) 5 (ll' := [(5, _), (0, _), (1, _), (2, _), (3, _), (4, _)]) dX5_inspectEach_88 rfl (inc_eq (by decide)) (by decide) rfl ?_
        refine v_goto C 3 dX5_inspectEach_91 (by decide) ?_
        refine v_sub [1, 2, 3, 4, 5, 0] (ll' := [(0, _), (1, _), (2, _), (3, _), (4, _), (5, _)]) rfl ?_
        cases hF
        exact hK
      · have hF := ifn hF c8
        exact W_X5_inspectEach_26 C hq hrec h0 hd hF hK
set_option maxRecDepth 20000 in
set_option maxHeartbeats 2000000 in
theorem M_X5_inspectEach {Δ : DD} {d : Nat} {rec : Nat → Option Nat → Int32 → Int32 → Int32 → Mem → Option Mem} {x0 : Nat} {x1 : Nat} {x2 : Int32} {x3 : Int32} {x4 : Int32} {σ : Mem} {q : Mem} (hd : 3 + 1 ≤ d) (hrec : ∀ {k : Nat} {a0 : Option Nat} {a1 : Int32} {a2 : Int32} {a3 : Int32} {μ : Mem} {r : Mem}, isK 5 k = true → rec k a0 a1 a2 a3 μ = some r → Mt Δ (d - 1) yX5_goOn cX5_goOn 5 none [rf Δ k, vr Δ a0, .int a1, .int a2, .int a3] μ none r) (h0 : isK 5 x0 = true) (hF : F_X5_inspectEach rec x0 x1 x2 x3 x4 σ = some q) : Mt Δ d yX5_inspectEach cX5_inspectEach 7 none [rf Δ x0, rf Δ x1, .int x2, .int x3, .int x4] σ none q := by
  obtain ⟨d, rfl⟩ : ∃ e, d = e + 1 := ⟨d - 1, by omega⟩
  rw [Nat.add_sub_cancel] at hrec
  have hd : 3 ≤ d := by omega
  refine mt_of (by decide) rfl (Nat.le_of_ble_eq_true rfl) (fun Γ C hq => ?_)
  unfold F_X5_inspectEach at hF
  show V Δ Γ 7 0 [(0, rf Δ (x0)), (1, rf Δ (x1)), (2, .int (x2)), (3, .int (x3)), (4, .int (x4))] [] σ
  refine v_iconst C (-1) dX5_inspectEach_0 (by decide) ?_
  refine v_istore C 5 (ll' := [(5, _), (0, _), (1, _), (2, _), (3, _), (4, _)]) dX5_inspectEach_1 (by decide) rfl ?_
  refine v_sub [1, 2, 3, 4, 5, 0] (ll' := [(0, _), (1, _), (2, _), (3, _), (4, _), (5, _)]) rfl ?_
  exact W_X5_inspectEach_3 C hq hrec h0 hd hF
set_option maxRecDepth 20000 in
set_option maxHeartbeats 2000000 in
theorem W_X5_goOn_9 {Δ : DD} {Γ : GG} {d : Nat} {rec : Nat → Option Nat → Int32 → Int32 → Int32 → Mem → Option Mem} {q : Mem} {x0 : Nat} {x4 : Int32}  {σ : Mem} (C : Cx Δ Γ RX5 cX5_goOn 5 d none) (hq : RetQ Δ Γ none q) (hrec : ∀ {k : Nat} {a0 : Option Nat} {a1 : Int32} {a2 : Int32} {a3 : Int32} {μ : Mem} {r : Mem}, isK 5 k = true → rec k a0 a1 a2 a3 μ = some r → Mt Δ (d - 1) yX5_goOn cX5_goOn 5 none [rf Δ k, vr Δ a0, .int a1, .int a2, .int a3] μ none r) (h0 : isK 5 x0 = true) (hd : 4 ≤ d) (hF : F_X5_goOn_9 rec x0 x4  σ = some q) : V Δ Γ 5 9 [(0, rf Δ (x0)), (4, .int (x4))] [] σ := by
  unfold F_X5_goOn_9 at hF
  refine v_aload_n C 0 0 dX5_goOn_9 rfl rfl ?_
  refine v_iload C 4 1 dX5_goOn_10 rfl ?_
  obtain ⟨q1, g2, hF⟩ := bnd hF
  refine v_cVv C mw_X5_takeIfMore lk_X5_39 _ (M_X5_takeIfMore (by omega) h0 g2) h0 rfl rfl (Nat.le_of_ble_eq_true rfl) dX5_goOn_12 ?_
  exact v_vretF C hq (Option.some.inj hF) dX5_goOn_15
set_option maxRecDepth 20000 in
set_option maxHeartbeats 2000000 in
theorem N_X5_goOn {Δ : DD} {d : Nat} {rec : Nat → Option Nat → Int32 → Int32 → Int32 → Mem → Option Mem} {x0 : Nat} {x1 : Option Nat} {x2 : Int32} {x3 : Int32} {x4 : Int32} {σ : Mem} {q : Mem} (hd : 4 + 1 ≤ d) (hrec : ∀ {k : Nat} {a0 : Option Nat} {a1 : Int32} {a2 : Int32} {a3 : Int32} {μ : Mem} {r : Mem}, isK 5 k = true → rec k a0 a1 a2 a3 μ = some r → Mt Δ (d - 2) yX5_goOn cX5_goOn 5 none [rf Δ k, vr Δ a0, .int a1, .int a2, .int a3] μ none r) (h0 : isK 5 x0 = true) (hF : B_X5_goOn rec x0 x1 x2 x3 x4 σ = some q) : Mt Δ d yX5_goOn cX5_goOn 5 none [rf Δ x0, vr Δ x1, .int x2, .int x3, .int x4] σ none q := by
  obtain ⟨d, rfl⟩ : ∃ e, d = e + 1 := ⟨d - 1, by omega⟩
  rw [show d + 1 - 2 = d - 1 from rfl] at hrec
  have hd : 4 ≤ d := by omega
  refine mt_of (by decide) rfl (by cases x1 <;> exact Nat.le_of_ble_eq_true rfl) (fun Γ C hq => ?_)
  unfold B_X5_goOn at hF
  cases x1 with
  | none =>
    show V Δ Γ 5 0 [(0, rf Δ (x0)), (1, .null), (2, .int (x2)), (3, .int (x3)), (4, .int (x4))] [] σ
    refine v_iload_n C 2 2 dX5_goOn_0 rfl rfl ?_
    refine v_iload_n C 3 3 dX5_goOn_1 rfl rfl ?_
    refine v_icmp_ge C 9 dX5_goOn_2 (by decide) (fun c3 => ?_) (fun c3 => ?_)
    · have hF := ifp hF c3
      refine v_sub [0, 4] (ll' := [(0, _), (4, _)]) rfl ?_
      exact W_X5_goOn_9 C hq hrec h0 hd hF
    · have hF := ifn hF c3
      refine v_aload_nN C 1 1 dX5_goOn_5 rfl rfl ?_
      refine v_ifnonnullN C dX5_goOn_6 ?_
      refine v_sub [0, 4] (ll' := [(0, _), (4, _)]) rfl ?_
      exact W_X5_goOn_9 C hq hrec h0 hd hF
  | some p0 =>
    show V Δ Γ 5 0 [(0, rf Δ (x0)), (1, rf Δ (p0)), (2, .int (x2)), (3, .int (x3)), (4, .int (x4))] [] σ
    refine v_iload_n C 2 2 dX5_goOn_0 rfl rfl ?_
    refine v_iload_n C 3 3 dX5_goOn_1 rfl rfl ?_
    refine v_icmp_ge C 9 dX5_goOn_2 (by decide) (fun c4 => ?_) (fun c4 => ?_)
    · have hF := ifp hF c4
      refine v_sub [0, 4] (ll' := [(0, _), (4, _)]) rfl ?_
      exact W_X5_goOn_9 C hq hrec h0 hd hF
    · have hF := ifn hF c4
      refine v_aload_n C 1 1 dX5_goOn_5 rfl rfl ?_
      refine v_ifnonnull C 16 dX5_goOn_6 (by decide) ?_
      refine v_aload_n C 1 1 dX5_goOn_16 rfl rfl ?_
      obtain ⟨_, g5, hF⟩ := bnd hF
      obtain ⟨q6, g7, hF⟩ := bnd hF
      refine v_cVi C mw_X7_passNight lk_X5_42 _ (M_X7_passNight (by omega) (chk_k g5) g7) (chk_k g5) rfl rfl (Nat.le_of_ble_eq_true rfl) dX5_goOn_17 ?_
      refine v_pop C dX5_goOn_20 rfl ?_
      refine v_aload_n C 0 0 dX5_goOn_21 rfl rfl ?_
      refine v_aload_n C 1 1 dX5_goOn_22 rfl rfl ?_
      refine v_iload_n C 2 2 dX5_goOn_23 rfl rfl ?_
      refine v_iload_n C 3 3 dX5_goOn_24 rfl rfl ?_
      refine v_iload C 4 4 dX5_goOn_25 rfl ?_
      obtain ⟨q8, g9, hF⟩ := bnd hF
      refine v_cVv C mw_X5_inspectEach lk_X5_48 _ (M_X5_inspectEach (by omega) hrec h0 g9) h0 rfl rfl (Nat.le_of_ble_eq_true rfl) dX5_goOn_27 ?_
      exact v_vretF C hq (Option.some.inj hF) dX5_goOn_30
set_option maxRecDepth 20000 in
set_option maxHeartbeats 2000000 in
theorem M_X5_goOn {Δ : DD} : ∀ (n : Nat) {d : Nat} {x0 : Nat} {x1 : Option Nat} {x2 : Int32} {x3 : Int32} {x4 : Int32} {σ : Mem} {q : Mem}, 6 + 2 * n ≤ d → isK 5 x0 = true → F_X5_goOn n x0 x1 x2 x3 x4 σ = some q → Mt Δ d yX5_goOn cX5_goOn 5 none [rf Δ (x0), vr Δ x1, .int (x2), .int (x3), .int (x4)] σ none q
  | 0, _, _, _, _, _, _, _, _, _, _, h => by cases h
  | n + 1, d, _, _, _, _, _, _, _, hd, h0, h => N_X5_goOn (by omega) (fun k1 h1 => M_X5_goOn n (by omega) k1 h1) h0 h
set_option maxRecDepth 20000 in
set_option maxHeartbeats 2000000 in
theorem M_X5_mostFound {Δ : DD} {d : Nat} {x0 : Nat} {x1 : Nat} {x2 : Int32} {σ : Mem} {q : (Int32 × Mem)} (hd : 23 ≤ d) (h0 : isK 5 x0 = true) (hF : F_X5_mostFound x0 x1 x2 σ = some q) : Mt Δ d yX5_mostFound cX5_mostFound 3 (some .int) [rf Δ x0, rf Δ x1, .int x2] σ (some (.int q.1)) q.2 := by
  obtain ⟨d, rfl⟩ : ∃ e, d = e + 1 := ⟨d - 1, by omega⟩
  have hd : 22 ≤ d := by omega
  refine mt_of (by decide) rfl (Nat.le_of_ble_eq_true rfl) (fun Γ C hq => ?_)
  unfold F_X5_mostFound at hF
  show V Δ Γ 3 0 [(0, rf Δ (x0)), (1, rf Δ (x1)), (2, .int (x2))] [] σ
  refine v_aload_n C 0 0 dX5_mostFound_0 rfl rfl ?_
  refine v_iconst C (-1) dX5_mostFound_1 (by decide) ?_
  obtain ⟨m2, g1, hF⟩ := bnd hF
  refine v_pI C fp_X5_27 g1 dX5_mostFound_2 ?_
  refine v_aload_n C 0 0 dX5_mostFound_5 rfl rfl ?_
  refine v_aload_n C 0 0 dX5_mostFound_6 rfl rfl ?_
  obtain ⟨p4, g3, hF⟩ := bnd hF
  refine v_gR C fu_X5_14 g3 dX5_mostFound_7 ?_
  refine v_iconst C (0) dX5_mostFound_10 (by decide) ?_
  refine v_aload_n C 1 1 dX5_mostFound_11 rfl rfl ?_
  obtain ⟨_, g5, hF⟩ := bnd hF
  obtain ⟨q6, g7, hF⟩ := bnd hF
  obtain ⟨o8, m9⟩ := q6
  cases o8 with
  | none =>
    refine v_cVN C mw_X2_copyAt lk_X5_31 _ (M_X2_copyAt (by omega) (chk_k g5) g7) (chk_k g5) rfl rfl (Nat.le_of_ble_eq_true rfl) dX5_mostFound_12 ?_
    refine v_iconst C (0) dX5_mostFound_15 (by decide) ?_
    refine v_iload_n C 2 2 dX5_mostFound_16 rfl rfl ?_
    refine v_iconst C (0) dX5_mostFound_17 (by decide) ?_
    obtain ⟨q10, g11, hF⟩ := bnd hF
    refine v_cVv C mw_X5_goOn lk_X5_35 _ (M_X5_goOn 8 (by omega) h0 g11) h0 rfl rfl (Nat.le_of_ble_eq_true rfl) dX5_mostFound_18 ?_
    refine v_aload_n C 0 0 dX5_mostFound_21 rfl rfl ?_
    obtain ⟨v13, g12, hF⟩ := bnd hF
    refine v_gI C fu_X5_27 g12 dX5_mostFound_22 ?_
    exact v_iretF C hq (Option.some.inj hF) dX5_mostFound_25
  | some p14 =>
    refine v_cVR C mw_X2_copyAt lk_X5_31 _ (M_X2_copyAt (by omega) (chk_k g5) g7) (chk_k g5) rfl rfl (Nat.le_of_ble_eq_true rfl) dX5_mostFound_12 ?_
    refine v_iconst C (0) dX5_mostFound_15 (by decide) ?_
    refine v_iload_n C 2 2 dX5_mostFound_16 rfl rfl ?_
    refine v_iconst C (0) dX5_mostFound_17 (by decide) ?_
    obtain ⟨q15, g16, hF⟩ := bnd hF
    refine v_cVv C mw_X5_goOn lk_X5_35 _ (M_X5_goOn 8 (by omega) h0 g16) h0 rfl rfl (Nat.le_of_ble_eq_true rfl) dX5_mostFound_18 ?_
    refine v_aload_n C 0 0 dX5_mostFound_21 rfl rfl ?_
    obtain ⟨v18, g17, hF⟩ := bnd hF
    refine v_gI C fu_X5_27 g17 dX5_mostFound_22 ?_
    exact v_iretF C hq (Option.some.inj hF) dX5_mostFound_25
set_option maxRecDepth 20000 in
set_option maxHeartbeats 2000000 in
theorem M_X6_isNumber {Δ : DD} {d : Nat} {x0 : Nat} {x1 : Int32} {σ : Mem} {q : Int32} (hd : 1 ≤ d) (h0 : isK 6 x0 = true) (hF : F_X6_isNumber x0 x1 σ = some q) : Mt Δ d yX6_isNumber cX6_isNumber 2 (some .boolean) [rf Δ x0, .int x1] σ (some (.int q)) σ := by
  obtain ⟨d, rfl⟩ : ∃ e, d = e + 1 := ⟨d - 1, by omega⟩
  have hd : 0 ≤ d := by omega
  refine mt_of (by decide) rfl (Nat.le_of_ble_eq_true rfl) (fun Γ C hq => ?_)
  unfold F_X6_isNumber at hF
  show V Δ Γ 2 0 [(0, rf Δ (x0)), (1, .int (x1))] [] σ
  refine v_iload_n C 1 1 dX6_isNumber_0 rfl rfl ?_
  refine v_if_lt C 17 dX6_isNumber_1 (by decide) (fun c1 => ?_) (fun c1 => ?_)
  · have hF := ifp hF c1
    refine v_iconst C (0) dX6_isNumber_17 (by decide) ?_
    exact v_zretP C hq (Option.some.inj hF) rfl dX6_isNumber_18
  · have hF := ifn hF c1
    refine v_iload_n C 1 1 dX6_isNumber_4 rfl rfl ?_
    refine v_aload_n C 0 0 dX6_isNumber_5 rfl rfl ?_
    obtain ⟨p3, g2, hF⟩ := bnd hF
    refine v_gR C fu_X6_21 g2 dX6_isNumber_6 ?_
    obtain ⟨v4, g5, hF⟩ := bnd hF
    refine v_aN C g5 dX6_isNumber_9 ?_
    refine v_icmp_ge C 17 dX6_isNumber_10 (by decide) (fun c6 => ?_) (fun c6 => ?_)
    · have hF := ifp hF c6
      refine v_iconst C (0) dX6_isNumber_17 (by decide) ?_
      exact v_zretP C hq (Option.some.inj hF) rfl dX6_isNumber_18
    · have hF := ifn hF c6
      refine v_iconst C (1) dX6_isNumber_13 (by decide) ?_
      refine v_goto C 18 dX6_isNumber_14 (by decide) ?_
      exact v_zretP C hq (Option.some.inj hF) rfl dX6_isNumber_18
set_option maxRecDepth 20000 in
set_option maxHeartbeats 2000000 in
theorem M_X6_stands {Δ : DD} {d : Nat} {x0 : Nat} {x1 : Int32} {σ : Mem} {q : Int32} (hd : 2 ≤ d) (h0 : isK 6 x0 = true) (hF : F_X6_stands x0 x1 σ = some q) : Mt Δ d yX6_stands cX6_stands 2 (some .boolean) [rf Δ x0, .int x1] σ (some (.int q)) σ := by
  obtain ⟨d, rfl⟩ : ∃ e, d = e + 1 := ⟨d - 1, by omega⟩
  have hd : 1 ≤ d := by omega
  refine mt_of (by decide) rfl (Nat.le_of_ble_eq_true rfl) (fun Γ C hq => ?_)
  unfold F_X6_stands at hF
  show V Δ Γ 2 0 [(0, rf Δ (x0)), (1, .int (x1))] [] σ
  refine v_aload_n C 0 0 dX6_stands_0 rfl rfl ?_
  refine v_iload_n C 1 1 dX6_stands_1 rfl rfl ?_
  obtain ⟨q1, g2, hF⟩ := bnd hF
  refine v_cVi C mw_X6_size lk_X6_34 _ (M_X6_size (by omega) h0 g2) h0 rfl rfl (Nat.le_of_ble_eq_true rfl) dX6_stands_2 ?_
  refine v_if_lt C 12 dX6_stands_5 (by decide) (fun c3 => ?_) (fun c3 => ?_)
  · have hF := ifp hF c3
    refine v_iconst C (0) dX6_stands_12 (by decide) ?_
    exact v_zretP C hq (Option.some.inj hF) rfl dX6_stands_13
  · have hF := ifn hF c3
    refine v_iconst C (1) dX6_stands_8 (by decide) ?_
    refine v_goto C 13 dX6_stands_9 (by decide) ?_
    exact v_zretP C hq (Option.some.inj hF) rfl dX6_stands_13
def K_X6_standing_13 (Δ : DD) (Γ : GG) (q : Int32) (x2 : Nat) (x3 : Int32) (σ : Mem) (y : (Int32 × Int32) ⊕ Int32) : Prop := match y with
  | .inl s => V Δ Γ 6 13 [(1, .int (s.1)), (2, rf Δ (x2)), (3, .int (x3)), (4, .int (s.2))] [] σ
  | .inr t => (t = q)
set_option maxRecDepth 20000 in
set_option maxHeartbeats 2000000 in
theorem W_X6_standing_36 {Δ : DD} {Γ : GG} {d : Nat} {q : Int32} {x2 : Nat} {x3 : Int32} {x4 : Int32} {y0 : Int32} {y1 : Int32} {σ : Mem} {y : ((Int32 × Int32) ⊕ Int32)} (C : Cx Δ Γ RX6 cX6_standing 6 d (some .int)) (hq : RetQ Δ Γ (some (.int q)) σ) (hd : 0 ≤ d) (hF : F_X6_standing_36 x2 x3 x4 y0 y1 σ = some y) (hK : (K_X6_standing_13 Δ Γ q x2 x3 σ y)) : V Δ Γ 6 36 [(2, rf Δ (x2)), (3, .int (x3)), (4, .int (x4))] [.int (y0), .int (y1)] σ := by
  unfold F_X6_standing_36 at hF
  refine v_iadd C dX6_standing_36 ?_
  refine v_istore_n C 1 (ll' := [(1, _), (2, _), (3, _), (4, _)]) dX6_standing_37 rfl (by decide) rfl ?_
  refine v_iinc C (_ + (1 : Int32)) 3 (ll' := [(4, _), (1, _), (2, _), (3, _)]) dX6_standing_38 rfl (inc_eq (by decide)) (by decide) rfl ?_
  refine v_goto C 13 dX6_standing_41 (by decide) ?_
  refine v_sub [1, 2, 3, 0] (ll' := [(1, _), (2, _), (3, _), (4, _)]) rfl ?_
  cases hF
  exact hK
set_option maxRecDepth 20000 in
set_option maxHeartbeats 2000000 in
theorem W_X6_standing_13 {Δ : DD} {Γ : GG} {d : Nat} {q : Int32} {x2 : Nat} {x3 : Int32} {σ : Mem} (C : Cx Δ Γ RX6 cX6_standing 6 d (some .int)) (hq : RetQ Δ Γ (some (.int q)) σ) (hd : 0 ≤ d) {s : Int32 × Int32} (hF : F_X6_standing_13 x2 x3 σ s = some q) : V Δ Γ 6 13 [(1, .int (s.1)), (2, rf Δ (x2)), (3, .int (x3)), (4, .int (s.2))] [] σ := by
  have hF : F_X6_standing_13 x2 x3 σ s = some q := hF
  refine lp_V (W := fun (s : Int32 × Int32) => V Δ Γ 6 13 [(1, .int (s.1)), (2, rf Δ (x2)), (3, .int (x3)), (4, .int (s.2))] [] σ) (K := fun t => t = q) (K' := K_X6_standing_13 Δ Γ q x2 x3 σ) (fun _ h => h) (fun _ h => h) ?_ s q hF rfl
  clear hF
  intro s z hF hK
  refine v_iload C 4 3 dX6_standing_13 rfl ?_
  refine v_iload_n C 3 2 dX6_standing_15 rfl rfl ?_
  refine v_icmp_ge C 44 dX6_standing_16 (by decide) (fun c1 => ?_) (fun c1 => ?_)
  · have hF := ifp hF c1
    refine v_iload_n C 1 0 dX6_standing_44 rfl rfl ?_
    cases hF
    exact v_iretP C hq hK dX6_standing_45
  · have hF := ifn hF c1
    refine v_aload_n C 2 1 dX6_standing_19 rfl rfl ?_
    refine v_iload C 4 3 dX6_standing_20 rfl ?_
    obtain ⟨v2, g3, hF⟩ := bnd hF
    refine v_aI C g3 dX6_standing_22 ?_
    refine v_istore C 5 (ll' := [(5, _), (1, _), (2, _), (3, _), (4, _)]) dX6_standing_23 (by decide) rfl ?_
    refine v_iload_n C 1 1 dX6_standing_25 rfl rfl ?_
    refine v_iload C 5 0 dX6_standing_26 rfl ?_
    refine v_if_lt C 35 dX6_standing_28 (by decide) (fun c4 => ?_) (fun c4 => ?_)
    · have hF := ifp hF c4
      refine v_iconst C (0) dX6_standing_35 (by decide) ?_
      refine v_sub [2, 3, 4] (ll' := [(2, _), (3, _), (4, _)]) rfl ?_
      exact W_X6_standing_36 C hq hd hF hK
    · have hF := ifn hF c4
      refine v_iconst C (1) dX6_standing_31 (by decide) ?_
      refine v_goto C 36 dX6_standing_32 (by decide) ?_
      refine v_sub [2, 3, 4] (ll' := [(2, _), (3, _), (4, _)]) rfl ?_
      exact W_X6_standing_36 C hq hd hF hK
set_option maxRecDepth 20000 in
set_option maxHeartbeats 2000000 in
theorem M_X6_standing {Δ : DD} {d : Nat} {x0 : Nat} {σ : Mem} {q : Int32} (hd : 1 ≤ d) (h0 : isK 6 x0 = true) (hF : F_X6_standing x0 σ = some q) : Mt Δ d yX6_standing cX6_standing 6 (some .int) [rf Δ x0] σ (some (.int q)) σ := by
  obtain ⟨d, rfl⟩ : ∃ e, d = e + 1 := ⟨d - 1, by omega⟩
  have hd : 0 ≤ d := by omega
  refine mt_of (by decide) rfl (Nat.le_of_ble_eq_true rfl) (fun Γ C hq => ?_)
  unfold F_X6_standing at hF
  show V Δ Γ 6 0 [(0, rf Δ (x0))] [] σ
  refine v_iconst C (0) dX6_standing_0 (by decide) ?_
  refine v_istore_n C 1 (ll' := [(1, _), (0, _)]) dX6_standing_1 rfl (by decide) rfl ?_
  refine v_aload_n C 0 1 dX6_standing_2 rfl rfl ?_
  obtain ⟨p6, g5, hF⟩ := bnd hF
  refine v_gR C fu_X6_21 g5 dX6_standing_3 ?_
  refine v_astore_n C 2 (ll' := [(2, _), (1, _), (0, _)]) dX6_standing_6 rfl (by decide) rfl ?_
  refine v_aload_n C 2 0 dX6_standing_7 rfl rfl ?_
  obtain ⟨v7, g8, hF⟩ := bnd hF
  refine v_aN C g8 dX6_standing_8 ?_
  refine v_istore_n C 3 (ll' := [(3, _), (2, _), (1, _), (0, _)]) dX6_standing_9 rfl (by decide) rfl ?_
  refine v_iconst C (0) dX6_standing_10 (by decide) ?_
  refine v_istore C 4 (ll' := [(4, _), (3, _), (2, _), (1, _), (0, _)]) dX6_standing_11 (by decide) rfl ?_
  refine v_sub [3, 2, 1, 0] (ll' := [(1, _), (2, _), (3, _), (4, _)]) rfl ?_
  exact W_X6_standing_13 C hq hd hF
set_option maxRecDepth 20000 in
set_option maxHeartbeats 2000000 in
theorem M_X6_holds {Δ : DD} {d : Nat} {x0 : Nat} {x1 : Int32} {x2 : Int32} {x3 : Int32} {σ : Mem} {q : Int32} (hd : 2 ≤ d) (h0 : isK 6 x0 = true) (hF : F_X6_holds x0 x1 x2 x3 σ = some q) : Mt Δ d yX6_holds cX6_holds 4 (some .boolean) [rf Δ x0, .int x1, .int x2, .int x3] σ (some (.int q)) σ := by
  obtain ⟨d, rfl⟩ : ∃ e, d = e + 1 := ⟨d - 1, by omega⟩
  have hd : 1 ≤ d := by omega
  refine mt_of (by decide) rfl (Nat.le_of_ble_eq_true rfl) (fun Γ C hq => ?_)
  unfold F_X6_holds at hF
  show V Δ Γ 4 0 [(0, rf Δ (x0)), (1, .int (x1)), (2, .int (x2)), (3, .int (x3))] [] σ
  refine v_iload_n C 2 2 dX6_holds_0 rfl rfl ?_
  refine v_if_lt C 23 dX6_holds_1 (by decide) (fun c1 => ?_) (fun c1 => ?_)
  · have hF := ifp hF c1
    refine v_iconst C (0) dX6_holds_23 (by decide) ?_
    exact v_zretP C hq (Option.some.inj hF) rfl dX6_holds_24
  · have hF := ifn hF c1
    refine v_iload_n C 3 3 dX6_holds_4 rfl rfl ?_
    refine v_if_lt C 23 dX6_holds_5 (by decide) (fun c2 => ?_) (fun c2 => ?_)
    · have hF := ifp hF c2
      refine v_iconst C (0) dX6_holds_23 (by decide) ?_
      exact v_zretP C hq (Option.some.inj hF) rfl dX6_holds_24
    · have hF := ifn hF c2
      refine v_iload_n C 2 2 dX6_holds_8 rfl rfl ?_
      refine v_aload_n C 0 0 dX6_holds_9 rfl rfl ?_
      refine v_iload_n C 1 1 dX6_holds_10 rfl rfl ?_
      obtain ⟨q3, g4, hF⟩ := bnd hF
      refine v_cVi C mw_X6_size lk_X6_34 _ (M_X6_size (by omega) h0 g4) h0 rfl rfl (Nat.le_of_ble_eq_true rfl) dX6_holds_11 ?_
      refine v_iload_n C 3 3 dX6_holds_14 rfl rfl ?_
      refine v_isub C dX6_holds_15 ?_
      refine v_icmp_gt C 23 dX6_holds_16 (by decide) (fun c5 => ?_) (fun c5 => ?_)
      · have hF := ifp hF c5
        refine v_iconst C (0) dX6_holds_23 (by decide) ?_
        exact v_zretP C hq (Option.some.inj hF) rfl dX6_holds_24
      · have hF := ifn hF c5
        refine v_iconst C (1) dX6_holds_19 (by decide) ?_
        refine v_goto C 24 dX6_holds_20 (by decide) ?_
        exact v_zretP C hq (Option.some.inj hF) rfl dX6_holds_24
set_option maxRecDepth 20000 in
set_option maxHeartbeats 2000000 in
theorem M_X6_set {Δ : DD} {d : Nat} {x0 : Nat} {x1 : Int32} {x2 : Int32} {x3 : Int32} {σ : Mem} {q : Mem} (hd : 2 ≤ d) (h0 : isK 6 x0 = true) (hF : F_X6_set x0 x1 x2 x3 σ = some q) : Mt Δ d yX6_set cX6_set 4 none [rf Δ x0, .int x1, .int x2, .int x3] σ none q := by
  obtain ⟨d, rfl⟩ : ∃ e, d = e + 1 := ⟨d - 1, by omega⟩
  have hd : 1 ≤ d := by omega
  refine mt_of (by decide) rfl (Nat.le_of_ble_eq_true rfl) (fun Γ C hq => ?_)
  unfold F_X6_set at hF
  show V Δ Γ 4 0 [(0, rf Δ (x0)), (1, .int (x1)), (2, .int (x2)), (3, .int (x3))] [] σ
  refine v_iload_n C 2 2 dX6_set_0 rfl rfl ?_
  refine v_if_lt C 29 dX6_set_1 (by decide) (fun c1 => ?_) (fun c1 => ?_)
  · have hF := ifp hF c1
    exact v_vretF C hq (Option.some.inj hF) dX6_set_29
  · have hF := ifn hF c1
    refine v_iload_n C 2 2 dX6_set_4 rfl rfl ?_
    refine v_aload_n C 0 0 dX6_set_5 rfl rfl ?_
    refine v_iload_n C 1 1 dX6_set_6 rfl rfl ?_
    obtain ⟨q2, g3, hF⟩ := bnd hF
    refine v_cVi C mw_X6_size lk_X6_34 _ (M_X6_size (by omega) h0 g3) h0 rfl rfl (Nat.le_of_ble_eq_true rfl) dX6_set_7 ?_
    refine v_icmp_ge C 29 dX6_set_10 (by decide) (fun c4 => ?_) (fun c4 => ?_)
    · have hF := ifp hF c4
      exact v_vretF C hq (Option.some.inj hF) dX6_set_29
    · have hF := ifn hF c4
      refine v_aload_n C 0 0 dX6_set_13 rfl rfl ?_
      obtain ⟨p6, g5, hF⟩ := bnd hF
      refine v_gR C fu_X6_25 g5 dX6_set_14 ?_
      refine v_iload_n C 1 1 dX6_set_17 rfl rfl ?_
      refine v_aload_n C 0 0 dX6_set_18 rfl rfl ?_
      obtain ⟨v8, g7, hF⟩ := bnd hF
      refine v_gI C fu_X6_15 g7 dX6_set_19 ?_
      refine v_imul C dX6_set_22 ?_
      refine v_iload_n C 2 2 dX6_set_23 rfl rfl ?_
      refine v_iadd C dX6_set_24 ?_
      refine v_iload_n C 3 3 dX6_set_25 rfl rfl ?_
      obtain ⟨q9, g10, hF⟩ := bnd hF
      refine v_cSv C mw_X8_write lk_X6_42 _ (M_X8_write (by omega) g10) rfl rfl (Nat.le_of_ble_eq_true rfl) dX6_set_26 ?_
      exact v_vretF C hq (Option.some.inj hF) dX6_set_29
def K_X6_make_19 (Δ : DD) (Γ : GG) (q : Mem) (x0 : Nat) (x1 : Int32) (x2 : Int32) (x3 : Int32) (y : (Int32 × Mem) ⊕ Mem) : Prop := match y with
  | .inl s => V Δ Γ 5 19 [(0, rf Δ (x0)), (1, .int (x1)), (2, .int (x2)), (3, .int (x3)), (4, .int (s.1))] [] s.2
  | .inr t => (t = q)
set_option maxRecDepth 20000 in
set_option maxHeartbeats 2000000 in
theorem W_X6_make_19 {Δ : DD} {Γ : GG} {d : Nat} {q : Mem} {x0 : Nat} {x1 : Int32} {x2 : Int32} {x3 : Int32} (C : Cx Δ Γ RX6 cX6_make 5 d none) (hq : RetQ Δ Γ none q) (h0 : isK 6 x0 = true) (hd : 2 ≤ d) {s : Int32 × Mem} (hF : F_X6_make_19 x0 x1 x2 x3  s = some q) : V Δ Γ 5 19 [(0, rf Δ (x0)), (1, .int (x1)), (2, .int (x2)), (3, .int (x3)), (4, .int (s.1))] [] s.2 := by
  have hF : F_X6_make_19 x0 x1 x2 x3  s = some q := hF
  refine lp_V (W := fun (s : Int32 × Mem) => V Δ Γ 5 19 [(0, rf Δ (x0)), (1, .int (x1)), (2, .int (x2)), (3, .int (x3)), (4, .int (s.1))] [] s.2) (K := fun t => t = q) (K' := K_X6_make_19 Δ Γ q x0 x1 x2 x3 ) (fun _ h => h) (fun _ h => h) ?_ s q hF rfl
  clear hF
  intro s z hF hK
  refine v_iload C 4 4 dX6_make_19 rfl ?_
  refine v_iload_n C 2 2 dX6_make_21 rfl rfl ?_
  refine v_icmp_ge C 48 dX6_make_22 (by decide) (fun c1 => ?_) (fun c1 => ?_)
  · have hF := ifp hF c1
    cases hF
    exact v_vretF C hq hK dX6_make_48
  · have hF := ifn hF c1
    refine v_iload C 4 4 dX6_make_25 rfl ?_
    refine v_aload_n C 0 0 dX6_make_27 rfl rfl ?_
    obtain ⟨v3, g2, hF⟩ := bnd hF
    refine v_gI C fu_X6_15 g2 dX6_make_28 ?_
    refine v_icmp_ge C 48 dX6_make_31 (by decide) (fun c4 => ?_) (fun c4 => ?_)
    · have hF := ifp hF c4
      cases hF
      exact v_vretF C hq hK dX6_make_48
    · have hF := ifn hF c4
      refine v_aload_n C 0 0 dX6_make_34 rfl rfl ?_
      refine v_iload_n C 1 1 dX6_make_35 rfl rfl ?_
      refine v_iload C 4 4 dX6_make_36 rfl ?_
      refine v_iload_n C 3 3 dX6_make_38 rfl rfl ?_
      obtain ⟨q5, g6, hF⟩ := bnd hF
      refine v_cVv C mw_X6_set lk_X6_49 _ (M_X6_set (by omega) h0 g6) h0 rfl rfl (Nat.le_of_ble_eq_true rfl) dX6_make_39 ?_
      refine v_iinc C (_ + (1 : Int32)) 4 (ll' := [(4, _), (0, _), (1, _), (2, _), (3, _)]) dX6_make_42 rfl (inc_eq (by decide)) (by decide) rfl ?_
      refine v_goto C 19 dX6_make_45 (by decide) ?_
      refine v_sub [1, 2, 3, 4, 0] (ll' := [(0, _), (1, _), (2, _), (3, _), (4, _)]) rfl ?_
      cases hF
      exact hK
set_option maxRecDepth 20000 in
set_option maxHeartbeats 2000000 in
theorem M_X6_make {Δ : DD} {d : Nat} {x0 : Nat} {x1 : Int32} {x2 : Int32} {x3 : Int32} {σ : Mem} {q : Mem} (hd : 3 ≤ d) (h0 : isK 6 x0 = true) (hF : F_X6_make x0 x1 x2 x3 σ = some q) : Mt Δ d yX6_make cX6_make 5 none [rf Δ x0, .int x1, .int x2, .int x3] σ none q := by
  obtain ⟨d, rfl⟩ : ∃ e, d = e + 1 := ⟨d - 1, by omega⟩
  have hd : 2 ≤ d := by omega
  refine mt_of (by decide) rfl (Nat.le_of_ble_eq_true rfl) (fun Γ C hq => ?_)
  unfold F_X6_make at hF
  show V Δ Γ 5 0 [(0, rf Δ (x0)), (1, .int (x1)), (2, .int (x2)), (3, .int (x3))] [] σ
  refine v_aload_n C 0 0 dX6_make_0 rfl rfl ?_
  obtain ⟨p8, g7, hF⟩ := bnd hF
  refine v_gR C fu_X6_21 g7 dX6_make_1 ?_
  refine v_iload_n C 1 1 dX6_make_4 rfl rfl ?_
  refine v_iload_n C 2 2 dX6_make_5 rfl rfl ?_
  refine v_aload_n C 0 0 dX6_make_6 rfl rfl ?_
  obtain ⟨v10, g9, hF⟩ := bnd hF
  refine v_gI C fu_X6_15 g9 dX6_make_7 ?_
  refine v_min C ml_X6_46 mm_min_s mm_i mm_min_c (Nat.le_of_ble_eq_true rfl) dX6_make_10 ?_
  obtain ⟨q11, g12, hF⟩ := bnd hF
  refine v_cSv C mw_X8_write lk_X6_42 _ (M_X8_write (by omega) g12) rfl rfl (Nat.le_of_ble_eq_true rfl) dX6_make_13 ?_
  refine v_iconst C (0) dX6_make_16 (by decide) ?_
  refine v_istore C 4 (ll' := [(4, _), (0, _), (1, _), (2, _), (3, _)]) dX6_make_17 (by decide) rfl ?_
  refine v_sub [1, 2, 3, 4, 0] (ll' := [(0, _), (1, _), (2, _), (3, _), (4, _)]) rfl ?_
  exact W_X6_make_19 C hq h0 hd hF
def K_X6_makeOf_19 (Δ : DD) (Γ : GG) (q : Mem) (x0 : Nat) (x1 : Int32) (x2 : Int32) (x3 : Nat) (y : (Int32 × Mem) ⊕ Mem) : Prop := match y with
  | .inl s => V Δ Γ 5 19 [(0, rf Δ (x0)), (1, .int (x1)), (2, .int (x2)), (3, rf Δ (x3)), (4, .int (s.1))] [] s.2
  | .inr t => (t = q)
set_option maxRecDepth 20000 in
set_option maxHeartbeats 2000000 in
theorem W_X6_makeOf_19 {Δ : DD} {Γ : GG} {d : Nat} {q : Mem} {x0 : Nat} {x1 : Int32} {x2 : Int32} {x3 : Nat} (C : Cx Δ Γ RX6 cX6_makeOf 5 d none) (hq : RetQ Δ Γ none q) (h0 : isK 6 x0 = true) (hd : 2 ≤ d) {s : Int32 × Mem} (hF : F_X6_makeOf_19 x0 x1 x2 x3  s = some q) : V Δ Γ 5 19 [(0, rf Δ (x0)), (1, .int (x1)), (2, .int (x2)), (3, rf Δ (x3)), (4, .int (s.1))] [] s.2 := by
  have hF : F_X6_makeOf_19 x0 x1 x2 x3  s = some q := hF
  refine lp_V (W := fun (s : Int32 × Mem) => V Δ Γ 5 19 [(0, rf Δ (x0)), (1, .int (x1)), (2, .int (x2)), (3, rf Δ (x3)), (4, .int (s.1))] [] s.2) (K := fun t => t = q) (K' := K_X6_makeOf_19 Δ Γ q x0 x1 x2 x3 ) (fun _ h => h) (fun _ h => h) ?_ s q hF rfl
  clear hF
  intro s z hF hK
  refine v_iload C 4 4 dX6_makeOf_19 rfl ?_
  refine v_iload_n C 2 2 dX6_makeOf_21 rfl rfl ?_
  refine v_icmp_ge C 53 dX6_makeOf_22 (by decide) (fun c1 => ?_) (fun c1 => ?_)
  · have hF := ifp hF c1
    cases hF
    exact v_vretF C hq hK dX6_makeOf_53
  · have hF := ifn hF c1
    refine v_iload C 4 4 dX6_makeOf_25 rfl ?_
    refine v_aload_n C 0 0 dX6_makeOf_27 rfl rfl ?_
    obtain ⟨v3, g2, hF⟩ := bnd hF
    refine v_gI C fu_X6_15 g2 dX6_makeOf_28 ?_
    refine v_icmp_ge C 53 dX6_makeOf_31 (by decide) (fun c4 => ?_) (fun c4 => ?_)
    · have hF := ifp hF c4
      cases hF
      exact v_vretF C hq hK dX6_makeOf_53
    · have hF := ifn hF c4
      refine v_aload_n C 0 0 dX6_makeOf_34 rfl rfl ?_
      refine v_iload_n C 1 1 dX6_makeOf_35 rfl rfl ?_
      refine v_iload C 4 4 dX6_makeOf_36 rfl ?_
      refine v_aload_n C 3 3 dX6_makeOf_38 rfl rfl ?_
      refine v_iload C 4 4 dX6_makeOf_39 rfl ?_
      obtain ⟨q5, g6, hF⟩ := bnd hF
      refine v_cSi C mw_X8_read lk_X6_38 _ (M_X8_read (by omega) g6) rfl rfl (Nat.le_of_ble_eq_true rfl) dX6_makeOf_41 ?_
      obtain ⟨q7, g8, hF⟩ := bnd hF
      refine v_cVv C mw_X6_set lk_X6_49 _ (M_X6_set (by omega) h0 g8) h0 rfl rfl (Nat.le_of_ble_eq_true rfl) dX6_makeOf_44 ?_
      refine v_iinc C (_ + (1 : Int32)) 4 (ll' := [(4, _), (0, _), (1, _), (2, _), (3, _)]) dX6_makeOf_47 rfl (inc_eq (by decide)) (by decide) rfl ?_
      refine v_goto C 19 dX6_makeOf_50 (by decide) ?_
      refine v_sub [1, 2, 3, 4, 0] (ll' := [(0, _), (1, _), (2, _), (3, _), (4, _)]) rfl ?_
      cases hF
      exact hK
set_option maxRecDepth 20000 in
set_option maxHeartbeats 2000000 in
theorem M_X6_makeOf {Δ : DD} {d : Nat} {x0 : Nat} {x1 : Int32} {x2 : Int32} {x3 : Nat} {σ : Mem} {q : Mem} (hd : 3 ≤ d) (h0 : isK 6 x0 = true) (hF : F_X6_makeOf x0 x1 x2 x3 σ = some q) : Mt Δ d yX6_makeOf cX6_makeOf 5 none [rf Δ x0, .int x1, .int x2, rf Δ x3] σ none q := by
  obtain ⟨d, rfl⟩ : ∃ e, d = e + 1 := ⟨d - 1, by omega⟩
  have hd : 2 ≤ d := by omega
  refine mt_of (by decide) rfl (Nat.le_of_ble_eq_true rfl) (fun Γ C hq => ?_)
  unfold F_X6_makeOf at hF
  show V Δ Γ 5 0 [(0, rf Δ (x0)), (1, .int (x1)), (2, .int (x2)), (3, rf Δ (x3))] [] σ
  refine v_aload_n C 0 0 dX6_makeOf_0 rfl rfl ?_
  obtain ⟨p10, g9, hF⟩ := bnd hF
  refine v_gR C fu_X6_21 g9 dX6_makeOf_1 ?_
  refine v_iload_n C 1 1 dX6_makeOf_4 rfl rfl ?_
  refine v_iload_n C 2 2 dX6_makeOf_5 rfl rfl ?_
  refine v_aload_n C 0 0 dX6_makeOf_6 rfl rfl ?_
  obtain ⟨v12, g11, hF⟩ := bnd hF
  refine v_gI C fu_X6_15 g11 dX6_makeOf_7 ?_
  refine v_min C ml_X6_46 mm_min_s mm_i mm_min_c (Nat.le_of_ble_eq_true rfl) dX6_makeOf_10 ?_
  obtain ⟨q13, g14, hF⟩ := bnd hF
  refine v_cSv C mw_X8_write lk_X6_42 _ (M_X8_write (by omega) g14) rfl rfl (Nat.le_of_ble_eq_true rfl) dX6_makeOf_13 ?_
  refine v_iconst C (0) dX6_makeOf_16 (by decide) ?_
  refine v_istore C 4 (ll' := [(4, _), (0, _), (1, _), (2, _), (3, _)]) dX6_makeOf_17 (by decide) rfl ?_
  refine v_sub [1, 2, 3, 4, 0] (ll' := [(0, _), (1, _), (2, _), (3, _), (4, _)]) rfl ?_
  exact W_X6_makeOf_19 C hq h0 hd hF
set_option maxRecDepth 20000 in
set_option maxHeartbeats 2000000 in
theorem M_X6_remove {Δ : DD} {d : Nat} {x0 : Nat} {x1 : Int32} {σ : Mem} {q : Mem} (hd : 2 ≤ d) (h0 : isK 6 x0 = true) (hF : F_X6_remove x0 x1 σ = some q) : Mt Δ d yX6_remove cX6_remove 2 none [rf Δ x0, .int x1] σ none q := by
  obtain ⟨d, rfl⟩ : ∃ e, d = e + 1 := ⟨d - 1, by omega⟩
  have hd : 1 ≤ d := by omega
  refine mt_of (by decide) rfl (Nat.le_of_ble_eq_true rfl) (fun Γ C hq => ?_)
  unfold F_X6_remove at hF
  show V Δ Γ 2 0 [(0, rf Δ (x0)), (1, .int (x1))] [] σ
  refine v_aload_n C 0 0 dX6_remove_0 rfl rfl ?_
  obtain ⟨p2, g1, hF⟩ := bnd hF
  refine v_gR C fu_X6_21 g1 dX6_remove_1 ?_
  refine v_iload_n C 1 1 dX6_remove_4 rfl rfl ?_
  refine v_iconst C (-1) dX6_remove_5 (by decide) ?_
  obtain ⟨q3, g4, hF⟩ := bnd hF
  refine v_cSv C mw_X8_write lk_X6_42 _ (M_X8_write (by omega) g4) rfl rfl (Nat.le_of_ble_eq_true rfl) dX6_remove_6 ?_
  exact v_vretF C hq (Option.some.inj hF) dX6_remove_9
set_option maxRecDepth 20000 in
set_option maxHeartbeats 2000000 in
theorem M_X6_removeAll {Δ : DD} {d : Nat} {x0 : Nat} {σ : Mem} {q : Mem} (hd : 2 ≤ d) (h0 : isK 6 x0 = true) (hF : F_X6_removeAll x0 σ = some q) : Mt Δ d yX6_removeAll cX6_removeAll 1 none [rf Δ x0] σ none q := by
  obtain ⟨d, rfl⟩ : ∃ e, d = e + 1 := ⟨d - 1, by omega⟩
  have hd : 1 ≤ d := by omega
  refine mt_of (by decide) rfl (Nat.le_of_ble_eq_true rfl) (fun Γ C hq => ?_)
  unfold F_X6_removeAll at hF
  show V Δ Γ 1 0 [(0, rf Δ (x0))] [] σ
  refine v_aload_n C 0 0 dX6_removeAll_0 rfl rfl ?_
  obtain ⟨p2, g1, hF⟩ := bnd hF
  refine v_gR C fu_X6_21 g1 dX6_removeAll_1 ?_
  refine v_iconst C (-1) dX6_removeAll_4 (by decide) ?_
  obtain ⟨q3, g4, hF⟩ := bnd hF
  refine v_cSv C mw_J7_fill_53178 lk_X6_28 _ (M_J7_fill_53178 (by omega) g4) rfl rfl (Nat.le_of_ble_eq_true rfl) dX6_removeAll_5 ?_
  exact v_vretF C hq (Option.some.inj hF) dX6_removeAll_8
set_option maxRecDepth 20000 in
set_option maxHeartbeats 2000000 in
theorem M_X8_shift {Δ : DD} {d : Nat} {x0 : Nat} {x1 : Int32} {x2 : Int32} {x3 : Int32} {σ : Mem} {q : Mem} (hd : 1 ≤ d) (hF : F_X8_shift x0 x1 x2 x3 σ = some q) : Mt Δ d yX8_shift cX8_shift 5 none [rf Δ x0, .int x1, .int x2, .int x3] σ none q := by
  obtain ⟨d, rfl⟩ : ∃ e, d = e + 1 := ⟨d - 1, by omega⟩
  have hd : 0 ≤ d := by omega
  refine mt_of (by decide) rfl (Nat.le_of_ble_eq_true rfl) (fun Γ C hq => ?_)
  unfold F_X8_shift at hF
  show V Δ Γ 5 0 [(0, rf Δ (x0)), (1, .int (x1)), (2, .int (x2)), (3, .int (x3))] [] σ
  refine v_aload_n C 0 0 dX8_shift_0 rfl rfl ?_
  obtain ⟨v1, g2, hF⟩ := bnd hF
  refine v_aN C g2 dX8_shift_1 ?_
  refine v_iload_n C 3 3 dX8_shift_2 rfl rfl ?_
  refine v_isub C dX8_shift_3 ?_
  refine v_istore C 4 (ll' := [(4, _), (0, _), (1, _), (2, _), (3, _)]) dX8_shift_4 (by decide) rfl ?_
  refine v_iload_n C 3 4 dX8_shift_6 rfl rfl ?_
  refine v_if_lt C 38 dX8_shift_7 (by decide) (fun c3 => ?_) (fun c3 => ?_)
  · have hF := ifp hF c3
    exact v_vretF C hq (Option.some.inj hF) dX8_shift_38
  · have hF := ifn hF c3
    refine v_iload_n C 1 2 dX8_shift_10 rfl rfl ?_
    refine v_if_lt C 38 dX8_shift_11 (by decide) (fun c4 => ?_) (fun c4 => ?_)
    · have hF := ifp hF c4
      exact v_vretF C hq (Option.some.inj hF) dX8_shift_38
    · have hF := ifn hF c4
      refine v_iload_n C 1 2 dX8_shift_14 rfl rfl ?_
      refine v_iload C 4 0 dX8_shift_15 rfl ?_
      refine v_icmp_gt C 38 dX8_shift_17 (by decide) (fun c5 => ?_) (fun c5 => ?_)
      · have hF := ifp hF c5
        exact v_vretF C hq (Option.some.inj hF) dX8_shift_38
      · have hF := ifn hF c5
        refine v_iload_n C 2 3 dX8_shift_20 rfl rfl ?_
        refine v_if_lt C 38 dX8_shift_21 (by decide) (fun c6 => ?_) (fun c6 => ?_)
        · have hF := ifp hF c6
          exact v_vretF C hq (Option.some.inj hF) dX8_shift_38
        · have hF := ifn hF c6
          refine v_iload_n C 2 3 dX8_shift_24 rfl rfl ?_
          refine v_iload C 4 0 dX8_shift_25 rfl ?_
          refine v_icmp_gt C 38 dX8_shift_27 (by decide) (fun c7 => ?_) (fun c7 => ?_)
          · have hF := ifp hF c7
            exact v_vretF C hq (Option.some.inj hF) dX8_shift_38
          · have hF := ifn hF c7
            refine v_aload_n C 0 1 dX8_shift_30 rfl rfl ?_
            refine v_iload_n C 1 2 dX8_shift_31 rfl rfl ?_
            refine v_aload_n C 0 1 dX8_shift_32 rfl rfl ?_
            refine v_iload_n C 2 3 dX8_shift_33 rfl rfl ?_
            refine v_iload_n C 3 4 dX8_shift_34 rfl rfl ?_
            obtain ⟨m8, g9, hF⟩ := bnd hF
            refine v_copy C al_X8_340 ac_n ac_s ac_i g9 (Nat.le_of_ble_eq_true rfl) dX8_shift_35 ?_
            exact v_vretF C hq (Option.some.inj hF) dX8_shift_38
set_option maxRecDepth 20000 in
set_option maxHeartbeats 2000000 in
theorem M_X6_move {Δ : DD} {d : Nat} {x0 : Nat} {x1 : Int32} {x2 : Int32} {x3 : Int32} {x4 : Int32} {x5 : Int32} {σ : Mem} {q : Mem} (hd : 2 ≤ d) (h0 : isK 6 x0 = true) (hF : F_X6_move x0 x1 x2 x3 x4 x5 σ = some q) : Mt Δ d yX6_move cX6_move 6 none [rf Δ x0, .int x1, .int x2, .int x3, .int x4, .int x5] σ none q := by
  obtain ⟨d, rfl⟩ : ∃ e, d = e + 1 := ⟨d - 1, by omega⟩
  have hd : 1 ≤ d := by omega
  refine mt_of (by decide) rfl (Nat.le_of_ble_eq_true rfl) (fun Γ C hq => ?_)
  unfold F_X6_move at hF
  show V Δ Γ 6 0 [(0, rf Δ (x0)), (1, .int (x1)), (2, .int (x2)), (3, .int (x3)), (4, .int (x4)), (5, .int (x5))] [] σ
  refine v_aload_n C 0 0 dX6_move_0 rfl rfl ?_
  obtain ⟨p2, g1, hF⟩ := bnd hF
  refine v_gR C fu_X6_25 g1 dX6_move_1 ?_
  refine v_iload_n C 1 1 dX6_move_4 rfl rfl ?_
  refine v_aload_n C 0 0 dX6_move_5 rfl rfl ?_
  obtain ⟨v4, g3, hF⟩ := bnd hF
  refine v_gI C fu_X6_15 g3 dX6_move_6 ?_
  refine v_imul C dX6_move_9 ?_
  refine v_iload_n C 2 2 dX6_move_10 rfl rfl ?_
  refine v_iadd C dX6_move_11 ?_
  refine v_iload_n C 3 3 dX6_move_12 rfl rfl ?_
  refine v_aload_n C 0 0 dX6_move_13 rfl rfl ?_
  obtain ⟨v6, g5, hF⟩ := bnd hF
  refine v_gI C fu_X6_15 g5 dX6_move_14 ?_
  refine v_imul C dX6_move_17 ?_
  refine v_iload C 4 4 dX6_move_18 rfl ?_
  refine v_iadd C dX6_move_20 ?_
  refine v_iload C 5 5 dX6_move_21 rfl ?_
  obtain ⟨q7, g8, hF⟩ := bnd hF
  refine v_cSv C mw_X8_shift lk_X6_53 _ (M_X8_shift (by omega) g8) rfl rfl (Nat.le_of_ble_eq_true rfl) dX6_move_23 ?_
  exact v_vretF C hq (Option.some.inj hF) dX6_move_26
def K_X6_digestOn_2 (Δ : DD) (Γ : GG) (q : Int64) (x0 : Nat) (σ : Mem) (y : (Int64 × Int32) ⊕ Int64) : Prop := match y with
  | .inl s => V Δ Γ 5 2 [(0, rf Δ (x0)), (1, .long (s.1)), (3, .int (s.2))] [] σ
  | .inr t => (t = q)
def K_X6_digestOn_27 (Δ : DD) (Γ : GG) (q : Int64) (x0 : Nat) (x3 : Int32) (σ : Mem) (y : (Int64 × Int32) ⊕ ((Int64 × Int32) ⊕ Int64)) : Prop := match y with
  | .inl s => V Δ Γ 5 27 [(0, rf Δ (x0)), (1, .long (s.1)), (3, .int (x3)), (4, .int (s.2))] [] σ
  | .inr t => (K_X6_digestOn_2 Δ Γ q x0 σ t)
set_option maxRecDepth 20000 in
set_option maxHeartbeats 2000000 in
theorem W_X6_digestOn_27 {Δ : DD} {Γ : GG} {d : Nat} {q : Int64} {x0 : Nat} {x3 : Int32} {σ : Mem} (C : Cx Δ Γ RX6 cX6_digestOn 5 d (some .long)) (hq : RetQ Δ Γ (some (.long q)) σ) (h0 : isK 6 x0 = true) (hd : 2 ≤ d) {s : Int64 × Int32} {y : ((Int64 × Int32) ⊕ Int64)} (hF : F_X6_digestOn_27 x0 x3 σ s = some y) (hK : (K_X6_digestOn_2 Δ Γ q x0 σ y)) : V Δ Γ 5 27 [(0, rf Δ (x0)), (1, .long (s.1)), (3, .int (x3)), (4, .int (s.2))] [] σ := by
  refine lp_V (W := fun (s : Int64 × Int32) => V Δ Γ 5 27 [(0, rf Δ (x0)), (1, .long (s.1)), (3, .int (x3)), (4, .int (s.2))] [] σ) (K := fun (t : ((Int64 × Int32) ⊕ Int64)) => (K_X6_digestOn_2 Δ Γ q x0 σ t)) (K' := K_X6_digestOn_27 Δ Γ q x0 x3 σ) (fun _ h => h) (fun _ h => h) ?_ s y hF hK
  clear hF hK
  intro s z hF hK
  refine v_iload C 4 3 dX6_digestOn_27 rfl ?_
  refine v_aload_n C 0 0 dX6_digestOn_29 rfl rfl ?_
  refine v_iload_n C 3 2 dX6_digestOn_30 rfl rfl ?_
  obtain ⟨q8, g9, hF⟩ := bnd hF
  refine v_cVi C mw_X6_size lk_X6_34 _ (M_X6_size (by omega) h0 g9) h0 rfl rfl (Nat.le_of_ble_eq_true rfl) dX6_digestOn_31 ?_
  refine v_icmp_ge C 58 dX6_digestOn_34 (by decide) (fun c10 => ?_) (fun c10 => ?_)
  · have hF := ifp hF c10
    refine v_iinc C (_ + (1 : Int32)) 2 (ll' := [(3, _), (0, _), (1, _), (4, _)]) dX6_digestOn_58 rfl (inc_eq (by decide)) (by decide) rfl ?_
    refine v_goto C 2 dX6_digestOn_61 (by decide) ?_
    refine v_sub [1, 2, 0] (ll' := [(0, _), (1, _), (3, _)]) rfl ?_
    cases hF
    exact hK
  · have hF := ifn hF c10
    refine v_ldc2 C (31) kl_X6_57 dX6_digestOn_37 ?_
    refine v_lload_n C 1 1 dX6_digestOn_40 rfl rfl ?_
    refine v_lmul C dX6_digestOn_41 ?_
    refine v_aload_n C 0 0 dX6_digestOn_42 rfl rfl ?_
    refine v_iload_n C 3 2 dX6_digestOn_43 rfl rfl ?_
    refine v_iload C 4 3 dX6_digestOn_44 rfl ?_
    obtain ⟨q11, g12, hF⟩ := bnd hF
    refine v_cVi C mw_X6_get lk_X6_59 _ (M_X6_get (by omega) h0 g12) h0 rfl rfl (Nat.le_of_ble_eq_true rfl) dX6_digestOn_46 ?_
    refine v_i2l C dX6_digestOn_49 ?_
    refine v_ladd C dX6_digestOn_50 ?_
    refine v_lstore_n C 1 (ll' := [(1, _), (0, _), (3, _), (4, _)]) dX6_digestOn_51 rfl (by decide) rfl ?_
    refine v_iinc C (_ + (1 : Int32)) 3 (ll' := [(4, _), (1, _), (0, _), (3, _)]) dX6_digestOn_52 rfl (inc_eq (by decide)) (by decide) rfl ?_
    refine v_goto C 27 dX6_digestOn_55 (by decide) ?_
    refine v_sub [2, 1, 3, 0] (ll' := [(0, _), (1, _), (3, _), (4, _)]) rfl ?_
    cases hF
    exact hK
set_option maxRecDepth 20000 in
set_option maxHeartbeats 2000000 in
theorem W_X6_digestOn_2 {Δ : DD} {Γ : GG} {d : Nat} {q : Int64} {x0 : Nat} {σ : Mem} (C : Cx Δ Γ RX6 cX6_digestOn 5 d (some .long)) (hq : RetQ Δ Γ (some (.long q)) σ) (h0 : isK 6 x0 = true) (hd : 2 ≤ d) {s : Int64 × Int32} (hF : F_X6_digestOn_2 x0 σ s = some q) : V Δ Γ 5 2 [(0, rf Δ (x0)), (1, .long (s.1)), (3, .int (s.2))] [] σ := by
  have hF : F_X6_digestOn_2 x0 σ s = some q := hF
  refine lp_V (W := fun (s : Int64 × Int32) => V Δ Γ 5 2 [(0, rf Δ (x0)), (1, .long (s.1)), (3, .int (s.2))] [] σ) (K := fun t => t = q) (K' := K_X6_digestOn_2 Δ Γ q x0 σ) (fun _ h => h) (fun _ h => h) ?_ s q hF rfl
  clear hF
  intro s z hF hK
  refine v_iload_n C 3 2 dX6_digestOn_2 rfl rfl ?_
  refine v_aload_n C 0 0 dX6_digestOn_3 rfl rfl ?_
  obtain ⟨p2, g1, hF⟩ := bnd hF
  refine v_gR C fu_X6_21 g1 dX6_digestOn_4 ?_
  obtain ⟨v3, g4, hF⟩ := bnd hF
  refine v_aN C g4 dX6_digestOn_7 ?_
  refine v_icmp_ge C 64 dX6_digestOn_8 (by decide) (fun c5 => ?_) (fun c5 => ?_)
  · have hF := ifp hF c5
    refine v_lload_n C 1 1 dX6_digestOn_64 rfl rfl ?_
    cases hF
    exact v_lretP C hq hK dX6_digestOn_65
  · have hF := ifn hF c5
    refine v_ldc2 C (31) kl_X6_57 dX6_digestOn_11 ?_
    refine v_lload_n C 1 1 dX6_digestOn_14 rfl rfl ?_
    refine v_lmul C dX6_digestOn_15 ?_
    refine v_aload_n C 0 0 dX6_digestOn_16 rfl rfl ?_
    refine v_iload_n C 3 2 dX6_digestOn_17 rfl rfl ?_
    obtain ⟨q6, g7, hF⟩ := bnd hF
    refine v_cVi C mw_X6_size lk_X6_34 _ (M_X6_size (by omega) h0 g7) h0 rfl rfl (Nat.le_of_ble_eq_true rfl) dX6_digestOn_18 ?_
    refine v_i2l C dX6_digestOn_21 ?_
    refine v_ladd C dX6_digestOn_22 ?_
    refine v_lstore_n C 1 (ll' := [(1, _), (0, _), (3, _)]) dX6_digestOn_23 rfl (by decide) rfl ?_
    refine v_iconst C (0) dX6_digestOn_24 (by decide) ?_
    refine v_istore C 4 (ll' := [(4, _), (1, _), (0, _), (3, _)]) dX6_digestOn_25 (by decide) rfl ?_
    refine v_sub [2, 1, 3, 0] (ll' := [(0, _), (1, _), (3, _), (4, _)]) rfl ?_
    exact W_X6_digestOn_27 C hq h0 hd hF hK
set_option maxRecDepth 20000 in
set_option maxHeartbeats 2000000 in
theorem M_X6_digestOn {Δ : DD} {d : Nat} {x0 : Nat} {x1 : Int64} {σ : Mem} {q : Int64} (hd : 3 ≤ d) (h0 : isK 6 x0 = true) (hF : F_X6_digestOn x0 x1 σ = some q) : Mt Δ d yX6_digestOn cX6_digestOn 5 (some .long) [rf Δ x0, .long x1] σ (some (.long q)) σ := by
  obtain ⟨d, rfl⟩ : ∃ e, d = e + 1 := ⟨d - 1, by omega⟩
  have hd : 2 ≤ d := by omega
  refine mt_of (by decide) rfl (Nat.le_of_ble_eq_true rfl) (fun Γ C hq => ?_)
  unfold F_X6_digestOn at hF
  show V Δ Γ 5 0 [(0, rf Δ (x0)), (1, .long (x1))] [] σ
  refine v_iconst C (0) dX6_digestOn_0 (by decide) ?_
  refine v_istore_n C 3 (ll' := [(3, _), (0, _), (1, _)]) dX6_digestOn_1 rfl (by decide) rfl ?_
  refine v_sub [1, 2, 0] (ll' := [(0, _), (1, _), (3, _)]) rfl ?_
  exact W_X6_digestOn_2 C hq h0 hd hF
set_option maxRecDepth 20000 in
set_option maxHeartbeats 2000000 in
theorem M_X7_crossesIn {Δ : DD} {d : Nat} {x0 : Nat} {x1 : Int32} {x2 : Int32} {σ : Mem} {q : Int32} (hd : 3 ≤ d) (h0 : isK 7 x0 = true) (hF : F_X7_crossesIn x0 x1 x2 σ = some q) : Mt Δ d yX7_crossesIn cX7_crossesIn 3 (some .int) [rf Δ x0, .int x1, .int x2] σ (some (.int q)) σ := by
  obtain ⟨d, rfl⟩ : ∃ e, d = e + 1 := ⟨d - 1, by omega⟩
  have hd : 2 ≤ d := by omega
  refine mt_of (by decide) rfl (Nat.le_of_ble_eq_true rfl) (fun Γ C hq => ?_)
  unfold F_X7_crossesIn at hF
  show V Δ Γ 3 0 [(0, rf Δ (x0)), (1, .int (x1)), (2, .int (x2))] [] σ
  refine v_aload_n C 0 0 dX7_crossesIn_0 rfl rfl ?_
  refine v_iload_n C 1 1 dX7_crossesIn_1 rfl rfl ?_
  obtain ⟨q1, g2, hF⟩ := bnd hF
  refine v_cVi C mw_X7_kindOf lk_X7_57 _ (M_X7_kindOf (by omega) h0 g2) h0 rfl rfl (Nat.le_of_ble_eq_true rfl) dX7_crossesIn_2 ?_
  refine v_aload_n C 0 0 dX7_crossesIn_5 rfl rfl ?_
  refine v_iload_n C 1 1 dX7_crossesIn_6 rfl rfl ?_
  refine v_iload_n C 1 1 dX7_crossesIn_7 rfl rfl ?_
  obtain ⟨q3, g4, hF⟩ := bnd hF
  refine v_cVi C mw_X7_gapWith lk_X7_60 _ (M_X7_gapWith (by omega) h0 g4) h0 rfl rfl (Nat.le_of_ble_eq_true rfl) dX7_crossesIn_8 ?_
  refine v_aload_n C 0 0 dX7_crossesIn_11 rfl rfl ?_
  refine v_iload_n C 1 1 dX7_crossesIn_12 rfl rfl ?_
  obtain ⟨q5, g6, hF⟩ := bnd hF
  refine v_cVi C mw_X7_thickOf lk_X7_64 _ (M_X7_thickOf (by omega) h0 g6) h0 rfl rfl (Nat.le_of_ble_eq_true rfl) dX7_crossesIn_13 ?_
  refine v_iload_n C 2 2 dX7_crossesIn_16 rfl rfl ?_
  refine v_aload_n C 0 0 dX7_crossesIn_17 rfl rfl ?_
  refine v_iload_n C 2 2 dX7_crossesIn_18 rfl rfl ?_
  obtain ⟨q7, g8, hF⟩ := bnd hF
  refine v_cVi C mw_X7_coldOf lk_X7_67 _ (M_X7_coldOf (by omega) h0 g8) h0 rfl rfl (Nat.le_of_ble_eq_true rfl) dX7_crossesIn_19 ?_
  obtain ⟨q9, g10, hF⟩ := bnd hF
  refine v_cSi C mw_X8_crossing lk_X7_70 _ (M_X8_crossing (by omega) g10) rfl rfl (Nat.le_of_ble_eq_true rfl) dX7_crossesIn_22 ?_
  exact v_iretP C hq (Option.some.inj hF) dX7_crossesIn_25
set_option maxRecDepth 20000 in
set_option maxHeartbeats 2000000 in
theorem M_X7_about {Δ : DD} {d : Nat} {x0 : Nat} {x1 : Int32} {x2 : Int32} {σ : Mem} {q : Int32} (hd : 4 ≤ d) (h0 : isK 7 x0 = true) (hF : F_X7_about x0 x1 x2 σ = some q) : Mt Δ d yX7_about cX7_about 3 (some .int) [rf Δ x0, .int x1, .int x2] σ (some (.int q)) σ := by
  obtain ⟨d, rfl⟩ : ∃ e, d = e + 1 := ⟨d - 1, by omega⟩
  have hd : 3 ≤ d := by omega
  refine mt_of (by decide) rfl (Nat.le_of_ble_eq_true rfl) (fun Γ C hq => ?_)
  unfold F_X7_about at hF
  show V Δ Γ 3 0 [(0, rf Δ (x0)), (1, .int (x1)), (2, .int (x2))] [] σ
  refine v_iload_n C 2 2 dX7_about_0 rfl rfl ?_
  rcases ifc hF with ⟨c1, hF⟩ | ⟨c1, hF⟩
  · refine v_tableEq C 44 (0) (43) dX7_about_1 c1 (by decide) (by decide) (by decide) (by decide) ?_
    refine v_aload_n C 0 0 dX7_about_44 rfl rfl ?_
    refine v_iload_n C 1 1 dX7_about_45 rfl rfl ?_
    obtain ⟨q2, g3, hF⟩ := bnd hF
    refine v_cVi C mw_X7_kindOf lk_X7_57 _ (M_X7_kindOf (by omega) h0 g3) h0 rfl rfl (Nat.le_of_ble_eq_true rfl) dX7_about_46 ?_
    exact v_iretP C hq (Option.some.inj hF) dX7_about_49
  · skip
    rcases ifc hF with ⟨c4, hF⟩ | ⟨c4, hF⟩
    · refine v_tableEq C 50 (1) (49) dX7_about_1 c4 (by decide) (by decide) (by decide) (by decide) ?_
      refine v_aload_n C 0 0 dX7_about_50 rfl rfl ?_
      obtain ⟨p6, g5, hF⟩ := bnd hF
      refine v_gR C fu_X7_18 g5 dX7_about_51 ?_
      refine v_iload_n C 1 1 dX7_about_54 rfl rfl ?_
      obtain ⟨q7, g8, hF⟩ := bnd hF
      refine v_cSi C mw_X8_read lk_X7_47 _ (M_X8_read (by omega) g8) rfl rfl (Nat.le_of_ble_eq_true rfl) dX7_about_55 ?_
      exact v_iretP C hq (Option.some.inj hF) dX7_about_58
    · skip
      rcases ifc hF with ⟨c9, hF⟩ | ⟨c9, hF⟩
      · refine v_tableEq C 59 (2) (58) dX7_about_1 c9 (by decide) (by decide) (by decide) (by decide) ?_
        refine v_aload_n C 0 0 dX7_about_59 rfl rfl ?_
        obtain ⟨p11, g10, hF⟩ := bnd hF
        refine v_gR C fu_X7_21 g10 dX7_about_60 ?_
        refine v_iload_n C 1 1 dX7_about_63 rfl rfl ?_
        obtain ⟨q12, g13, hF⟩ := bnd hF
        refine v_cSi C mw_X8_read lk_X7_47 _ (M_X8_read (by omega) g13) rfl rfl (Nat.le_of_ble_eq_true rfl) dX7_about_64 ?_
        exact v_iretP C hq (Option.some.inj hF) dX7_about_67
      · skip
        rcases ifc hF with ⟨c14, hF⟩ | ⟨c14, hF⟩
        · refine v_tableEq C 68 (3) (67) dX7_about_1 c14 (by decide) (by decide) (by decide) (by decide) ?_
          refine v_aload_n C 0 0 dX7_about_68 rfl rfl ?_
          refine v_iload_n C 1 1 dX7_about_69 rfl rfl ?_
          obtain ⟨q15, g16, hF⟩ := bnd hF
          refine v_cVi C mw_X7_thickOf lk_X7_64 _ (M_X7_thickOf (by omega) h0 g16) h0 rfl rfl (Nat.le_of_ble_eq_true rfl) dX7_about_70 ?_
          exact v_iretP C hq (Option.some.inj hF) dX7_about_73
        · skip
          rcases ifc hF with ⟨c17, hF⟩ | ⟨c17, hF⟩
          · refine v_tableEq C 74 (4) (73) dX7_about_1 c17 (by decide) (by decide) (by decide) (by decide) ?_
            refine v_aload_n C 0 0 dX7_about_74 rfl rfl ?_
            refine v_iload_n C 1 1 dX7_about_75 rfl rfl ?_
            obtain ⟨q18, g19, hF⟩ := bnd hF
            refine v_cVi C mw_X7_liesIn lk_X7_74 _ (M_X7_liesIn (by omega) h0 g19) h0 rfl rfl (Nat.le_of_ble_eq_true rfl) dX7_about_76 ?_
            exact v_iretP C hq (Option.some.inj hF) dX7_about_79
          · skip
            rcases ifc hF with ⟨c20, hF⟩ | ⟨c20, hF⟩
            · refine v_tableEq C 80 (5) (79) dX7_about_1 c20 (by decide) (by decide) (by decide) (by decide) ?_
              refine v_aload_n C 0 0 dX7_about_80 rfl rfl ?_
              refine v_iload_n C 1 1 dX7_about_81 rfl rfl ?_
              refine v_aload_n C 0 0 dX7_about_82 rfl rfl ?_
              obtain ⟨v22, g21, hF⟩ := bnd hF
              refine v_gI C fu_X7_40 g21 dX7_about_83 ?_
              obtain ⟨q23, g24, hF⟩ := bnd hF
              refine v_cVi C mw_X7_crossesIn lk_X7_77 _ (M_X7_crossesIn (by omega) h0 g24) h0 rfl rfl (Nat.le_of_ble_eq_true rfl) dX7_about_86 ?_
              exact v_iretP C hq (Option.some.inj hF) dX7_about_89
            · skip
              rcases ifc hF with ⟨c25, hF⟩ | ⟨c25, hF⟩
              · refine v_tableEq C 90 (6) (89) dX7_about_1 c25 (by decide) (by decide) (by decide) (by decide) ?_
                refine v_aload_n C 0 0 dX7_about_90 rfl rfl ?_
                refine v_iload_n C 1 1 dX7_about_91 rfl rfl ?_
                obtain ⟨q26, g27, hF⟩ := bnd hF
                refine v_cVi C mw_X7_kindOf lk_X7_57 _ (M_X7_kindOf (by omega) h0 g27) h0 rfl rfl (Nat.le_of_ble_eq_true rfl) dX7_about_92 ?_
                refine v_aload_n C 0 0 dX7_about_95 rfl rfl ?_
                refine v_iload_n C 1 1 dX7_about_96 rfl rfl ?_
                obtain ⟨q28, g29, hF⟩ := bnd hF
                refine v_cVi C mw_X7_thickOf lk_X7_64 _ (M_X7_thickOf (by omega) h0 g29) h0 rfl rfl (Nat.le_of_ble_eq_true rfl) dX7_about_97 ?_
                obtain ⟨q30, g31, hF⟩ := bnd hF
                refine v_cSi C mw_X8_barOf lk_X7_80 _ (M_X8_barOf (by omega) g31) rfl rfl (Nat.le_of_ble_eq_true rfl) dX7_about_100 ?_
                exact v_iretP C hq (Option.some.inj hF) dX7_about_103
              · skip
                have c1 := lv_neT c1 (a := 0) (by decide)
                have c4 := lv_neT c4 (a := 1) (by decide)
                have c9 := lv_neT c9 (a := 2) (by decide)
                have c14 := lv_neT c14 (a := 3) (by decide)
                have c17 := lv_neT c17 (a := 4) (by decide)
                have c20 := lv_neT c20 (a := 5) (by decide)
                have c25 := lv_neT c25 (a := 6) (by decide)
                refine v_tableOut C 104 dX7_about_1 (by omega) (by decide) ?_
                refine v_aload_n C 0 0 dX7_about_104 rfl rfl ?_
                obtain ⟨p33, g32, hF⟩ := bnd hF
                refine v_gR C fu_X7_30 g32 dX7_about_105 ?_
                refine v_iload_n C 1 1 dX7_about_108 rfl rfl ?_
                obtain ⟨q34, g35, hF⟩ := bnd hF
                refine v_cSi C mw_X8_read lk_X7_47 _ (M_X8_read (by omega) g35) rfl rfl (Nat.le_of_ble_eq_true rfl) dX7_about_109 ?_
                exact v_iretP C hq (Option.some.inj hF) dX7_about_112
def K_X7_wouldBeFoundBits_4 (Δ : DD) (Γ : GG) (q : Int32) (x0 : Nat) (σ : Mem) (y : (Int32 × Int32) ⊕ Int32) : Prop := match y with
  | .inl s => V Δ Γ 3 4 [(0, rf Δ (x0)), (1, .int (s.1)), (2, .int (s.2))] [] σ
  | .inr t => (t = q)
set_option maxRecDepth 20000 in
set_option maxHeartbeats 2000000 in
theorem W_X7_wouldBeFoundBits_28 {Δ : DD} {Γ : GG} {d : Nat} {q : Int32} {x0 : Nat} {x2 : Int32} {y0 : Int32} {y1 : Int32} {σ : Mem} {y : ((Int32 × Int32) ⊕ Int32)} (C : Cx Δ Γ RX7 cX7_wouldBeFoundBits 3 d (some .int)) (hq : RetQ Δ Γ (some (.int q)) σ) (h0 : isK 7 x0 = true) (hd : 2 ≤ d) (hF : F_X7_wouldBeFoundBits_28 x0 x2 y0 y1 σ = some y) (hK : (K_X7_wouldBeFoundBits_4 Δ Γ q x0 σ y)) : V Δ Γ 3 28 [(0, rf Δ (x0)), (2, .int (x2))] [.int (y0), .int (y1)] σ := by
  unfold F_X7_wouldBeFoundBits_28 at hF
  refine v_ior C dX7_wouldBeFoundBits_28 ?_
  refine v_istore_n C 1 (ll' := [(1, _), (0, _), (2, _)]) dX7_wouldBeFoundBits_29 rfl (by decide) rfl ?_
  refine v_iinc C (_ + (1 : Int32)) 2 (ll' := [(2, _), (1, _), (0, _)]) dX7_wouldBeFoundBits_30 rfl (inc_eq (by decide)) (by decide) rfl ?_
  refine v_goto C 4 dX7_wouldBeFoundBits_33 (by decide) ?_
  refine v_sub [2, 1, 0] (ll' := [(0, _), (1, _), (2, _)]) rfl ?_
  cases hF
  exact hK
set_option maxRecDepth 20000 in
set_option maxHeartbeats 2000000 in
theorem W_X7_wouldBeFoundBits_4 {Δ : DD} {Γ : GG} {d : Nat} {q : Int32} {x0 : Nat} {σ : Mem} (C : Cx Δ Γ RX7 cX7_wouldBeFoundBits 3 d (some .int)) (hq : RetQ Δ Γ (some (.int q)) σ) (h0 : isK 7 x0 = true) (hd : 2 ≤ d) {s : Int32 × Int32} (hF : F_X7_wouldBeFoundBits_4 x0 σ s = some q) : V Δ Γ 3 4 [(0, rf Δ (x0)), (1, .int (s.1)), (2, .int (s.2))] [] σ := by
  have hF : F_X7_wouldBeFoundBits_4 x0 σ s = some q := hF
  refine lp_V (W := fun (s : Int32 × Int32) => V Δ Γ 3 4 [(0, rf Δ (x0)), (1, .int (s.1)), (2, .int (s.2))] [] σ) (K := fun t => t = q) (K' := K_X7_wouldBeFoundBits_4 Δ Γ q x0 σ) (fun _ h => h) (fun _ h => h) ?_ s q hF rfl
  clear hF
  intro s z hF hK
  refine v_iload_n C 2 2 dX7_wouldBeFoundBits_4 rfl rfl ?_
  refine v_aload_n C 0 0 dX7_wouldBeFoundBits_5 rfl rfl ?_
  obtain ⟨v2, g1, hF⟩ := bnd hF
  refine v_gI C fu_X7_37 g1 dX7_wouldBeFoundBits_6 ?_
  refine v_icmp_ge C 36 dX7_wouldBeFoundBits_9 (by decide) (fun c3 => ?_) (fun c3 => ?_)
  · have hF := ifp hF c3
    refine v_iload_n C 1 1 dX7_wouldBeFoundBits_36 rfl rfl ?_
    cases hF
    exact v_iretP C hq hK dX7_wouldBeFoundBits_37
  · have hF := ifn hF c3
    refine v_iload_n C 1 1 dX7_wouldBeFoundBits_12 rfl rfl ?_
    refine v_aload_n C 0 0 dX7_wouldBeFoundBits_13 rfl rfl ?_
    refine v_iload_n C 2 2 dX7_wouldBeFoundBits_14 rfl rfl ?_
    obtain ⟨q4, g5, hF⟩ := bnd hF
    refine v_cVi C mw_X7_wouldBeFound lk_X7_87 _ (M_X7_wouldBeFound (by omega) h0 g5) h0 rfl rfl (Nat.le_of_ble_eq_true rfl) dX7_wouldBeFoundBits_15 ?_
    refine v_if_eq C 27 dX7_wouldBeFoundBits_18 (by decide) (fun c6 => ?_) (fun c6 => ?_)
    · have hF := ifp hF c6
      refine v_iconst C (0) dX7_wouldBeFoundBits_27 (by decide) ?_
      refine v_sub [0, 2] (ll' := [(0, _), (2, _)]) rfl ?_
      exact W_X7_wouldBeFoundBits_28 C hq h0 hd hF hK
    · have hF := ifn hF c6
      refine v_iconst C (1) dX7_wouldBeFoundBits_21 (by decide) ?_
      refine v_iload_n C 2 2 dX7_wouldBeFoundBits_22 rfl rfl ?_
      refine v_ishl C dX7_wouldBeFoundBits_23 ?_
      refine v_goto C 28 dX7_wouldBeFoundBits_24 (by decide) ?_
      refine v_sub [0, 2] (ll' := [(0, _), (2, _)]) rfl ?_
      exact W_X7_wouldBeFoundBits_28 C hq h0 hd hF hK
set_option maxRecDepth 20000 in
set_option maxHeartbeats 2000000 in
theorem M_X7_wouldBeFoundBits {Δ : DD} {d : Nat} {x0 : Nat} {σ : Mem} {q : Int32} (hd : 3 ≤ d) (h0 : isK 7 x0 = true) (hF : F_X7_wouldBeFoundBits x0 σ = some q) : Mt Δ d yX7_wouldBeFoundBits cX7_wouldBeFoundBits 3 (some .int) [rf Δ x0] σ (some (.int q)) σ := by
  obtain ⟨d, rfl⟩ : ∃ e, d = e + 1 := ⟨d - 1, by omega⟩
  have hd : 2 ≤ d := by omega
  refine mt_of (by decide) rfl (Nat.le_of_ble_eq_true rfl) (fun Γ C hq => ?_)
  unfold F_X7_wouldBeFoundBits at hF
  show V Δ Γ 3 0 [(0, rf Δ (x0))] [] σ
  refine v_iconst C (0) dX7_wouldBeFoundBits_0 (by decide) ?_
  refine v_istore_n C 1 (ll' := [(1, _), (0, _)]) dX7_wouldBeFoundBits_1 rfl (by decide) rfl ?_
  refine v_iconst C (0) dX7_wouldBeFoundBits_2 (by decide) ?_
  refine v_istore_n C 2 (ll' := [(2, _), (1, _), (0, _)]) dX7_wouldBeFoundBits_3 rfl (by decide) rfl ?_
  refine v_sub [2, 1, 0] (ll' := [(0, _), (1, _), (2, _)]) rfl ?_
  exact W_X7_wouldBeFoundBits_4 C hq h0 hd hF
def K_X7_fines_4 (Δ : DD) (Γ : GG) (q : Int32) (x0 : Nat) (σ : Mem) (y : (Int32 × Int32) ⊕ Int32) : Prop := match y with
  | .inl s => V Δ Γ 3 4 [(0, rf Δ (x0)), (1, .int (s.1)), (2, .int (s.2))] [] σ
  | .inr t => (t = q)
set_option maxRecDepth 20000 in
set_option maxHeartbeats 2000000 in
theorem W_X7_fines_4 {Δ : DD} {Γ : GG} {d : Nat} {q : Int32} {x0 : Nat} {σ : Mem} (C : Cx Δ Γ RX7 cX7_fines 3 d (some .int)) (hq : RetQ Δ Γ (some (.int q)) σ) (h0 : isK 7 x0 = true) (hd : 1 ≤ d) {s : Int32 × Int32} (hF : F_X7_fines_4 x0 σ s = some q) : V Δ Γ 3 4 [(0, rf Δ (x0)), (1, .int (s.1)), (2, .int (s.2))] [] σ := by
  have hF : F_X7_fines_4 x0 σ s = some q := hF
  refine lp_V (W := fun (s : Int32 × Int32) => V Δ Γ 3 4 [(0, rf Δ (x0)), (1, .int (s.1)), (2, .int (s.2))] [] σ) (K := fun t => t = q) (K' := K_X7_fines_4 Δ Γ q x0 σ) (fun _ h => h) (fun _ h => h) ?_ s q hF rfl
  clear hF
  intro s z hF hK
  refine v_iload_n C 2 2 dX7_fines_4 rfl rfl ?_
  refine v_aload_n C 0 0 dX7_fines_5 rfl rfl ?_
  obtain ⟨v2, g1, hF⟩ := bnd hF
  refine v_gI C fu_X7_37 g1 dX7_fines_6 ?_
  refine v_icmp_ge C 29 dX7_fines_9 (by decide) (fun c3 => ?_) (fun c3 => ?_)
  · have hF := ifp hF c3
    refine v_iload_n C 1 1 dX7_fines_29 rfl rfl ?_
    cases hF
    exact v_iretP C hq hK dX7_fines_30
  · have hF := ifn hF c3
    refine v_iload_n C 1 1 dX7_fines_12 rfl rfl ?_
    refine v_aload_n C 0 0 dX7_fines_13 rfl rfl ?_
    obtain ⟨p5, g4, hF⟩ := bnd hF
    refine v_gR C fu_X7_30 g4 dX7_fines_14 ?_
    refine v_iload_n C 2 2 dX7_fines_17 rfl rfl ?_
    obtain ⟨q6, g7, hF⟩ := bnd hF
    refine v_cSi C mw_X8_read lk_X7_47 _ (M_X8_read (by omega) g7) rfl rfl (Nat.le_of_ble_eq_true rfl) dX7_fines_18 ?_
    refine v_iadd C dX7_fines_21 ?_
    refine v_istore_n C 1 (ll' := [(1, _), (0, _), (2, _)]) dX7_fines_22 rfl (by decide) rfl ?_
    refine v_iinc C (_ + (1 : Int32)) 2 (ll' := [(2, _), (1, _), (0, _)]) dX7_fines_23 rfl (inc_eq (by decide)) (by decide) rfl ?_
    refine v_goto C 4 dX7_fines_26 (by decide) ?_
    refine v_sub [2, 1, 0] (ll' := [(0, _), (1, _), (2, _)]) rfl ?_
    cases hF
    exact hK
set_option maxRecDepth 20000 in
set_option maxHeartbeats 2000000 in
theorem M_X7_fines {Δ : DD} {d : Nat} {x0 : Nat} {σ : Mem} {q : Int32} (hd : 2 ≤ d) (h0 : isK 7 x0 = true) (hF : F_X7_fines x0 σ = some q) : Mt Δ d yX7_fines cX7_fines 3 (some .int) [rf Δ x0] σ (some (.int q)) σ := by
  obtain ⟨d, rfl⟩ : ∃ e, d = e + 1 := ⟨d - 1, by omega⟩
  have hd : 1 ≤ d := by omega
  refine mt_of (by decide) rfl (Nat.le_of_ble_eq_true rfl) (fun Γ C hq => ?_)
  unfold F_X7_fines at hF
  show V Δ Γ 3 0 [(0, rf Δ (x0))] [] σ
  refine v_iconst C (0) dX7_fines_0 (by decide) ?_
  refine v_istore_n C 1 (ll' := [(1, _), (0, _)]) dX7_fines_1 rfl (by decide) rfl ?_
  refine v_iconst C (0) dX7_fines_2 (by decide) ?_
  refine v_istore_n C 2 (ll' := [(2, _), (1, _), (0, _)]) dX7_fines_3 rfl (by decide) rfl ?_
  refine v_sub [2, 1, 0] (ll' := [(0, _), (1, _), (2, _)]) rfl ?_
  exact W_X7_fines_4 C hq h0 hd hF

set_option maxRecDepth 20000 in
set_option maxHeartbeats 2000000 in
theorem M_X8_finding {Δ : DD} {d : Nat} {x0 : Nat} {σ : Mem} {q : Int32} (hd : 1 ≤ d) (h0 : isK 8 x0 = true) (hF : F_X8_finding x0 σ = some q) : Mt Δ d yX8_finding cX8_finding 1 (some .int) [rf Δ x0] σ (some (.int q)) σ := by
  obtain ⟨d, rfl⟩ : ∃ e, d = e + 1 := ⟨d - 1, by omega⟩
  have hd : 0 ≤ d := by omega
  refine mt_of (by decide) rfl (Nat.le_of_ble_eq_true rfl) (fun Γ C hq => ?_)
  unfold F_X8_finding at hF
  show V Δ Γ 1 0 [(0, rf Δ (x0))] [] σ
  refine v_aload_n C 0 0 dX8_finding_0 rfl rfl ?_
  obtain ⟨v2, g1, hF⟩ := bnd hF
  refine v_gI C fu_X8_90 g1 dX8_finding_1 ?_
  exact v_iretP C hq (Option.some.inj hF) dX8_finding_4
set_option maxRecDepth 20000 in
set_option maxHeartbeats 2000000 in
theorem W_X8_findings_10 {Δ : DD} {Γ : GG} {d : Nat} {q : Int32}   {σ : Mem} (C : Cx Δ Γ RX8 cX8_findings 2 d (some .int)) (hq : RetQ Δ Γ (some (.int q)) σ) (hd : 1 ≤ d) (hF : F_X8_findings_10   σ = some q) : V Δ Γ 2 10 [] [] σ := by
  unfold F_X8_findings_10 at hF
  refine v_iconst C (-1) dX8_findings_10 (by decide) ?_
  refine v_goto C 22 dX8_findings_11 (by decide) ?_
  exact v_iretP C hq (Option.some.inj hF) dX8_findings_22
set_option maxRecDepth 20000 in
set_option maxHeartbeats 2000000 in
theorem M_X8_findings {Δ : DD} {d : Nat} {x0 : Nat} {x1 : Int32} {σ : Mem} {q : Int32} (hd : 2 ≤ d) (h0 : isK 8 x0 = true) (hF : F_X8_findings x0 x1 σ = some q) : Mt Δ d yX8_findings cX8_findings 2 (some .int) [rf Δ x0, .int x1] σ (some (.int q)) σ := by
  obtain ⟨d, rfl⟩ : ∃ e, d = e + 1 := ⟨d - 1, by omega⟩
  have hd : 1 ≤ d := by omega
  refine mt_of (by decide) rfl (Nat.le_of_ble_eq_true rfl) (fun Γ C hq => ?_)
  unfold F_X8_findings at hF
  show V Δ Γ 2 0 [(0, rf Δ (x0)), (1, .int (x1))] [] σ
  refine v_iload_n C 1 1 dX8_findings_0 rfl rfl ?_
  refine v_iconst C (1) dX8_findings_1 (by decide) ?_
  refine v_icmp_lt C 10 dX8_findings_2 (by decide) (fun c1 => ?_) (fun c1 => ?_)
  · have hF := ifp hF c1
    refine v_sub [] (ll' := []) rfl ?_
    exact W_X8_findings_10 C hq hd hF
  · have hF := ifn hF c1
    refine v_iload_n C 1 1 dX8_findings_5 rfl rfl ?_
    refine v_iconst C (5) dX8_findings_6 (by decide) ?_
    refine v_icmp_le C 14 dX8_findings_7 (by decide) (fun c2 => ?_) (fun c2 => ?_)
    · have hF := ifp hF c2
      refine v_aload_n C 0 0 dX8_findings_14 rfl rfl ?_
      obtain ⟨p4, g3, hF⟩ := bnd hF
      refine v_gR C fu_X8_93 g3 dX8_findings_15 ?_
      refine v_iload_n C 1 1 dX8_findings_18 rfl rfl ?_
      obtain ⟨q5, g6, hF⟩ := bnd hF
      refine v_cSi C mw_X8_read lk_X8_308 _ (M_X8_read (by omega) g6) rfl rfl (Nat.le_of_ble_eq_true rfl) dX8_findings_19 ?_
      exact v_iretP C hq (Option.some.inj hF) dX8_findings_22
    · have hF := ifn hF c2
      refine v_sub [] (ll' := []) rfl ?_
      exact W_X8_findings_10 C hq hd hF
def K_X8_digest_6 (Δ : DD) (Γ : GG) (q : Int64) (x0 : Nat) (σ : Mem) (y : (Int64 × Int32) ⊕ Int64) : Prop := match y with
  | .inl s => V Δ Γ 5 6 [(0, rf Δ (x0)), (1, .long (s.1)), (3, .int (s.2))] [] σ
  | .inr t => (t = q)
def K_X8_digest_33 (Δ : DD) (Γ : GG) (q : Int64) (x0 : Nat) (σ : Mem) (y : (Int64 × Int32) ⊕ Int64) : Prop := match y with
  | .inl s => V Δ Γ 5 33 [(0, rf Δ (x0)), (1, .long (s.1)), (3, .int (s.2))] [] σ
  | .inr t => (t = q)
def K_X8_digest_86 (Δ : DD) (Γ : GG) (q : Int64) (x0 : Nat) (σ : Mem) (y : (Int64 × Int32) ⊕ Int64) : Prop := match y with
  | .inl s => V Δ Γ 5 86 [(0, rf Δ (x0)), (1, .long (s.1)), (3, .int (s.2))] [] σ
  | .inr t => (t = q)
def K_X8_digest_47 (Δ : DD) (Γ : GG) (q : Int64) (x0 : Nat) (x3 : Int32) (σ : Mem) (y : (Int64 × Int32) ⊕ ((Int64 × Int32) ⊕ Int64)) : Prop := match y with
  | .inl s => V Δ Γ 5 47 [(0, rf Δ (x0)), (1, .long (s.1)), (3, .int (x3)), (4, .int (s.2))] [] σ
  | .inr t => (K_X8_digest_33 Δ Γ q x0 σ t)
set_option maxRecDepth 20000 in
set_option maxHeartbeats 2000000 in
theorem W_X8_digest_47 {Δ : DD} {Γ : GG} {d : Nat} {q : Int64} {x0 : Nat} {x3 : Int32} {σ : Mem} (C : Cx Δ Γ RX8 cX8_digest 5 d (some .long)) (hq : RetQ Δ Γ (some (.long q)) σ) (h0 : isK 8 x0 = true) (hd : 4 ≤ d) {s : Int64 × Int32} {y : ((Int64 × Int32) ⊕ Int64)} (hF : F_X8_digest_47 x0 x3 σ s = some y) (hK : (K_X8_digest_33 Δ Γ q x0 σ y)) : V Δ Γ 5 47 [(0, rf Δ (x0)), (1, .long (s.1)), (3, .int (x3)), (4, .int (s.2))] [] σ := by
  refine lp_V (W := fun (s : Int64 × Int32) => V Δ Γ 5 47 [(0, rf Δ (x0)), (1, .long (s.1)), (3, .int (x3)), (4, .int (s.2))] [] σ) (K := fun (t : ((Int64 × Int32) ⊕ Int64)) => (K_X8_digest_33 Δ Γ q x0 σ t)) (K' := K_X8_digest_47 Δ Γ q x0 x3 σ) (fun _ h => h) (fun _ h => h) ?_ s y hF hK
  clear hF hK
  intro s z hF hK
  refine v_iload C 4 3 dX8_digest_47 rfl ?_
  refine v_bipush C (8) dX8_digest_49 (by decide) ?_
  refine v_icmp_ge C 78 dX8_digest_51 (by decide) (fun c9 => ?_) (fun c9 => ?_)
  · have hF := ifp hF c9
    refine v_iinc C (_ + (1 : Int32)) 2 (ll' := [(3, _), (0, _), (1, _), (4, _)]) dX8_digest_78 rfl (inc_eq (by decide)) (by decide) rfl ?_
    refine v_goto C 33 dX8_digest_81 (by decide) ?_
    refine v_sub [1, 2, 0] (ll' := [(0, _), (1, _), (3, _)]) rfl ?_
    cases hF
    exact hK
  · have hF := ifn hF c9
    refine v_ldc2 C (31) kl_X8_314 dX8_digest_54 ?_
    refine v_lload_n C 1 1 dX8_digest_57 rfl rfl ?_
    refine v_lmul C dX8_digest_58 ?_
    refine v_aload_n C 0 0 dX8_digest_59 rfl rfl ?_
    obtain ⟨p11, g10, hF⟩ := bnd hF
    refine v_gR C fu_X8_31 g10 dX8_digest_60 ?_
    refine v_iload_n C 3 2 dX8_digest_63 rfl rfl ?_
    refine v_iload C 4 3 dX8_digest_64 rfl ?_
    obtain ⟨_, g12, hF⟩ := bnd hF
    obtain ⟨q13, g14, hF⟩ := bnd hF
    refine v_cVi C mw_X7_about lk_X8_164 _ (M_X7_about (by omega) (chk_k g12) g14) (chk_k g12) rfl rfl (Nat.le_of_ble_eq_true rfl) dX8_digest_66 ?_
    refine v_i2l C dX8_digest_69 ?_
    refine v_ladd C dX8_digest_70 ?_
    refine v_lstore_n C 1 (ll' := [(1, _), (0, _), (3, _), (4, _)]) dX8_digest_71 rfl (by decide) rfl ?_
    refine v_iinc C (_ + (1 : Int32)) 3 (ll' := [(4, _), (1, _), (0, _), (3, _)]) dX8_digest_72 rfl (inc_eq (by decide)) (by decide) rfl ?_
    refine v_goto C 47 dX8_digest_75 (by decide) ?_
    refine v_sub [2, 1, 3, 0] (ll' := [(0, _), (1, _), (3, _), (4, _)]) rfl ?_
    cases hF
    exact hK
set_option maxRecDepth 20000 in
set_option maxHeartbeats 2000000 in
theorem W_X8_digest_86 {Δ : DD} {Γ : GG} {d : Nat} {q : Int64} {x0 : Nat} {σ : Mem} (C : Cx Δ Γ RX8 cX8_digest 5 d (some .long)) (hq : RetQ Δ Γ (some (.long q)) σ) (h0 : isK 8 x0 = true) (hd : 4 ≤ d) {s : Int64 × Int32} (hF : F_X8_digest_86 x0 σ s = some q) : V Δ Γ 5 86 [(0, rf Δ (x0)), (1, .long (s.1)), (3, .int (s.2))] [] σ := by
  have hF : F_X8_digest_86 x0 σ s = some q := hF
  refine lp_V (W := fun (s : Int64 × Int32) => V Δ Γ 5 86 [(0, rf Δ (x0)), (1, .long (s.1)), (3, .int (s.2))] [] σ) (K := fun t => t = q) (K' := K_X8_digest_86 Δ Γ q x0 σ) (fun _ h => h) (fun _ h => h) ?_ s q hF rfl
  clear hF
  intro s z hF hK
  refine v_iload_n C 3 2 dX8_digest_86 rfl rfl ?_
  refine v_iconst C (3) dX8_digest_87 (by decide) ?_
  refine v_icmp_ge C 113 dX8_digest_88 (by decide) (fun c15 => ?_) (fun c15 => ?_)
  · have hF := ifp hF c15
    refine v_aload_n C 0 0 dX8_digest_113 rfl rfl ?_
    obtain ⟨p17, g16, hF⟩ := bnd hF
    refine v_gR C fu_X8_18 g16 dX8_digest_114 ?_
    refine v_aload_n C 0 0 dX8_digest_117 rfl rfl ?_
    obtain ⟨p19, g18, hF⟩ := bnd hF
    refine v_gR C fu_X8_14 g18 dX8_digest_118 ?_
    refine v_lload_n C 1 1 dX8_digest_121 rfl rfl ?_
    obtain ⟨_, g20, hF⟩ := bnd hF
    obtain ⟨q21, g22, hF⟩ := bnd hF
    refine v_cVl C mw_X6_digestOn lk_X8_319 _ (M_X6_digestOn (by omega) (chk_k g20) g22) (chk_k g20) rfl rfl (Nat.le_of_ble_eq_true rfl) dX8_digest_122 ?_
    obtain ⟨_, g23, hF⟩ := bnd hF
    obtain ⟨q24, g25, hF⟩ := bnd hF
    refine v_cVl C mw_X6_digestOn lk_X8_319 _ (M_X6_digestOn (by omega) (chk_k g23) g25) (chk_k g23) rfl rfl (Nat.le_of_ble_eq_true rfl) dX8_digest_125 ?_
    cases hF
    exact v_lretP C hq hK dX8_digest_128
  · have hF := ifn hF c15
    refine v_ldc2 C (31) kl_X8_314 dX8_digest_91 ?_
    refine v_lload_n C 1 1 dX8_digest_94 rfl rfl ?_
    refine v_lmul C dX8_digest_95 ?_
    refine v_aload_n C 0 0 dX8_digest_96 rfl rfl ?_
    obtain ⟨p27, g26, hF⟩ := bnd hF
    refine v_gR C fu_X8_21 g26 dX8_digest_97 ?_
    refine v_iload_n C 3 2 dX8_digest_100 rfl rfl ?_
    obtain ⟨_, g28, hF⟩ := bnd hF
    obtain ⟨q29, g30, hF⟩ := bnd hF
    refine v_cVi C mw_X6_size lk_X8_142 _ (M_X6_size (by omega) (chk_k g28) g30) (chk_k g28) rfl rfl (Nat.le_of_ble_eq_true rfl) dX8_digest_101 ?_
    refine v_i2l C dX8_digest_104 ?_
    refine v_ladd C dX8_digest_105 ?_
    refine v_lstore_n C 1 (ll' := [(1, _), (0, _), (3, _)]) dX8_digest_106 rfl (by decide) rfl ?_
    refine v_iinc C (_ + (1 : Int32)) 2 (ll' := [(3, _), (1, _), (0, _)]) dX8_digest_107 rfl (inc_eq (by decide)) (by decide) rfl ?_
    refine v_goto C 86 dX8_digest_110 (by decide) ?_
    refine v_sub [2, 1, 0] (ll' := [(0, _), (1, _), (3, _)]) rfl ?_
    cases hF
    exact hK
set_option maxRecDepth 20000 in
set_option maxHeartbeats 2000000 in
theorem W_X8_digest_33 {Δ : DD} {Γ : GG} {d : Nat} {q : Int64} {x0 : Nat} {σ : Mem} (C : Cx Δ Γ RX8 cX8_digest 5 d (some .long)) (hq : RetQ Δ Γ (some (.long q)) σ) (h0 : isK 8 x0 = true) (hd : 4 ≤ d) {s : Int64 × Int32} (hF : F_X8_digest_33 x0 σ s = some q) : V Δ Γ 5 33 [(0, rf Δ (x0)), (1, .long (s.1)), (3, .int (s.2))] [] σ := by
  have hF : F_X8_digest_33 x0 σ s = some q := hF
  refine lp_V (W := fun (s : Int64 × Int32) => V Δ Γ 5 33 [(0, rf Δ (x0)), (1, .long (s.1)), (3, .int (s.2))] [] σ) (K := fun t => t = q) (K' := K_X8_digest_33 Δ Γ q x0 σ) (fun _ h => h) (fun _ h => h) ?_ s q hF rfl
  clear hF
  intro s z hF hK
  refine v_iload_n C 3 2 dX8_digest_33 rfl rfl ?_
  refine v_aload_n C 0 0 dX8_digest_34 rfl rfl ?_
  obtain ⟨p5, g4, hF⟩ := bnd hF
  refine v_gR C fu_X8_31 g4 dX8_digest_35 ?_
  obtain ⟨v7, g6, hF⟩ := bnd hF
  refine v_gI C fu_X8_158 g6 dX8_digest_38 ?_
  refine v_icmp_ge C 84 dX8_digest_41 (by decide) (fun c8 => ?_) (fun c8 => ?_)
  · have hF := ifp hF c8
    refine v_iconst C (0) dX8_digest_84 (by decide) ?_
    refine v_istore_n C 3 (ll' := [(3, _), (0, _), (1, _)]) dX8_digest_85 rfl (by decide) rfl ?_
    refine v_sub [1, 2, 0] (ll' := [(0, _), (1, _), (3, _)]) rfl ?_
    obtain ⟨z, hz, e⟩ := mapd hF
    subst e
    exact W_X8_digest_86 C hq h0 hd (hz.trans (congrArg some hK))
  · have hF := ifn hF c8
    refine v_iconst C (0) dX8_digest_44 (by decide) ?_
    refine v_istore C 4 (ll' := [(4, _), (0, _), (1, _), (3, _)]) dX8_digest_45 (by decide) rfl ?_
    refine v_sub [1, 2, 3, 0] (ll' := [(0, _), (1, _), (3, _), (4, _)]) rfl ?_
    exact W_X8_digest_47 C hq h0 hd hF hK
set_option maxRecDepth 20000 in
set_option maxHeartbeats 2000000 in
theorem W_X8_digest_6 {Δ : DD} {Γ : GG} {d : Nat} {q : Int64} {x0 : Nat} {σ : Mem} (C : Cx Δ Γ RX8 cX8_digest 5 d (some .long)) (hq : RetQ Δ Γ (some (.long q)) σ) (h0 : isK 8 x0 = true) (hd : 4 ≤ d) {s : Int64 × Int32} (hF : F_X8_digest_6 x0 σ s = some q) : V Δ Γ 5 6 [(0, rf Δ (x0)), (1, .long (s.1)), (3, .int (s.2))] [] σ := by
  have hF : F_X8_digest_6 x0 σ s = some q := hF
  refine lp_V (W := fun (s : Int64 × Int32) => V Δ Γ 5 6 [(0, rf Δ (x0)), (1, .long (s.1)), (3, .int (s.2))] [] σ) (K := fun t => t = q) (K' := K_X8_digest_6 Δ Γ q x0 σ) (fun _ h => h) (fun _ h => h) ?_ s q hF rfl
  clear hF
  intro s z hF hK
  refine v_iload_n C 3 2 dX8_digest_6 rfl rfl ?_
  refine v_bipush C (11) dX8_digest_7 (by decide) ?_
  refine v_icmp_ge C 31 dX8_digest_9 (by decide) (fun c1 => ?_) (fun c1 => ?_)
  · have hF := ifp hF c1
    refine v_iconst C (0) dX8_digest_31 (by decide) ?_
    refine v_istore_n C 3 (ll' := [(3, _), (0, _), (1, _)]) dX8_digest_32 rfl (by decide) rfl ?_
    refine v_sub [1, 2, 0] (ll' := [(0, _), (1, _), (3, _)]) rfl ?_
    obtain ⟨z, hz, e⟩ := mapd hF
    subst e
    exact W_X8_digest_33 C hq h0 hd (hz.trans (congrArg some hK))
  · have hF := ifn hF c1
    refine v_ldc2 C (31) kl_X8_314 dX8_digest_12 ?_
    refine v_lload_n C 1 1 dX8_digest_15 rfl rfl ?_
    refine v_lmul C dX8_digest_16 ?_
    refine v_aload_n C 0 0 dX8_digest_17 rfl rfl ?_
    refine v_iload_n C 3 2 dX8_digest_18 rfl rfl ?_
    obtain ⟨q2, g3, hF⟩ := bnd hF
    refine v_cVi C mw_X8_count lk_X8_316 _ (M_X8_count (by omega) h0 g3) h0 rfl rfl (Nat.le_of_ble_eq_true rfl) dX8_digest_19 ?_
    refine v_i2l C dX8_digest_22 ?_
    refine v_ladd C dX8_digest_23 ?_
    refine v_lstore_n C 1 (ll' := [(1, _), (0, _), (3, _)]) dX8_digest_24 rfl (by decide) rfl ?_
    refine v_iinc C (_ + (1 : Int32)) 2 (ll' := [(3, _), (1, _), (0, _)]) dX8_digest_25 rfl (inc_eq (by decide)) (by decide) rfl ?_
    refine v_goto C 6 dX8_digest_28 (by decide) ?_
    refine v_sub [2, 1, 0] (ll' := [(0, _), (1, _), (3, _)]) rfl ?_
    cases hF
    exact hK
set_option maxRecDepth 20000 in
set_option maxHeartbeats 2000000 in
theorem M_X8_digest {Δ : DD} {d : Nat} {x0 : Nat} {σ : Mem} {q : Int64} (hd : 5 ≤ d) (h0 : isK 8 x0 = true) (hF : F_X8_digest x0 σ = some q) : Mt Δ d yX8_digest cX8_digest 5 (some .long) [rf Δ x0] σ (some (.long q)) σ := by
  obtain ⟨d, rfl⟩ : ∃ e, d = e + 1 := ⟨d - 1, by omega⟩
  have hd : 4 ≤ d := by omega
  refine mt_of (by decide) rfl (Nat.le_of_ble_eq_true rfl) (fun Γ C hq => ?_)
  unfold F_X8_digest at hF
  show V Δ Γ 5 0 [(0, rf Δ (x0))] [] σ
  refine v_ldc2 C (17) kl_X8_312 dX8_digest_0 ?_
  refine v_lstore_n C 1 (ll' := [(1, _), (0, _)]) dX8_digest_3 rfl (by decide) rfl ?_
  refine v_iconst C (0) dX8_digest_4 (by decide) ?_
  refine v_istore_n C 3 (ll' := [(3, _), (1, _), (0, _)]) dX8_digest_5 rfl (by decide) rfl ?_
  refine v_sub [2, 1, 0] (ll' := [(0, _), (1, _), (3, _)]) rfl ?_
  exact W_X8_digest_6 C hq h0 hd hF

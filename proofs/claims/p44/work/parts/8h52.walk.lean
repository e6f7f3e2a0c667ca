def K_X7_liesInAll_4 (Δ : DD) (Γ : GG) (q : Int32) (x0 : Nat) (σ : Mem) (y : (Int32 × Int32) ⊕ Int32) : Prop := match y with
  | .inl s => V Δ Γ 3 4 [(0, rf Δ (x0)), (1, .int (s.1)), (2, .int (s.2))] [] σ
  | .inr t => (t = q)
set_option maxRecDepth 20000 in
set_option maxHeartbeats 2000000 in
theorem W_X7_liesInAll_4 {Δ : DD} {Γ : GG} {d : Nat} {q : Int32} {x0 : Nat} {σ : Mem} (C : Cx Δ Γ RX7 cX7_liesInAll 3 d (some .int)) (hq : RetQ Δ Γ (some (.int q)) σ) (h0 : isK 7 x0 = true) (hd : 2 ≤ d) {s : Int32 × Int32} (hF : F_X7_liesInAll_4 x0 σ s = some q) : V Δ Γ 3 4 [(0, rf Δ (x0)), (1, .int (s.1)), (2, .int (s.2))] [] σ := by
  have hF : F_X7_liesInAll_4 x0 σ s = some q := hF
  refine lp_V (W := fun (s : Int32 × Int32) => V Δ Γ 3 4 [(0, rf Δ (x0)), (1, .int (s.1)), (2, .int (s.2))] [] σ) (K := fun t => t = q) (K' := K_X7_liesInAll_4 Δ Γ q x0 σ) (fun _ h => h) (fun _ h => h) ?_ s q hF rfl
  clear hF
  intro s z hF hK
  refine v_iload_n C 2 2 dX7_liesInAll_4 rfl rfl ?_
  refine v_aload_n C 0 0 dX7_liesInAll_5 rfl rfl ?_
  obtain ⟨v2, g1, hF⟩ := bnd hF
  refine v_gI C fu_X7_37 g1 dX7_liesInAll_6 ?_
  refine v_icmp_ge C 26 dX7_liesInAll_9 (by decide) (fun c3 => ?_) (fun c3 => ?_)
  · have hF := ifp hF c3
    refine v_iload_n C 1 1 dX7_liesInAll_26 rfl rfl ?_
    cases hF
    exact v_iretP C hq hK dX7_liesInAll_27
  · have hF := ifn hF c3
    refine v_iload_n C 1 1 dX7_liesInAll_12 rfl rfl ?_
    refine v_aload_n C 0 0 dX7_liesInAll_13 rfl rfl ?_
    refine v_iload_n C 2 2 dX7_liesInAll_14 rfl rfl ?_
    obtain ⟨q4, g5, hF⟩ := bnd hF
    refine v_cVi C mw_X7_liesIn lk_X7_74 _ (M_X7_liesIn (by omega) h0 g5) h0 rfl rfl (Nat.le_of_ble_eq_true rfl) dX7_liesInAll_15 ?_
    refine v_iadd C dX7_liesInAll_18 ?_
    refine v_istore_n C 1 (ll' := [(1, _), (0, _), (2, _)]) dX7_liesInAll_19 rfl (by decide) rfl ?_
    refine v_iinc C (_ + (1 : Int32)) 2 (ll' := [(2, _), (1, _), (0, _)]) dX7_liesInAll_20 rfl (inc_eq (by decide)) (by decide) rfl ?_
    refine v_goto C 4 dX7_liesInAll_23 (by decide) ?_
    refine v_sub [2, 1, 0] (ll' := [(0, _), (1, _), (2, _)]) rfl ?_
    cases hF
    exact hK
set_option maxRecDepth 20000 in
set_option maxHeartbeats 2000000 in
theorem M_X7_liesInAll {Δ : DD} {d : Nat} {x0 : Nat} {σ : Mem} {q : Int32} (hd : 3 ≤ d) (h0 : isK 7 x0 = true) (hF : F_X7_liesInAll x0 σ = some q) : Mt Δ d yX7_liesInAll cX7_liesInAll 3 (some .int) [rf Δ x0] σ (some (.int q)) σ := by
  obtain ⟨d, rfl⟩ : ∃ e, d = e + 1 := ⟨d - 1, by omega⟩
  have hd : 2 ≤ d := by omega
  refine mt_of (by decide) rfl (Nat.le_of_ble_eq_true rfl) (fun Γ C hq => ?_)
  unfold F_X7_liesInAll at hF
  show V Δ Γ 3 0 [(0, rf Δ (x0))] [] σ
  refine v_iconst C (0) dX7_liesInAll_0 (by decide) ?_
  refine v_istore_n C 1 (ll' := [(1, _), (0, _)]) dX7_liesInAll_1 rfl (by decide) rfl ?_
  refine v_iconst C (0) dX7_liesInAll_2 (by decide) ?_
  refine v_istore_n C 2 (ll' := [(2, _), (1, _), (0, _)]) dX7_liesInAll_3 rfl (by decide) rfl ?_
  refine v_sub [2, 1, 0] (ll' := [(0, _), (1, _), (2, _)]) rfl ?_
  exact W_X7_liesInAll_4 C hq h0 hd hF
set_option maxRecDepth 20000 in
set_option maxHeartbeats 2000000 in
theorem W_X8_isOfKind_29 {Δ : DD} {Γ : GG} {d : Nat} {q : Int32}   {σ : Mem} (C : Cx Δ Γ RX8 cX8_isOfKind 2 d (some .boolean)) (hq : RetQ Δ Γ (some (.int q)) σ) (hd : 0 ≤ d) (hF : F_X8_isOfKind_29   σ = some q) : V Δ Γ 2 29 [] [] σ := by
  unfold F_X8_isOfKind_29 at hF
  refine v_iconst C (1) dX8_isOfKind_29 (by decide) ?_
  refine v_goto C 34 dX8_isOfKind_30 (by decide) ?_
  exact v_zretP C hq (Option.some.inj hF) rfl dX8_isOfKind_34
set_option maxRecDepth 20000 in
set_option maxHeartbeats 2000000 in
theorem W_X8_isOfKind_19 {Δ : DD} {Γ : GG} {d : Nat} {q : Int32} {x0 : Int32} {x1 : Int32}  {σ : Mem} (C : Cx Δ Γ RX8 cX8_isOfKind 2 d (some .boolean)) (hq : RetQ Δ Γ (some (.int q)) σ) (hd : 0 ≤ d) (hF : F_X8_isOfKind_19 x0 x1  σ = some q) : V Δ Γ 2 19 [(0, .int (x0)), (1, .int (x1))] [] σ := by
  unfold F_X8_isOfKind_19 at hF
  refine v_iload_n C 0 0 dX8_isOfKind_19 rfl rfl ?_
  refine v_iconst C (5) dX8_isOfKind_20 (by decide) ?_
  refine v_icmp_ne C 33 dX8_isOfKind_21 (by decide) (fun c1 => ?_) (fun c1 => ?_)
  · have hF := ifn hF c1
    refine v_iconst C (0) dX8_isOfKind_33 (by decide) ?_
    exact v_zretP C hq (Option.some.inj hF) rfl dX8_isOfKind_34
  · have hF := ifp hF c1
    refine v_iload_n C 1 1 dX8_isOfKind_24 rfl rfl ?_
    refine v_iconst C (1) dX8_isOfKind_25 (by decide) ?_
    refine v_icmp_ne C 33 dX8_isOfKind_26 (by decide) (fun c2 => ?_) (fun c2 => ?_)
    · have hF := ifn hF c2
      refine v_iconst C (0) dX8_isOfKind_33 (by decide) ?_
      exact v_zretP C hq (Option.some.inj hF) rfl dX8_isOfKind_34
    · have hF := ifp hF c2
      refine v_sub [] (ll' := []) rfl ?_
      exact W_X8_isOfKind_29 C hq hd hF
set_option maxRecDepth 20000 in
set_option maxHeartbeats 2000000 in
theorem M_X8_isOfKind {Δ : DD} {d : Nat} {x0 : Int32} {x1 : Int32} {σ : Mem} {q : Int32} (hd : 1 ≤ d) (hF : F_X8_isOfKind x0 x1 σ = some q) : Mt Δ d yX8_isOfKind cX8_isOfKind 2 (some .boolean) [.int x0, .int x1] σ (some (.int q)) σ := by
  obtain ⟨d, rfl⟩ : ∃ e, d = e + 1 := ⟨d - 1, by omega⟩
  have hd : 0 ≤ d := by omega
  refine mt_of (by decide) rfl (Nat.le_of_ble_eq_true rfl) (fun Γ C hq => ?_)
  unfold F_X8_isOfKind at hF
  show V Δ Γ 2 0 [(0, .int (x0)), (1, .int (x1))] [] σ
  refine v_iload_n C 0 0 dX8_isOfKind_0 rfl rfl ?_
  refine v_iload_n C 1 1 dX8_isOfKind_1 rfl rfl ?_
  refine v_icmp_eq C 29 dX8_isOfKind_2 (by decide) (fun c3 => ?_) (fun c3 => ?_)
  · have hF := ifp hF c3
    refine v_sub [] (ll' := []) rfl ?_
    exact W_X8_isOfKind_29 C hq hd hF
  · have hF := ifn hF c3
    refine v_iload_n C 1 1 dX8_isOfKind_5 rfl rfl ?_
    refine v_if_eq C 29 dX8_isOfKind_6 (by decide) (fun c4 => ?_) (fun c4 => ?_)
    · have hF := ifp hF c4
      refine v_sub [] (ll' := []) rfl ?_
      exact W_X8_isOfKind_29 C hq hd hF
    · have hF := ifn hF c4
      refine v_iload_n C 0 0 dX8_isOfKind_9 rfl rfl ?_
      refine v_iconst C (4) dX8_isOfKind_10 (by decide) ?_
      refine v_icmp_ne C 19 dX8_isOfKind_11 (by decide) (fun c5 => ?_) (fun c5 => ?_)
      · have hF := ifn hF c5
        exact W_X8_isOfKind_19 C hq hd hF
      · have hF := ifp hF c5
        refine v_iload_n C 1 1 dX8_isOfKind_14 rfl rfl ?_
        refine v_iconst C (2) dX8_isOfKind_15 (by decide) ?_
        refine v_icmp_eq C 29 dX8_isOfKind_16 (by decide) (fun c6 => ?_) (fun c6 => ?_)
        · have hF := ifp hF c6
          refine v_sub [] (ll' := []) rfl ?_
          exact W_X8_isOfKind_29 C hq hd hF
        · have hF := ifn hF c6
          exact W_X8_isOfKind_19 C hq hd hF
def K_X7_quilts_4 (Δ : DD) (Γ : GG) (q : Int32) (x0 : Nat) (σ : Mem) (y : (Int32 × Int32) ⊕ Int32) : Prop := match y with
  | .inl s => V Δ Γ 3 4 [(0, rf Δ (x0)), (1, .int (s.1)), (2, .int (s.2))] [] σ
  | .inr t => (t = q)
set_option maxRecDepth 20000 in
set_option maxHeartbeats 2000000 in
theorem W_X7_quilts_30 {Δ : DD} {Γ : GG} {d : Nat} {q : Int32} {x0 : Nat} {x2 : Int32} {y0 : Int32} {y1 : Int32} {σ : Mem} {y : ((Int32 × Int32) ⊕ Int32)} (C : Cx Δ Γ RX7 cX7_quilts 3 d (some .int)) (hq : RetQ Δ Γ (some (.int q)) σ) (h0 : isK 7 x0 = true) (hd : 2 ≤ d) (hF : F_X7_quilts_30 x0 x2 y0 y1 σ = some y) (hK : (K_X7_quilts_4 Δ Γ q x0 σ y)) : V Δ Γ 3 30 [(0, rf Δ (x0)), (2, .int (x2))] [.int (y0), .int (y1)] σ := by
  unfold F_X7_quilts_30 at hF
  refine v_iadd C dX7_quilts_30 ?_
  refine v_istore_n C 1 (ll' := [(1, _), (0, _), (2, _)]) dX7_quilts_31 rfl (by decide) rfl ?_
  refine v_iinc C (_ + (1 : Int32)) 2 (ll' := [(2, _), (1, _), (0, _)]) dX7_quilts_32 rfl (inc_eq (by decide)) (by decide) rfl ?_
  refine v_goto C 4 dX7_quilts_35 (by decide) ?_
  refine v_sub [2, 1, 0] (ll' := [(0, _), (1, _), (2, _)]) rfl ?_
  cases hF
  exact hK
set_option maxRecDepth 20000 in
set_option maxHeartbeats 2000000 in
theorem W_X7_quilts_4 {Δ : DD} {Γ : GG} {d : Nat} {q : Int32} {x0 : Nat} {σ : Mem} (C : Cx Δ Γ RX7 cX7_quilts 3 d (some .int)) (hq : RetQ Δ Γ (some (.int q)) σ) (h0 : isK 7 x0 = true) (hd : 2 ≤ d) {s : Int32 × Int32} (hF : F_X7_quilts_4 x0 σ s = some q) : V Δ Γ 3 4 [(0, rf Δ (x0)), (1, .int (s.1)), (2, .int (s.2))] [] σ := by
  have hF : F_X7_quilts_4 x0 σ s = some q := hF
  refine lp_V (W := fun (s : Int32 × Int32) => V Δ Γ 3 4 [(0, rf Δ (x0)), (1, .int (s.1)), (2, .int (s.2))] [] σ) (K := fun t => t = q) (K' := K_X7_quilts_4 Δ Γ q x0 σ) (fun _ h => h) (fun _ h => h) ?_ s q hF rfl
  clear hF
  intro s z hF hK
  refine v_iload_n C 2 2 dX7_quilts_4 rfl rfl ?_
  refine v_aload_n C 0 0 dX7_quilts_5 rfl rfl ?_
  obtain ⟨v2, g1, hF⟩ := bnd hF
  refine v_gI C fu_X7_37 g1 dX7_quilts_6 ?_
  refine v_icmp_ge C 38 dX7_quilts_9 (by decide) (fun c3 => ?_) (fun c3 => ?_)
  · have hF := ifp hF c3
    refine v_iload_n C 1 1 dX7_quilts_38 rfl rfl ?_
    cases hF
    exact v_iretP C hq hK dX7_quilts_39
  · have hF := ifn hF c3
    refine v_iload_n C 1 1 dX7_quilts_12 rfl rfl ?_
    refine v_aload_n C 0 0 dX7_quilts_13 rfl rfl ?_
    refine v_iload_n C 2 2 dX7_quilts_14 rfl rfl ?_
    obtain ⟨q4, g5, hF⟩ := bnd hF
    refine v_cVi C mw_X7_kindOf lk_X7_57 _ (M_X7_kindOf (by omega) h0 g5) h0 rfl rfl (Nat.le_of_ble_eq_true rfl) dX7_quilts_15 ?_
    refine v_iconst C (2) dX7_quilts_18 (by decide) ?_
    obtain ⟨q6, g7, hF⟩ := bnd hF
    refine v_cSi C mw_X8_isOfKind lk_X7_90 _ (M_X8_isOfKind (by omega) g7) rfl rfl (Nat.le_of_ble_eq_true rfl) dX7_quilts_19 ?_
    refine v_if_eq C 29 dX7_quilts_22 (by decide) (fun c8 => ?_) (fun c8 => ?_)
    · have hF := ifp hF c8
      refine v_iconst C (0) dX7_quilts_29 (by decide) ?_
      refine v_sub [0, 2] (ll' := [(0, _), (2, _)]) rfl ?_
      exact W_X7_quilts_30 C hq h0 hd hF hK
    · have hF := ifn hF c8
      refine v_iconst C (1) dX7_quilts_25 (by decide) ?_
      refine v_goto C 30 dX7_quilts_26 (by decide) ?_
      refine v_sub [0, 2] (ll' := [(0, _), (2, _)]) rfl ?_
      exact W_X7_quilts_30 C hq h0 hd hF hK
set_option maxRecDepth 20000 in
set_option maxHeartbeats 2000000 in
theorem M_X7_quilts {Δ : DD} {d : Nat} {x0 : Nat} {σ : Mem} {q : Int32} (hd : 3 ≤ d) (h0 : isK 7 x0 = true) (hF : F_X7_quilts x0 σ = some q) : Mt Δ d yX7_quilts cX7_quilts 3 (some .int) [rf Δ x0] σ (some (.int q)) σ := by
  obtain ⟨d, rfl⟩ : ∃ e, d = e + 1 := ⟨d - 1, by omega⟩
  have hd : 2 ≤ d := by omega
  refine mt_of (by decide) rfl (Nat.le_of_ble_eq_true rfl) (fun Γ C hq => ?_)
  unfold F_X7_quilts at hF
  show V Δ Γ 3 0 [(0, rf Δ (x0))] [] σ
  refine v_iconst C (0) dX7_quilts_0 (by decide) ?_
  refine v_istore_n C 1 (ll' := [(1, _), (0, _)]) dX7_quilts_1 rfl (by decide) rfl ?_
  refine v_iconst C (0) dX7_quilts_2 (by decide) ?_
  refine v_istore_n C 2 (ll' := [(2, _), (1, _), (0, _)]) dX7_quilts_3 rfl (by decide) rfl ?_
  refine v_sub [2, 1, 0] (ll' := [(0, _), (1, _), (2, _)]) rfl ?_
  exact W_X7_quilts_4 C hq h0 hd hF
def K_X7_mostLying_4 (Δ : DD) (Γ : GG) (q : Int32) (x0 : Nat) (x1 : Int32) (σ : Mem) (y : (Int32 × Int32) ⊕ Int32) : Prop := match y with
  | .inl s => V Δ Γ 4 4 [(0, rf Δ (x0)), (1, .int (x1)), (2, .int (s.1)), (3, .int (s.2))] [] σ
  | .inr t => (t = q)
set_option maxRecDepth 20000 in
set_option maxHeartbeats 2000000 in
theorem W_X7_mostLying_4 {Δ : DD} {Γ : GG} {d : Nat} {q : Int32} {x0 : Nat} {x1 : Int32} {σ : Mem} (C : Cx Δ Γ RX7 cX7_mostLying 4 d (some .int)) (hq : RetQ Δ Γ (some (.int q)) σ) (h0 : isK 7 x0 = true) (hd : 2 ≤ d) {s : Int32 × Int32} (hF : F_X7_mostLying_4 x0 x1 σ s = some q) : V Δ Γ 4 4 [(0, rf Δ (x0)), (1, .int (x1)), (2, .int (s.1)), (3, .int (s.2))] [] σ := by
  have hF : F_X7_mostLying_4 x0 x1 σ s = some q := hF
  refine lp_V (W := fun (s : Int32 × Int32) => V Δ Γ 4 4 [(0, rf Δ (x0)), (1, .int (x1)), (2, .int (s.1)), (3, .int (s.2))] [] σ) (K := fun t => t = q) (K' := K_X7_mostLying_4 Δ Γ q x0 x1 σ) (fun _ h => h) (fun _ h => h) ?_ s q hF rfl
  clear hF
  intro s z hF hK
  refine v_iload_n C 3 3 dX7_mostLying_4 rfl rfl ?_
  refine v_aload_n C 0 0 dX7_mostLying_5 rfl rfl ?_
  obtain ⟨v2, g1, hF⟩ := bnd hF
  refine v_gI C fu_X7_37 g1 dX7_mostLying_6 ?_
  refine v_icmp_ge C 41 dX7_mostLying_9 (by decide) (fun c3 => ?_) (fun c3 => ?_)
  · have hF := ifp hF c3
    refine v_iload_n C 2 2 dX7_mostLying_41 rfl rfl ?_
    cases hF
    exact v_iretP C hq hK dX7_mostLying_42
  · have hF := ifn hF c3
    refine v_iload_n C 1 1 dX7_mostLying_12 rfl rfl ?_
    refine v_iload_n C 3 3 dX7_mostLying_13 rfl rfl ?_
    refine v_ishr C dX7_mostLying_14 ?_
    refine v_iconst C (1) dX7_mostLying_15 (by decide) ?_
    refine v_iand C dX7_mostLying_16 ?_
    refine v_iconst C (1) dX7_mostLying_17 (by decide) ?_
    refine v_icmp_ne C 33 dX7_mostLying_18 (by decide) (fun c4 => ?_) (fun c4 => ?_)
    · have hF := ifn hF c4
      refine v_iload_n C 2 2 dX7_mostLying_33 rfl rfl ?_
      refine v_istore_n C 2 (ll' := [(2, _), (0, _), (1, _), (3, _)]) dX7_mostLying_34 rfl (by decide) rfl ?_
      refine v_iinc C (_ + (1 : Int32)) 3 (ll' := [(3, _), (2, _), (0, _), (1, _)]) dX7_mostLying_35 rfl (inc_eq (by decide)) (by decide) rfl ?_
      refine v_goto C 4 dX7_mostLying_38 (by decide) ?_
      refine v_sub [2, 3, 1, 0] (ll' := [(0, _), (1, _), (2, _), (3, _)]) rfl ?_
      cases hF
      exact hK
    · have hF := ifp hF c4
      refine v_iload_n C 2 2 dX7_mostLying_21 rfl rfl ?_
      refine v_aload_n C 0 0 dX7_mostLying_22 rfl rfl ?_
      refine v_iload_n C 3 3 dX7_mostLying_23 rfl rfl ?_
      obtain ⟨q5, g6, hF⟩ := bnd hF
      refine v_cVi C mw_X7_liesIn lk_X7_74 _ (M_X7_liesIn (by omega) h0 g6) h0 rfl rfl (Nat.le_of_ble_eq_true rfl) dX7_mostLying_24 ?_
      refine v_max C ml_X7_94 mm_max_s mm_i mm_max_c (Nat.le_of_ble_eq_true rfl) dX7_mostLying_27 ?_
      refine v_goto C 34 dX7_mostLying_30 (by decide) ?_
      refine v_istore_n C 2 (ll' := [(2, _), (0, _), (1, _), (3, _)]) dX7_mostLying_34 rfl (by decide) rfl ?_
      refine v_iinc C (_ + (1 : Int32)) 3 (ll' := [(3, _), (2, _), (0, _), (1, _)]) dX7_mostLying_35 rfl (inc_eq (by decide)) (by decide) rfl ?_
      refine v_goto C 4 dX7_mostLying_38 (by decide) ?_
      refine v_sub [2, 3, 1, 0] (ll' := [(0, _), (1, _), (2, _), (3, _)]) rfl ?_
      cases hF
      exact hK
set_option maxRecDepth 20000 in
set_option maxHeartbeats 2000000 in
theorem M_X7_mostLying {Δ : DD} {d : Nat} {x0 : Nat} {x1 : Int32} {σ : Mem} {q : Int32} (hd : 3 ≤ d) (h0 : isK 7 x0 = true) (hF : F_X7_mostLying x0 x1 σ = some q) : Mt Δ d yX7_mostLying cX7_mostLying 4 (some .int) [rf Δ x0, .int x1] σ (some (.int q)) σ := by
  obtain ⟨d, rfl⟩ : ∃ e, d = e + 1 := ⟨d - 1, by omega⟩
  have hd : 2 ≤ d := by omega
  refine mt_of (by decide) rfl (Nat.le_of_ble_eq_true rfl) (fun Γ C hq => ?_)
  unfold F_X7_mostLying at hF
  show V Δ Γ 4 0 [(0, rf Δ (x0)), (1, .int (x1))] [] σ
  refine v_iconst C (0) dX7_mostLying_0 (by decide) ?_
  refine v_istore_n C 2 (ll' := [(2, _), (0, _), (1, _)]) dX7_mostLying_1 rfl (by decide) rfl ?_
  refine v_iconst C (0) dX7_mostLying_2 (by decide) ?_
  refine v_istore_n C 3 (ll' := [(3, _), (2, _), (0, _), (1, _)]) dX7_mostLying_3 rfl (by decide) rfl ?_
  refine v_sub [2, 3, 1, 0] (ll' := [(0, _), (1, _), (2, _), (3, _)]) rfl ?_
  exact W_X7_mostLying_4 C hq h0 hd hF
set_option maxRecDepth 20000 in
set_option maxHeartbeats 2000000 in
theorem M_X7_swapRights {Δ : DD} {d : Nat} {x0 : Nat} {x1 : Int32} {x2 : Int32} {σ : Mem} {q : Mem} (hd : 2 ≤ d) (h0 : isK 7 x0 = true) (hF : F_X7_swapRights x0 x1 x2 σ = some q) : Mt Δ d yX7_swapRights cX7_swapRights 4 none [rf Δ x0, .int x1, .int x2] σ none q := by
  obtain ⟨d, rfl⟩ : ∃ e, d = e + 1 := ⟨d - 1, by omega⟩
  have hd : 1 ≤ d := by omega
  refine mt_of (by decide) rfl (Nat.le_of_ble_eq_true rfl) (fun Γ C hq => ?_)
  unfold F_X7_swapRights at hF
  show V Δ Γ 4 0 [(0, rf Δ (x0)), (1, .int (x1)), (2, .int (x2))] [] σ
  refine v_aload_n C 0 0 dX7_swapRights_0 rfl rfl ?_
  obtain ⟨p2, g1, hF⟩ := bnd hF
  refine v_gR C fu_X7_21 g1 dX7_swapRights_1 ?_
  refine v_iload_n C 1 1 dX7_swapRights_4 rfl rfl ?_
  obtain ⟨q3, g4, hF⟩ := bnd hF
  refine v_cSi C mw_X8_read lk_X7_47 _ (M_X8_read (by omega) g4) rfl rfl (Nat.le_of_ble_eq_true rfl) dX7_swapRights_5 ?_
  refine v_istore_n C 3 (ll' := [(3, _), (0, _), (1, _), (2, _)]) dX7_swapRights_8 rfl (by decide) rfl ?_
  refine v_aload_n C 0 1 dX7_swapRights_9 rfl rfl ?_
  obtain ⟨p6, g5, hF⟩ := bnd hF
  refine v_gR C fu_X7_21 g5 dX7_swapRights_10 ?_
  refine v_iload_n C 1 2 dX7_swapRights_13 rfl rfl ?_
  refine v_aload_n C 0 1 dX7_swapRights_14 rfl rfl ?_
  obtain ⟨p8, g7, hF⟩ := bnd hF
  refine v_gR C fu_X7_21 g7 dX7_swapRights_15 ?_
  refine v_iload_n C 2 3 dX7_swapRights_18 rfl rfl ?_
  obtain ⟨q9, g10, hF⟩ := bnd hF
  refine v_cSi C mw_X8_read lk_X7_47 _ (M_X8_read (by omega) g10) rfl rfl (Nat.le_of_ble_eq_true rfl) dX7_swapRights_19 ?_
  obtain ⟨q11, g12, hF⟩ := bnd hF
  refine v_cSv C mw_X8_write lk_X7_117 _ (M_X8_write (by omega) g12) rfl rfl (Nat.le_of_ble_eq_true rfl) dX7_swapRights_22 ?_
  refine v_aload_n C 0 1 dX7_swapRights_25 rfl rfl ?_
  obtain ⟨p14, g13, hF⟩ := bnd hF
  refine v_gR C fu_X7_21 g13 dX7_swapRights_26 ?_
  refine v_iload_n C 2 3 dX7_swapRights_29 rfl rfl ?_
  refine v_iload_n C 3 0 dX7_swapRights_30 rfl rfl ?_
  obtain ⟨q15, g16, hF⟩ := bnd hF
  refine v_cSv C mw_X8_write lk_X7_117 _ (M_X8_write (by omega) g16) rfl rfl (Nat.le_of_ble_eq_true rfl) dX7_swapRights_31 ?_
  exact v_vretF C hq (Option.some.inj hF) dX7_swapRights_34
set_option maxRecDepth 20000 in
set_option maxHeartbeats 2000000 in
theorem M_X7_carryOut {Δ : DD} {d : Nat} {x0 : Nat} {x1 : Int32} {σ : Mem} {q : (Int32 × Mem)} (hd : 5 ≤ d) (h0 : isK 7 x0 = true) (hF : F_X7_carryOut x0 x1 σ = some q) : Mt Δ d yX7_carryOut cX7_carryOut 3 (some .int) [rf Δ x0, .int x1] σ (some (.int q.1)) q.2 := by
  obtain ⟨d, rfl⟩ : ∃ e, d = e + 1 := ⟨d - 1, by omega⟩
  have hd : 4 ≤ d := by omega
  refine mt_of (by decide) rfl (Nat.le_of_ble_eq_true rfl) (fun Γ C hq => ?_)
  unfold F_X7_carryOut at hF
  show V Δ Γ 3 0 [(0, rf Δ (x0)), (1, .int (x1))] [] σ
  refine v_iload_n C 1 1 dX7_carryOut_0 rfl rfl ?_
  refine v_bipush C (10) dX7_carryOut_1 (by decide) ?_
  refine v_idiv C dX7_carryOut_3 (by decide) ?_
  refine v_bipush C (10) dX7_carryOut_4 (by decide) ?_
  refine v_irem C dX7_carryOut_6 (by decide) ?_
  refine v_istore_n C 2 (ll' := [(2, _), (0, _), (1, _)]) dX7_carryOut_7 rfl (by decide) rfl ?_
  refine v_iload_n C 1 2 dX7_carryOut_8 rfl rfl ?_
  refine v_bipush C (100) dX7_carryOut_9 (by decide) ?_
  refine v_idiv C dX7_carryOut_11 (by decide) ?_
  rcases ifc hF with ⟨c2, hF⟩ | ⟨c2, hF⟩
  · refine v_tableEq C 40 (1) (28) dX7_carryOut_12 c2 (by decide) (by decide) (by decide) (by decide) ?_
    refine v_aload_n C 0 1 dX7_carryOut_40 rfl rfl ?_
    refine v_iload_n C 2 0 dX7_carryOut_41 rfl rfl ?_
    obtain ⟨q3, g4, hF⟩ := bnd hF
    refine v_cVi C mw_X7_inspectBed lk_X7_97 _ (M_X7_inspectBed (by omega) h0 g4) h0 rfl rfl (Nat.le_of_ble_eq_true rfl) dX7_carryOut_42 ?_
    exact v_iretF C hq (Option.some.inj hF) dX7_carryOut_45
  · skip
    rcases ifc hF with ⟨c5, hF⟩ | ⟨c5, hF⟩
    · refine v_tableEq C 46 (2) (34) dX7_carryOut_12 c5 (by decide) (by decide) (by decide) (by decide) ?_
      refine v_aload_n C 0 1 dX7_carryOut_46 rfl rfl ?_
      refine v_iload_n C 2 0 dX7_carryOut_47 rfl rfl ?_
      refine v_iconst C (1) dX7_carryOut_48 (by decide) ?_
      obtain ⟨q6, g7, hF⟩ := bnd hF
      refine v_cVv C mw_X7_thinBed lk_X7_100 _ (M_X7_thinBed (by omega) h0 g7) h0 rfl rfl (Nat.le_of_ble_eq_true rfl) dX7_carryOut_49 ?_
      refine v_aload_n C 0 1 dX7_carryOut_52 rfl rfl ?_
      refine v_iload_n C 2 0 dX7_carryOut_53 rfl rfl ?_
      obtain ⟨q8, g9, hF⟩ := bnd hF
      refine v_cVi C mw_X7_thickOf lk_X7_64 _ (M_X7_thickOf (by omega) h0 g9) h0 rfl rfl (Nat.le_of_ble_eq_true rfl) dX7_carryOut_54 ?_
      exact v_iretF C hq (Option.some.inj hF) dX7_carryOut_57
    · skip
      rcases ifc hF with ⟨c10, hF⟩ | ⟨c10, hF⟩
      · refine v_tableEq C 58 (3) (46) dX7_carryOut_12 c10 (by decide) (by decide) (by decide) (by decide) ?_
        refine v_aload_n C 0 1 dX7_carryOut_58 rfl rfl ?_
        refine v_iload_n C 2 0 dX7_carryOut_59 rfl rfl ?_
        refine v_iload_n C 1 2 dX7_carryOut_60 rfl rfl ?_
        refine v_bipush C (10) dX7_carryOut_61 (by decide) ?_
        refine v_irem C dX7_carryOut_63 (by decide) ?_
        obtain ⟨q11, g12, hF⟩ := bnd hF
        refine v_cVv C mw_X7_swapRights lk_X7_104 _ (M_X7_swapRights (by omega) h0 g12) h0 rfl rfl (Nat.le_of_ble_eq_true rfl) dX7_carryOut_64 ?_
        refine v_aload_n C 0 1 dX7_carryOut_67 rfl rfl ?_
        refine v_iload_n C 2 0 dX7_carryOut_68 rfl rfl ?_
        refine v_iload_n C 2 0 dX7_carryOut_69 rfl rfl ?_
        obtain ⟨q13, g14, hF⟩ := bnd hF
        refine v_cVi C mw_X7_gapWith lk_X7_60 _ (M_X7_gapWith (by omega) h0 g14) h0 rfl rfl (Nat.le_of_ble_eq_true rfl) dX7_carryOut_70 ?_
        exact v_iretF C hq (Option.some.inj hF) dX7_carryOut_73
      · skip
        have c2 := lv_neT c2 (a := 1) (by decide)
        have c5 := lv_neT c5 (a := 2) (by decide)
        have c10 := lv_neT c10 (a := 3) (by decide)
        refine v_tableOut C 74 dX7_carryOut_12 (by omega) (by decide) ?_
        refine v_aload_n C 0 1 dX7_carryOut_74 rfl rfl ?_
        obtain ⟨q15, g16, hF⟩ := bnd hF
        refine v_cVi C mw_X7_passNight lk_X7_107 _ (M_X7_passNight (by omega) h0 g16) h0 rfl rfl (Nat.le_of_ble_eq_true rfl) dX7_carryOut_75 ?_
        exact v_iretF C hq (Option.some.inj hF) dX7_carryOut_78
def K_X7_passAlone_2 (Δ : DD) (Γ : GG) (q : Mem) (x0 : Nat) (x1 : Int32) (x2 : Int32) (y : (Int32 × Mem) ⊕ Mem) : Prop := match y with
  | .inl s => V Δ Γ 4 2 [(0, rf Δ (x0)), (1, .int (x1)), (2, .int (x2)), (3, .int (s.1))] [] s.2
  | .inr t => (t = q)
set_option maxRecDepth 20000 in
set_option maxHeartbeats 2000000 in
theorem W_X7_passAlone_2 {Δ : DD} {Γ : GG} {d : Nat} {q : Mem} {x0 : Nat} {x1 : Int32} {x2 : Int32} (C : Cx Δ Γ RX7 cX7_passAlone 4 d none) (hq : RetQ Δ Γ none q) (h0 : isK 7 x0 = true) (hd : 3 ≤ d) {s : Int32 × Mem} (hF : F_X7_passAlone_2 x0 x1 x2  s = some q) : V Δ Γ 4 2 [(0, rf Δ (x0)), (1, .int (x1)), (2, .int (x2)), (3, .int (s.1))] [] s.2 := by
  have hF : F_X7_passAlone_2 x0 x1 x2  s = some q := hF
  refine lp_V (W := fun (s : Int32 × Mem) => V Δ Γ 4 2 [(0, rf Δ (x0)), (1, .int (x1)), (2, .int (x2)), (3, .int (s.1))] [] s.2) (K := fun t => t = q) (K' := K_X7_passAlone_2 Δ Γ q x0 x1 x2 ) (fun _ h => h) (fun _ h => h) ?_ s q hF rfl
  clear hF
  intro s z hF hK
  refine v_iload_n C 3 3 dX7_passAlone_2 rfl rfl ?_
  refine v_iload_n C 2 2 dX7_passAlone_3 rfl rfl ?_
  refine v_icmp_ge C 29 dX7_passAlone_4 (by decide) (fun c1 => ?_) (fun c1 => ?_)
  · have hF := ifp hF c1
    cases hF
    exact v_vretF C hq hK dX7_passAlone_29
  · have hF := ifn hF c1
    refine v_aload_n C 0 0 dX7_passAlone_7 rfl rfl ?_
    refine v_iload_n C 1 1 dX7_passAlone_8 rfl rfl ?_
    obtain ⟨q2, g3, hF⟩ := bnd hF
    refine v_cVi C mw_X7_sleepIn lk_X7_111 _ (M_X7_sleepIn (by omega) h0 g3) h0 rfl rfl (Nat.le_of_ble_eq_true rfl) dX7_passAlone_9 ?_
    refine v_pop C dX7_passAlone_12 rfl ?_
    refine v_aload_n C 0 0 dX7_passAlone_13 rfl rfl ?_
    refine v_dup C dX7_passAlone_14 rfl ?_
    obtain ⟨v5, g4, hF⟩ := bnd hF
    refine v_gI C fu_X7_40 g4 dX7_passAlone_15 ?_
    refine v_iconst C (1) dX7_passAlone_18 (by decide) ?_
    refine v_iadd C dX7_passAlone_19 ?_
    obtain ⟨m7, g6, hF⟩ := bnd hF
    refine v_pI C fp_X7_40 g6 dX7_passAlone_20 ?_
    refine v_iinc C (_ + (1 : Int32)) 3 (ll' := [(3, _), (0, _), (1, _), (2, _)]) dX7_passAlone_23 rfl (inc_eq (by decide)) (by decide) rfl ?_
    refine v_goto C 2 dX7_passAlone_26 (by decide) ?_
    refine v_sub [1, 2, 3, 0] (ll' := [(0, _), (1, _), (2, _), (3, _)]) rfl ?_
    cases hF
    exact hK
set_option maxRecDepth 20000 in
set_option maxHeartbeats 2000000 in
theorem M_X7_passAlone {Δ : DD} {d : Nat} {x0 : Nat} {x1 : Int32} {x2 : Int32} {σ : Mem} {q : Mem} (hd : 4 ≤ d) (h0 : isK 7 x0 = true) (hF : F_X7_passAlone x0 x1 x2 σ = some q) : Mt Δ d yX7_passAlone cX7_passAlone 4 none [rf Δ x0, .int x1, .int x2] σ none q := by
  obtain ⟨d, rfl⟩ : ∃ e, d = e + 1 := ⟨d - 1, by omega⟩
  have hd : 3 ≤ d := by omega
  refine mt_of (by decide) rfl (Nat.le_of_ble_eq_true rfl) (fun Γ C hq => ?_)
  unfold F_X7_passAlone at hF
  show V Δ Γ 4 0 [(0, rf Δ (x0)), (1, .int (x1)), (2, .int (x2))] [] σ
  refine v_iconst C (0) dX7_passAlone_0 (by decide) ?_
  refine v_istore_n C 3 (ll' := [(3, _), (0, _), (1, _), (2, _)]) dX7_passAlone_1 rfl (by decide) rfl ?_
  refine v_sub [1, 2, 3, 0] (ll' := [(0, _), (1, _), (2, _), (3, _)]) rfl ?_
  exact W_X7_passAlone_2 C hq h0 hd hF
set_option maxRecDepth 20000 in
set_option maxHeartbeats 2000000 in
theorem M_X8_refuse {Δ : DD} {d : Nat} {x0 : Nat} {x1 : Int32} {σ : Mem} {q : (Int32 × Mem)} (hd : 2 ≤ d) (h0 : isK 8 x0 = true) (hF : F_X8_refuse x0 x1 σ = some q) : Mt Δ d yX8_refuse cX8_refuse 2 (some .int) [rf Δ x0, .int x1] σ (some (.int q.1)) q.2 := by
  obtain ⟨d, rfl⟩ : ∃ e, d = e + 1 := ⟨d - 1, by omega⟩
  have hd : 1 ≤ d := by omega
  refine mt_of (by decide) rfl (Nat.le_of_ble_eq_true rfl) (fun Γ C hq => ?_)
  unfold F_X8_refuse at hF
  show V Δ Γ 2 0 [(0, rf Δ (x0)), (1, .int (x1))] [] σ
  refine v_aload_n C 0 0 dX8_refuse_0 rfl rfl ?_
  refine v_iload_n C 1 1 dX8_refuse_1 rfl rfl ?_
  obtain ⟨m2, g1, hF⟩ := bnd hF
  refine v_pI C fp_X8_90 g1 dX8_refuse_2 ?_
  refine v_aload_n C 0 0 dX8_refuse_5 rfl rfl ?_
  obtain ⟨p4, g3, hF⟩ := bnd hF
  refine v_gR C fu_X8_93 g3 dX8_refuse_6 ?_
  refine v_iload_n C 1 1 dX8_refuse_9 rfl rfl ?_
  refine v_aload_n C 0 0 dX8_refuse_10 rfl rfl ?_
  obtain ⟨p6, g5, hF⟩ := bnd hF
  refine v_gR C fu_X8_93 g5 dX8_refuse_11 ?_
  refine v_iload_n C 1 1 dX8_refuse_14 rfl rfl ?_
  obtain ⟨q7, g8, hF⟩ := bnd hF
  refine v_cSi C mw_X8_read lk_X8_308 _ (M_X8_read (by omega) g8) rfl rfl (Nat.le_of_ble_eq_true rfl) dX8_refuse_15 ?_
  refine v_iconst C (1) dX8_refuse_18 (by decide) ?_
  refine v_iadd C dX8_refuse_19 ?_
  obtain ⟨q9, g10, hF⟩ := bnd hF
  refine v_cSv C mw_X8_write lk_X8_201 _ (M_X8_write (by omega) g10) rfl rfl (Nat.le_of_ble_eq_true rfl) dX8_refuse_20 ?_
  refine v_bipush C (-3) dX8_refuse_23 (by decide) ?_
  exact v_iretF C hq (Option.some.inj hF) dX8_refuse_25
set_option maxRecDepth 20000 in
set_option maxHeartbeats 2000000 in
theorem M_X8_makeAnew {Δ : DD} {d : Nat} {x0 : Nat} {x1 : Nat} {x2 : Int32} {x3 : Int32} {x4 : Int32} {σ : Mem} {q : (Int32 × Mem)} (hd : 4 ≤ d) (h0 : isK 8 x0 = true) (hF : F_X8_makeAnew x0 x1 x2 x3 x4 σ = some q) : Mt Δ d yX8_makeAnew cX8_makeAnew 5 (some .int) [rf Δ x0, rf Δ x1, .int x2, .int x3, .int x4] σ (some (.int q.1)) q.2 := by
  obtain ⟨d, rfl⟩ : ∃ e, d = e + 1 := ⟨d - 1, by omega⟩
  have hd : 3 ≤ d := by omega
  refine mt_of (by decide) rfl (Nat.le_of_ble_eq_true rfl) (fun Γ C hq => ?_)
  unfold F_X8_makeAnew at hF
  show V Δ Γ 5 0 [(0, rf Δ (x0)), (1, rf Δ (x1)), (2, .int (x2)), (3, .int (x3)), (4, .int (x4))] [] σ
  refine v_aload_n C 1 1 dX8_makeAnew_0 rfl rfl ?_
  refine v_iload_n C 2 2 dX8_makeAnew_1 rfl rfl ?_
  obtain ⟨_, g1, hF⟩ := bnd hF
  obtain ⟨q2, g3, hF⟩ := bnd hF
  refine v_cVi C mw_X6_isNumber lk_X8_124 _ (M_X6_isNumber (by omega) (chk_k g1) g3) (chk_k g1) rfl rfl (Nat.le_of_ble_eq_true rfl) dX8_makeAnew_2 ?_
  refine v_if_eq C 16 dX8_makeAnew_5 (by decide) (fun c4 => ?_) (fun c4 => ?_)
  · have hF := ifp hF c4
    refine v_iconst C (-1) dX8_makeAnew_16 (by decide) ?_
    exact v_iretF C hq (Option.some.inj hF) dX8_makeAnew_17
  · have hF := ifn hF c4
    refine v_iload_n C 3 3 dX8_makeAnew_8 rfl rfl ?_
    refine v_aload_n C 1 1 dX8_makeAnew_9 rfl rfl ?_
    obtain ⟨v6, g5, hF⟩ := bnd hF
    refine v_gI C fu_X8_323 g5 dX8_makeAnew_10 ?_
    refine v_icmp_le C 18 dX8_makeAnew_13 (by decide) (fun c7 => ?_) (fun c7 => ?_)
    · have hF := ifp hF c7
      refine v_iload_n C 3 3 dX8_makeAnew_18 rfl rfl ?_
      refine v_if_ge C 28 dX8_makeAnew_19 (by decide) (fun c8 => ?_) (fun c8 => ?_)
      · have hF := ifp hF c8
        refine v_aload_n C 1 1 dX8_makeAnew_28 rfl rfl ?_
        refine v_iload_n C 2 2 dX8_makeAnew_29 rfl rfl ?_
        refine v_iload_n C 3 3 dX8_makeAnew_30 rfl rfl ?_
        refine v_iload C 4 4 dX8_makeAnew_31 rfl ?_
        obtain ⟨_, g9, hF⟩ := bnd hF
        obtain ⟨q10, g11, hF⟩ := bnd hF
        refine v_cVv C mw_X6_make lk_X8_326 _ (M_X6_make (by omega) (chk_k g9) g11) (chk_k g9) rfl rfl (Nat.le_of_ble_eq_true rfl) dX8_makeAnew_33 ?_
        refine v_iload_n C 3 3 dX8_makeAnew_36 rfl rfl ?_
        exact v_iretF C hq (Option.some.inj hF) dX8_makeAnew_37
      · have hF := ifn hF c8
        refine v_aload_n C 0 0 dX8_makeAnew_22 rfl rfl ?_
        refine v_iconst C (5) dX8_makeAnew_23 (by decide) ?_
        obtain ⟨q12, g13, hF⟩ := bnd hF
        refine v_cVi C mw_X8_refuse lk_X8_128 _ (M_X8_refuse (by omega) h0 g13) h0 rfl rfl (Nat.le_of_ble_eq_true rfl) dX8_makeAnew_24 ?_
        exact v_iretF C hq (Option.some.inj hF) dX8_makeAnew_27
    · have hF := ifn hF c7
      refine v_iconst C (-1) dX8_makeAnew_16 (by decide) ?_
      exact v_iretF C hq (Option.some.inj hF) dX8_makeAnew_17
set_option maxRecDepth 20000 in
set_option maxHeartbeats 2000000 in
theorem M_X8_row {Δ : DD} {d : Nat} {x0 : Nat} {x1 : Int32} {x2 : Int32} {σ : Mem} {q : (Int32 × Mem)} (hd : 5 ≤ d) (h0 : isK 8 x0 = true) (hF : F_X8_row x0 x1 x2 σ = some q) : Mt Δ d yX8_row cX8_row 3 (some .int) [rf Δ x0, .int x1, .int x2] σ (some (.int q.1)) q.2 := by
  obtain ⟨d, rfl⟩ : ∃ e, d = e + 1 := ⟨d - 1, by omega⟩
  have hd : 4 ≤ d := by omega
  refine mt_of (by decide) rfl (Nat.le_of_ble_eq_true rfl) (fun Γ C hq => ?_)
  unfold F_X8_row at hF
  show V Δ Γ 3 0 [(0, rf Δ (x0)), (1, .int (x1)), (2, .int (x2))] [] σ
  refine v_aload_n C 0 0 dX8_row_0 rfl rfl ?_
  refine v_aload_n C 0 0 dX8_row_1 rfl rfl ?_
  obtain ⟨p2, g1, hF⟩ := bnd hF
  refine v_gR C fu_X8_14 g1 dX8_row_2 ?_
  refine v_iload_n C 1 1 dX8_row_5 rfl rfl ?_
  refine v_iload_n C 2 2 dX8_row_6 rfl rfl ?_
  refine v_iconst C (0) dX8_row_7 (by decide) ?_
  obtain ⟨q3, g4, hF⟩ := bnd hF
  refine v_cVi C mw_X8_makeAnew lk_X8_96 _ (M_X8_makeAnew (by omega) h0 g4) h0 rfl rfl (Nat.le_of_ble_eq_true rfl) dX8_row_8 ?_
  exact v_iretF C hq (Option.some.inj hF) dX8_row_11
set_option maxRecDepth 20000 in
set_option maxHeartbeats 2000000 in
theorem M_X8_refusalOfMissing {Δ : DD} {d : Nat} {x0 : Nat} {x1 : Nat} {x2 : Int32} {σ : Mem} {q : (Int32 × Mem)} (hd : 3 ≤ d) (h0 : isK 8 x0 = true) (hF : F_X8_refusalOfMissing x0 x1 x2 σ = some q) : Mt Δ d yX8_refusalOfMissing cX8_refusalOfMissing 3 (some .int) [rf Δ x0, rf Δ x1, .int x2] σ (some (.int q.1)) q.2 := by
  obtain ⟨d, rfl⟩ : ∃ e, d = e + 1 := ⟨d - 1, by omega⟩
  have hd : 2 ≤ d := by omega
  refine mt_of (by decide) rfl (Nat.le_of_ble_eq_true rfl) (fun Γ C hq => ?_)
  unfold F_X8_refusalOfMissing at hF
  show V Δ Γ 3 0 [(0, rf Δ (x0)), (1, rf Δ (x1)), (2, .int (x2))] [] σ
  refine v_aload_n C 1 1 dX8_refusalOfMissing_0 rfl rfl ?_
  refine v_iload_n C 2 2 dX8_refusalOfMissing_1 rfl rfl ?_
  obtain ⟨_, g1, hF⟩ := bnd hF
  obtain ⟨q2, g3, hF⟩ := bnd hF
  refine v_cVi C mw_X6_isNumber lk_X8_124 _ (M_X6_isNumber (by omega) (chk_k g1) g3) (chk_k g1) rfl rfl (Nat.le_of_ble_eq_true rfl) dX8_refusalOfMissing_2 ?_
  refine v_if_ne C 10 dX8_refusalOfMissing_5 (by decide) (fun c4 => ?_) (fun c4 => ?_)
  · have hF := ifn hF c4
    refine v_aload_n C 1 1 dX8_refusalOfMissing_10 rfl rfl ?_
    refine v_iload_n C 2 2 dX8_refusalOfMissing_11 rfl rfl ?_
    obtain ⟨_, g5, hF⟩ := bnd hF
    obtain ⟨q6, g7, hF⟩ := bnd hF
    refine v_cVi C mw_X6_stands lk_X8_131 _ (M_X6_stands (by omega) (chk_k g5) g7) (chk_k g5) rfl rfl (Nat.le_of_ble_eq_true rfl) dX8_refusalOfMissing_12 ?_
    refine v_if_eq C 22 dX8_refusalOfMissing_15 (by decide) (fun c8 => ?_) (fun c8 => ?_)
    · have hF := ifp hF c8
      refine v_aload_n C 0 0 dX8_refusalOfMissing_22 rfl rfl ?_
      refine v_iconst C (1) dX8_refusalOfMissing_23 (by decide) ?_
      obtain ⟨q9, g10, hF⟩ := bnd hF
      refine v_cVi C mw_X8_refuse lk_X8_128 _ (M_X8_refuse (by omega) h0 g10) h0 rfl rfl (Nat.le_of_ble_eq_true rfl) dX8_refusalOfMissing_24 ?_
      exact v_iretF C hq (Option.some.inj hF) dX8_refusalOfMissing_27
    · have hF := ifn hF c8
      refine v_iconst C (0) dX8_refusalOfMissing_18 (by decide) ?_
      refine v_goto C 27 dX8_refusalOfMissing_19 (by decide) ?_
      exact v_iretF C hq (Option.some.inj hF) dX8_refusalOfMissing_27
  · have hF := ifp hF c4
    refine v_iconst C (-1) dX8_refusalOfMissing_8 (by decide) ?_
    exact v_iretF C hq (Option.some.inj hF) dX8_refusalOfMissing_9
set_option maxRecDepth 20000 in
set_option maxHeartbeats 2000000 in
theorem M_X8_refusalOfPlace {Δ : DD} {d : Nat} {x0 : Nat} {x1 : Nat} {x2 : Int32} {x3 : Int32} {σ : Mem} {q : (Int32 × Mem)} (hd : 4 ≤ d) (h0 : isK 8 x0 = true) (hF : F_X8_refusalOfPlace x0 x1 x2 x3 σ = some q) : Mt Δ d yX8_refusalOfPlace cX8_refusalOfPlace 5 (some .int) [rf Δ x0, rf Δ x1, .int x2, .int x3] σ (some (.int q.1)) q.2 := by
  obtain ⟨d, rfl⟩ : ∃ e, d = e + 1 := ⟨d - 1, by omega⟩
  have hd : 3 ≤ d := by omega
  refine mt_of (by decide) rfl (Nat.le_of_ble_eq_true rfl) (fun Γ C hq => ?_)
  unfold F_X8_refusalOfPlace at hF
  show V Δ Γ 5 0 [(0, rf Δ (x0)), (1, rf Δ (x1)), (2, .int (x2)), (3, .int (x3))] [] σ
  refine v_aload_n C 0 0 dX8_refusalOfPlace_0 rfl rfl ?_
  refine v_aload_n C 1 1 dX8_refusalOfPlace_1 rfl rfl ?_
  refine v_iload_n C 2 2 dX8_refusalOfPlace_2 rfl rfl ?_
  obtain ⟨q1, g2, hF⟩ := bnd hF
  refine v_cVi C mw_X8_refusalOfMissing lk_X8_116 _ (M_X8_refusalOfMissing (by omega) h0 g2) h0 rfl rfl (Nat.le_of_ble_eq_true rfl) dX8_refusalOfPlace_3 ?_
  refine v_istore C 4 (ll' := [(4, _), (0, _), (1, _), (2, _), (3, _)]) dX8_refusalOfPlace_6 (by decide) rfl ?_
  refine v_iload C 4 0 dX8_refusalOfPlace_8 rfl ?_
  refine v_if_eq C 16 dX8_refusalOfPlace_10 (by decide) (fun c3 => ?_) (fun c3 => ?_)
  · have hF := ifp hF c3
    refine v_aload_n C 1 2 dX8_refusalOfPlace_16 rfl rfl ?_
    refine v_iload_n C 2 3 dX8_refusalOfPlace_17 rfl rfl ?_
    refine v_iload_n C 3 4 dX8_refusalOfPlace_18 rfl rfl ?_
    refine v_iconst C (1) dX8_refusalOfPlace_19 (by decide) ?_
    obtain ⟨_, g4, hF⟩ := bnd hF
    obtain ⟨q5, g6, hF⟩ := bnd hF
    refine v_cVi C mw_X6_holds lk_X8_134 _ (M_X6_holds (by omega) (chk_k g4) g6) (chk_k g4) rfl rfl (Nat.le_of_ble_eq_true rfl) dX8_refusalOfPlace_20 ?_
    refine v_if_eq C 30 dX8_refusalOfPlace_23 (by decide) (fun c7 => ?_) (fun c7 => ?_)
    · have hF := ifp hF c7
      refine v_aload_n C 0 1 dX8_refusalOfPlace_30 rfl rfl ?_
      refine v_iconst C (2) dX8_refusalOfPlace_31 (by decide) ?_
      obtain ⟨q8, g9, hF⟩ := bnd hF
      refine v_cVi C mw_X8_refuse lk_X8_128 _ (M_X8_refuse (by omega) h0 g9) h0 rfl rfl (Nat.le_of_ble_eq_true rfl) dX8_refusalOfPlace_32 ?_
      exact v_iretF C hq (Option.some.inj hF) dX8_refusalOfPlace_35
    · have hF := ifn hF c7
      refine v_iconst C (0) dX8_refusalOfPlace_26 (by decide) ?_
      refine v_goto C 35 dX8_refusalOfPlace_27 (by decide) ?_
      exact v_iretF C hq (Option.some.inj hF) dX8_refusalOfPlace_35
  · have hF := ifn hF c3
    refine v_iload C 4 0 dX8_refusalOfPlace_13 rfl ?_
    exact v_iretF C hq (Option.some.inj hF) dX8_refusalOfPlace_15
set_option maxRecDepth 20000 in
set_option maxHeartbeats 2000000 in
theorem M_X8_tell {Δ : DD} {d : Nat} {x0 : Nat} {x1 : Int32} {σ : Mem} {q : (Int32 × Mem)} (hd : 1 ≤ d) (h0 : isK 8 x0 = true) (hF : F_X8_tell x0 x1 σ = some q) : Mt Δ d yX8_tell cX8_tell 2 (some .int) [rf Δ x0, .int x1] σ (some (.int q.1)) q.2 := by
  obtain ⟨d, rfl⟩ : ∃ e, d = e + 1 := ⟨d - 1, by omega⟩
  have hd : 0 ≤ d := by omega
  refine mt_of (by decide) rfl (Nat.le_of_ble_eq_true rfl) (fun Γ C hq => ?_)
  unfold F_X8_tell at hF
  show V Δ Γ 2 0 [(0, rf Δ (x0)), (1, .int (x1))] [] σ
  refine v_aload_n C 0 0 dX8_tell_0 rfl rfl ?_
  refine v_iload_n C 1 1 dX8_tell_1 rfl rfl ?_
  obtain ⟨m2, g1, hF⟩ := bnd hF
  refine v_pI C fp_X8_80 g1 dX8_tell_2 ?_
  refine v_iconst C (1) dX8_tell_5 (by decide) ?_
  exact v_iretF C hq (Option.some.inj hF) dX8_tell_6
set_option maxRecDepth 20000 in
set_option maxHeartbeats 2000000 in
theorem M_X8_lay {Δ : DD} {d : Nat} {x0 : Nat} {x1 : Int32} {x2 : Int32} {x3 : Int32} {σ : Mem} {q : (Int32 × Mem)} (hd : 5 ≤ d) (h0 : isK 8 x0 = true) (hF : F_X8_lay x0 x1 x2 x3 σ = some q) : Mt Δ d yX8_lay cX8_lay 6 (some .int) [rf Δ x0, .int x1, .int x2, .int x3] σ (some (.int q.1)) q.2 := by
  obtain ⟨d, rfl⟩ : ∃ e, d = e + 1 := ⟨d - 1, by omega⟩
  have hd : 4 ≤ d := by omega
  refine mt_of (by decide) rfl (Nat.le_of_ble_eq_true rfl) (fun Γ C hq => ?_)
  unfold F_X8_lay at hF
  show V Δ Γ 6 0 [(0, rf Δ (x0)), (1, .int (x1)), (2, .int (x2)), (3, .int (x3))] [] σ
  refine v_aload_n C 0 0 dX8_lay_0 rfl rfl ?_
  refine v_aload_n C 0 0 dX8_lay_1 rfl rfl ?_
  obtain ⟨p2, g1, hF⟩ := bnd hF
  refine v_gR C fu_X8_14 g1 dX8_lay_2 ?_
  refine v_iload_n C 1 1 dX8_lay_5 rfl rfl ?_
  refine v_iload_n C 2 2 dX8_lay_6 rfl rfl ?_
  obtain ⟨q3, g4, hF⟩ := bnd hF
  refine v_cVi C mw_X8_refusalOfPlace lk_X8_100 _ (M_X8_refusalOfPlace (by omega) h0 g4) h0 rfl rfl (Nat.le_of_ble_eq_true rfl) dX8_lay_7 ?_
  refine v_istore C 4 (ll' := [(4, _), (0, _), (1, _), (2, _), (3, _)]) dX8_lay_10 (by decide) rfl ?_
  refine v_iload C 4 0 dX8_lay_12 rfl ?_
  refine v_if_eq C 20 dX8_lay_14 (by decide) (fun c5 => ?_) (fun c5 => ?_)
  · have hF := ifp hF c5
    refine v_aload_n C 0 1 dX8_lay_20 rfl rfl ?_
    obtain ⟨p7, g6, hF⟩ := bnd hF
    refine v_gR C fu_X8_14 g6 dX8_lay_21 ?_
    refine v_iload_n C 1 2 dX8_lay_24 rfl rfl ?_
    refine v_iload_n C 2 3 dX8_lay_25 rfl rfl ?_
    obtain ⟨_, g8, hF⟩ := bnd hF
    obtain ⟨q9, g10, hF⟩ := bnd hF
    refine v_cVi C mw_X6_get lk_X8_104 _ (M_X6_get (by omega) (chk_k g8) g10) (chk_k g8) rfl rfl (Nat.le_of_ble_eq_true rfl) dX8_lay_26 ?_
    refine v_istore C 5 (ll' := [(5, _), (4, _), (0, _), (1, _), (2, _), (3, _)]) dX8_lay_29 (by decide) rfl ?_
    refine v_aload_n C 0 2 dX8_lay_31 rfl rfl ?_
    obtain ⟨p12, g11, hF⟩ := bnd hF
    refine v_gR C fu_X8_14 g11 dX8_lay_32 ?_
    refine v_iload_n C 1 3 dX8_lay_35 rfl rfl ?_
    refine v_iload_n C 2 4 dX8_lay_36 rfl rfl ?_
    refine v_iload_n C 3 5 dX8_lay_37 rfl rfl ?_
    obtain ⟨_, g13, hF⟩ := bnd hF
    obtain ⟨q14, g15, hF⟩ := bnd hF
    refine v_cVv C mw_X6_set lk_X8_108 _ (M_X6_set (by omega) (chk_k g13) g15) (chk_k g13) rfl rfl (Nat.le_of_ble_eq_true rfl) dX8_lay_38 ?_
    refine v_aload_n C 0 2 dX8_lay_41 rfl rfl ?_
    refine v_iload C 5 0 dX8_lay_42 rfl ?_
    obtain ⟨q16, g17, hF⟩ := bnd hF
    refine v_cVi C mw_X8_tell lk_X8_112 _ (M_X8_tell (by omega) h0 g17) h0 rfl rfl (Nat.le_of_ble_eq_true rfl) dX8_lay_44 ?_
    exact v_iretF C hq (Option.some.inj hF) dX8_lay_47
  · have hF := ifn hF c5
    refine v_iload C 4 0 dX8_lay_17 rfl ?_
    exact v_iretF C hq (Option.some.inj hF) dX8_lay_19
set_option maxRecDepth 20000 in
set_option maxHeartbeats 2000000 in
theorem M_X8_at {Δ : DD} {d : Nat} {x0 : Nat} {x1 : Int32} {x2 : Int32} {σ : Mem} {q : (Int32 × Mem)} (hd : 5 ≤ d) (h0 : isK 8 x0 = true) (hF : F_X8_at x0 x1 x2 σ = some q) : Mt Δ d yX8_at cX8_at 4 (some .int) [rf Δ x0, .int x1, .int x2] σ (some (.int q.1)) q.2 := by
  obtain ⟨d, rfl⟩ : ∃ e, d = e + 1 := ⟨d - 1, by omega⟩
  have hd : 4 ≤ d := by omega
  refine mt_of (by decide) rfl (Nat.le_of_ble_eq_true rfl) (fun Γ C hq => ?_)
  unfold F_X8_at at hF
  show V Δ Γ 4 0 [(0, rf Δ (x0)), (1, .int (x1)), (2, .int (x2))] [] σ
  refine v_aload_n C 0 0 dX8_at_0 rfl rfl ?_
  refine v_aload_n C 0 0 dX8_at_1 rfl rfl ?_
  obtain ⟨p2, g1, hF⟩ := bnd hF
  refine v_gR C fu_X8_14 g1 dX8_at_2 ?_
  refine v_iload_n C 1 1 dX8_at_5 rfl rfl ?_
  refine v_iload_n C 2 2 dX8_at_6 rfl rfl ?_
  obtain ⟨q3, g4, hF⟩ := bnd hF
  refine v_cVi C mw_X8_refusalOfPlace lk_X8_100 _ (M_X8_refusalOfPlace (by omega) h0 g4) h0 rfl rfl (Nat.le_of_ble_eq_true rfl) dX8_at_7 ?_
  refine v_istore_n C 3 (ll' := [(3, _), (0, _), (1, _), (2, _)]) dX8_at_10 rfl (by decide) rfl ?_
  refine v_iload_n C 3 0 dX8_at_11 rfl rfl ?_
  refine v_if_eq C 19 dX8_at_12 (by decide) (fun c5 => ?_) (fun c5 => ?_)
  · have hF := ifp hF c5
    refine v_aload_n C 0 1 dX8_at_19 rfl rfl ?_
    refine v_aload_n C 0 1 dX8_at_20 rfl rfl ?_
    obtain ⟨p7, g6, hF⟩ := bnd hF
    refine v_gR C fu_X8_14 g6 dX8_at_21 ?_
    refine v_iload_n C 1 2 dX8_at_24 rfl rfl ?_
    refine v_iload_n C 2 3 dX8_at_25 rfl rfl ?_
    obtain ⟨_, g8, hF⟩ := bnd hF
    obtain ⟨q9, g10, hF⟩ := bnd hF
    refine v_cVi C mw_X6_get lk_X8_104 _ (M_X6_get (by omega) (chk_k g8) g10) (chk_k g8) rfl rfl (Nat.le_of_ble_eq_true rfl) dX8_at_26 ?_
    obtain ⟨q11, g12, hF⟩ := bnd hF
    refine v_cVi C mw_X8_tell lk_X8_112 _ (M_X8_tell (by omega) h0 g12) h0 rfl rfl (Nat.le_of_ble_eq_true rfl) dX8_at_29 ?_
    exact v_iretF C hq (Option.some.inj hF) dX8_at_32
  · have hF := ifn hF c5
    refine v_iload_n C 3 0 dX8_at_15 rfl rfl ?_
    refine v_goto C 32 dX8_at_16 (by decide) ?_
    exact v_iretF C hq (Option.some.inj hF) dX8_at_32
set_option maxRecDepth 20000 in
set_option maxHeartbeats 2000000 in
theorem M_X8_tear {Δ : DD} {d : Nat} {x0 : Nat} {x1 : Int32} {σ : Mem} {q : (Int32 × Mem)} (hd : 4 ≤ d) (h0 : isK 8 x0 = true) (hF : F_X8_tear x0 x1 σ = some q) : Mt Δ d yX8_tear cX8_tear 3 (some .int) [rf Δ x0, .int x1] σ (some (.int q.1)) q.2 := by
  obtain ⟨d, rfl⟩ : ∃ e, d = e + 1 := ⟨d - 1, by omega⟩
  have hd : 3 ≤ d := by omega
  refine mt_of (by decide) rfl (Nat.le_of_ble_eq_true rfl) (fun Γ C hq => ?_)
  unfold F_X8_tear at hF
  show V Δ Γ 3 0 [(0, rf Δ (x0)), (1, .int (x1))] [] σ
  refine v_aload_n C 0 0 dX8_tear_0 rfl rfl ?_
  refine v_aload_n C 0 0 dX8_tear_1 rfl rfl ?_
  obtain ⟨p2, g1, hF⟩ := bnd hF
  refine v_gR C fu_X8_14 g1 dX8_tear_2 ?_
  refine v_iload_n C 1 1 dX8_tear_5 rfl rfl ?_
  obtain ⟨q3, g4, hF⟩ := bnd hF
  refine v_cVi C mw_X8_refusalOfMissing lk_X8_116 _ (M_X8_refusalOfMissing (by omega) h0 g4) h0 rfl rfl (Nat.le_of_ble_eq_true rfl) dX8_tear_6 ?_
  refine v_istore_n C 2 (ll' := [(2, _), (0, _), (1, _)]) dX8_tear_9 rfl (by decide) rfl ?_
  refine v_iload_n C 2 0 dX8_tear_10 rfl rfl ?_
  refine v_if_eq C 16 dX8_tear_11 (by decide) (fun c5 => ?_) (fun c5 => ?_)
  · have hF := ifp hF c5
    refine v_aload_n C 0 1 dX8_tear_16 rfl rfl ?_
    obtain ⟨p7, g6, hF⟩ := bnd hF
    refine v_gR C fu_X8_14 g6 dX8_tear_17 ?_
    refine v_iload_n C 1 2 dX8_tear_20 rfl rfl ?_
    obtain ⟨_, g8, hF⟩ := bnd hF
    obtain ⟨q9, g10, hF⟩ := bnd hF
    refine v_cVv C mw_X6_remove lk_X8_120 _ (M_X6_remove (by omega) (chk_k g8) g10) (chk_k g8) rfl rfl (Nat.le_of_ble_eq_true rfl) dX8_tear_21 ?_
    refine v_iconst C (1) dX8_tear_24 (by decide) ?_
    exact v_iretF C hq (Option.some.inj hF) dX8_tear_25
  · have hF := ifn hF c5
    refine v_iload_n C 2 0 dX8_tear_14 rfl rfl ?_
    exact v_iretF C hq (Option.some.inj hF) dX8_tear_15
set_option maxRecDepth 20000 in
set_option maxHeartbeats 2000000 in
theorem W_X8_copy_57 {Δ : DD} {Γ : GG} {d : Nat} {q : (Int32 × Mem)} {x0 : Nat}  {σ : Mem} (C : Cx Δ Γ RX8 cX8_copy 6 d (some .int)) (hq : RetQ Δ Γ (some (.int q.1)) q.2) (h0 : isK 8 x0 = true) (hd : 2 ≤ d) (hF : F_X8_copy_57 x0  σ = some q) : V Δ Γ 6 57 [(0, rf Δ (x0))] [] σ := by
  unfold F_X8_copy_57 at hF
  refine v_aload_n C 0 0 dX8_copy_57 rfl rfl ?_
  refine v_iconst C (1) dX8_copy_58 (by decide) ?_
  obtain ⟨q1, g2, hF⟩ := bnd hF
  refine v_cVi C mw_X8_refuse lk_X8_128 _ (M_X8_refuse (by omega) h0 g2) h0 rfl rfl (Nat.le_of_ble_eq_true rfl) dX8_copy_59 ?_
  exact v_iretF C hq (Option.some.inj hF) dX8_copy_62
set_option maxRecDepth 20000 in
set_option maxHeartbeats 2000000 in
theorem W_X8_copy_92 {Δ : DD} {Γ : GG} {d : Nat} {q : (Int32 × Mem)} {x0 : Nat}  {σ : Mem} (C : Cx Δ Γ RX8 cX8_copy 6 d (some .int)) (hq : RetQ Δ Γ (some (.int q.1)) q.2) (h0 : isK 8 x0 = true) (hd : 2 ≤ d) (hF : F_X8_copy_92 x0  σ = some q) : V Δ Γ 6 92 [(0, rf Δ (x0))] [] σ := by
  unfold F_X8_copy_92 at hF
  refine v_aload_n C 0 0 dX8_copy_92 rfl rfl ?_
  refine v_iconst C (2) dX8_copy_93 (by decide) ?_
  obtain ⟨q3, g4, hF⟩ := bnd hF
  refine v_cVi C mw_X8_refuse lk_X8_128 _ (M_X8_refuse (by omega) h0 g4) h0 rfl rfl (Nat.le_of_ble_eq_true rfl) dX8_copy_94 ?_
  exact v_iretF C hq (Option.some.inj hF) dX8_copy_97
set_option maxRecDepth 20000 in
set_option maxHeartbeats 2000000 in
theorem M_X8_copy {Δ : DD} {d : Nat} {x0 : Nat} {x1 : Int32} {x2 : Int32} {x3 : Int32} {x4 : Int32} {x5 : Int32} {σ : Mem} {q : (Int32 × Mem)} (hd : 3 ≤ d) (h0 : isK 8 x0 = true) (hF : F_X8_copy x0 x1 x2 x3 x4 x5 σ = some q) : Mt Δ d yX8_copy cX8_copy 6 (some .int) [rf Δ x0, .int x1, .int x2, .int x3, .int x4, .int x5] σ (some (.int q.1)) q.2 := by
  obtain ⟨d, rfl⟩ : ∃ e, d = e + 1 := ⟨d - 1, by omega⟩
  have hd : 2 ≤ d := by omega
  refine mt_of (by decide) rfl (Nat.le_of_ble_eq_true rfl) (fun Γ C hq => ?_)
  unfold F_X8_copy at hF
  show V Δ Γ 6 0 [(0, rf Δ (x0)), (1, .int (x1)), (2, .int (x2)), (3, .int (x3)), (4, .int (x4)), (5, .int (x5))] [] σ
  refine v_aload_n C 0 0 dX8_copy_0 rfl rfl ?_
  obtain ⟨p6, g5, hF⟩ := bnd hF
  refine v_gR C fu_X8_14 g5 dX8_copy_1 ?_
  refine v_iload_n C 1 1 dX8_copy_4 rfl rfl ?_
  obtain ⟨_, g7, hF⟩ := bnd hF
  obtain ⟨q8, g9, hF⟩ := bnd hF
  refine v_cVi C mw_X6_isNumber lk_X8_124 _ (M_X6_isNumber (by omega) (chk_k g7) g9) (chk_k g7) rfl rfl (Nat.le_of_ble_eq_true rfl) dX8_copy_5 ?_
  refine v_if_eq C 22 dX8_copy_8 (by decide) (fun c10 => ?_) (fun c10 => ?_)
  · have hF := ifp hF c10
    refine v_iconst C (-1) dX8_copy_22 (by decide) ?_
    exact v_iretF C hq (Option.some.inj hF) dX8_copy_23
  · have hF := ifn hF c10
    refine v_aload_n C 0 0 dX8_copy_11 rfl rfl ?_
    obtain ⟨p12, g11, hF⟩ := bnd hF
    refine v_gR C fu_X8_14 g11 dX8_copy_12 ?_
    refine v_iload_n C 3 3 dX8_copy_15 rfl rfl ?_
    obtain ⟨_, g13, hF⟩ := bnd hF
    obtain ⟨q14, g15, hF⟩ := bnd hF
    refine v_cVi C mw_X6_isNumber lk_X8_124 _ (M_X6_isNumber (by omega) (chk_k g13) g15) (chk_k g13) rfl rfl (Nat.le_of_ble_eq_true rfl) dX8_copy_16 ?_
    refine v_if_ne C 24 dX8_copy_19 (by decide) (fun c16 => ?_) (fun c16 => ?_)
    · have hF := ifn hF c16
      refine v_iload C 5 5 dX8_copy_24 rfl ?_
      refine v_if_ge C 35 dX8_copy_26 (by decide) (fun c17 => ?_) (fun c17 => ?_)
      · have hF := ifp hF c17
        refine v_aload_n C 0 0 dX8_copy_35 rfl rfl ?_
        obtain ⟨p19, g18, hF⟩ := bnd hF
        refine v_gR C fu_X8_14 g18 dX8_copy_36 ?_
        refine v_iload_n C 1 1 dX8_copy_39 rfl rfl ?_
        obtain ⟨_, g20, hF⟩ := bnd hF
        obtain ⟨q21, g22, hF⟩ := bnd hF
        refine v_cVi C mw_X6_stands lk_X8_131 _ (M_X6_stands (by omega) (chk_k g20) g22) (chk_k g20) rfl rfl (Nat.le_of_ble_eq_true rfl) dX8_copy_40 ?_
        refine v_if_eq C 57 dX8_copy_43 (by decide) (fun c23 => ?_) (fun c23 => ?_)
        · have hF := ifp hF c23
          refine v_sub [0] (ll' := [(0, _)]) rfl ?_
          exact W_X8_copy_57 C hq h0 hd hF
        · have hF := ifn hF c23
          refine v_aload_n C 0 0 dX8_copy_46 rfl rfl ?_
          obtain ⟨p25, g24, hF⟩ := bnd hF
          refine v_gR C fu_X8_14 g24 dX8_copy_47 ?_
          refine v_iload_n C 3 3 dX8_copy_50 rfl rfl ?_
          obtain ⟨_, g26, hF⟩ := bnd hF
          obtain ⟨q27, g28, hF⟩ := bnd hF
          refine v_cVi C mw_X6_stands lk_X8_131 _ (M_X6_stands (by omega) (chk_k g26) g28) (chk_k g26) rfl rfl (Nat.le_of_ble_eq_true rfl) dX8_copy_51 ?_
          refine v_if_ne C 63 dX8_copy_54 (by decide) (fun c29 => ?_) (fun c29 => ?_)
          · have hF := ifn hF c29
            refine v_aload_n C 0 0 dX8_copy_63 rfl rfl ?_
            obtain ⟨p31, g30, hF⟩ := bnd hF
            refine v_gR C fu_X8_14 g30 dX8_copy_64 ?_
            refine v_iload_n C 1 1 dX8_copy_67 rfl rfl ?_
            refine v_iload_n C 2 2 dX8_copy_68 rfl rfl ?_
            refine v_iload C 5 5 dX8_copy_69 rfl ?_
            obtain ⟨_, g32, hF⟩ := bnd hF
            obtain ⟨q33, g34, hF⟩ := bnd hF
            refine v_cVi C mw_X6_holds lk_X8_134 _ (M_X6_holds (by omega) (chk_k g32) g34) (chk_k g32) rfl rfl (Nat.le_of_ble_eq_true rfl) dX8_copy_71 ?_
            refine v_if_eq C 92 dX8_copy_74 (by decide) (fun c35 => ?_) (fun c35 => ?_)
            · have hF := ifp hF c35
              refine v_sub [0] (ll' := [(0, _)]) rfl ?_
              exact W_X8_copy_92 C hq h0 hd hF
            · have hF := ifn hF c35
              refine v_aload_n C 0 0 dX8_copy_77 rfl rfl ?_
              obtain ⟨p37, g36, hF⟩ := bnd hF
              refine v_gR C fu_X8_14 g36 dX8_copy_78 ?_
              refine v_iload_n C 3 3 dX8_copy_81 rfl rfl ?_
              refine v_iload C 4 4 dX8_copy_82 rfl ?_
              refine v_iload C 5 5 dX8_copy_84 rfl ?_
              obtain ⟨_, g38, hF⟩ := bnd hF
              obtain ⟨q39, g40, hF⟩ := bnd hF
              refine v_cVi C mw_X6_holds lk_X8_134 _ (M_X6_holds (by omega) (chk_k g38) g40) (chk_k g38) rfl rfl (Nat.le_of_ble_eq_true rfl) dX8_copy_86 ?_
              refine v_if_ne C 98 dX8_copy_89 (by decide) (fun c41 => ?_) (fun c41 => ?_)
              · have hF := ifn hF c41
                refine v_aload_n C 0 0 dX8_copy_98 rfl rfl ?_
                obtain ⟨p43, g42, hF⟩ := bnd hF
                refine v_gR C fu_X8_14 g42 dX8_copy_99 ?_
                refine v_iload_n C 1 1 dX8_copy_102 rfl rfl ?_
                refine v_iload_n C 2 2 dX8_copy_103 rfl rfl ?_
                refine v_iload_n C 3 3 dX8_copy_104 rfl rfl ?_
                refine v_iload C 4 4 dX8_copy_105 rfl ?_
                refine v_iload C 5 5 dX8_copy_107 rfl ?_
                obtain ⟨_, g44, hF⟩ := bnd hF
                obtain ⟨q45, g46, hF⟩ := bnd hF
                refine v_cVv C mw_X6_move lk_X8_138 _ (M_X6_move (by omega) (chk_k g44) g46) (chk_k g44) rfl rfl (Nat.le_of_ble_eq_true rfl) dX8_copy_109 ?_
                refine v_iconst C (1) dX8_copy_112 (by decide) ?_
                exact v_iretF C hq (Option.some.inj hF) dX8_copy_113
              · have hF := ifp hF c41
                refine v_sub [0] (ll' := [(0, _)]) rfl ?_
                exact W_X8_copy_92 C hq h0 hd hF
          · have hF := ifp hF c29
            refine v_sub [0] (ll' := [(0, _)]) rfl ?_
            exact W_X8_copy_57 C hq h0 hd hF
      · have hF := ifn hF c17
        refine v_aload_n C 0 0 dX8_copy_29 rfl rfl ?_
        refine v_iconst C (5) dX8_copy_30 (by decide) ?_
        obtain ⟨q47, g48, hF⟩ := bnd hF
        refine v_cVi C mw_X8_refuse lk_X8_128 _ (M_X8_refuse (by omega) h0 g48) h0 rfl rfl (Nat.le_of_ble_eq_true rfl) dX8_copy_31 ?_
        exact v_iretF C hq (Option.some.inj hF) dX8_copy_34
    · have hF := ifp hF c16
      refine v_iconst C (-1) dX8_copy_22 (by decide) ?_
      exact v_iretF C hq (Option.some.inj hF) dX8_copy_23
def K_X8_mean_41 (Δ : DD) (Γ : GG) (q : (Int32 × Mem)) (x0 : Nat) (x1 : Int32) (x3 : Int32) (σ : Mem) (y : (Int64 × Int32) ⊕ (Int32 × Mem)) : Prop := match y with
  | .inl s => V Δ Γ 7 41 [(0, rf Δ (x0)), (1, .int (x1)), (3, .int (x3)), (4, .long (s.1)), (6, .int (s.2))] [] σ
  | .inr t => (t = q)
set_option maxRecDepth 20000 in
set_option maxHeartbeats 2000000 in
theorem W_X8_mean_41 {Δ : DD} {Γ : GG} {d : Nat} {q : (Int32 × Mem)} {x0 : Nat} {x1 : Int32} {x3 : Int32} {σ : Mem} (C : Cx Δ Γ RX8 cX8_mean 7 d (some .int)) (hq : RetQ Δ Γ (some (.int q.1)) q.2) (h0 : isK 8 x0 = true) (hd : 3 ≤ d) {s : Int64 × Int32} (hF : F_X8_mean_41 x0 x1 x3 σ s = some q) : V Δ Γ 7 41 [(0, rf Δ (x0)), (1, .int (x1)), (3, .int (x3)), (4, .long (s.1)), (6, .int (s.2))] [] σ := by
  have hF : F_X8_mean_41 x0 x1 x3 σ s = some q := hF
  refine lp_V (W := fun (s : Int64 × Int32) => V Δ Γ 7 41 [(0, rf Δ (x0)), (1, .int (x1)), (3, .int (x3)), (4, .long (s.1)), (6, .int (s.2))] [] σ) (K := fun t => t = q) (K' := K_X8_mean_41 Δ Γ q x0 x1 x3 σ) (fun _ h => h) (fun _ h => h) ?_ s q hF rfl
  clear hF
  intro s z hF hK
  refine v_iload C 6 4 dX8_mean_41 rfl ?_
  refine v_iload_n C 3 2 dX8_mean_43 rfl rfl ?_
  refine v_icmp_ge C 69 dX8_mean_44 (by decide) (fun c1 => ?_) (fun c1 => ?_)
  · have hF := ifp hF c1
    refine v_aload_n C 0 0 dX8_mean_69 rfl rfl ?_
    refine v_lload C 4 3 dX8_mean_70 rfl ?_
    refine v_iload_n C 3 2 dX8_mean_72 rfl rfl ?_
    refine v_i2l C dX8_mean_73 ?_
    obtain ⟨_, g2, hF⟩ := bnd hF
    refine v_ldiv C dX8_mean_74 (nzL_ne g2) ?_
    refine v_l2i C dX8_mean_75 ?_
    obtain ⟨q3, g4, hF⟩ := bnd hF
    refine v_cVi C mw_X8_tell lk_X8_112 _ (M_X8_tell (by omega) h0 g4) h0 rfl rfl (Nat.le_of_ble_eq_true rfl) dX8_mean_76 ?_
    cases hF
    exact v_iretF C hq hK dX8_mean_79
  · have hF := ifn hF c1
    refine v_lload C 4 3 dX8_mean_47 rfl ?_
    refine v_aload_n C 0 0 dX8_mean_49 rfl rfl ?_
    obtain ⟨p6, g5, hF⟩ := bnd hF
    refine v_gR C fu_X8_14 g5 dX8_mean_50 ?_
    refine v_iload_n C 1 1 dX8_mean_53 rfl rfl ?_
    refine v_iload C 6 4 dX8_mean_54 rfl ?_
    obtain ⟨_, g7, hF⟩ := bnd hF
    obtain ⟨q8, g9, hF⟩ := bnd hF
    refine v_cVi C mw_X6_get lk_X8_104 _ (M_X6_get (by omega) (chk_k g7) g9) (chk_k g7) rfl rfl (Nat.le_of_ble_eq_true rfl) dX8_mean_56 ?_
    refine v_i2l C dX8_mean_59 ?_
    refine v_ladd C dX8_mean_60 ?_
    refine v_lstore C 4 (ll' := [(4, _), (0, _), (1, _), (3, _), (6, _)]) dX8_mean_61 (by decide) rfl ?_
    refine v_iinc C (_ + (1 : Int32)) 4 (ll' := [(6, _), (4, _), (0, _), (1, _), (3, _)]) dX8_mean_63 rfl (inc_eq (by decide)) (by decide) rfl ?_
    refine v_goto C 41 dX8_mean_66 (by decide) ?_
    refine v_sub [2, 3, 4, 1, 0] (ll' := [(0, _), (1, _), (3, _), (4, _), (6, _)]) rfl ?_
    cases hF
    exact hK
set_option maxRecDepth 20000 in
set_option maxHeartbeats 2000000 in
theorem M_X8_mean {Δ : DD} {d : Nat} {x0 : Nat} {x1 : Int32} {σ : Mem} {q : (Int32 × Mem)} (hd : 4 ≤ d) (h0 : isK 8 x0 = true) (hF : F_X8_mean x0 x1 σ = some q) : Mt Δ d yX8_mean cX8_mean 7 (some .int) [rf Δ x0, .int x1] σ (some (.int q.1)) q.2 := by
  obtain ⟨d, rfl⟩ : ∃ e, d = e + 1 := ⟨d - 1, by omega⟩
  have hd : 3 ≤ d := by omega
  refine mt_of (by decide) rfl (Nat.le_of_ble_eq_true rfl) (fun Γ C hq => ?_)
  unfold F_X8_mean at hF
  show V Δ Γ 7 0 [(0, rf Δ (x0)), (1, .int (x1))] [] σ
  refine v_aload_n C 0 0 dX8_mean_0 rfl rfl ?_
  refine v_aload_n C 0 0 dX8_mean_1 rfl rfl ?_
  obtain ⟨p11, g10, hF⟩ := bnd hF
  refine v_gR C fu_X8_14 g10 dX8_mean_2 ?_
  refine v_iload_n C 1 1 dX8_mean_5 rfl rfl ?_
  obtain ⟨q12, g13, hF⟩ := bnd hF
  refine v_cVi C mw_X8_refusalOfMissing lk_X8_116 _ (M_X8_refusalOfMissing (by omega) h0 g13) h0 rfl rfl (Nat.le_of_ble_eq_true rfl) dX8_mean_6 ?_
  refine v_istore_n C 2 (ll' := [(2, _), (0, _), (1, _)]) dX8_mean_9 rfl (by decide) rfl ?_
  refine v_iload_n C 2 0 dX8_mean_10 rfl rfl ?_
  refine v_if_eq C 16 dX8_mean_11 (by decide) (fun c14 => ?_) (fun c14 => ?_)
  · have hF := ifp hF c14
    refine v_aload_n C 0 1 dX8_mean_16 rfl rfl ?_
    obtain ⟨p16, g15, hF⟩ := bnd hF
    refine v_gR C fu_X8_14 g15 dX8_mean_17 ?_
    refine v_iload_n C 1 2 dX8_mean_20 rfl rfl ?_
    obtain ⟨_, g17, hF⟩ := bnd hF
    obtain ⟨q18, g19, hF⟩ := bnd hF
    refine v_cVi C mw_X6_size lk_X8_142 _ (M_X6_size (by omega) (chk_k g17) g19) (chk_k g17) rfl rfl (Nat.le_of_ble_eq_true rfl) dX8_mean_21 ?_
    refine v_istore_n C 3 (ll' := [(3, _), (2, _), (0, _), (1, _)]) dX8_mean_24 rfl (by decide) rfl ?_
    refine v_iload_n C 3 0 dX8_mean_25 rfl rfl ?_
    refine v_if_gt C 35 dX8_mean_26 (by decide) (fun c20 => ?_) (fun c20 => ?_)
    · have hF := ifp hF c20
      refine v_lconst C 0 dX8_mean_35 (by decide) ?_
      refine v_lstore C 4 (ll' := [(4, _), (3, _), (2, _), (0, _), (1, _)]) dX8_mean_36 (by decide) rfl ?_
      refine v_iconst C (0) dX8_mean_38 (by decide) ?_
      refine v_istore C 6 (ll' := [(6, _), (4, _), (3, _), (2, _), (0, _), (1, _)]) dX8_mean_39 (by decide) rfl ?_
      refine v_sub [4, 5, 2, 1, 0] (ll' := [(0, _), (1, _), (3, _), (4, _), (6, _)]) rfl ?_
      exact W_X8_mean_41 C hq h0 hd hF
    · have hF := ifn hF c20
      refine v_aload_n C 0 2 dX8_mean_29 rfl rfl ?_
      refine v_iconst C (4) dX8_mean_30 (by decide) ?_
      obtain ⟨q21, g22, hF⟩ := bnd hF
      refine v_cVi C mw_X8_refuse lk_X8_128 _ (M_X8_refuse (by omega) h0 g22) h0 rfl rfl (Nat.le_of_ble_eq_true rfl) dX8_mean_31 ?_
      exact v_iretF C hq (Option.some.inj hF) dX8_mean_34
  · have hF := ifn hF c14
    refine v_iload_n C 2 0 dX8_mean_14 rfl rfl ?_
    exact v_iretF C hq (Option.some.inj hF) dX8_mean_15
set_option maxRecDepth 20000 in
set_option maxHeartbeats 2000000 in
theorem M_X8_text {Δ : DD} {d : Nat} {x0 : Nat} {x1 : Int32} {x2 : Int32} {σ : Mem} {q : (Int32 × Mem)} (hd : 5 ≤ d) (h0 : isK 8 x0 = true) (hF : F_X8_text x0 x1 x2 σ = some q) : Mt Δ d yX8_text cX8_text 3 (some .int) [rf Δ x0, .int x1, .int x2] σ (some (.int q.1)) q.2 := by
  obtain ⟨d, rfl⟩ : ∃ e, d = e + 1 := ⟨d - 1, by omega⟩
  have hd : 4 ≤ d := by omega
  refine mt_of (by decide) rfl (Nat.le_of_ble_eq_true rfl) (fun Γ C hq => ?_)
  unfold F_X8_text at hF
  show V Δ Γ 3 0 [(0, rf Δ (x0)), (1, .int (x1)), (2, .int (x2))] [] σ
  refine v_aload_n C 0 0 dX8_text_0 rfl rfl ?_
  refine v_aload_n C 0 0 dX8_text_1 rfl rfl ?_
  obtain ⟨p2, g1, hF⟩ := bnd hF
  refine v_gR C fu_X8_18 g1 dX8_text_2 ?_
  refine v_iload_n C 1 1 dX8_text_5 rfl rfl ?_
  refine v_iload_n C 2 2 dX8_text_6 rfl rfl ?_
  refine v_bipush C (32) dX8_text_7 (by decide) ?_
  obtain ⟨q3, g4, hF⟩ := bnd hF
  refine v_cVi C mw_X8_makeAnew lk_X8_96 _ (M_X8_makeAnew (by omega) h0 g4) h0 rfl rfl (Nat.le_of_ble_eq_true rfl) dX8_text_9 ?_
  exact v_iretF C hq (Option.some.inj hF) dX8_text_12
set_option maxRecDepth 20000 in
set_option maxHeartbeats 2000000 in
theorem M_X8_put {Δ : DD} {d : Nat} {x0 : Nat} {x1 : Int32} {x2 : Int32} {x3 : Int32} {σ : Mem} {q : (Int32 × Mem)} (hd : 5 ≤ d) (h0 : isK 8 x0 = true) (hF : F_X8_put x0 x1 x2 x3 σ = some q) : Mt Δ d yX8_put cX8_put 6 (some .int) [rf Δ x0, .int x1, .int x2, .int x3] σ (some (.int q.1)) q.2 := by
  obtain ⟨d, rfl⟩ : ∃ e, d = e + 1 := ⟨d - 1, by omega⟩
  have hd : 4 ≤ d := by omega
  refine mt_of (by decide) rfl (Nat.le_of_ble_eq_true rfl) (fun Γ C hq => ?_)
  unfold F_X8_put at hF
  show V Δ Γ 6 0 [(0, rf Δ (x0)), (1, .int (x1)), (2, .int (x2)), (3, .int (x3))] [] σ
  refine v_aload_n C 0 0 dX8_put_0 rfl rfl ?_
  refine v_aload_n C 0 0 dX8_put_1 rfl rfl ?_
  obtain ⟨p2, g1, hF⟩ := bnd hF
  refine v_gR C fu_X8_18 g1 dX8_put_2 ?_
  refine v_iload_n C 1 1 dX8_put_5 rfl rfl ?_
  refine v_iload_n C 2 2 dX8_put_6 rfl rfl ?_
  obtain ⟨q3, g4, hF⟩ := bnd hF
  refine v_cVi C mw_X8_refusalOfPlace lk_X8_100 _ (M_X8_refusalOfPlace (by omega) h0 g4) h0 rfl rfl (Nat.le_of_ble_eq_true rfl) dX8_put_7 ?_
  refine v_istore C 4 (ll' := [(4, _), (0, _), (1, _), (2, _), (3, _)]) dX8_put_10 (by decide) rfl ?_
  refine v_iload C 4 0 dX8_put_12 rfl ?_
  refine v_if_eq C 20 dX8_put_14 (by decide) (fun c5 => ?_) (fun c5 => ?_)
  · have hF := ifp hF c5
    refine v_aload_n C 0 1 dX8_put_20 rfl rfl ?_
    obtain ⟨p7, g6, hF⟩ := bnd hF
    refine v_gR C fu_X8_18 g6 dX8_put_21 ?_
    refine v_iload_n C 1 2 dX8_put_24 rfl rfl ?_
    refine v_iload_n C 2 3 dX8_put_25 rfl rfl ?_
    obtain ⟨_, g8, hF⟩ := bnd hF
    obtain ⟨q9, g10, hF⟩ := bnd hF
    refine v_cVi C mw_X6_get lk_X8_104 _ (M_X6_get (by omega) (chk_k g8) g10) (chk_k g8) rfl rfl (Nat.le_of_ble_eq_true rfl) dX8_put_26 ?_
    refine v_istore C 5 (ll' := [(5, _), (4, _), (0, _), (1, _), (2, _), (3, _)]) dX8_put_29 (by decide) rfl ?_
    refine v_aload_n C 0 2 dX8_put_31 rfl rfl ?_
    obtain ⟨p12, g11, hF⟩ := bnd hF
    refine v_gR C fu_X8_18 g11 dX8_put_32 ?_
    refine v_iload_n C 1 3 dX8_put_35 rfl rfl ?_
    refine v_iload_n C 2 4 dX8_put_36 rfl rfl ?_
    refine v_iload_n C 3 5 dX8_put_37 rfl rfl ?_
    refine v_i2b C dX8_put_38 ?_
    obtain ⟨_, g13, hF⟩ := bnd hF
    obtain ⟨q14, g15, hF⟩ := bnd hF
    refine v_cVv C mw_X6_set lk_X8_108 _ (M_X6_set (by omega) (chk_k g13) g15) (chk_k g13) rfl rfl (Nat.le_of_ble_eq_true rfl) dX8_put_39 ?_
    refine v_iload C 5 0 dX8_put_42 rfl ?_
    refine v_sipush C (1000) dX8_put_44 (by decide) ?_
    refine v_iadd C dX8_put_47 ?_
    exact v_iretF C hq (Option.some.inj hF) dX8_put_48
  · have hF := ifn hF c5
    refine v_iload C 4 0 dX8_put_17 rfl ?_
    exact v_iretF C hq (Option.some.inj hF) dX8_put_19
set_option maxRecDepth 20000 in
set_option maxHeartbeats 2000000 in
theorem M_X8_fault {Δ : DD} {d : Nat} {x0 : Nat} {x1 : Int32} {σ : Mem} {q : (Int32 × Mem)} (hd : 6 ≤ d) (h0 : isK 8 x0 = true) (hF : F_X8_fault x0 x1 σ = some q) : Mt Δ d yX8_fault cX8_fault 3 (some .int) [rf Δ x0, .int x1] σ (some (.int q.1)) q.2 := by
  obtain ⟨d, rfl⟩ : ∃ e, d = e + 1 := ⟨d - 1, by omega⟩
  have hd : 5 ≤ d := by omega
  refine mt_of (by decide) rfl (Nat.le_of_ble_eq_true rfl) (fun Γ C hq => ?_)
  unfold F_X8_fault at hF
  show V Δ Γ 3 0 [(0, rf Δ (x0)), (1, .int (x1))] [] σ
  refine v_aload_n C 0 0 dX8_fault_0 rfl rfl ?_
  refine v_aload_n C 0 0 dX8_fault_1 rfl rfl ?_
  obtain ⟨p2, g1, hF⟩ := bnd hF
  refine v_gR C fu_X8_18 g1 dX8_fault_2 ?_
  refine v_iload_n C 1 1 dX8_fault_5 rfl rfl ?_
  obtain ⟨q3, g4, hF⟩ := bnd hF
  refine v_cVi C mw_X8_refusalOfMissing lk_X8_116 _ (M_X8_refusalOfMissing (by omega) h0 g4) h0 rfl rfl (Nat.le_of_ble_eq_true rfl) dX8_fault_6 ?_
  refine v_istore_n C 2 (ll' := [(2, _), (0, _), (1, _)]) dX8_fault_9 rfl (by decide) rfl ?_
  refine v_iload_n C 2 0 dX8_fault_10 rfl rfl ?_
  refine v_if_eq C 18 dX8_fault_11 (by decide) (fun c5 => ?_) (fun c5 => ?_)
  · have hF := ifp hF c5
    refine v_aload_n C 0 1 dX8_fault_18 rfl rfl ?_
    obtain ⟨p7, g6, hF⟩ := bnd hF
    refine v_gR C fu_X8_48 g6 dX8_fault_19 ?_
    refine v_aload_n C 0 1 dX8_fault_22 rfl rfl ?_
    obtain ⟨p9, g8, hF⟩ := bnd hF
    refine v_gR C fu_X8_18 g8 dX8_fault_23 ?_
    refine v_iload_n C 1 2 dX8_fault_26 rfl rfl ?_
    obtain ⟨_, g10, hF⟩ := bnd hF
    obtain ⟨q11, g12, hF⟩ := bnd hF
    refine v_cVi C mw_X4_readTown lk_X8_145 _ (M_X4_readTown (by omega) (chk_k g10) g12) (chk_k g10) rfl rfl (Nat.le_of_ble_eq_true rfl) dX8_fault_27 ?_
    exact v_iretF C hq (Option.some.inj hF) dX8_fault_30
  · have hF := ifn hF c5
    refine v_iload_n C 2 0 dX8_fault_14 rfl rfl ?_
    refine v_goto C 30 dX8_fault_15 (by decide) ?_
    exact v_iretF C hq (Option.some.inj hF) dX8_fault_30
set_option maxRecDepth 20000 in
set_option maxHeartbeats 2000000 in
theorem M_X8_town {Δ : DD} {d : Nat} {x0 : Nat} {x1 : Int32} {σ : Mem} {q : (Int32 × Mem)} (hd : 6 ≤ d) (h0 : isK 8 x0 = true) (hF : F_X8_town x0 x1 σ = some q) : Mt Δ d yX8_town cX8_town 3 (some .int) [rf Δ x0, .int x1] σ (some (.int q.1)) q.2 := by
  obtain ⟨d, rfl⟩ : ∃ e, d = e + 1 := ⟨d - 1, by omega⟩
  have hd : 5 ≤ d := by omega
  refine mt_of (by decide) rfl (Nat.le_of_ble_eq_true rfl) (fun Γ C hq => ?_)
  unfold F_X8_town at hF
  show V Δ Γ 3 0 [(0, rf Δ (x0)), (1, .int (x1))] [] σ
  refine v_aload_n C 0 0 dX8_town_0 rfl rfl ?_
  refine v_aload_n C 0 0 dX8_town_1 rfl rfl ?_
  obtain ⟨p2, g1, hF⟩ := bnd hF
  refine v_gR C fu_X8_18 g1 dX8_town_2 ?_
  refine v_iload_n C 1 1 dX8_town_5 rfl rfl ?_
  obtain ⟨q3, g4, hF⟩ := bnd hF
  refine v_cVi C mw_X8_refusalOfMissing lk_X8_116 _ (M_X8_refusalOfMissing (by omega) h0 g4) h0 rfl rfl (Nat.le_of_ble_eq_true rfl) dX8_town_6 ?_
  refine v_istore_n C 2 (ll' := [(2, _), (0, _), (1, _)]) dX8_town_9 rfl (by decide) rfl ?_
  refine v_iload_n C 2 0 dX8_town_10 rfl rfl ?_
  refine v_if_eq C 16 dX8_town_11 (by decide) (fun c5 => ?_) (fun c5 => ?_)
  · have hF := ifp hF c5
    refine v_aload_n C 0 1 dX8_town_16 rfl rfl ?_
    obtain ⟨p7, g6, hF⟩ := bnd hF
    refine v_gR C fu_X8_48 g6 dX8_town_17 ?_
    refine v_aload_n C 0 1 dX8_town_20 rfl rfl ?_
    obtain ⟨p9, g8, hF⟩ := bnd hF
    refine v_gR C fu_X8_18 g8 dX8_town_21 ?_
    refine v_iload_n C 1 2 dX8_town_24 rfl rfl ?_
    obtain ⟨_, g10, hF⟩ := bnd hF
    obtain ⟨q11, g12, hF⟩ := bnd hF
    refine v_cVi C mw_X4_readTown lk_X8_145 _ (M_X4_readTown (by omega) (chk_k g10) g12) (chk_k g10) rfl rfl (Nat.le_of_ble_eq_true rfl) dX8_town_25 ?_
    refine v_bipush C (-9) dX8_town_28 (by decide) ?_
    refine v_icmp_eq C 36 dX8_town_30 (by decide) (fun c13 => ?_) (fun c13 => ?_)
    · have hF := ifp hF c13
      refine v_aload_n C 0 1 dX8_town_36 rfl rfl ?_
      obtain ⟨p15, g14, hF⟩ := bnd hF
      refine v_gR C fu_X8_27 g14 dX8_town_37 ?_
      refine v_aload_n C 0 1 dX8_town_40 rfl rfl ?_
      obtain ⟨p17, g16, hF⟩ := bnd hF
      refine v_gR C fu_X8_48 g16 dX8_town_41 ?_
      obtain ⟨p19, g18, hF⟩ := bnd hF
      refine v_gR C fu_X8_148 g18 dX8_town_44 ?_
      obtain ⟨_, g20, hF⟩ := bnd hF
      obtain ⟨q21, g22, hF⟩ := bnd hF
      refine v_cVv C mw_X7_copyFrom lk_X8_151 _ (M_X7_copyFrom (by omega) (chk_k g20) g22) (chk_k g20) rfl rfl (Nat.le_of_ble_eq_true rfl) dX8_town_47 ?_
      refine v_aload_n C 0 1 dX8_town_50 rfl rfl ?_
      obtain ⟨p24, g23, hF⟩ := bnd hF
      refine v_gR C fu_X8_31 g23 dX8_town_51 ?_
      refine v_aload_n C 0 1 dX8_town_54 rfl rfl ?_
      obtain ⟨p26, g25, hF⟩ := bnd hF
      refine v_gR C fu_X8_27 g25 dX8_town_55 ?_
      obtain ⟨_, g27, hF⟩ := bnd hF
      obtain ⟨q28, g29, hF⟩ := bnd hF
      refine v_cVv C mw_X7_copyFrom lk_X8_151 _ (M_X7_copyFrom (by omega) (chk_k g27) g29) (chk_k g27) rfl rfl (Nat.le_of_ble_eq_true rfl) dX8_town_58 ?_
      refine v_aload_n C 0 1 dX8_town_61 rfl rfl ?_
      refine v_iconst C (0) dX8_town_62 (by decide) ?_
      obtain ⟨m31, g30, hF⟩ := bnd hF
      refine v_pI C fp_X8_41 g30 dX8_town_63 ?_
      refine v_aload_n C 0 1 dX8_town_66 rfl rfl ?_
      obtain ⟨p33, g32, hF⟩ := bnd hF
      refine v_gR C fu_X8_21 g32 dX8_town_67 ?_
      obtain ⟨_, g34, hF⟩ := bnd hF
      obtain ⟨q35, g36, hF⟩ := bnd hF
      refine v_cVv C mw_X6_removeAll lk_X8_155 _ (M_X6_removeAll (by omega) (chk_k g34) g36) (chk_k g34) rfl rfl (Nat.le_of_ble_eq_true rfl) dX8_town_70 ?_
      refine v_aload_n C 0 1 dX8_town_73 rfl rfl ?_
      obtain ⟨p38, g37, hF⟩ := bnd hF
      refine v_gR C fu_X8_31 g37 dX8_town_74 ?_
      obtain ⟨v40, g39, hF⟩ := bnd hF
      refine v_gI C fu_X8_158 g39 dX8_town_77 ?_
      exact v_iretF C hq (Option.some.inj hF) dX8_town_80
    · have hF := ifn hF c13
      refine v_bipush C (-4) dX8_town_33 (by decide) ?_
      exact v_iretF C hq (Option.some.inj hF) dX8_town_35
  · have hF := ifn hF c5
    refine v_iload_n C 2 0 dX8_town_14 rfl rfl ?_
    exact v_iretF C hq (Option.some.inj hF) dX8_town_15
set_option maxRecDepth 20000 in
set_option maxHeartbeats 2000000 in
theorem M_X8_bed {Δ : DD} {d : Nat} {x0 : Nat} {x1 : Int32} {x2 : Int32} {σ : Mem} {q : (Int32 × Mem)} (hd : 5 ≤ d) (h0 : isK 8 x0 = true) (hF : F_X8_bed x0 x1 x2 σ = some q) : Mt Δ d yX8_bed cX8_bed 3 (some .int) [rf Δ x0, .int x1, .int x2] σ (some (.int q.1)) q.2 := by
  obtain ⟨d, rfl⟩ : ∃ e, d = e + 1 := ⟨d - 1, by omega⟩
  have hd : 4 ≤ d := by omega
  refine mt_of (by decide) rfl (Nat.le_of_ble_eq_true rfl) (fun Γ C hq => ?_)
  unfold F_X8_bed at hF
  show V Δ Γ 3 0 [(0, rf Δ (x0)), (1, .int (x1)), (2, .int (x2))] [] σ
  refine v_aload_n C 0 0 dX8_bed_0 rfl rfl ?_
  obtain ⟨p2, g1, hF⟩ := bnd hF
  refine v_gR C fu_X8_31 g1 dX8_bed_1 ?_
  refine v_iload_n C 1 1 dX8_bed_4 rfl rfl ?_
  obtain ⟨_, g3, hF⟩ := bnd hF
  obtain ⟨q4, g5, hF⟩ := bnd hF
  refine v_cVi C mw_X7_has lk_X8_161 _ (M_X7_has (by omega) (chk_k g3) g5) (chk_k g3) rfl rfl (Nat.le_of_ble_eq_true rfl) dX8_bed_5 ?_
  refine v_if_eq C 21 dX8_bed_8 (by decide) (fun c6 => ?_) (fun c6 => ?_)
  · have hF := ifp hF c6
    refine v_iconst C (-1) dX8_bed_21 (by decide) ?_
    exact v_iretF C hq (Option.some.inj hF) dX8_bed_22
  · have hF := ifn hF c6
    refine v_iload_n C 2 2 dX8_bed_11 rfl rfl ?_
    refine v_if_lt C 21 dX8_bed_12 (by decide) (fun c7 => ?_) (fun c7 => ?_)
    · have hF := ifp hF c7
      refine v_iconst C (-1) dX8_bed_21 (by decide) ?_
      exact v_iretF C hq (Option.some.inj hF) dX8_bed_22
    · have hF := ifn hF c7
      refine v_iload_n C 2 2 dX8_bed_15 rfl rfl ?_
      refine v_bipush C (8) dX8_bed_16 (by decide) ?_
      refine v_icmp_lt C 23 dX8_bed_18 (by decide) (fun c8 => ?_) (fun c8 => ?_)
      · have hF := ifp hF c8
        refine v_aload_n C 0 0 dX8_bed_23 rfl rfl ?_
        refine v_aload_n C 0 0 dX8_bed_24 rfl rfl ?_
        obtain ⟨p10, g9, hF⟩ := bnd hF
        refine v_gR C fu_X8_31 g9 dX8_bed_25 ?_
        refine v_iload_n C 1 1 dX8_bed_28 rfl rfl ?_
        refine v_iload_n C 2 2 dX8_bed_29 rfl rfl ?_
        obtain ⟨_, g11, hF⟩ := bnd hF
        obtain ⟨q12, g13, hF⟩ := bnd hF
        refine v_cVi C mw_X7_about lk_X8_164 _ (M_X7_about (by omega) (chk_k g11) g13) (chk_k g11) rfl rfl (Nat.le_of_ble_eq_true rfl) dX8_bed_30 ?_
        obtain ⟨q14, g15, hF⟩ := bnd hF
        refine v_cVi C mw_X8_tell lk_X8_112 _ (M_X8_tell (by omega) h0 g15) h0 rfl rfl (Nat.le_of_ble_eq_true rfl) dX8_bed_33 ?_
        exact v_iretF C hq (Option.some.inj hF) dX8_bed_36
      · have hF := ifn hF c8
        refine v_iconst C (-1) dX8_bed_21 (by decide) ?_
        exact v_iretF C hq (Option.some.inj hF) dX8_bed_22
set_option maxRecDepth 20000 in
set_option maxHeartbeats 2000000 in
theorem M_X8_mark {Δ : DD} {d : Nat} {x0 : Nat} {x1 : Int32} {x2 : Int32} {σ : Mem} {q : (Int32 × Mem)} (hd : 4 ≤ d) (h0 : isK 8 x0 = true) (hF : F_X8_mark x0 x1 x2 σ = some q) : Mt Δ d yX8_mark cX8_mark 5 (some .int) [rf Δ x0, .int x1, .int x2] σ (some (.int q.1)) q.2 := by
  obtain ⟨d, rfl⟩ : ∃ e, d = e + 1 := ⟨d - 1, by omega⟩
  have hd : 3 ≤ d := by omega
  refine mt_of (by decide) rfl (Nat.le_of_ble_eq_true rfl) (fun Γ C hq => ?_)
  unfold F_X8_mark at hF
  show V Δ Γ 5 0 [(0, rf Δ (x0)), (1, .int (x1)), (2, .int (x2))] [] σ
  refine v_aload_n C 0 0 dX8_mark_0 rfl rfl ?_
  obtain ⟨p2, g1, hF⟩ := bnd hF
  refine v_gR C fu_X8_31 g1 dX8_mark_1 ?_
  refine v_iload_n C 1 1 dX8_mark_4 rfl rfl ?_
  obtain ⟨_, g3, hF⟩ := bnd hF
  obtain ⟨q4, g5, hF⟩ := bnd hF
  refine v_cVi C mw_X7_has lk_X8_161 _ (M_X7_has (by omega) (chk_k g3) g5) (chk_k g3) rfl rfl (Nat.le_of_ble_eq_true rfl) dX8_mark_5 ?_
  refine v_if_eq C 21 dX8_mark_8 (by decide) (fun c6 => ?_) (fun c6 => ?_)
  · have hF := ifp hF c6
    refine v_iconst C (-1) dX8_mark_21 (by decide) ?_
    exact v_iretF C hq (Option.some.inj hF) dX8_mark_22
  · have hF := ifn hF c6
    refine v_iload_n C 2 2 dX8_mark_11 rfl rfl ?_
    refine v_if_le C 21 dX8_mark_12 (by decide) (fun c7 => ?_) (fun c7 => ?_)
    · have hF := ifp hF c7
      refine v_iconst C (-1) dX8_mark_21 (by decide) ?_
      exact v_iretF C hq (Option.some.inj hF) dX8_mark_22
    · have hF := ifn hF c7
      refine v_iload_n C 2 2 dX8_mark_15 rfl rfl ?_
      refine v_bipush C (6) dX8_mark_16 (by decide) ?_
      refine v_icmp_lt C 23 dX8_mark_18 (by decide) (fun c8 => ?_) (fun c8 => ?_)
      · have hF := ifp hF c8
        refine v_aload_n C 0 0 dX8_mark_23 rfl rfl ?_
        obtain ⟨p10, g9, hF⟩ := bnd hF
        refine v_gR C fu_X8_31 g9 dX8_mark_24 ?_
        refine v_iload_n C 1 1 dX8_mark_27 rfl rfl ?_
        obtain ⟨_, g11, hF⟩ := bnd hF
        obtain ⟨q12, g13, hF⟩ := bnd hF
        refine v_cVi C mw_X7_kindOf lk_X8_167 _ (M_X7_kindOf (by omega) (chk_k g11) g13) (chk_k g11) rfl rfl (Nat.le_of_ble_eq_true rfl) dX8_mark_28 ?_
        refine v_iload_n C 2 2 dX8_mark_31 rfl rfl ?_
        obtain ⟨q14, g15, hF⟩ := bnd hF
        refine v_cSi C mw_X8_isOfKind lk_X8_170 _ (M_X8_isOfKind (by omega) g15) rfl rfl (Nat.le_of_ble_eq_true rfl) dX8_mark_32 ?_
        refine v_if_ne C 44 dX8_mark_35 (by decide) (fun c16 => ?_) (fun c16 => ?_)
        · have hF := ifn hF c16
          refine v_aload_n C 0 0 dX8_mark_44 rfl rfl ?_
          obtain ⟨p18, g17, hF⟩ := bnd hF
          refine v_gR C fu_X8_31 g17 dX8_mark_45 ?_
          refine v_iload_n C 1 1 dX8_mark_48 rfl rfl ?_
          obtain ⟨_, g19, hF⟩ := bnd hF
          obtain ⟨q20, g21, hF⟩ := bnd hF
          refine v_cVi C mw_X7_thickOf lk_X8_174 _ (M_X7_thickOf (by omega) (chk_k g19) g21) (chk_k g19) rfl rfl (Nat.le_of_ble_eq_true rfl) dX8_mark_49 ?_
          refine v_istore_n C 3 (ll' := [(3, _), (0, _), (1, _), (2, _)]) dX8_mark_52 rfl (by decide) rfl ?_
          refine v_aload_n C 0 1 dX8_mark_53 rfl rfl ?_
          obtain ⟨p23, g22, hF⟩ := bnd hF
          refine v_gR C fu_X8_31 g22 dX8_mark_54 ?_
          refine v_iload_n C 1 2 dX8_mark_57 rfl rfl ?_
          refine v_aload_n C 0 1 dX8_mark_58 rfl rfl ?_
          obtain ⟨p25, g24, hF⟩ := bnd hF
          refine v_gR C fu_X8_31 g24 dX8_mark_59 ?_
          obtain ⟨v27, g26, hF⟩ := bnd hF
          refine v_gI C fu_X8_177 g26 dX8_mark_62 ?_
          obtain ⟨_, g28, hF⟩ := bnd hF
          obtain ⟨q29, g30, hF⟩ := bnd hF
          refine v_cVi C mw_X7_crossesIn lk_X8_180 _ (M_X7_crossesIn (by omega) (chk_k g28) g30) (chk_k g28) rfl rfl (Nat.le_of_ble_eq_true rfl) dX8_mark_65 ?_
          refine v_istore C 4 (ll' := [(4, _), (3, _), (0, _), (1, _), (2, _)]) dX8_mark_68 (by decide) rfl ?_
          refine v_iload_n C 2 4 dX8_mark_70 rfl rfl ?_
          rcases ifc hF with ⟨c31, hF⟩ | ⟨c31, hF⟩
          · refine v_tableEq C 100 (1) (29) dX8_mark_71 c31 (by decide) (by decide) (by decide) (by decide) ?_
            refine v_aload_n C 0 2 dX8_mark_100 rfl rfl ?_
            obtain ⟨p33, g32, hF⟩ := bnd hF
            refine v_gR C fu_X8_31 g32 dX8_mark_101 ?_
            refine v_iload_n C 1 3 dX8_mark_104 rfl rfl ?_
            refine v_iconst C (0) dX8_mark_105 (by decide) ?_
            refine v_iload_n C 3 1 dX8_mark_106 rfl rfl ?_
            refine v_aload_n C 0 2 dX8_mark_107 rfl rfl ?_
            obtain ⟨p35, g34, hF⟩ := bnd hF
            refine v_gR C fu_X8_31 g34 dX8_mark_108 ?_
            obtain ⟨v37, g36, hF⟩ := bnd hF
            refine v_gI C fu_X8_177 g36 dX8_mark_111 ?_
            obtain ⟨_, g38, hF⟩ := bnd hF
            obtain ⟨q39, g40, hF⟩ := bnd hF
            refine v_cVi C mw_X7_crossesAs lk_X8_183 _ (M_X7_crossesAs (by omega) (chk_k g38) g40) (chk_k g38) rfl rfl (Nat.le_of_ble_eq_true rfl) dX8_mark_114 ?_
            refine v_iload C 4 0 dX8_mark_117 rfl ?_
            refine v_isub C dX8_mark_119 ?_
            exact v_iretF C hq (Option.some.inj hF) dX8_mark_120
          · skip
            rcases ifc hF with ⟨c41, hF⟩ | ⟨c41, hF⟩
            · refine v_tableEq C 121 (2) (50) dX8_mark_71 c41 (by decide) (by decide) (by decide) (by decide) ?_
              refine v_iload_n C 3 1 dX8_mark_121 rfl rfl ?_
              refine v_iconst C (2) dX8_mark_122 (by decide) ?_
              refine v_iload_n C 3 1 dX8_mark_123 rfl rfl ?_
              obtain ⟨q42, g43, hF⟩ := bnd hF
              refine v_cSi C mw_X8_barOf lk_X8_187 _ (M_X8_barOf (by omega) g43) rfl rfl (Nat.le_of_ble_eq_true rfl) dX8_mark_124 ?_
              refine v_isub C dX8_mark_127 ?_
              exact v_iretF C hq (Option.some.inj hF) dX8_mark_128
            · skip
              rcases ifc hF with ⟨c44, hF⟩ | ⟨c44, hF⟩
              · refine v_tableEq C 129 (3) (58) dX8_mark_71 c44 (by decide) (by decide) (by decide) (by decide) ?_
                refine v_aload_n C 0 2 dX8_mark_129 rfl rfl ?_
                obtain ⟨p46, g45, hF⟩ := bnd hF
                refine v_gR C fu_X8_31 g45 dX8_mark_130 ?_
                obtain ⟨v48, g47, hF⟩ := bnd hF
                refine v_gI C fu_X8_177 g47 dX8_mark_133 ?_
                refine v_iconst C (2) dX8_mark_136 (by decide) ?_
                refine v_irem C dX8_mark_137 (by decide) ?_
                exact v_iretF C hq (Option.some.inj hF) dX8_mark_138
              · skip
                rcases ifc hF with ⟨c49, hF⟩ | ⟨c49, hF⟩
                · refine v_tableEq C 139 (4) (68) dX8_mark_71 c49 (by decide) (by decide) (by decide) (by decide) ?_
                  refine v_iload C 4 0 dX8_mark_139 rfl ?_
                  refine v_aload_n C 0 2 dX8_mark_141 rfl rfl ?_
                  obtain ⟨p51, g50, hF⟩ := bnd hF
                  refine v_gR C fu_X8_31 g50 dX8_mark_142 ?_
                  refine v_iload_n C 1 3 dX8_mark_145 rfl rfl ?_
                  refine v_iconst C (2) dX8_mark_146 (by decide) ?_
                  refine v_iload_n C 3 1 dX8_mark_147 rfl rfl ?_
                  refine v_aload_n C 0 2 dX8_mark_148 rfl rfl ?_
                  obtain ⟨p53, g52, hF⟩ := bnd hF
                  refine v_gR C fu_X8_31 g52 dX8_mark_149 ?_
                  obtain ⟨v55, g54, hF⟩ := bnd hF
                  refine v_gI C fu_X8_177 g54 dX8_mark_152 ?_
                  obtain ⟨_, g56, hF⟩ := bnd hF
                  obtain ⟨q57, g58, hF⟩ := bnd hF
                  refine v_cVi C mw_X7_crossesAs lk_X8_183 _ (M_X7_crossesAs (by omega) (chk_k g56) g58) (chk_k g56) rfl rfl (Nat.le_of_ble_eq_true rfl) dX8_mark_155 ?_
                  refine v_isub C dX8_mark_158 ?_
                  exact v_iretF C hq (Option.some.inj hF) dX8_mark_159
                · skip
                  have c31 := lv_neT c31 (a := 1) (by decide)
                  have c41 := lv_neT c41 (a := 2) (by decide)
                  have c44 := lv_neT c44 (a := 3) (by decide)
                  have c49 := lv_neT c49 (a := 4) (by decide)
                  refine v_tableOut C 160 dX8_mark_71 (by omega) (by decide) ?_
                  refine v_aload_n C 0 2 dX8_mark_160 rfl rfl ?_
                  obtain ⟨p60, g59, hF⟩ := bnd hF
                  refine v_gR C fu_X8_31 g59 dX8_mark_161 ?_
                  refine v_iload_n C 1 3 dX8_mark_164 rfl rfl ?_
                  refine v_iconst C (1) dX8_mark_165 (by decide) ?_
                  refine v_iload_n C 3 1 dX8_mark_166 rfl rfl ?_
                  refine v_aload_n C 0 2 dX8_mark_167 rfl rfl ?_
                  obtain ⟨p62, g61, hF⟩ := bnd hF
                  refine v_gR C fu_X8_31 g61 dX8_mark_168 ?_
                  obtain ⟨v64, g63, hF⟩ := bnd hF
                  refine v_gI C fu_X8_177 g63 dX8_mark_171 ?_
                  obtain ⟨_, g65, hF⟩ := bnd hF
                  obtain ⟨q66, g67, hF⟩ := bnd hF
                  refine v_cVi C mw_X7_crossesAs lk_X8_183 _ (M_X7_crossesAs (by omega) (chk_k g65) g67) (chk_k g65) rfl rfl (Nat.le_of_ble_eq_true rfl) dX8_mark_174 ?_
                  refine v_iload C 4 0 dX8_mark_177 rfl ?_
                  refine v_isub C dX8_mark_179 ?_
                  exact v_iretF C hq (Option.some.inj hF) dX8_mark_180
        · have hF := ifp hF c16
          refine v_aload_n C 0 0 dX8_mark_38 rfl rfl ?_
          refine v_iconst C (3) dX8_mark_39 (by decide) ?_
          obtain ⟨q68, g69, hF⟩ := bnd hF
          refine v_cVi C mw_X8_refuse lk_X8_128 _ (M_X8_refuse (by omega) h0 g69) h0 rfl rfl (Nat.le_of_ble_eq_true rfl) dX8_mark_40 ?_
          exact v_iretF C hq (Option.some.inj hF) dX8_mark_43
      · have hF := ifn hF c8
        refine v_iconst C (-1) dX8_mark_21 (by decide) ?_
        exact v_iretF C hq (Option.some.inj hF) dX8_mark_22
set_option maxRecDepth 20000 in
set_option maxHeartbeats 2000000 in
theorem M_X8_cross {Δ : DD} {d : Nat} {x0 : Nat} {x1 : Int32} {x2 : Int32} {σ : Mem} {q : Int32} (hd : 4 ≤ d) (h0 : isK 8 x0 = true) (hF : F_X8_cross x0 x1 x2 σ = some q) : Mt Δ d yX8_cross cX8_cross 3 (some .int) [rf Δ x0, .int x1, .int x2] σ (some (.int q)) σ := by
  obtain ⟨d, rfl⟩ : ∃ e, d = e + 1 := ⟨d - 1, by omega⟩
  have hd : 3 ≤ d := by omega
  refine mt_of (by decide) rfl (Nat.le_of_ble_eq_true rfl) (fun Γ C hq => ?_)
  unfold F_X8_cross at hF
  show V Δ Γ 3 0 [(0, rf Δ (x0)), (1, .int (x1)), (2, .int (x2))] [] σ
  refine v_aload_n C 0 0 dX8_cross_0 rfl rfl ?_
  obtain ⟨p2, g1, hF⟩ := bnd hF
  refine v_gR C fu_X8_31 g1 dX8_cross_1 ?_
  refine v_iload_n C 1 1 dX8_cross_4 rfl rfl ?_
  obtain ⟨_, g3, hF⟩ := bnd hF
  obtain ⟨q4, g5, hF⟩ := bnd hF
  refine v_cVi C mw_X7_has lk_X8_161 _ (M_X7_has (by omega) (chk_k g3) g5) (chk_k g3) rfl rfl (Nat.le_of_ble_eq_true rfl) dX8_cross_5 ?_
  refine v_if_eq C 21 dX8_cross_8 (by decide) (fun c6 => ?_) (fun c6 => ?_)
  · have hF := ifp hF c6
    refine v_iconst C (-1) dX8_cross_21 (by decide) ?_
    exact v_iretP C hq (Option.some.inj hF) dX8_cross_22
  · have hF := ifn hF c6
    refine v_iload_n C 2 2 dX8_cross_11 rfl rfl ?_
    refine v_if_lt C 21 dX8_cross_12 (by decide) (fun c7 => ?_) (fun c7 => ?_)
    · have hF := ifp hF c7
      refine v_iconst C (-1) dX8_cross_21 (by decide) ?_
      exact v_iretP C hq (Option.some.inj hF) dX8_cross_22
    · have hF := ifn hF c7
      refine v_iload_n C 2 2 dX8_cross_15 rfl rfl ?_
      refine v_bipush C (99) dX8_cross_16 (by decide) ?_
      refine v_icmp_le C 23 dX8_cross_18 (by decide) (fun c8 => ?_) (fun c8 => ?_)
      · have hF := ifp hF c8
        refine v_aload_n C 0 0 dX8_cross_23 rfl rfl ?_
        obtain ⟨p10, g9, hF⟩ := bnd hF
        refine v_gR C fu_X8_31 g9 dX8_cross_24 ?_
        refine v_iload_n C 1 1 dX8_cross_27 rfl rfl ?_
        refine v_iload_n C 2 2 dX8_cross_28 rfl rfl ?_
        obtain ⟨_, g11, hF⟩ := bnd hF
        obtain ⟨q12, g13, hF⟩ := bnd hF
        refine v_cVi C mw_X7_crossesIn lk_X8_180 _ (M_X7_crossesIn (by omega) (chk_k g11) g13) (chk_k g11) rfl rfl (Nat.le_of_ble_eq_true rfl) dX8_cross_29 ?_
        exact v_iretP C hq (Option.some.inj hF) dX8_cross_32
      · have hF := ifn hF c8
        refine v_iconst C (-1) dX8_cross_21 (by decide) ?_
        exact v_iretP C hq (Option.some.inj hF) dX8_cross_22
set_option maxRecDepth 20000 in
set_option maxHeartbeats 2000000 in
theorem M_X8_enact {Δ : DD} {d : Nat} {x0 : Nat} {x1 : Int32} {x2 : Int32} {x3 : Int32} {σ : Mem} {q : (Int32 × Mem)} (hd : 6 ≤ d) (h0 : isK 8 x0 = true) (hF : F_X8_enact x0 x1 x2 x3 σ = some q) : Mt Δ d yX8_enact cX8_enact 5 (some .int) [rf Δ x0, .int x1, .int x2, .int x3] σ (some (.int q.1)) q.2 := by
  obtain ⟨d, rfl⟩ : ∃ e, d = e + 1 := ⟨d - 1, by omega⟩
  have hd : 5 ≤ d := by omega
  refine mt_of (by decide) rfl (Nat.le_of_ble_eq_true rfl) (fun Γ C hq => ?_)
  unfold F_X8_enact at hF
  show V Δ Γ 5 0 [(0, rf Δ (x0)), (1, .int (x1)), (2, .int (x2)), (3, .int (x3))] [] σ
  refine v_bipush C (100) dX8_enact_0 (by decide) ?_
  refine v_iload_n C 1 1 dX8_enact_2 rfl rfl ?_
  refine v_imul C dX8_enact_3 ?_
  refine v_bipush C (10) dX8_enact_4 (by decide) ?_
  refine v_iload_n C 2 2 dX8_enact_6 rfl rfl ?_
  refine v_imul C dX8_enact_7 ?_
  refine v_iadd C dX8_enact_8 ?_
  refine v_iload_n C 3 3 dX8_enact_9 rfl rfl ?_
  refine v_iadd C dX8_enact_10 ?_
  refine v_istore C 4 (ll' := [(4, _), (0, _), (1, _), (2, _), (3, _)]) dX8_enact_11 (by decide) rfl ?_
  refine v_aload_n C 0 1 dX8_enact_13 rfl rfl ?_
  obtain ⟨p3, g2, hF⟩ := bnd hF
  refine v_gR C fu_X8_37 g2 dX8_enact_14 ?_
  refine v_aload_n C 0 1 dX8_enact_17 rfl rfl ?_
  obtain ⟨v5, g4, hF⟩ := bnd hF
  refine v_gI C fu_X8_41 g4 dX8_enact_18 ?_
  refine v_iload C 4 0 dX8_enact_21 rfl ?_
  obtain ⟨q6, g7, hF⟩ := bnd hF
  refine v_cSv C mw_X8_write lk_X8_201 _ (M_X8_write (by omega) g7) rfl rfl (Nat.le_of_ble_eq_true rfl) dX8_enact_23 ?_
  refine v_aload_n C 0 1 dX8_enact_26 rfl rfl ?_
  refine v_dup C dX8_enact_27 rfl ?_
  obtain ⟨v9, g8, hF⟩ := bnd hF
  refine v_gI C fu_X8_41 g8 dX8_enact_28 ?_
  refine v_iconst C (1) dX8_enact_31 (by decide) ?_
  refine v_iadd C dX8_enact_32 ?_
  obtain ⟨m11, g10, hF⟩ := bnd hF
  refine v_pI C fp_X8_41 g10 dX8_enact_33 ?_
  refine v_aload_n C 0 1 dX8_enact_36 rfl rfl ?_
  obtain ⟨p13, g12, hF⟩ := bnd hF
  refine v_gR C fu_X8_31 g12 dX8_enact_37 ?_
  refine v_iload C 4 0 dX8_enact_40 rfl ?_
  obtain ⟨_, g14, hF⟩ := bnd hF
  obtain ⟨q15, g16, hF⟩ := bnd hF
  refine v_cVi C mw_X7_carryOut lk_X8_333 _ (M_X7_carryOut (by omega) (chk_k g14) g16) (chk_k g14) rfl rfl (Nat.le_of_ble_eq_true rfl) dX8_enact_42 ?_
  exact v_iretF C hq (Option.some.inj hF) dX8_enact_45
set_option maxRecDepth 20000 in
set_option maxHeartbeats 2000000 in
theorem M_X8_night {Δ : DD} {d : Nat} {x0 : Nat} {σ : Mem} {q : (Int32 × Mem)} (hd : 7 ≤ d) (h0 : isK 8 x0 = true) (hF : F_X8_night x0 σ = some q) : Mt Δ d yX8_night cX8_night 1 (some .int) [rf Δ x0] σ (some (.int q.1)) q.2 := by
  obtain ⟨d, rfl⟩ : ∃ e, d = e + 1 := ⟨d - 1, by omega⟩
  have hd : 6 ≤ d := by omega
  refine mt_of (by decide) rfl (Nat.le_of_ble_eq_true rfl) (fun Γ C hq => ?_)
  unfold F_X8_night at hF
  show V Δ Γ 1 0 [(0, rf Δ (x0))] [] σ
  refine v_aload_n C 0 0 dX8_night_0 rfl rfl ?_
  obtain ⟨p2, g1, hF⟩ := bnd hF
  refine v_gR C fu_X8_31 g1 dX8_night_1 ?_
  obtain ⟨v4, g3, hF⟩ := bnd hF
  refine v_gI C fu_X8_158 g3 dX8_night_4 ?_
  refine v_if_ne C 13 dX8_night_7 (by decide) (fun c5 => ?_) (fun c5 => ?_)
  · have hF := ifn hF c5
    refine v_aload_n C 0 0 dX8_night_13 rfl rfl ?_
    obtain ⟨v7, g6, hF⟩ := bnd hF
    refine v_gI C fu_X8_41 g6 dX8_night_14 ?_
    refine v_bipush C (40) dX8_night_17 (by decide) ?_
    refine v_icmp_lt C 27 dX8_night_19 (by decide) (fun c8 => ?_) (fun c8 => ?_)
    · have hF := ifp hF c8
      refine v_aload_n C 0 0 dX8_night_27 rfl rfl ?_
      refine v_iconst C (0) dX8_night_28 (by decide) ?_
      refine v_iconst C (0) dX8_night_29 (by decide) ?_
      refine v_iconst C (0) dX8_night_30 (by decide) ?_
      obtain ⟨q9, g10, hF⟩ := bnd hF
      refine v_cVi C mw_X8_enact lk_X8_190 _ (M_X8_enact (by omega) h0 g10) h0 rfl rfl (Nat.le_of_ble_eq_true rfl) dX8_night_31 ?_
      exact v_iretF C hq (Option.some.inj hF) dX8_night_34
    · have hF := ifn hF c8
      refine v_bipush C (-2) dX8_night_22 (by decide) ?_
      refine v_goto C 34 dX8_night_24 (by decide) ?_
      exact v_iretF C hq (Option.some.inj hF) dX8_night_34
  · have hF := ifp hF c5
    refine v_bipush C (-4) dX8_night_10 (by decide) ?_
    exact v_iretF C hq (Option.some.inj hF) dX8_night_12
set_option maxRecDepth 20000 in
set_option maxHeartbeats 2000000 in
theorem M_X8_inspect {Δ : DD} {d : Nat} {x0 : Nat} {x1 : Int32} {σ : Mem} {q : (Int32 × Mem)} (hd : 7 ≤ d) (h0 : isK 8 x0 = true) (hF : F_X8_inspect x0 x1 σ = some q) : Mt Δ d yX8_inspect cX8_inspect 2 (some .int) [rf Δ x0, .int x1] σ (some (.int q.1)) q.2 := by
  obtain ⟨d, rfl⟩ : ∃ e, d = e + 1 := ⟨d - 1, by omega⟩
  have hd : 6 ≤ d := by omega
  refine mt_of (by decide) rfl (Nat.le_of_ble_eq_true rfl) (fun Γ C hq => ?_)
  unfold F_X8_inspect at hF
  show V Δ Γ 2 0 [(0, rf Δ (x0)), (1, .int (x1))] [] σ
  refine v_aload_n C 0 0 dX8_inspect_0 rfl rfl ?_
  obtain ⟨p2, g1, hF⟩ := bnd hF
  refine v_gR C fu_X8_31 g1 dX8_inspect_1 ?_
  refine v_iload_n C 1 1 dX8_inspect_4 rfl rfl ?_
  obtain ⟨_, g3, hF⟩ := bnd hF
  obtain ⟨q4, g5, hF⟩ := bnd hF
  refine v_cVi C mw_X7_has lk_X8_161 _ (M_X7_has (by omega) (chk_k g3) g5) (chk_k g3) rfl rfl (Nat.le_of_ble_eq_true rfl) dX8_inspect_5 ?_
  refine v_if_ne C 13 dX8_inspect_8 (by decide) (fun c6 => ?_) (fun c6 => ?_)
  · have hF := ifn hF c6
    refine v_aload_n C 0 0 dX8_inspect_13 rfl rfl ?_
    obtain ⟨v8, g7, hF⟩ := bnd hF
    refine v_gI C fu_X8_41 g7 dX8_inspect_14 ?_
    refine v_bipush C (40) dX8_inspect_17 (by decide) ?_
    refine v_icmp_lt C 27 dX8_inspect_19 (by decide) (fun c9 => ?_) (fun c9 => ?_)
    · have hF := ifp hF c9
      refine v_aload_n C 0 0 dX8_inspect_27 rfl rfl ?_
      refine v_iconst C (1) dX8_inspect_28 (by decide) ?_
      refine v_iload_n C 1 1 dX8_inspect_29 rfl rfl ?_
      refine v_iconst C (0) dX8_inspect_30 (by decide) ?_
      obtain ⟨q10, g11, hF⟩ := bnd hF
      refine v_cVi C mw_X8_enact lk_X8_190 _ (M_X8_enact (by omega) h0 g11) h0 rfl rfl (Nat.le_of_ble_eq_true rfl) dX8_inspect_31 ?_
      exact v_iretF C hq (Option.some.inj hF) dX8_inspect_34
    · have hF := ifn hF c9
      refine v_bipush C (-2) dX8_inspect_22 (by decide) ?_
      refine v_goto C 34 dX8_inspect_24 (by decide) ?_
      exact v_iretF C hq (Option.some.inj hF) dX8_inspect_34
  · have hF := ifp hF c6
    refine v_iconst C (-1) dX8_inspect_11 (by decide) ?_
    exact v_iretF C hq (Option.some.inj hF) dX8_inspect_12
set_option maxRecDepth 20000 in
set_option maxHeartbeats 2000000 in
theorem M_X8_thin {Δ : DD} {d : Nat} {x0 : Nat} {x1 : Int32} {σ : Mem} {q : (Int32 × Mem)} (hd : 7 ≤ d) (h0 : isK 8 x0 = true) (hF : F_X8_thin x0 x1 σ = some q) : Mt Δ d yX8_thin cX8_thin 2 (some .int) [rf Δ x0, .int x1] σ (some (.int q.1)) q.2 := by
  obtain ⟨d, rfl⟩ : ∃ e, d = e + 1 := ⟨d - 1, by omega⟩
  have hd : 6 ≤ d := by omega
  refine mt_of (by decide) rfl (Nat.le_of_ble_eq_true rfl) (fun Γ C hq => ?_)
  unfold F_X8_thin at hF
  show V Δ Γ 2 0 [(0, rf Δ (x0)), (1, .int (x1))] [] σ
  refine v_aload_n C 0 0 dX8_thin_0 rfl rfl ?_
  obtain ⟨p2, g1, hF⟩ := bnd hF
  refine v_gR C fu_X8_31 g1 dX8_thin_1 ?_
  refine v_iload_n C 1 1 dX8_thin_4 rfl rfl ?_
  obtain ⟨_, g3, hF⟩ := bnd hF
  obtain ⟨q4, g5, hF⟩ := bnd hF
  refine v_cVi C mw_X7_has lk_X8_161 _ (M_X7_has (by omega) (chk_k g3) g5) (chk_k g3) rfl rfl (Nat.le_of_ble_eq_true rfl) dX8_thin_5 ?_
  refine v_if_ne C 13 dX8_thin_8 (by decide) (fun c6 => ?_) (fun c6 => ?_)
  · have hF := ifn hF c6
    refine v_aload_n C 0 0 dX8_thin_13 rfl rfl ?_
    obtain ⟨p8, g7, hF⟩ := bnd hF
    refine v_gR C fu_X8_31 g7 dX8_thin_14 ?_
    refine v_iload_n C 1 1 dX8_thin_17 rfl rfl ?_
    obtain ⟨_, g9, hF⟩ := bnd hF
    obtain ⟨q10, g11, hF⟩ := bnd hF
    refine v_cVi C mw_X7_thickOf lk_X8_174 _ (M_X7_thickOf (by omega) (chk_k g9) g11) (chk_k g9) rfl rfl (Nat.le_of_ble_eq_true rfl) dX8_thin_18 ?_
    refine v_if_ne C 27 dX8_thin_21 (by decide) (fun c12 => ?_) (fun c12 => ?_)
    · have hF := ifn hF c12
      refine v_aload_n C 0 0 dX8_thin_27 rfl rfl ?_
      obtain ⟨v14, g13, hF⟩ := bnd hF
      refine v_gI C fu_X8_41 g13 dX8_thin_28 ?_
      refine v_bipush C (40) dX8_thin_31 (by decide) ?_
      refine v_icmp_lt C 41 dX8_thin_33 (by decide) (fun c15 => ?_) (fun c15 => ?_)
      · have hF := ifp hF c15
        refine v_aload_n C 0 0 dX8_thin_41 rfl rfl ?_
        refine v_iconst C (2) dX8_thin_42 (by decide) ?_
        refine v_iload_n C 1 1 dX8_thin_43 rfl rfl ?_
        refine v_iconst C (0) dX8_thin_44 (by decide) ?_
        obtain ⟨q16, g17, hF⟩ := bnd hF
        refine v_cVi C mw_X8_enact lk_X8_190 _ (M_X8_enact (by omega) h0 g17) h0 rfl rfl (Nat.le_of_ble_eq_true rfl) dX8_thin_45 ?_
        exact v_iretF C hq (Option.some.inj hF) dX8_thin_48
      · have hF := ifn hF c15
        refine v_bipush C (-2) dX8_thin_36 (by decide) ?_
        refine v_goto C 48 dX8_thin_38 (by decide) ?_
        exact v_iretF C hq (Option.some.inj hF) dX8_thin_48
    · have hF := ifp hF c12
      refine v_bipush C (-4) dX8_thin_24 (by decide) ?_
      exact v_iretF C hq (Option.some.inj hF) dX8_thin_26
  · have hF := ifp hF c6
    refine v_iconst C (-1) dX8_thin_11 (by decide) ?_
    exact v_iretF C hq (Option.some.inj hF) dX8_thin_12
set_option maxRecDepth 20000 in
set_option maxHeartbeats 2000000 in
theorem M_X8_swap {Δ : DD} {d : Nat} {x0 : Nat} {x1 : Int32} {x2 : Int32} {σ : Mem} {q : (Int32 × Mem)} (hd : 7 ≤ d) (h0 : isK 8 x0 = true) (hF : F_X8_swap x0 x1 x2 σ = some q) : Mt Δ d yX8_swap cX8_swap 3 (some .int) [rf Δ x0, .int x1, .int x2] σ (some (.int q.1)) q.2 := by
  obtain ⟨d, rfl⟩ : ∃ e, d = e + 1 := ⟨d - 1, by omega⟩
  have hd : 6 ≤ d := by omega
  refine mt_of (by decide) rfl (Nat.le_of_ble_eq_true rfl) (fun Γ C hq => ?_)
  unfold F_X8_swap at hF
  show V Δ Γ 3 0 [(0, rf Δ (x0)), (1, .int (x1)), (2, .int (x2))] [] σ
  refine v_aload_n C 0 0 dX8_swap_0 rfl rfl ?_
  obtain ⟨p2, g1, hF⟩ := bnd hF
  refine v_gR C fu_X8_31 g1 dX8_swap_1 ?_
  refine v_iload_n C 1 1 dX8_swap_4 rfl rfl ?_
  obtain ⟨_, g3, hF⟩ := bnd hF
  obtain ⟨q4, g5, hF⟩ := bnd hF
  refine v_cVi C mw_X7_has lk_X8_161 _ (M_X7_has (by omega) (chk_k g3) g5) (chk_k g3) rfl rfl (Nat.le_of_ble_eq_true rfl) dX8_swap_5 ?_
  refine v_if_eq C 27 dX8_swap_8 (by decide) (fun c6 => ?_) (fun c6 => ?_)
  · have hF := ifp hF c6
    refine v_iconst C (-1) dX8_swap_27 (by decide) ?_
    exact v_iretF C hq (Option.some.inj hF) dX8_swap_28
  · have hF := ifn hF c6
    refine v_aload_n C 0 0 dX8_swap_11 rfl rfl ?_
    obtain ⟨p8, g7, hF⟩ := bnd hF
    refine v_gR C fu_X8_31 g7 dX8_swap_12 ?_
    refine v_iload_n C 2 2 dX8_swap_15 rfl rfl ?_
    obtain ⟨_, g9, hF⟩ := bnd hF
    obtain ⟨q10, g11, hF⟩ := bnd hF
    refine v_cVi C mw_X7_has lk_X8_161 _ (M_X7_has (by omega) (chk_k g9) g11) (chk_k g9) rfl rfl (Nat.le_of_ble_eq_true rfl) dX8_swap_16 ?_
    refine v_if_eq C 27 dX8_swap_19 (by decide) (fun c12 => ?_) (fun c12 => ?_)
    · have hF := ifp hF c12
      refine v_iconst C (-1) dX8_swap_27 (by decide) ?_
      exact v_iretF C hq (Option.some.inj hF) dX8_swap_28
    · have hF := ifn hF c12
      refine v_iload_n C 1 1 dX8_swap_22 rfl rfl ?_
      refine v_iload_n C 2 2 dX8_swap_23 rfl rfl ?_
      refine v_icmp_ne C 29 dX8_swap_24 (by decide) (fun c13 => ?_) (fun c13 => ?_)
      · have hF := ifn hF c13
        refine v_aload_n C 0 0 dX8_swap_29 rfl rfl ?_
        obtain ⟨v15, g14, hF⟩ := bnd hF
        refine v_gI C fu_X8_41 g14 dX8_swap_30 ?_
        refine v_bipush C (40) dX8_swap_33 (by decide) ?_
        refine v_icmp_lt C 43 dX8_swap_35 (by decide) (fun c16 => ?_) (fun c16 => ?_)
        · have hF := ifp hF c16
          refine v_aload_n C 0 0 dX8_swap_43 rfl rfl ?_
          refine v_iconst C (3) dX8_swap_44 (by decide) ?_
          refine v_iload_n C 1 1 dX8_swap_45 rfl rfl ?_
          refine v_iload_n C 2 2 dX8_swap_46 rfl rfl ?_
          obtain ⟨q17, g18, hF⟩ := bnd hF
          refine v_cVi C mw_X8_enact lk_X8_190 _ (M_X8_enact (by omega) h0 g18) h0 rfl rfl (Nat.le_of_ble_eq_true rfl) dX8_swap_47 ?_
          exact v_iretF C hq (Option.some.inj hF) dX8_swap_50
        · have hF := ifn hF c16
          refine v_bipush C (-2) dX8_swap_38 (by decide) ?_
          refine v_goto C 50 dX8_swap_40 (by decide) ?_
          exact v_iretF C hq (Option.some.inj hF) dX8_swap_50
      · have hF := ifp hF c13
        refine v_iconst C (-1) dX8_swap_27 (by decide) ?_
        exact v_iretF C hq (Option.some.inj hF) dX8_swap_28
def K_X8_redoFromStart_13 (Δ : DD) (Γ : GG) (q : Mem) (x0 : Nat) (y : (Int32 × Mem) ⊕ Mem) : Prop := match y with
  | .inl s => V Δ Γ 2 13 [(0, rf Δ (x0)), (1, .int (s.1))] [] s.2
  | .inr t => (t = q)
set_option maxRecDepth 20000 in
set_option maxHeartbeats 2000000 in
theorem W_X8_redoFromStart_13 {Δ : DD} {Γ : GG} {d : Nat} {q : Mem} {x0 : Nat} (C : Cx Δ Γ RX8 cX8_redoFromStart 2 d none) (hq : RetQ Δ Γ none q) (h0 : isK 8 x0 = true) (hd : 5 ≤ d) {s : Int32 × Mem} (hF : F_X8_redoFromStart_13 x0  s = some q) : V Δ Γ 2 13 [(0, rf Δ (x0)), (1, .int (s.1))] [] s.2 := by
  have hF : F_X8_redoFromStart_13 x0  s = some q := hF
  refine lp_V (W := fun (s : Int32 × Mem) => V Δ Γ 2 13 [(0, rf Δ (x0)), (1, .int (s.1))] [] s.2) (K := fun t => t = q) (K' := K_X8_redoFromStart_13 Δ Γ q x0 ) (fun _ h => h) (fun _ h => h) ?_ s q hF rfl
  clear hF
  intro s z hF hK
  refine v_iload_n C 1 1 dX8_redoFromStart_13 rfl rfl ?_
  refine v_aload_n C 0 0 dX8_redoFromStart_14 rfl rfl ?_
  obtain ⟨v2, g1, hF⟩ := bnd hF
  refine v_gI C fu_X8_41 g1 dX8_redoFromStart_15 ?_
  refine v_icmp_ge C 43 dX8_redoFromStart_18 (by decide) (fun c3 => ?_) (fun c3 => ?_)
  · have hF := ifp hF c3
    cases hF
    exact v_vretF C hq hK dX8_redoFromStart_43
  · have hF := ifn hF c3
    refine v_aload_n C 0 0 dX8_redoFromStart_21 rfl rfl ?_
    obtain ⟨p5, g4, hF⟩ := bnd hF
    refine v_gR C fu_X8_31 g4 dX8_redoFromStart_22 ?_
    refine v_aload_n C 0 0 dX8_redoFromStart_25 rfl rfl ?_
    obtain ⟨p7, g6, hF⟩ := bnd hF
    refine v_gR C fu_X8_37 g6 dX8_redoFromStart_26 ?_
    refine v_iload_n C 1 1 dX8_redoFromStart_29 rfl rfl ?_
    obtain ⟨q8, g9, hF⟩ := bnd hF
    refine v_cSi C mw_X8_read lk_X8_308 _ (M_X8_read (by omega) g9) rfl rfl (Nat.le_of_ble_eq_true rfl) dX8_redoFromStart_30 ?_
    obtain ⟨_, g10, hF⟩ := bnd hF
    obtain ⟨q11, g12, hF⟩ := bnd hF
    refine v_cVi C mw_X7_carryOut lk_X8_333 _ (M_X7_carryOut (by omega) (chk_k g10) g12) (chk_k g10) rfl rfl (Nat.le_of_ble_eq_true rfl) dX8_redoFromStart_33 ?_
    refine v_pop C dX8_redoFromStart_36 rfl ?_
    refine v_iinc C (_ + (1 : Int32)) 1 (ll' := [(1, _), (0, _)]) dX8_redoFromStart_37 rfl (inc_eq (by decide)) (by decide) rfl ?_
    refine v_goto C 13 dX8_redoFromStart_40 (by decide) ?_
    refine v_sub [1, 0] (ll' := [(0, _), (1, _)]) rfl ?_
    cases hF
    exact hK
set_option maxRecDepth 20000 in
set_option maxHeartbeats 2000000 in
theorem M_X8_redoFromStart {Δ : DD} {d : Nat} {x0 : Nat} {σ : Mem} {q : Mem} (hd : 6 ≤ d) (h0 : isK 8 x0 = true) (hF : F_X8_redoFromStart x0 σ = some q) : Mt Δ d yX8_redoFromStart cX8_redoFromStart 2 none [rf Δ x0] σ none q := by
  obtain ⟨d, rfl⟩ : ∃ e, d = e + 1 := ⟨d - 1, by omega⟩
  have hd : 5 ≤ d := by omega
  refine mt_of (by decide) rfl (Nat.le_of_ble_eq_true rfl) (fun Γ C hq => ?_)
  unfold F_X8_redoFromStart at hF
  show V Δ Γ 2 0 [(0, rf Δ (x0))] [] σ
  refine v_aload_n C 0 0 dX8_redoFromStart_0 rfl rfl ?_
  obtain ⟨p14, g13, hF⟩ := bnd hF
  refine v_gR C fu_X8_31 g13 dX8_redoFromStart_1 ?_
  refine v_aload_n C 0 0 dX8_redoFromStart_4 rfl rfl ?_
  obtain ⟨p16, g15, hF⟩ := bnd hF
  refine v_gR C fu_X8_27 g15 dX8_redoFromStart_5 ?_
  obtain ⟨_, g17, hF⟩ := bnd hF
  obtain ⟨q18, g19, hF⟩ := bnd hF
  refine v_cVv C mw_X7_copyFrom lk_X8_151 _ (M_X7_copyFrom (by omega) (chk_k g17) g19) (chk_k g17) rfl rfl (Nat.le_of_ble_eq_true rfl) dX8_redoFromStart_8 ?_
  refine v_iconst C (0) dX8_redoFromStart_11 (by decide) ?_
  refine v_istore_n C 1 (ll' := [(1, _), (0, _)]) dX8_redoFromStart_12 rfl (by decide) rfl ?_
  refine v_sub [1, 0] (ll' := [(0, _), (1, _)]) rfl ?_
  exact W_X8_redoFromStart_13 C hq h0 hd hF
set_option maxRecDepth 20000 in
set_option maxHeartbeats 2000000 in
theorem M_X8_undo {Δ : DD} {d : Nat} {x0 : Nat} {x1 : Int32} {σ : Mem} {q : (Int32 × Mem)} (hd : 7 ≤ d) (h0 : isK 8 x0 = true) (hF : F_X8_undo x0 x1 σ = some q) : Mt Δ d yX8_undo cX8_undo 3 (some .int) [rf Δ x0, .int x1] σ (some (.int q.1)) q.2 := by
  obtain ⟨d, rfl⟩ : ∃ e, d = e + 1 := ⟨d - 1, by omega⟩
  have hd : 6 ≤ d := by omega
  refine mt_of (by decide) rfl (Nat.le_of_ble_eq_true rfl) (fun Γ C hq => ?_)
  unfold F_X8_undo at hF
  show V Δ Γ 3 0 [(0, rf Δ (x0)), (1, .int (x1))] [] σ
  refine v_iload_n C 1 1 dX8_undo_0 rfl rfl ?_
  refine v_if_lt C 12 dX8_undo_1 (by decide) (fun c1 => ?_) (fun c1 => ?_)
  · have hF := ifp hF c1
    refine v_iconst C (-1) dX8_undo_12 (by decide) ?_
    exact v_iretF C hq (Option.some.inj hF) dX8_undo_13
  · have hF := ifn hF c1
    refine v_iload_n C 1 1 dX8_undo_4 rfl rfl ?_
    refine v_aload_n C 0 0 dX8_undo_5 rfl rfl ?_
    obtain ⟨v3, g2, hF⟩ := bnd hF
    refine v_gI C fu_X8_41 g2 dX8_undo_6 ?_
    refine v_icmp_le C 14 dX8_undo_9 (by decide) (fun c4 => ?_) (fun c4 => ?_)
    · have hF := ifp hF c4
      refine v_aload_n C 0 0 dX8_undo_14 rfl rfl ?_
      obtain ⟨v6, g5, hF⟩ := bnd hF
      refine v_gI C fu_X8_41 g5 dX8_undo_15 ?_
      refine v_iload_n C 1 1 dX8_undo_18 rfl rfl ?_
      refine v_isub C dX8_undo_19 ?_
      refine v_istore_n C 2 (ll' := [(2, _), (0, _), (1, _)]) dX8_undo_20 rfl (by decide) rfl ?_
      refine v_aload_n C 0 1 dX8_undo_21 rfl rfl ?_
      refine v_iload_n C 1 2 dX8_undo_22 rfl rfl ?_
      obtain ⟨m8, g7, hF⟩ := bnd hF
      refine v_pI C fp_X8_41 g7 dX8_undo_23 ?_
      refine v_aload_n C 0 1 dX8_undo_26 rfl rfl ?_
      obtain ⟨q9, g10, hF⟩ := bnd hF
      refine v_cVv C mw_X8_redoFromStart lk_X8_194 _ (M_X8_redoFromStart (by omega) h0 g10) h0 rfl rfl (Nat.le_of_ble_eq_true rfl) dX8_undo_27 ?_
      refine v_iload_n C 2 0 dX8_undo_30 rfl rfl ?_
      exact v_iretF C hq (Option.some.inj hF) dX8_undo_31
    · have hF := ifn hF c4
      refine v_iconst C (-1) dX8_undo_12 (by decide) ?_
      exact v_iretF C hq (Option.some.inj hF) dX8_undo_13
set_option maxRecDepth 20000 in
set_option maxHeartbeats 2000000 in
theorem M_X8_keep {Δ : DD} {d : Nat} {x0 : Nat} {x1 : Int32} {σ : Mem} {q : (Int32 × Mem)} (hd : 4 ≤ d) (h0 : isK 8 x0 = true) (hF : F_X8_keep x0 x1 σ = some q) : Mt Δ d yX8_keep cX8_keep 2 (some .int) [rf Δ x0, .int x1] σ (some (.int q.1)) q.2 := by
  obtain ⟨d, rfl⟩ : ∃ e, d = e + 1 := ⟨d - 1, by omega⟩
  have hd : 3 ≤ d := by omega
  refine mt_of (by decide) rfl (Nat.le_of_ble_eq_true rfl) (fun Γ C hq => ?_)
  unfold F_X8_keep at hF
  show V Δ Γ 2 0 [(0, rf Δ (x0)), (1, .int (x1))] [] σ
  refine v_aload_n C 0 0 dX8_keep_0 rfl rfl ?_
  obtain ⟨p2, g1, hF⟩ := bnd hF
  refine v_gR C fu_X8_21 g1 dX8_keep_1 ?_
  refine v_iload_n C 1 1 dX8_keep_4 rfl rfl ?_
  obtain ⟨_, g3, hF⟩ := bnd hF
  obtain ⟨q4, g5, hF⟩ := bnd hF
  refine v_cVi C mw_X6_isNumber lk_X8_124 _ (M_X6_isNumber (by omega) (chk_k g3) g5) (chk_k g3) rfl rfl (Nat.le_of_ble_eq_true rfl) dX8_keep_5 ?_
  refine v_if_ne C 13 dX8_keep_8 (by decide) (fun c6 => ?_) (fun c6 => ?_)
  · have hF := ifn hF c6
    refine v_aload_n C 0 0 dX8_keep_13 rfl rfl ?_
    obtain ⟨p8, g7, hF⟩ := bnd hF
    refine v_gR C fu_X8_31 g7 dX8_keep_14 ?_
    obtain ⟨v10, g9, hF⟩ := bnd hF
    refine v_gI C fu_X8_158 g9 dX8_keep_17 ?_
    refine v_if_ne C 26 dX8_keep_20 (by decide) (fun c11 => ?_) (fun c11 => ?_)
    · have hF := ifn hF c11
      refine v_aload_n C 0 0 dX8_keep_26 rfl rfl ?_
      obtain ⟨p13, g12, hF⟩ := bnd hF
      refine v_gR C fu_X8_21 g12 dX8_keep_27 ?_
      refine v_iload_n C 1 1 dX8_keep_30 rfl rfl ?_
      refine v_aload_n C 0 0 dX8_keep_31 rfl rfl ?_
      obtain ⟨v15, g14, hF⟩ := bnd hF
      refine v_gI C fu_X8_41 g14 dX8_keep_32 ?_
      refine v_aload_n C 0 0 dX8_keep_35 rfl rfl ?_
      obtain ⟨p17, g16, hF⟩ := bnd hF
      refine v_gR C fu_X8_37 g16 dX8_keep_36 ?_
      obtain ⟨_, g18, hF⟩ := bnd hF
      obtain ⟨q19, g20, hF⟩ := bnd hF
      refine v_cVv C mw_X6_makeOf lk_X8_197 _ (M_X6_makeOf (by omega) (chk_k g18) g20) (chk_k g18) rfl rfl (Nat.le_of_ble_eq_true rfl) dX8_keep_39 ?_
      refine v_aload_n C 0 0 dX8_keep_42 rfl rfl ?_
      obtain ⟨v22, g21, hF⟩ := bnd hF
      refine v_gI C fu_X8_41 g21 dX8_keep_43 ?_
      exact v_iretF C hq (Option.some.inj hF) dX8_keep_46
    · have hF := ifp hF c11
      refine v_bipush C (-4) dX8_keep_23 (by decide) ?_
      exact v_iretF C hq (Option.some.inj hF) dX8_keep_25
  · have hF := ifp hF c6
    refine v_iconst C (-1) dX8_keep_11 (by decide) ?_
    exact v_iretF C hq (Option.some.inj hF) dX8_keep_12

set_option maxRecDepth 20000 in
set_option maxHeartbeats 2000000 in
theorem M_X8_barOf {Δ : DD} {d : Nat} {x0 : Int32} {x1 : Int32} {σ : Mem} {q : Int32} (hd : 1 ≤ d) (hF : F_X8_barOf x0 x1 σ = some q) : Mt Δ d yX8_barOf cX8_barOf 2 (some .int) [.int x0, .int x1] σ (some (.int q)) σ := by
  obtain ⟨d, rfl⟩ : ∃ e, d = e + 1 := ⟨d - 1, by omega⟩
  have hd : 0 ≤ d := by omega
  refine mt_of (by decide) rfl (Nat.le_of_ble_eq_true rfl) (fun Γ C hq => ?_)
  unfold F_X8_barOf at hF
  show V Δ Γ 2 0 [(0, .int (x0)), (1, .int (x1))] [] σ
  refine v_iload_n C 0 0 dX8_barOf_0 rfl rfl ?_
  rcases Classical.em (x0 = (1 : Int32)) with c1 | c1
  · have hF := ifp hF c1
    refine v_tableEq C 36 (1) (35) dX8_barOf_1 c1 (by decide) (by decide) (by decide) (by decide) ?_
    refine v_iload_n C 1 1 dX8_barOf_36 rfl rfl ?_
    refine v_iconst C (2) dX8_barOf_37 (by decide) ?_
    refine v_iadd C dX8_barOf_38 ?_
    exact v_iretP C hq (Option.some.inj hF) dX8_barOf_39
  · have hF := ifn hF c1
    rcases Classical.em (x0 = (2 : Int32)) with c2 | c2
    · have hF := ifp hF c2
      refine v_tableEq C 40 (2) (39) dX8_barOf_1 c2 (by decide) (by decide) (by decide) (by decide) ?_
      refine v_iload_n C 1 1 dX8_barOf_40 rfl rfl ?_
      refine v_iconst C (2) dX8_barOf_41 (by decide) ?_
      refine v_idiv C dX8_barOf_42 (by decide) ?_
      exact v_iretP C hq (Option.some.inj hF) dX8_barOf_43
    · have hF := ifn hF c2
      rcases Classical.em (x0 = (3 : Int32)) with c3 | c3
      · have hF := ifp hF c3
        refine v_tableEq C 44 (3) (43) dX8_barOf_1 c3 (by decide) (by decide) (by decide) (by decide) ?_
        refine v_iload_n C 1 1 dX8_barOf_44 rfl rfl ?_
        exact v_iretP C hq (Option.some.inj hF) dX8_barOf_45
      · have hF := ifn hF c3
        rcases Classical.em (x0 = (4 : Int32)) with c4 | c4
        · have hF := ifp hF c4
          refine v_tableEq C 40 (4) (39) dX8_barOf_1 c4 (by decide) (by decide) (by decide) (by decide) ?_
          refine v_iload_n C 1 1 dX8_barOf_40 rfl rfl ?_
          refine v_iconst C (2) dX8_barOf_41 (by decide) ?_
          refine v_idiv C dX8_barOf_42 (by decide) ?_
          exact v_iretP C hq (Option.some.inj hF) dX8_barOf_43
        · have hF := ifn hF c4
          rcases Classical.em (x0 = (5 : Int32)) with c5 | c5
          · have hF := ifp hF c5
            refine v_tableEq C 36 (5) (35) dX8_barOf_1 c5 (by decide) (by decide) (by decide) (by decide) ?_
            refine v_iload_n C 1 1 dX8_barOf_36 rfl rfl ?_
            refine v_iconst C (2) dX8_barOf_37 (by decide) ?_
            refine v_iadd C dX8_barOf_38 ?_
            exact v_iretP C hq (Option.some.inj hF) dX8_barOf_39
          · have hF := ifn hF c5
            have c1 := lv_neT c1 (a := 1) (by decide)
            have c2 := lv_neT c2 (a := 2) (by decide)
            have c3 := lv_neT c3 (a := 3) (by decide)
            have c4 := lv_neT c4 (a := 4) (by decide)
            have c5 := lv_neT c5 (a := 5) (by decide)
            refine v_tableOut C 44 dX8_barOf_1 (by omega) (by decide) ?_
            refine v_iload_n C 1 1 dX8_barOf_44 rfl rfl ?_
            exact v_iretP C hq (Option.some.inj hF) dX8_barOf_45
set_option maxRecDepth 20000 in
set_option maxHeartbeats 2000000 in
theorem T0_crossing {Δ : DD} {d : Nat} {x0 : Int32} {x1 : Int32} {x2 : Int32} {x3 : Int32} {x4 : Int32} {σ : Mem} {q : Int32} (hd : 2 ≤ d) (hF : F_X8_crossing x0 x1 x2 x3 x4 σ = some q) : Mt Δ d yX8_crossing cX8_crossing 6 (some .int) [.int x0, .int x1, .int x2, .int x3, .int x4] σ (some (.int q)) σ := by
  obtain ⟨d, rfl⟩ : ∃ e, d = e + 1 := ⟨d - 1, by omega⟩
  have hd : 1 ≤ d := by omega
  refine mt_of (by decide) rfl (Nat.le_of_ble_eq_true rfl) (fun Γ C hq => ?_)
  unfold F_X8_crossing at hF
  show V Δ Γ 6 0 [(0, .int (x0)), (1, .int (x1)), (2, .int (x2)), (3, .int (x3)), (4, .int (x4))] [] σ
  refine v_iconst C (0) dX8_crossing_0 (by decide) ?_
  refine v_iload_n C 1 1 dX8_crossing_1 rfl rfl ?_
  refine v_iload C 4 4 dX8_crossing_2 rfl ?_
  refine v_iadd C dX8_crossing_4 ?_
  refine v_iload_n C 0 0 dX8_crossing_5 rfl rfl ?_
  refine v_iload_n C 2 2 dX8_crossing_6 rfl rfl ?_
  obtain ⟨q1, g2, hF⟩ := bnd hF
  refine v_cSi C mw_X8_barOf lk_X8_187 _ (M_X8_barOf (by omega) g2) rfl rfl (Nat.le_of_ble_eq_true rfl) dX8_crossing_7 ?_
  refine v_isub C dX8_crossing_10 ?_
  refine v_max C ml_X8_351 mm_max_s mm_i mm_max_c (Nat.le_of_ble_eq_true rfl) dX8_crossing_11 ?_
  refine v_istore C 5 (ll' := [(5, _), (0, _), (1, _), (2, _), (3, _), (4, _)]) dX8_crossing_14 (by decide) rfl ?_
  refine v_iload_n C 0 1 dX8_crossing_16 rfl rfl ?_
  rcases Classical.em (x0 = (3 : Int32)) with c4 | c4
  · have hF := ifp hF c4
    refine v_tableEq C 44 (3) (27) dX8_crossing_17 c4 (by decide) (by decide) (by decide) (by decide) ?_
    refine v_iload_n C 3 4 dX8_crossing_44 rfl rfl ?_
    refine v_iconst C (2) dX8_crossing_45 (by decide) ?_
    refine v_irem C dX8_crossing_46 (by decide) ?_
    refine v_if_ne C 55 dX8_crossing_47 (by decide) (fun c5 => ?_) (fun c5 => ?_)
    · have hF := ifn hF c5
      refine v_iconst C (0) dX8_crossing_55 (by decide) ?_
      exact v_iretP C hq (Option.some.inj hF) dX8_crossing_56
    · have hF := ifp hF c5
      refine v_iload C 5 0 dX8_crossing_50 rfl ?_
      refine v_goto C 56 dX8_crossing_52 (by decide) ?_
      exact v_iretP C hq (Option.some.inj hF) dX8_crossing_56
  · have hF := ifn hF c4
    rcases Classical.em (x0 = (4 : Int32)) with c6 | c6
    · have hF := ifp hF c6
      refine v_tableEq C 57 (4) (40) dX8_crossing_17 c6 (by decide) (by decide) (by decide) (by decide) ?_
      refine v_iload C 5 0 dX8_crossing_57 rfl ?_
      refine v_if_le C 69 dX8_crossing_59 (by decide) (fun c7 => ?_) (fun c7 => ?_)
      · have hF := ifp hF c7
        refine v_iconst C (0) dX8_crossing_69 (by decide) ?_
        exact v_iretP C hq (Option.some.inj hF) dX8_crossing_70
      · have hF := ifn hF c7
        refine v_iload C 5 0 dX8_crossing_62 rfl ?_
        refine v_iconst C (1) dX8_crossing_64 (by decide) ?_
        refine v_iadd C dX8_crossing_65 ?_
        refine v_goto C 70 dX8_crossing_66 (by decide) ?_
        exact v_iretP C hq (Option.some.inj hF) dX8_crossing_70
    · have hF := ifn hF c6
      rcases Classical.em (x0 = (5 : Int32)) with c8 | c8
      · have hF := ifp hF c8
        refine v_tableEq C 71 (5) (54) dX8_crossing_17 c8 (by decide) (by decide) (by decide) (by decide) ?_
        refine v_iload C 5 0 dX8_crossing_71 rfl ?_
        refine v_iconst C (2) dX8_crossing_73 (by decide) ?_
        refine v_idiv C dX8_crossing_74 (by decide) ?_
        exact v_iretP C hq (Option.some.inj hF) dX8_crossing_75
      · have hF := ifn hF c8
        have c4 := lv_neT c4 (a := 3) (by decide)
        have c6 := lv_neT c6 (a := 4) (by decide)
        have c8 := lv_neT c8 (a := 5) (by decide)
        refine v_tableOut C 76 dX8_crossing_17 (by omega) (by decide) ?_
        refine v_iload C 5 0 dX8_crossing_76 rfl ?_
        exact v_iretP C hq (Option.some.inj hF) dX8_crossing_78
set_option maxRecDepth 20000 in
set_option maxHeartbeats 2000000 in
theorem T1_crossing {Δ : DD} {d : Nat} {x0 : Int32} {x1 : Int32} {x2 : Int32} {x3 : Int32} {x4 : Int32} {σ : Mem} {q : Int32} (hd : 2 ≤ d) (hF : F_X8_crossing x0 x1 x2 x3 x4 σ = some q) : Mt Δ d yX8_crossing cX8_crossing 6 (some .int) [.int x0, .int x1, .int x2, .int x3, .int x4] σ (some (.int q)) σ := by
  obtain ⟨d, rfl⟩ : ∃ e, d = e + 1 := ⟨d - 1, by omega⟩
  have hd : 1 ≤ d := by omega
  refine mt_of (by decide) rfl (Nat.le_of_ble_eq_true rfl) (fun Γ C hq => ?_)
  unfold F_X8_crossing at hF
  show V Δ Γ 6 0 [(0, .int (x0)), (1, .int (x1)), (2, .int (x2)), (3, .int (x3)), (4, .int (x4))] [] σ
  refine v_iconst C (0) dX8_crossing_0 (by decide) ?_
  refine v_iload_n C 1 1 dX8_crossing_1 rfl rfl ?_
  refine v_iload C 4 4 dX8_crossing_2 rfl ?_
  refine v_iadd C dX8_crossing_4 ?_
  refine v_iload_n C 0 0 dX8_crossing_5 rfl rfl ?_
  refine v_iload_n C 2 2 dX8_crossing_6 rfl rfl ?_
  obtain ⟨q1, g2, hF⟩ := bnd hF
  refine v_cSi C mw_X8_barOf lk_X8_187 _ (M_X8_barOf (by omega) g2) rfl rfl (Nat.le_of_ble_eq_true rfl) dX8_crossing_7 ?_
  refine v_isub C dX8_crossing_10 ?_
  refine v_max C ml_X8_351 mm_max_s mm_i mm_max_c (Nat.le_of_ble_eq_true rfl) dX8_crossing_11 ?_
  refine v_istore C 5 (ll' := [(5, _), (0, _), (1, _), (2, _), (3, _), (4, _)]) dX8_crossing_14 (by decide) rfl ?_
  refine v_iload_n C 0 1 dX8_crossing_16 rfl rfl ?_
  rcases Classical.em (x0 = (3 : Int32)) with c4 | c4
  · have hF := ifp hF c4
    refine v_tableEq C 44 (3) (27) dX8_crossing_17 c4 (by decide) (by decide) (by decide) (by decide) ?_
    refine v_iload_n C 3 4 dX8_crossing_44 rfl rfl ?_
    refine v_iconst C (2) dX8_crossing_45 (by decide) ?_
    refine v_irem C dX8_crossing_46 (by decide) ?_
    refine v_if_ne C 55 dX8_crossing_47 (by decide) (fun c5 => ?_) (fun c5 => ?_)
    · have hF := ifn hF c5
      refine v_iconst C (0) dX8_crossing_55 (by decide) ?_
      exact v_iretP C hq (Option.some.inj hF) dX8_crossing_56
    · have hF := ifp hF c5
      refine v_iload C 5 0 dX8_crossing_50 rfl ?_
      refine v_goto C 56 dX8_crossing_52 (by decide) ?_
      exact v_iretP C hq (Option.some.inj hF) dX8_crossing_56
  · have hF := ifn hF c4
    rcases Classical.em (x0 = (4 : Int32)) with c6 | c6
    · have hF := ifp hF c6
      refine v_tableEq C 57 (4) (40) dX8_crossing_17 c6 (by decide) (by decide) (by decide) (by decide) ?_
      refine v_iload C 5 0 dX8_crossing_57 rfl ?_
      refine v_if_le C 69 dX8_crossing_59 (by decide) (fun c7 => ?_) (fun c7 => ?_)
      · have hF := ifp hF c7
        refine v_iconst C (0) dX8_crossing_69 (by decide) ?_
        exact v_iretP C hq (Option.some.inj hF) dX8_crossing_70
      · have hF := ifn hF c7
        refine v_iload C 5 0 dX8_crossing_62 rfl ?_
        refine v_iconst C (1) dX8_crossing_64 (by decide) ?_
        refine v_iadd C dX8_crossing_65 ?_
        refine v_goto C 70 dX8_crossing_66 (by decide) ?_
        exact v_iretP C hq (Option.some.inj hF) dX8_crossing_70
    · have hF := ifn hF c6
      rcases Classical.em (x0 = (5 : Int32)) with c8 | c8
      · have hF := ifp hF c8
        refine v_tableEq C 71 (5) (54) dX8_crossing_17 c8 (by decide) (by decide) (by decide) (by decide) ?_
        refine v_iload C 5 0 dX8_crossing_71 rfl ?_
        refine v_iconst C (2) dX8_crossing_73 (by decide) ?_
        refine v_idiv C dX8_crossing_74 (by decide) ?_
        exact v_iretP C hq (Option.some.inj hF) dX8_crossing_75
      · have hF := ifn hF c8
        have c4 := lv_neT c4 (a := 3) (by decide)
        have c6 := lv_neT c6 (a := 4) (by decide)
        have c8 := lv_neT c8 (a := 5) (by decide)
        refine v_tableOut C 76 dX8_crossing_17 (by omega) (by decide) ?_
        refine v_iload C 5 0 dX8_crossing_76 rfl ?_
        exact v_iretP C hq (Option.some.inj hF) dX8_crossing_78
set_option maxRecDepth 20000 in
set_option maxHeartbeats 2000000 in
theorem T2_crossing {Δ : DD} {d : Nat} {x0 : Int32} {x1 : Int32} {x2 : Int32} {x3 : Int32} {x4 : Int32} {σ : Mem} {q : Int32} (hd : 2 ≤ d) (hF : F_X8_crossing x0 x1 x2 x3 x4 σ = some q) : Mt Δ d yX8_crossing cX8_crossing 6 (some .int) [.int x0, .int x1, .int x2, .int x3, .int x4] σ (some (.int q)) σ := by
  obtain ⟨d, rfl⟩ : ∃ e, d = e + 1 := ⟨d - 1, by omega⟩
  have hd : 1 ≤ d := by omega
  refine mt_of (by decide) rfl (Nat.le_of_ble_eq_true rfl) (fun Γ C hq => ?_)
  unfold F_X8_crossing at hF
  show V Δ Γ 6 0 [(0, .int (x0)), (1, .int (x1)), (2, .int (x2)), (3, .int (x3)), (4, .int (x4))] [] σ
  refine v_iconst C (0) dX8_crossing_0 (by decide) ?_
  refine v_iload_n C 1 1 dX8_crossing_1 rfl rfl ?_
  refine v_iload C 4 4 dX8_crossing_2 rfl ?_
  refine v_iadd C dX8_crossing_4 ?_
  refine v_iload_n C 0 0 dX8_crossing_5 rfl rfl ?_
  refine v_iload_n C 2 2 dX8_crossing_6 rfl rfl ?_
  obtain ⟨q1, g2, hF⟩ := bnd hF
  refine v_cSi C mw_X8_barOf lk_X8_187 _ (M_X8_barOf (by omega) g2) rfl rfl (Nat.le_of_ble_eq_true rfl) dX8_crossing_7 ?_
  refine v_isub C dX8_crossing_10 ?_
  refine v_max C ml_X8_351 mm_max_s mm_i mm_max_c (Nat.le_of_ble_eq_true rfl) dX8_crossing_11 ?_
  refine v_istore C 5 (ll' := [(5, _), (0, _), (1, _), (2, _), (3, _), (4, _)]) dX8_crossing_14 (by decide) rfl ?_
  refine v_iload_n C 0 1 dX8_crossing_16 rfl rfl ?_
  rcases Classical.em (x0 = (3 : Int32)) with c4 | c4
  · have hF := ifp hF c4
    refine v_tableEq C 44 (3) (27) dX8_crossing_17 c4 (by decide) (by decide) (by decide) (by decide) ?_
    refine v_iload_n C 3 4 dX8_crossing_44 rfl rfl ?_
    refine v_iconst C (2) dX8_crossing_45 (by decide) ?_
    refine v_irem C dX8_crossing_46 (by decide) ?_
    refine v_if_ne C 55 dX8_crossing_47 (by decide) (fun c5 => ?_) (fun c5 => ?_)
    · have hF := ifn hF c5
      refine v_iconst C (0) dX8_crossing_55 (by decide) ?_
      exact v_iretP C hq (Option.some.inj hF) dX8_crossing_56
    · have hF := ifp hF c5
      refine v_iload C 5 0 dX8_crossing_50 rfl ?_
      refine v_goto C 56 dX8_crossing_52 (by decide) ?_
      exact v_iretP C hq (Option.some.inj hF) dX8_crossing_56
  · have hF := ifn hF c4
    rcases Classical.em (x0 = (4 : Int32)) with c6 | c6
    · have hF := ifp hF c6
      refine v_tableEq C 57 (4) (40) dX8_crossing_17 c6 (by decide) (by decide) (by decide) (by decide) ?_
      refine v_iload C 5 0 dX8_crossing_57 rfl ?_
      refine v_if_le C 69 dX8_crossing_59 (by decide) (fun c7 => ?_) (fun c7 => ?_)
      · have hF := ifp hF c7
        refine v_iconst C (0) dX8_crossing_69 (by decide) ?_
        exact v_iretP C hq (Option.some.inj hF) dX8_crossing_70
      · have hF := ifn hF c7
        refine v_iload C 5 0 dX8_crossing_62 rfl ?_
        refine v_iconst C (1) dX8_crossing_64 (by decide) ?_
        refine v_iadd C dX8_crossing_65 ?_
        refine v_goto C 70 dX8_crossing_66 (by decide) ?_
        exact v_iretP C hq (Option.some.inj hF) dX8_crossing_70
    · have hF := ifn hF c6
      rcases Classical.em (x0 = (5 : Int32)) with c8 | c8
      · have hF := ifp hF c8
        refine v_tableEq C 71 (5) (54) dX8_crossing_17 c8 (by decide) (by decide) (by decide) (by decide) ?_
        refine v_iload C 5 0 dX8_crossing_71 rfl ?_
        refine v_iconst C (2) dX8_crossing_73 (by decide) ?_
        refine v_idiv C dX8_crossing_74 (by decide) ?_
        exact v_iretP C hq (Option.some.inj hF) dX8_crossing_75
      · have hF := ifn hF c8
        have c4 := lv_neT c4 (a := 3) (by decide)
        have c6 := lv_neT c6 (a := 4) (by decide)
        have c8 := lv_neT c8 (a := 5) (by decide)
        refine v_tableOut C 76 dX8_crossing_17 (by omega) (by decide) ?_
        refine v_iload C 5 0 dX8_crossing_76 rfl ?_
        exact v_iretP C hq (Option.some.inj hF) dX8_crossing_78
set_option maxRecDepth 20000 in
set_option maxHeartbeats 2000000 in
theorem T3_crossing {Δ : DD} {d : Nat} {x0 : Int32} {x1 : Int32} {x2 : Int32} {x3 : Int32} {x4 : Int32} {σ : Mem} {q : Int32} (hd : 2 ≤ d) (hF : F_X8_crossing x0 x1 x2 x3 x4 σ = some q) : Mt Δ d yX8_crossing cX8_crossing 6 (some .int) [.int x0, .int x1, .int x2, .int x3, .int x4] σ (some (.int q)) σ := by
  obtain ⟨d, rfl⟩ : ∃ e, d = e + 1 := ⟨d - 1, by omega⟩
  have hd : 1 ≤ d := by omega
  refine mt_of (by decide) rfl (Nat.le_of_ble_eq_true rfl) (fun Γ C hq => ?_)
  unfold F_X8_crossing at hF
  show V Δ Γ 6 0 [(0, .int (x0)), (1, .int (x1)), (2, .int (x2)), (3, .int (x3)), (4, .int (x4))] [] σ
  refine v_iconst C (0) dX8_crossing_0 (by decide) ?_
  refine v_iload_n C 1 1 dX8_crossing_1 rfl rfl ?_
  refine v_iload C 4 4 dX8_crossing_2 rfl ?_
  refine v_iadd C dX8_crossing_4 ?_
  refine v_iload_n C 0 0 dX8_crossing_5 rfl rfl ?_
  refine v_iload_n C 2 2 dX8_crossing_6 rfl rfl ?_
  obtain ⟨q1, g2, hF⟩ := bnd hF
  refine v_cSi C mw_X8_barOf lk_X8_187 _ (M_X8_barOf (by omega) g2) rfl rfl (Nat.le_of_ble_eq_true rfl) dX8_crossing_7 ?_
  refine v_isub C dX8_crossing_10 ?_
  refine v_max C ml_X8_351 mm_max_s mm_i mm_max_c (Nat.le_of_ble_eq_true rfl) dX8_crossing_11 ?_
  refine v_istore C 5 (ll' := [(5, _), (0, _), (1, _), (2, _), (3, _), (4, _)]) dX8_crossing_14 (by decide) rfl ?_
  refine v_iload_n C 0 1 dX8_crossing_16 rfl rfl ?_
  rcases Classical.em (x0 = (3 : Int32)) with c4 | c4
  · have hF := ifp hF c4
    refine v_tableEq C 44 (3) (27) dX8_crossing_17 c4 (by decide) (by decide) (by decide) (by decide) ?_
    refine v_iload_n C 3 4 dX8_crossing_44 rfl rfl ?_
    refine v_iconst C (2) dX8_crossing_45 (by decide) ?_
    refine v_irem C dX8_crossing_46 (by decide) ?_
    refine v_if_ne C 55 dX8_crossing_47 (by decide) (fun c5 => ?_) (fun c5 => ?_)
    · have hF := ifn hF c5
      refine v_iconst C (0) dX8_crossing_55 (by decide) ?_
      exact v_iretP C hq (Option.some.inj hF) dX8_crossing_56
    · have hF := ifp hF c5
      refine v_iload C 5 0 dX8_crossing_50 rfl ?_
      refine v_goto C 56 dX8_crossing_52 (by decide) ?_
      exact v_iretP C hq (Option.some.inj hF) dX8_crossing_56
  · have hF := ifn hF c4
    rcases Classical.em (x0 = (4 : Int32)) with c6 | c6
    · have hF := ifp hF c6
      refine v_tableEq C 57 (4) (40) dX8_crossing_17 c6 (by decide) (by decide) (by decide) (by decide) ?_
      refine v_iload C 5 0 dX8_crossing_57 rfl ?_
      refine v_if_le C 69 dX8_crossing_59 (by decide) (fun c7 => ?_) (fun c7 => ?_)
      · have hF := ifp hF c7
        refine v_iconst C (0) dX8_crossing_69 (by decide) ?_
        exact v_iretP C hq (Option.some.inj hF) dX8_crossing_70
      · have hF := ifn hF c7
        refine v_iload C 5 0 dX8_crossing_62 rfl ?_
        refine v_iconst C (1) dX8_crossing_64 (by decide) ?_
        refine v_iadd C dX8_crossing_65 ?_
        refine v_goto C 70 dX8_crossing_66 (by decide) ?_
        exact v_iretP C hq (Option.some.inj hF) dX8_crossing_70
    · have hF := ifn hF c6
      rcases Classical.em (x0 = (5 : Int32)) with c8 | c8
      · have hF := ifp hF c8
        refine v_tableEq C 71 (5) (54) dX8_crossing_17 c8 (by decide) (by decide) (by decide) (by decide) ?_
        refine v_iload C 5 0 dX8_crossing_71 rfl ?_
        refine v_iconst C (2) dX8_crossing_73 (by decide) ?_
        refine v_idiv C dX8_crossing_74 (by decide) ?_
        exact v_iretP C hq (Option.some.inj hF) dX8_crossing_75
      · have hF := ifn hF c8
        have c4 := lv_neT c4 (a := 3) (by decide)
        have c6 := lv_neT c6 (a := 4) (by decide)
        have c8 := lv_neT c8 (a := 5) (by decide)
        refine v_tableOut C 76 dX8_crossing_17 (by omega) (by decide) ?_
        refine v_iload C 5 0 dX8_crossing_76 rfl ?_
        exact v_iretP C hq (Option.some.inj hF) dX8_crossing_78
set_option maxRecDepth 20000 in
set_option maxHeartbeats 2000000 in
theorem T4_crossing {Δ : DD} {d : Nat} {x0 : Int32} {x1 : Int32} {x2 : Int32} {x3 : Int32} {x4 : Int32} {σ : Mem} {q : Int32} (hd : 2 ≤ d) (hF : F_X8_crossing x0 x1 x2 x3 x4 σ = some q) : Mt Δ d yX8_crossing cX8_crossing 6 (some .int) [.int x0, .int x1, .int x2, .int x3, .int x4] σ (some (.int q)) σ := by
  obtain ⟨d, rfl⟩ : ∃ e, d = e + 1 := ⟨d - 1, by omega⟩
  have hd : 1 ≤ d := by omega
  refine mt_of (by decide) rfl (Nat.le_of_ble_eq_true rfl) (fun Γ C hq => ?_)
  unfold F_X8_crossing at hF
  show V Δ Γ 6 0 [(0, .int (x0)), (1, .int (x1)), (2, .int (x2)), (3, .int (x3)), (4, .int (x4))] [] σ
  refine v_iconst C (0) dX8_crossing_0 (by decide) ?_
  refine v_iload_n C 1 1 dX8_crossing_1 rfl rfl ?_
  refine v_iload C 4 4 dX8_crossing_2 rfl ?_
  refine v_iadd C dX8_crossing_4 ?_
  refine v_iload_n C 0 0 dX8_crossing_5 rfl rfl ?_
  refine v_iload_n C 2 2 dX8_crossing_6 rfl rfl ?_
  obtain ⟨q1, g2, hF⟩ := bnd hF
  refine v_cSi C mw_X8_barOf lk_X8_187 _ (M_X8_barOf (by omega) g2) rfl rfl (Nat.le_of_ble_eq_true rfl) dX8_crossing_7 ?_
  refine v_isub C dX8_crossing_10 ?_
  refine v_max C ml_X8_351 mm_max_s mm_i mm_max_c (Nat.le_of_ble_eq_true rfl) dX8_crossing_11 ?_
  refine v_istore C 5 (ll' := [(5, _), (0, _), (1, _), (2, _), (3, _), (4, _)]) dX8_crossing_14 (by decide) rfl ?_
  refine v_iload_n C 0 1 dX8_crossing_16 rfl rfl ?_
  rcases Classical.em (x0 = (3 : Int32)) with c4 | c4
  · have hF := ifp hF c4
    refine v_tableEq C 44 (3) (27) dX8_crossing_17 c4 (by decide) (by decide) (by decide) (by decide) ?_
    refine v_iload_n C 3 4 dX8_crossing_44 rfl rfl ?_
    refine v_iconst C (2) dX8_crossing_45 (by decide) ?_
    refine v_irem C dX8_crossing_46 (by decide) ?_
    refine v_if_ne C 55 dX8_crossing_47 (by decide) (fun c5 => ?_) (fun c5 => ?_)
    · have hF := ifn hF c5
      refine v_iconst C (0) dX8_crossing_55 (by decide) ?_
      exact v_iretP C hq (Option.some.inj hF) dX8_crossing_56
    · have hF := ifp hF c5
      refine v_iload C 5 0 dX8_crossing_50 rfl ?_
      refine v_goto C 56 dX8_crossing_52 (by decide) ?_
      exact v_iretP C hq (Option.some.inj hF) dX8_crossing_56
  · have hF := ifn hF c4
    rcases Classical.em (x0 = (4 : Int32)) with c6 | c6
    · have hF := ifp hF c6
      refine v_tableEq C 57 (4) (40) dX8_crossing_17 c6 (by decide) (by decide) (by decide) (by decide) ?_
      refine v_iload C 5 0 dX8_crossing_57 rfl ?_
      refine v_if_le C 69 dX8_crossing_59 (by decide) (fun c7 => ?_) (fun c7 => ?_)
      · have hF := ifp hF c7
        refine v_iconst C (0) dX8_crossing_69 (by decide) ?_
        exact v_iretP C hq (Option.some.inj hF) dX8_crossing_70
      · have hF := ifn hF c7
        refine v_iload C 5 0 dX8_crossing_62 rfl ?_
        refine v_iconst C (1) dX8_crossing_64 (by decide) ?_
        refine v_iadd C dX8_crossing_65 ?_
        refine v_goto C 70 dX8_crossing_66 (by decide) ?_
        exact v_iretP C hq (Option.some.inj hF) dX8_crossing_70
    · have hF := ifn hF c6
      rcases Classical.em (x0 = (5 : Int32)) with c8 | c8
      · have hF := ifp hF c8
        refine v_tableEq C 71 (5) (54) dX8_crossing_17 c8 (by decide) (by decide) (by decide) (by decide) ?_
        refine v_iload C 5 0 dX8_crossing_71 rfl ?_
        refine v_iconst C (2) dX8_crossing_73 (by decide) ?_
        refine v_idiv C dX8_crossing_74 (by decide) ?_
        exact v_iretP C hq (Option.some.inj hF) dX8_crossing_75
      · have hF := ifn hF c8
        have c4 := lv_neT c4 (a := 3) (by decide)
        have c6 := lv_neT c6 (a := 4) (by decide)
        have c8 := lv_neT c8 (a := 5) (by decide)
        refine v_tableOut C 76 dX8_crossing_17 (by omega) (by decide) ?_
        refine v_iload C 5 0 dX8_crossing_76 rfl ?_
        exact v_iretP C hq (Option.some.inj hF) dX8_crossing_78
set_option maxRecDepth 20000 in
set_option maxHeartbeats 2000000 in
theorem T5_crossing {Δ : DD} {d : Nat} {x0 : Int32} {x1 : Int32} {x2 : Int32} {x3 : Int32} {x4 : Int32} {σ : Mem} {q : Int32} (hd : 2 ≤ d) (hF : F_X8_crossing x0 x1 x2 x3 x4 σ = some q) : Mt Δ d yX8_crossing cX8_crossing 6 (some .int) [.int x0, .int x1, .int x2, .int x3, .int x4] σ (some (.int q)) σ := by
  obtain ⟨d, rfl⟩ : ∃ e, d = e + 1 := ⟨d - 1, by omega⟩
  have hd : 1 ≤ d := by omega
  refine mt_of (by decide) rfl (Nat.le_of_ble_eq_true rfl) (fun Γ C hq => ?_)
  unfold F_X8_crossing at hF
  show V Δ Γ 6 0 [(0, .int (x0)), (1, .int (x1)), (2, .int (x2)), (3, .int (x3)), (4, .int (x4))] [] σ
  refine v_iconst C (0) dX8_crossing_0 (by decide) ?_
  refine v_iload_n C 1 1 dX8_crossing_1 rfl rfl ?_
  refine v_iload C 4 4 dX8_crossing_2 rfl ?_
  refine v_iadd C dX8_crossing_4 ?_
  refine v_iload_n C 0 0 dX8_crossing_5 rfl rfl ?_
  refine v_iload_n C 2 2 dX8_crossing_6 rfl rfl ?_
  obtain ⟨q1, g2, hF⟩ := bnd hF
  refine v_cSi C mw_X8_barOf lk_X8_187 _ (M_X8_barOf (by omega) g2) rfl rfl (Nat.le_of_ble_eq_true rfl) dX8_crossing_7 ?_
  refine v_isub C dX8_crossing_10 ?_
  refine v_max C ml_X8_351 mm_max_s mm_i mm_max_c (Nat.le_of_ble_eq_true rfl) dX8_crossing_11 ?_
  refine v_istore C 5 (ll' := [(5, _), (0, _), (1, _), (2, _), (3, _), (4, _)]) dX8_crossing_14 (by decide) rfl ?_
  refine v_iload_n C 0 1 dX8_crossing_16 rfl rfl ?_
  rcases Classical.em (x0 = (3 : Int32)) with c4 | c4
  · have hF := ifp hF c4
    refine v_tableEq C 44 (3) (27) dX8_crossing_17 c4 (by decide) (by decide) (by decide) (by decide) ?_
    refine v_iload_n C 3 4 dX8_crossing_44 rfl rfl ?_
    refine v_iconst C (2) dX8_crossing_45 (by decide) ?_
    refine v_irem C dX8_crossing_46 (by decide) ?_
    refine v_if_ne C 55 dX8_crossing_47 (by decide) (fun c5 => ?_) (fun c5 => ?_)
    · have hF := ifn hF c5
      refine v_iconst C (0) dX8_crossing_55 (by decide) ?_
      exact v_iretP C hq (Option.some.inj hF) dX8_crossing_56
    · have hF := ifp hF c5
      refine v_iload C 5 0 dX8_crossing_50 rfl ?_
      refine v_goto C 56 dX8_crossing_52 (by decide) ?_
      exact v_iretP C hq (Option.some.inj hF) dX8_crossing_56
  · have hF := ifn hF c4
    rcases Classical.em (x0 = (4 : Int32)) with c6 | c6
    · have hF := ifp hF c6
      refine v_tableEq C 57 (4) (40) dX8_crossing_17 c6 (by decide) (by decide) (by decide) (by decide) ?_
      refine v_iload C 5 0 dX8_crossing_57 rfl ?_
      refine v_if_le C 69 dX8_crossing_59 (by decide) (fun c7 => ?_) (fun c7 => ?_)
      · have hF := ifp hF c7
        refine v_iconst C (0) dX8_crossing_69 (by decide) ?_
        exact v_iretP C hq (Option.some.inj hF) dX8_crossing_70
      · have hF := ifn hF c7
        refine v_iload C 5 0 dX8_crossing_62 rfl ?_
        refine v_iconst C (1) dX8_crossing_64 (by decide) ?_
        refine v_iadd C dX8_crossing_65 ?_
        refine v_goto C 70 dX8_crossing_66 (by decide) ?_
        exact v_iretP C hq (Option.some.inj hF) dX8_crossing_70
    · have hF := ifn hF c6
      rcases Classical.em (x0 = (5 : Int32)) with c8 | c8
      · have hF := ifp hF c8
        refine v_tableEq C 71 (5) (54) dX8_crossing_17 c8 (by decide) (by decide) (by decide) (by decide) ?_
        refine v_iload C 5 0 dX8_crossing_71 rfl ?_
        refine v_iconst C (2) dX8_crossing_73 (by decide) ?_
        refine v_idiv C dX8_crossing_74 (by decide) ?_
        exact v_iretP C hq (Option.some.inj hF) dX8_crossing_75
      · have hF := ifn hF c8
        have c4 := lv_neT c4 (a := 3) (by decide)
        have c6 := lv_neT c6 (a := 4) (by decide)
        have c8 := lv_neT c8 (a := 5) (by decide)
        refine v_tableOut C 76 dX8_crossing_17 (by omega) (by decide) ?_
        refine v_iload C 5 0 dX8_crossing_76 rfl ?_
        exact v_iretP C hq (Option.some.inj hF) dX8_crossing_78

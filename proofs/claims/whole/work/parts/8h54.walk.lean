set_option maxRecDepth 20000 in
set_option maxHeartbeats 2000000 in
theorem M_X8_asked {Δ : DD} {d : Nat} {x0 : Nat} {σ : Mem} {q : Int32} (hd : 1 ≤ d) (h0 : isK 8 x0 = true) (hF : F_X8_asked x0 σ = some q) : Mt Δ d yX8_asked cX8_asked 1 (some .int) [rf Δ x0] σ (some (.int q)) σ := by
  obtain ⟨d, rfl⟩ : ∃ e, d = e + 1 := ⟨d - 1, by omega⟩
  have hd : 0 ≤ d := by omega
  refine mt_of (by decide) rfl (Nat.le_of_ble_eq_true rfl) (fun Γ C hq => ?_)
  unfold F_X8_asked at hF
  show V Δ Γ 1 0 [(0, rf Δ (x0))] [] σ
  refine v_aload_n C 0 0 dX8_asked_0 rfl rfl ?_
  obtain ⟨v2, g1, hF⟩ := bnd hF
  refine v_gI C fu_X8_80 g1 dX8_asked_1 ?_
  exact v_iretP C hq (Option.some.inj hF) dX8_asked_4
set_option maxRecDepth 20000 in
set_option maxHeartbeats 2000000 in
theorem M_X8_upper {Δ : DD} {d : Nat} {x0 : Nat} {σ : Mem} {q : Int64} (hd : 1 ≤ d) (h0 : isK 8 x0 = true) (hF : F_X8_upper x0 σ = some q) : Mt Δ d yX8_upper cX8_upper 1 (some .long) [rf Δ x0] σ (some (.long q)) σ := by
  obtain ⟨d, rfl⟩ : ∃ e, d = e + 1 := ⟨d - 1, by omega⟩
  have hd : 0 ≤ d := by omega
  refine mt_of (by decide) rfl (Nat.le_of_ble_eq_true rfl) (fun Γ C hq => ?_)
  unfold F_X8_upper at hF
  show V Δ Γ 1 0 [(0, rf Δ (x0))] [] σ
  refine v_aload_n C 0 0 dX8_upper_0 rfl rfl ?_
  obtain ⟨v2, g1, hF⟩ := bnd hF
  refine v_gL C fu_X8_83 g1 dX8_upper_1 ?_
  exact v_lretP C hq (Option.some.inj hF) dX8_upper_4
set_option maxRecDepth 20000 in
set_option maxHeartbeats 2000000 in
theorem M_X8_lower {Δ : DD} {d : Nat} {x0 : Nat} {σ : Mem} {q : Int64} (hd : 1 ≤ d) (h0 : isK 8 x0 = true) (hF : F_X8_lower x0 σ = some q) : Mt Δ d yX8_lower cX8_lower 1 (some .long) [rf Δ x0] σ (some (.long q)) σ := by
  obtain ⟨d, rfl⟩ : ∃ e, d = e + 1 := ⟨d - 1, by omega⟩
  have hd : 0 ≤ d := by omega
  refine mt_of (by decide) rfl (Nat.le_of_ble_eq_true rfl) (fun Γ C hq => ?_)
  unfold F_X8_lower at hF
  show V Δ Γ 1 0 [(0, rf Δ (x0))] [] σ
  refine v_aload_n C 0 0 dX8_lower_0 rfl rfl ?_
  obtain ⟨v2, g1, hF⟩ := bnd hF
  refine v_gL C fu_X8_87 g1 dX8_lower_1 ?_
  exact v_lretP C hq (Option.some.inj hF) dX8_lower_4
set_option maxRecDepth 20000 in
set_option maxHeartbeats 2000000 in
theorem M_X8_count {Δ : DD} {d : Nat} {x0 : Nat} {x1 : Int32} {σ : Mem} {q : Int32} (hd : 4 ≤ d) (h0 : isK 8 x0 = true) (hF : F_X8_count x0 x1 σ = some q) : Mt Δ d yX8_count cX8_count 2 (some .int) [rf Δ x0, .int x1] σ (some (.int q)) σ := by
  obtain ⟨d, rfl⟩ : ∃ e, d = e + 1 := ⟨d - 1, by omega⟩
  have hd : 3 ≤ d := by omega
  refine mt_of (by decide) rfl (Nat.le_of_ble_eq_true rfl) (fun Γ C hq => ?_)
  unfold F_X8_count at hF
  show V Δ Γ 2 0 [(0, rf Δ (x0)), (1, .int (x1))] [] σ
  refine v_iload_n C 1 1 dX8_count_0 rfl rfl ?_
  rcases ifc hF with ⟨c1, hF⟩ | ⟨c1, hF⟩
  · refine v_tableEq C 60 (0) (59) dX8_count_1 c1 (by decide) (by decide) (by decide) (by decide) ?_
    refine v_aload_n C 0 0 dX8_count_60 rfl rfl ?_
    obtain ⟨p3, g2, hF⟩ := bnd hF
    refine v_gR C fu_X8_31 g2 dX8_count_61 ?_
    obtain ⟨v5, g4, hF⟩ := bnd hF
    refine v_gI C fu_X8_158 g4 dX8_count_64 ?_
    exact v_iretP C hq (Option.some.inj hF) dX8_count_67
  · skip
    rcases ifc hF with ⟨c6, hF⟩ | ⟨c6, hF⟩
    · refine v_tableEq C 68 (1) (67) dX8_count_1 c6 (by decide) (by decide) (by decide) (by decide) ?_
      refine v_aload_n C 0 0 dX8_count_68 rfl rfl ?_
      obtain ⟨p8, g7, hF⟩ := bnd hF
      refine v_gR C fu_X8_31 g7 dX8_count_69 ?_
      obtain ⟨v10, g9, hF⟩ := bnd hF
      refine v_gI C fu_X8_177 g9 dX8_count_72 ?_
      exact v_iretP C hq (Option.some.inj hF) dX8_count_75
    · skip
      rcases ifc hF with ⟨c11, hF⟩ | ⟨c11, hF⟩
      · refine v_tableEq C 76 (2) (75) dX8_count_1 c11 (by decide) (by decide) (by decide) (by decide) ?_
        refine v_aload_n C 0 0 dX8_count_76 rfl rfl ?_
        obtain ⟨v13, g12, hF⟩ := bnd hF
        refine v_gI C fu_X8_41 g12 dX8_count_77 ?_
        exact v_iretP C hq (Option.some.inj hF) dX8_count_80
      · skip
        rcases ifc hF with ⟨c14, hF⟩ | ⟨c14, hF⟩
        · refine v_tableEq C 81 (3) (80) dX8_count_1 c14 (by decide) (by decide) (by decide) (by decide) ?_
          refine v_aload_n C 0 0 dX8_count_81 rfl rfl ?_
          obtain ⟨p16, g15, hF⟩ := bnd hF
          refine v_gR C fu_X8_31 g15 dX8_count_82 ?_
          obtain ⟨_, g17, hF⟩ := bnd hF
          obtain ⟨q18, g19, hF⟩ := bnd hF
          refine v_cVi C mw_X7_fines lk_X8_234 _ (M_X7_fines (by omega) (chk_k g17) g19) (chk_k g17) rfl rfl (Nat.le_of_ble_eq_true rfl) dX8_count_85 ?_
          exact v_iretP C hq (Option.some.inj hF) dX8_count_88
        · skip
          rcases ifc hF with ⟨c20, hF⟩ | ⟨c20, hF⟩
          · refine v_tableEq C 89 (4) (88) dX8_count_1 c20 (by decide) (by decide) (by decide) (by decide) ?_
            refine v_aload_n C 0 0 dX8_count_89 rfl rfl ?_
            obtain ⟨p22, g21, hF⟩ := bnd hF
            refine v_gR C fu_X8_31 g21 dX8_count_90 ?_
            obtain ⟨_, g23, hF⟩ := bnd hF
            obtain ⟨q24, g25, hF⟩ := bnd hF
            refine v_cVi C mw_X7_liesInAll lk_X8_296 _ (M_X7_liesInAll (by omega) (chk_k g23) g25) (chk_k g23) rfl rfl (Nat.le_of_ble_eq_true rfl) dX8_count_93 ?_
            exact v_iretP C hq (Option.some.inj hF) dX8_count_96
          · skip
            rcases ifc hF with ⟨c26, hF⟩ | ⟨c26, hF⟩
            · refine v_tableEq C 97 (5) (96) dX8_count_1 c26 (by decide) (by decide) (by decide) (by decide) ?_
              refine v_aload_n C 0 0 dX8_count_97 rfl rfl ?_
              obtain ⟨p28, g27, hF⟩ := bnd hF
              refine v_gR C fu_X8_31 g27 dX8_count_98 ?_
              obtain ⟨_, g29, hF⟩ := bnd hF
              obtain ⟨q30, g31, hF⟩ := bnd hF
              refine v_cVi C mw_X7_wouldBeFoundBits lk_X8_264 _ (M_X7_wouldBeFoundBits (by omega) (chk_k g29) g31) (chk_k g29) rfl rfl (Nat.le_of_ble_eq_true rfl) dX8_count_101 ?_
              exact v_iretP C hq (Option.some.inj hF) dX8_count_104
            · skip
              rcases ifc hF with ⟨c32, hF⟩ | ⟨c32, hF⟩
              · refine v_tableEq C 105 (6) (104) dX8_count_1 c32 (by decide) (by decide) (by decide) (by decide) ?_
                refine v_aload_n C 0 0 dX8_count_105 rfl rfl ?_
                obtain ⟨p34, g33, hF⟩ := bnd hF
                refine v_gR C fu_X8_31 g33 dX8_count_106 ?_
                refine v_aload_n C 0 0 dX8_count_109 rfl rfl ?_
                obtain ⟨p36, g35, hF⟩ := bnd hF
                refine v_gR C fu_X8_31 g35 dX8_count_110 ?_
                obtain ⟨v38, g37, hF⟩ := bnd hF
                refine v_gI C fu_X8_177 g37 dX8_count_113 ?_
                obtain ⟨_, g39, hF⟩ := bnd hF
                obtain ⟨q40, g41, hF⟩ := bnd hF
                refine v_cVi C mw_X7_coldOf lk_X8_299 _ (M_X7_coldOf (by omega) (chk_k g39) g41) (chk_k g39) rfl rfl (Nat.le_of_ble_eq_true rfl) dX8_count_116 ?_
                exact v_iretP C hq (Option.some.inj hF) dX8_count_119
              · skip
                rcases ifc hF with ⟨c42, hF⟩ | ⟨c42, hF⟩
                · refine v_tableEq C 120 (7) (119) dX8_count_1 c42 (by decide) (by decide) (by decide) (by decide) ?_
                  refine v_aload_n C 0 0 dX8_count_120 rfl rfl ?_
                  obtain ⟨p44, g43, hF⟩ := bnd hF
                  refine v_gR C fu_X8_31 g43 dX8_count_121 ?_
                  obtain ⟨_, g45, hF⟩ := bnd hF
                  obtain ⟨q46, g47, hF⟩ := bnd hF
                  refine v_cVi C mw_X7_quilts lk_X8_302 _ (M_X7_quilts (by omega) (chk_k g45) g47) (chk_k g45) rfl rfl (Nat.le_of_ble_eq_true rfl) dX8_count_124 ?_
                  exact v_iretP C hq (Option.some.inj hF) dX8_count_127
                · skip
                  rcases ifc hF with ⟨c48, hF⟩ | ⟨c48, hF⟩
                  · refine v_tableEq C 128 (8) (127) dX8_count_1 c48 (by decide) (by decide) (by decide) (by decide) ?_
                    refine v_aload_n C 0 0 dX8_count_128 rfl rfl ?_
                    obtain ⟨p50, g49, hF⟩ := bnd hF
                    refine v_gR C fu_X8_14 g49 dX8_count_129 ?_
                    obtain ⟨_, g51, hF⟩ := bnd hF
                    obtain ⟨q52, g53, hF⟩ := bnd hF
                    refine v_cVi C mw_X6_standing lk_X8_305 _ (M_X6_standing (by omega) (chk_k g51) g53) (chk_k g51) rfl rfl (Nat.le_of_ble_eq_true rfl) dX8_count_132 ?_
                    exact v_iretP C hq (Option.some.inj hF) dX8_count_135
                  · skip
                    rcases ifc hF with ⟨c54, hF⟩ | ⟨c54, hF⟩
                    · refine v_tableEq C 136 (9) (135) dX8_count_1 c54 (by decide) (by decide) (by decide) (by decide) ?_
                      refine v_aload_n C 0 0 dX8_count_136 rfl rfl ?_
                      obtain ⟨p56, g55, hF⟩ := bnd hF
                      refine v_gR C fu_X8_18 g55 dX8_count_137 ?_
                      obtain ⟨_, g57, hF⟩ := bnd hF
                      obtain ⟨q58, g59, hF⟩ := bnd hF
                      refine v_cVi C mw_X6_standing lk_X8_305 _ (M_X6_standing (by omega) (chk_k g57) g59) (chk_k g57) rfl rfl (Nat.le_of_ble_eq_true rfl) dX8_count_140 ?_
                      exact v_iretP C hq (Option.some.inj hF) dX8_count_143
                    · skip
                      rcases ifc hF with ⟨c60, hF⟩ | ⟨c60, hF⟩
                      · refine v_tableEq C 144 (10) (143) dX8_count_1 c60 (by decide) (by decide) (by decide) (by decide) ?_
                        refine v_aload_n C 0 0 dX8_count_144 rfl rfl ?_
                        obtain ⟨p62, g61, hF⟩ := bnd hF
                        refine v_gR C fu_X8_21 g61 dX8_count_145 ?_
                        obtain ⟨_, g63, hF⟩ := bnd hF
                        obtain ⟨q64, g65, hF⟩ := bnd hF
                        refine v_cVi C mw_X6_standing lk_X8_305 _ (M_X6_standing (by omega) (chk_k g63) g65) (chk_k g63) rfl rfl (Nat.le_of_ble_eq_true rfl) dX8_count_148 ?_
                        exact v_iretP C hq (Option.some.inj hF) dX8_count_151
                      · skip
                        have c1 := lv_neT c1 (a := 0) (by decide)
                        have c6 := lv_neT c6 (a := 1) (by decide)
                        have c11 := lv_neT c11 (a := 2) (by decide)
                        have c14 := lv_neT c14 (a := 3) (by decide)
                        have c20 := lv_neT c20 (a := 4) (by decide)
                        have c26 := lv_neT c26 (a := 5) (by decide)
                        have c32 := lv_neT c32 (a := 6) (by decide)
                        have c42 := lv_neT c42 (a := 7) (by decide)
                        have c48 := lv_neT c48 (a := 8) (by decide)
                        have c54 := lv_neT c54 (a := 9) (by decide)
                        have c60 := lv_neT c60 (a := 10) (by decide)
                        refine v_tableOut C 152 dX8_count_1 (by omega) (by decide) ?_
                        refine v_iconst C (-1) dX8_count_152 (by decide) ?_
                        exact v_iretP C hq (Option.some.inj hF) dX8_count_153
set_option maxRecDepth 20000 in
set_option maxHeartbeats 2000000 in
theorem M_X8_finding {Δ : DD} {d : Nat} {x0 : Nat} {σ : Mem} {q : Int32} (hd : 1 ≤ d) (h0 : isK 8 x0 = true) (hF : F_X8_finding x0 σ = some q) : Mt Δ d yX8_finding cX8_finding 1 (some .int) [rf Δ x0] σ (some (.int q)) σ := by
  obtain ⟨d, rfl⟩ : ∃ e, d = e + 1 := ⟨d - 1, by omega⟩
  have hd : 0 ≤ d := by omega
  refine mt_of (by decide) rfl (Nat.le_of_ble_eq_true rfl) (fun Γ C hq => ?_)
  unfold F_X8_finding at hF
  show V Δ Γ 1 0 [(0, rf Δ (x0))] [] σ
  refine v_aload_n C 0 0 dX8_finding_0 rfl rfl ?_
  obtain ⟨v2, g1, hF⟩ := bnd hF
  refine v_gI C fu_X8_90 g1 dX8_finding_1 ?_
  exact v_iretP C hq (Option.some.inj hF) dX8_finding_4
set_option maxRecDepth 20000 in
set_option maxHeartbeats 2000000 in
theorem W_X8_findings_10 {Δ : DD} {Γ : GG} {d : Nat} {q : Int32}   {σ : Mem} (C : Cx Δ Γ RX8 cX8_findings 2 d (some .int)) (hq : RetQ Δ Γ (some (.int q)) σ) (hd : 1 ≤ d) (hF : F_X8_findings_10   σ = some q) : V Δ Γ 2 10 [] [] σ := by
  unfold F_X8_findings_10 at hF
  refine v_iconst C (-1) dX8_findings_10 (by decide) ?_
  refine v_goto C 22 dX8_findings_11 (by decide) ?_
  exact v_iretP C hq (Option.some.inj hF) dX8_findings_22
set_option maxRecDepth 20000 in
set_option maxHeartbeats 2000000 in
theorem M_X8_findings {Δ : DD} {d : Nat} {x0 : Nat} {x1 : Int32} {σ : Mem} {q : Int32} (hd : 2 ≤ d) (h0 : isK 8 x0 = true) (hF : F_X8_findings x0 x1 σ = some q) : Mt Δ d yX8_findings cX8_findings 2 (some .int) [rf Δ x0, .int x1] σ (some (.int q)) σ := by
  obtain ⟨d, rfl⟩ : ∃ e, d = e + 1 := ⟨d - 1, by omega⟩
  have hd : 1 ≤ d := by omega
  refine mt_of (by decide) rfl (Nat.le_of_ble_eq_true rfl) (fun Γ C hq => ?_)
  unfold F_X8_findings at hF
  show V Δ Γ 2 0 [(0, rf Δ (x0)), (1, .int (x1))] [] σ
  refine v_iload_n C 1 1 dX8_findings_0 rfl rfl ?_
  refine v_iconst C (1) dX8_findings_1 (by decide) ?_
  refine v_icmp_lt C 10 dX8_findings_2 (by decide) (fun c1 => ?_) (fun c1 => ?_)
  · have hF := ifp hF c1
    refine v_sub [] (ll' := []) rfl ?_
    exact W_X8_findings_10 C hq hd hF
  · have hF := ifn hF c1
    refine v_iload_n C 1 1 dX8_findings_5 rfl rfl ?_
    refine v_iconst C (5) dX8_findings_6 (by decide) ?_
    refine v_icmp_le C 14 dX8_findings_7 (by decide) (fun c2 => ?_) (fun c2 => ?_)
    · have hF := ifp hF c2
      refine v_aload_n C 0 0 dX8_findings_14 rfl rfl ?_
      obtain ⟨p4, g3, hF⟩ := bnd hF
      refine v_gR C fu_X8_93 g3 dX8_findings_15 ?_
      refine v_iload_n C 1 1 dX8_findings_18 rfl rfl ?_
      obtain ⟨q5, g6, hF⟩ := bnd hF
      refine v_cSi C mw_X8_read lk_X8_308 _ (M_X8_read (by omega) g6) rfl rfl (Nat.le_of_ble_eq_true rfl) dX8_findings_19 ?_
      exact v_iretP C hq (Option.some.inj hF) dX8_findings_22
    · have hF := ifn hF c2
      refine v_sub [] (ll' := []) rfl ?_
      exact W_X8_findings_10 C hq hd hF
def K_X8_digest_6 (Δ : DD) (Γ : GG) (q : Int64) (x0 : Nat) (σ : Mem) (y : (Int64 × Int32) ⊕ Int64) : Prop := match y with
  | .inl s => V Δ Γ 5 6 [(0, rf Δ (x0)), (1, .long (s.1)), (3, .int (s.2))] [] σ
  | .inr t => (t = q)
def K_X8_digest_33 (Δ : DD) (Γ : GG) (q : Int64) (x0 : Nat) (σ : Mem) (y : (Int64 × Int32) ⊕ Int64) : Prop := match y with
  | .inl s => V Δ Γ 5 33 [(0, rf Δ (x0)), (1, .long (s.1)), (3, .int (s.2))] [] σ
  | .inr t => (t = q)
def K_X8_digest_86 (Δ : DD) (Γ : GG) (q : Int64) (x0 : Nat) (σ : Mem) (y : (Int64 × Int32) ⊕ Int64) : Prop := match y with
  | .inl s => V Δ Γ 5 86 [(0, rf Δ (x0)), (1, .long (s.1)), (3, .int (s.2))] [] σ
  | .inr t => (t = q)
def K_X8_digest_47 (Δ : DD) (Γ : GG) (q : Int64) (x0 : Nat) (x3 : Int32) (σ : Mem) (y : (Int64 × Int32) ⊕ ((Int64 × Int32) ⊕ Int64)) : Prop := match y with
  | .inl s => V Δ Γ 5 47 [(0, rf Δ (x0)), (1, .long (s.1)), (3, .int (x3)), (4, .int (s.2))] [] σ
  | .inr t => (K_X8_digest_33 Δ Γ q x0 σ t)
set_option maxRecDepth 20000 in
set_option maxHeartbeats 2000000 in
theorem W_X8_digest_47 {Δ : DD} {Γ : GG} {d : Nat} {q : Int64} {x0 : Nat} {x3 : Int32} {σ : Mem} (C : Cx Δ Γ RX8 cX8_digest 5 d (some .long)) (hq : RetQ Δ Γ (some (.long q)) σ) (h0 : isK 8 x0 = true) (hd : 4 ≤ d) {s : Int64 × Int32} {y : ((Int64 × Int32) ⊕ Int64)} (hF : F_X8_digest_47 x0 x3 σ s = some y) (hK : (K_X8_digest_33 Δ Γ q x0 σ y)) : V Δ Γ 5 47 [(0, rf Δ (x0)), (1, .long (s.1)), (3, .int (x3)), (4, .int (s.2))] [] σ := by
  refine lp_V (W := fun (s : Int64 × Int32) => V Δ Γ 5 47 [(0, rf Δ (x0)), (1, .long (s.1)), (3, .int (x3)), (4, .int (s.2))] [] σ) (K := fun (t : ((Int64 × Int32) ⊕ Int64)) => (K_X8_digest_33 Δ Γ q x0 σ t)) (K' := K_X8_digest_47 Δ Γ q x0 x3 σ) (fun _ h => h) (fun _ h => h) ?_ s y hF hK
  clear hF hK
  intro s z hF hK
  refine v_iload C 4 3 dX8_digest_47 rfl ?_
  refine v_bipush C (8) dX8_digest_49 (by decide) ?_
  refine v_icmp_ge C 78 dX8_digest_51 (by decide) (fun c9 => ?_) (fun c9 => ?_)
  · have hF := ifp hF c9
    refine v_iinc C (_ + (1 : Int32)) 2 (ll' := [(3, _), (0, _), (1, _), (4, _)]) dX8_digest_78 rfl (inc_eq (by decide)) (by decide) rfl ?_
    refine v_goto C 33 dX8_digest_81 (by decide) ?_
    refine v_sub [1, 2, 0] (ll' := [(0, _), (1, _), (3, _)]) rfl ?_
    cases hF
    exact hK
  · have hF := ifn hF c9
    refine v_ldc2 C (31) kl_X8_314 dX8_digest_54 ?_
    refine v_lload_n C 1 1 dX8_digest_57 rfl rfl ?_
    refine v_lmul C dX8_digest_58 ?_
    refine v_aload_n C 0 0 dX8_digest_59 rfl rfl ?_
    obtain ⟨p11, g10, hF⟩ := bnd hF
    refine v_gR C fu_X8_31 g10 dX8_digest_60 ?_
    refine v_iload_n C 3 2 dX8_digest_63 rfl rfl ?_
    refine v_iload C 4 3 dX8_digest_64 rfl ?_
    obtain ⟨_, g12, hF⟩ := bnd hF
    obtain ⟨q13, g14, hF⟩ := bnd hF
    refine v_cVi C mw_X7_about lk_X8_164 _ (M_X7_about (by omega) (chk_k g12) g14) (chk_k g12) rfl rfl (Nat.le_of_ble_eq_true rfl) dX8_digest_66 ?_
    refine v_i2l C dX8_digest_69 ?_
    refine v_ladd C dX8_digest_70 ?_
    refine v_lstore_n C 1 (ll' := [(1, _), (0, _), (3, _), (4, _)]) dX8_digest_71 rfl (by decide) rfl ?_
    refine v_iinc C (_ + (1 : Int32)) 3 (ll' := [(4, _), (1, _), (0, _), (3, _)]) dX8_digest_72 rfl (inc_eq (by decide)) (by decide) rfl ?_
    refine v_goto C 47 dX8_digest_75 (by decide) ?_
    refine v_sub [2, 1, 3, 0] (ll' := [(0, _), (1, _), (3, _), (4, _)]) rfl ?_
    cases hF
    exact hK
set_option maxRecDepth 20000 in
set_option maxHeartbeats 2000000 in
theorem W_X8_digest_86 {Δ : DD} {Γ : GG} {d : Nat} {q : Int64} {x0 : Nat} {σ : Mem} (C : Cx Δ Γ RX8 cX8_digest 5 d (some .long)) (hq : RetQ Δ Γ (some (.long q)) σ) (h0 : isK 8 x0 = true) (hd : 4 ≤ d) {s : Int64 × Int32} (hF : F_X8_digest_86 x0 σ s = some q) : V Δ Γ 5 86 [(0, rf Δ (x0)), (1, .long (s.1)), (3, .int (s.2))] [] σ := by
  have hF : F_X8_digest_86 x0 σ s = some q := hF
  refine lp_V (W := fun (s : Int64 × Int32) => V Δ Γ 5 86 [(0, rf Δ (x0)), (1, .long (s.1)), (3, .int (s.2))] [] σ) (K := fun t => t = q) (K' := K_X8_digest_86 Δ Γ q x0 σ) (fun _ h => h) (fun _ h => h) ?_ s q hF rfl
  clear hF
  intro s z hF hK
  refine v_iload_n C 3 2 dX8_digest_86 rfl rfl ?_
  refine v_iconst C (3) dX8_digest_87 (by decide) ?_
  refine v_icmp_ge C 113 dX8_digest_88 (by decide) (fun c15 => ?_) (fun c15 => ?_)
  · have hF := ifp hF c15
    refine v_aload_n C 0 0 dX8_digest_113 rfl rfl ?_
    obtain ⟨p17, g16, hF⟩ := bnd hF
    refine v_gR C fu_X8_18 g16 dX8_digest_114 ?_
    refine v_aload_n C 0 0 dX8_digest_117 rfl rfl ?_
    obtain ⟨p19, g18, hF⟩ := bnd hF
    refine v_gR C fu_X8_14 g18 dX8_digest_118 ?_
    refine v_lload_n C 1 1 dX8_digest_121 rfl rfl ?_
    obtain ⟨_, g20, hF⟩ := bnd hF
    obtain ⟨q21, g22, hF⟩ := bnd hF
    refine v_cVl C mw_X6_digestOn lk_X8_319 _ (M_X6_digestOn (by omega) (chk_k g20) g22) (chk_k g20) rfl rfl (Nat.le_of_ble_eq_true rfl) dX8_digest_122 ?_
    obtain ⟨_, g23, hF⟩ := bnd hF
    obtain ⟨q24, g25, hF⟩ := bnd hF
    refine v_cVl C mw_X6_digestOn lk_X8_319 _ (M_X6_digestOn (by omega) (chk_k g23) g25) (chk_k g23) rfl rfl (Nat.le_of_ble_eq_true rfl) dX8_digest_125 ?_
    cases hF
    exact v_lretP C hq hK dX8_digest_128
  · have hF := ifn hF c15
    refine v_ldc2 C (31) kl_X8_314 dX8_digest_91 ?_
    refine v_lload_n C 1 1 dX8_digest_94 rfl rfl ?_
    refine v_lmul C dX8_digest_95 ?_
    refine v_aload_n C 0 0 dX8_digest_96 rfl rfl ?_
    obtain ⟨p27, g26, hF⟩ := bnd hF
    refine v_gR C fu_X8_21 g26 dX8_digest_97 ?_
    refine v_iload_n C 3 2 dX8_digest_100 rfl rfl ?_
    obtain ⟨_, g28, hF⟩ := bnd hF
    obtain ⟨q29, g30, hF⟩ := bnd hF
    refine v_cVi C mw_X6_size lk_X8_142 _ (M_X6_size (by omega) (chk_k g28) g30) (chk_k g28) rfl rfl (Nat.le_of_ble_eq_true rfl) dX8_digest_101 ?_
    refine v_i2l C dX8_digest_104 ?_
    refine v_ladd C dX8_digest_105 ?_
    refine v_lstore_n C 1 (ll' := [(1, _), (0, _), (3, _)]) dX8_digest_106 rfl (by decide) rfl ?_
    refine v_iinc C (_ + (1 : Int32)) 2 (ll' := [(3, _), (1, _), (0, _)]) dX8_digest_107 rfl (inc_eq (by decide)) (by decide) rfl ?_
    refine v_goto C 86 dX8_digest_110 (by decide) ?_
    refine v_sub [2, 1, 0] (ll' := [(0, _), (1, _), (3, _)]) rfl ?_
    cases hF
    exact hK
set_option maxRecDepth 20000 in
set_option maxHeartbeats 2000000 in
theorem W_X8_digest_33 {Δ : DD} {Γ : GG} {d : Nat} {q : Int64} {x0 : Nat} {σ : Mem} (C : Cx Δ Γ RX8 cX8_digest 5 d (some .long)) (hq : RetQ Δ Γ (some (.long q)) σ) (h0 : isK 8 x0 = true) (hd : 4 ≤ d) {s : Int64 × Int32} (hF : F_X8_digest_33 x0 σ s = some q) : V Δ Γ 5 33 [(0, rf Δ (x0)), (1, .long (s.1)), (3, .int (s.2))] [] σ := by
  have hF : F_X8_digest_33 x0 σ s = some q := hF
  refine lp_V (W := fun (s : Int64 × Int32) => V Δ Γ 5 33 [(0, rf Δ (x0)), (1, .long (s.1)), (3, .int (s.2))] [] σ) (K := fun t => t = q) (K' := K_X8_digest_33 Δ Γ q x0 σ) (fun _ h => h) (fun _ h => h) ?_ s q hF rfl
  clear hF
  intro s z hF hK
  refine v_iload_n C 3 2 dX8_digest_33 rfl rfl ?_
  refine v_aload_n C 0 0 dX8_digest_34 rfl rfl ?_
  obtain ⟨p5, g4, hF⟩ := bnd hF
  refine v_gR C fu_X8_31 g4 dX8_digest_35 ?_
  obtain ⟨v7, g6, hF⟩ := bnd hF
  refine v_gI C fu_X8_158 g6 dX8_digest_38 ?_
  refine v_icmp_ge C 84 dX8_digest_41 (by decide) (fun c8 => ?_) (fun c8 => ?_)
  · have hF := ifp hF c8
    refine v_iconst C (0) dX8_digest_84 (by decide) ?_
    refine v_istore_n C 3 (ll' := [(3, _), (0, _), (1, _)]) dX8_digest_85 rfl (by decide) rfl ?_
    refine v_sub [1, 2, 0] (ll' := [(0, _), (1, _), (3, _)]) rfl ?_
    obtain ⟨z, hz, e⟩ := mapd hF
    subst e
    exact W_X8_digest_86 C hq h0 hd (hz.trans (congrArg some hK))
  · have hF := ifn hF c8
    refine v_iconst C (0) dX8_digest_44 (by decide) ?_
    refine v_istore C 4 (ll' := [(4, _), (0, _), (1, _), (3, _)]) dX8_digest_45 (by decide) rfl ?_
    refine v_sub [1, 2, 3, 0] (ll' := [(0, _), (1, _), (3, _), (4, _)]) rfl ?_
    exact W_X8_digest_47 C hq h0 hd hF hK
set_option maxRecDepth 20000 in
set_option maxHeartbeats 2000000 in
theorem W_X8_digest_6 {Δ : DD} {Γ : GG} {d : Nat} {q : Int64} {x0 : Nat} {σ : Mem} (C : Cx Δ Γ RX8 cX8_digest 5 d (some .long)) (hq : RetQ Δ Γ (some (.long q)) σ) (h0 : isK 8 x0 = true) (hd : 4 ≤ d) {s : Int64 × Int32} (hF : F_X8_digest_6 x0 σ s = some q) : V Δ Γ 5 6 [(0, rf Δ (x0)), (1, .long (s.1)), (3, .int (s.2))] [] σ := by
  have hF : F_X8_digest_6 x0 σ s = some q := hF
  refine lp_V (W := fun (s : Int64 × Int32) => V Δ Γ 5 6 [(0, rf Δ (x0)), (1, .long (s.1)), (3, .int (s.2))] [] σ) (K := fun t => t = q) (K' := K_X8_digest_6 Δ Γ q x0 σ) (fun _ h => h) (fun _ h => h) ?_ s q hF rfl
  clear hF
  intro s z hF hK
  refine v_iload_n C 3 2 dX8_digest_6 rfl rfl ?_
  refine v_bipush C (11) dX8_digest_7 (by decide) ?_
  refine v_icmp_ge C 31 dX8_digest_9 (by decide) (fun c1 => ?_) (fun c1 => ?_)
  · have hF := ifp hF c1
    refine v_iconst C (0) dX8_digest_31 (by decide) ?_
    refine v_istore_n C 3 (ll' := [(3, _), (0, _), (1, _)]) dX8_digest_32 rfl (by decide) rfl ?_
    refine v_sub [1, 2, 0] (ll' := [(0, _), (1, _), (3, _)]) rfl ?_
    obtain ⟨z, hz, e⟩ := mapd hF
    subst e
    exact W_X8_digest_33 C hq h0 hd (hz.trans (congrArg some hK))
  · have hF := ifn hF c1
    refine v_ldc2 C (31) kl_X8_314 dX8_digest_12 ?_
    refine v_lload_n C 1 1 dX8_digest_15 rfl rfl ?_
    refine v_lmul C dX8_digest_16 ?_
    refine v_aload_n C 0 0 dX8_digest_17 rfl rfl ?_
    refine v_iload_n C 3 2 dX8_digest_18 rfl rfl ?_
    obtain ⟨q2, g3, hF⟩ := bnd hF
    refine v_cVi C mw_X8_count lk_X8_316 _ (M_X8_count (by omega) h0 g3) h0 rfl rfl (Nat.le_of_ble_eq_true rfl) dX8_digest_19 ?_
    refine v_i2l C dX8_digest_22 ?_
    refine v_ladd C dX8_digest_23 ?_
    refine v_lstore_n C 1 (ll' := [(1, _), (0, _), (3, _)]) dX8_digest_24 rfl (by decide) rfl ?_
    refine v_iinc C (_ + (1 : Int32)) 2 (ll' := [(3, _), (1, _), (0, _)]) dX8_digest_25 rfl (inc_eq (by decide)) (by decide) rfl ?_
    refine v_goto C 6 dX8_digest_28 (by decide) ?_
    refine v_sub [2, 1, 0] (ll' := [(0, _), (1, _), (3, _)]) rfl ?_
    cases hF
    exact hK
set_option maxRecDepth 20000 in
set_option maxHeartbeats 2000000 in
theorem M_X8_digest {Δ : DD} {d : Nat} {x0 : Nat} {σ : Mem} {q : Int64} (hd : 5 ≤ d) (h0 : isK 8 x0 = true) (hF : F_X8_digest x0 σ = some q) : Mt Δ d yX8_digest cX8_digest 5 (some .long) [rf Δ x0] σ (some (.long q)) σ := by
  obtain ⟨d, rfl⟩ : ∃ e, d = e + 1 := ⟨d - 1, by omega⟩
  have hd : 4 ≤ d := by omega
  refine mt_of (by decide) rfl (Nat.le_of_ble_eq_true rfl) (fun Γ C hq => ?_)
  unfold F_X8_digest at hF
  show V Δ Γ 5 0 [(0, rf Δ (x0))] [] σ
  refine v_ldc2 C (17) kl_X8_312 dX8_digest_0 ?_
  refine v_lstore_n C 1 (ll' := [(1, _), (0, _)]) dX8_digest_3 rfl (by decide) rfl ?_
  refine v_iconst C (0) dX8_digest_4 (by decide) ?_
  refine v_istore_n C 3 (ll' := [(3, _), (1, _), (0, _)]) dX8_digest_5 rfl (by decide) rfl ?_
  refine v_sub [2, 1, 0] (ll' := [(0, _), (1, _), (3, _)]) rfl ?_
  exact W_X8_digest_6 C hq h0 hd hF
set_option maxRecDepth 20000 in
set_option maxHeartbeats 2000000 in
theorem M_X9_in {Δ : DD} {d : Nat} {x0 : Int64} {x2 : Int64} {x4 : Int64} {σ : Mem} {q : Int32} (hd : 1 ≤ d) (hF : F_X9_in x0 x2 x4 σ = some q) : Mt Δ d yX9_in cX9_in 6 (some .boolean) [.long x0, .long x2, .long x4] σ (some (.int q)) σ := by
  obtain ⟨d, rfl⟩ : ∃ e, d = e + 1 := ⟨d - 1, by omega⟩
  have hd : 0 ≤ d := by omega
  refine mt_of (by decide) rfl (Nat.le_of_ble_eq_true rfl) (fun Γ C hq => ?_)
  unfold F_X9_in at hF
  show V Δ Γ 6 0 [(0, .long (x0)), (2, .long (x2)), (4, .long (x4))] [] σ
  refine v_lload_n C 0 0 dX9_in_0 rfl rfl ?_
  refine v_lload_n C 2 1 dX9_in_1 rfl rfl ?_
  refine v_lcmp C dX9_in_2 ?_
  refine v_if_lt C 17 dX9_in_3 (by decide) (fun c1 => ?_) (fun c1 => ?_)
  · have hF := ifp hF c1
    refine v_iconst C (0) dX9_in_17 (by decide) ?_
    exact v_zretP C hq (Option.some.inj hF) rfl dX9_in_18
  · have hF := ifn hF c1
    refine v_lload_n C 0 0 dX9_in_6 rfl rfl ?_
    refine v_lload C 4 2 dX9_in_7 rfl ?_
    refine v_lcmp C dX9_in_9 ?_
    refine v_if_gt C 17 dX9_in_10 (by decide) (fun c2 => ?_) (fun c2 => ?_)
    · have hF := ifp hF c2
      refine v_iconst C (0) dX9_in_17 (by decide) ?_
      exact v_zretP C hq (Option.some.inj hF) rfl dX9_in_18
    · have hF := ifn hF c2
      refine v_iconst C (1) dX9_in_13 (by decide) ?_
      refine v_goto C 18 dX9_in_14 (by decide) ?_
      exact v_zretP C hq (Option.some.inj hF) rfl dX9_in_18
set_option maxRecDepth 20000 in
set_option maxHeartbeats 2000000 in
theorem M_X9_has {Δ : DD} {d : Nat} {x0 : Int32} {x1 : Int32} {σ : Mem} {q : Int32} (hd : 1 ≤ d) (hF : F_X9_has x0 x1 σ = some q) : Mt Δ d yX9_has cX9_has 2 (some .boolean) [.int x0, .int x1] σ (some (.int q)) σ := by
  obtain ⟨d, rfl⟩ : ∃ e, d = e + 1 := ⟨d - 1, by omega⟩
  have hd : 0 ≤ d := by omega
  refine mt_of (by decide) rfl (Nat.le_of_ble_eq_true rfl) (fun Γ C hq => ?_)
  unfold F_X9_has at hF
  show V Δ Γ 2 0 [(0, .int (x0)), (1, .int (x1))] [] σ
  refine v_iload_n C 0 0 dX9_has_0 rfl rfl ?_
  refine v_iload_n C 1 1 dX9_has_1 rfl rfl ?_
  refine v_ishr C dX9_has_2 ?_
  refine v_iconst C (1) dX9_has_3 (by decide) ?_
  refine v_iand C dX9_has_4 ?_
  refine v_iconst C (1) dX9_has_5 (by decide) ?_
  refine v_icmp_ne C 13 dX9_has_6 (by decide) (fun c1 => ?_) (fun c1 => ?_)
  · have hF := ifn hF c1
    refine v_iconst C (0) dX9_has_13 (by decide) ?_
    exact v_zretP C hq (Option.some.inj hF) rfl dX9_has_14
  · have hF := ifp hF c1
    refine v_iconst C (1) dX9_has_9 (by decide) ?_
    refine v_goto C 14 dX9_has_10 (by decide) ?_
    exact v_zretP C hq (Option.some.inj hF) rfl dX9_has_14
def K_X9_ones_4 (Δ : DD) (Γ : GG) (q : Int32) (x0 : Int32) (σ : Mem) (y : (Int32 × Int32) ⊕ Int32) : Prop := match y with
  | .inl s => V Δ Γ 3 4 [(0, .int (x0)), (1, .int (s.1)), (2, .int (s.2))] [] σ
  | .inr t => (t = q)
set_option maxRecDepth 20000 in
set_option maxHeartbeats 2000000 in
theorem W_X9_ones_4 {Δ : DD} {Γ : GG} {d : Nat} {q : Int32} {x0 : Int32} {σ : Mem} (C : Cx Δ Γ RX9 cX9_ones 3 d (some .int)) (hq : RetQ Δ Γ (some (.int q)) σ) (hd : 0 ≤ d) {s : Int32 × Int32} (hF : F_X9_ones_4 x0 σ s = some q) : V Δ Γ 3 4 [(0, .int (x0)), (1, .int (s.1)), (2, .int (s.2))] [] σ := by
  have hF : F_X9_ones_4 x0 σ s = some q := hF
  refine lp_V (W := fun (s : Int32 × Int32) => V Δ Γ 3 4 [(0, .int (x0)), (1, .int (s.1)), (2, .int (s.2))] [] σ) (K := fun t => t = q) (K' := K_X9_ones_4 Δ Γ q x0 σ) (fun _ h => h) (fun _ h => h) ?_ s q hF rfl
  clear hF
  intro s z hF hK
  refine v_iload_n C 2 2 dX9_ones_4 rfl rfl ?_
  refine v_bipush C (6) dX9_ones_5 (by decide) ?_
  refine v_icmp_ge C 24 dX9_ones_7 (by decide) (fun c1 => ?_) (fun c1 => ?_)
  · have hF := ifp hF c1
    refine v_iload_n C 1 1 dX9_ones_24 rfl rfl ?_
    cases hF
    exact v_iretP C hq hK dX9_ones_25
  · have hF := ifn hF c1
    refine v_iload_n C 1 1 dX9_ones_10 rfl rfl ?_
    refine v_iload_n C 0 0 dX9_ones_11 rfl rfl ?_
    refine v_iload_n C 2 2 dX9_ones_12 rfl rfl ?_
    refine v_ishr C dX9_ones_13 ?_
    refine v_iconst C (1) dX9_ones_14 (by decide) ?_
    refine v_iand C dX9_ones_15 ?_
    refine v_iadd C dX9_ones_16 ?_
    refine v_istore_n C 1 (ll' := [(1, _), (0, _), (2, _)]) dX9_ones_17 rfl (by decide) rfl ?_
    refine v_iinc C (_ + (1 : Int32)) 2 (ll' := [(2, _), (1, _), (0, _)]) dX9_ones_18 rfl (inc_eq (by decide)) (by decide) rfl ?_
    refine v_goto C 4 dX9_ones_21 (by decide) ?_
    refine v_sub [2, 1, 0] (ll' := [(0, _), (1, _), (2, _)]) rfl ?_
    cases hF
    exact hK
set_option maxRecDepth 20000 in
set_option maxHeartbeats 2000000 in
theorem M_X9_ones {Δ : DD} {d : Nat} {x0 : Int32} {σ : Mem} {q : Int32} (hd : 1 ≤ d) (hF : F_X9_ones x0 σ = some q) : Mt Δ d yX9_ones cX9_ones 3 (some .int) [.int x0] σ (some (.int q)) σ := by
  obtain ⟨d, rfl⟩ : ∃ e, d = e + 1 := ⟨d - 1, by omega⟩
  have hd : 0 ≤ d := by omega
  refine mt_of (by decide) rfl (Nat.le_of_ble_eq_true rfl) (fun Γ C hq => ?_)
  unfold F_X9_ones at hF
  show V Δ Γ 3 0 [(0, .int (x0))] [] σ
  refine v_iconst C (0) dX9_ones_0 (by decide) ?_
  refine v_istore_n C 1 (ll' := [(1, _), (0, _)]) dX9_ones_1 rfl (by decide) rfl ?_
  refine v_iconst C (0) dX9_ones_2 (by decide) ?_
  refine v_istore_n C 2 (ll' := [(2, _), (1, _), (0, _)]) dX9_ones_3 rfl (by decide) rfl ?_
  refine v_sub [2, 1, 0] (ll' := [(0, _), (1, _), (2, _)]) rfl ?_
  exact W_X9_ones_4 C hq hd hF
set_option maxRecDepth 20000 in
set_option maxHeartbeats 2000000 in
theorem M_X9_off {Δ : DD} {d : Nat} {x0 : Int32} {x1 : Int32} {σ : Mem} {q : Int32} (hd : 1 ≤ d) (hF : F_X9_off x0 x1 σ = some q) : Mt Δ d yX9_off cX9_off 2 (some .int) [.int x0, .int x1] σ (some (.int q)) σ := by
  obtain ⟨d, rfl⟩ : ∃ e, d = e + 1 := ⟨d - 1, by omega⟩
  have hd : 0 ≤ d := by omega
  refine mt_of (by decide) rfl (Nat.le_of_ble_eq_true rfl) (fun Γ C hq => ?_)
  unfold F_X9_off at hF
  show V Δ Γ 2 0 [(0, .int (x0)), (1, .int (x1))] [] σ
  refine v_iload_n C 0 0 dX9_off_0 rfl rfl ?_
  refine v_iload_n C 1 1 dX9_off_1 rfl rfl ?_
  refine v_icmp_ge C 11 dX9_off_2 (by decide) (fun c1 => ?_) (fun c1 => ?_)
  · have hF := ifp hF c1
    refine v_iload_n C 0 0 dX9_off_11 rfl rfl ?_
    refine v_iload_n C 1 1 dX9_off_12 rfl rfl ?_
    refine v_isub C dX9_off_13 ?_
    exact v_iretP C hq (Option.some.inj hF) dX9_off_14
  · have hF := ifn hF c1
    refine v_iload_n C 1 1 dX9_off_5 rfl rfl ?_
    refine v_iload_n C 0 0 dX9_off_6 rfl rfl ?_
    refine v_isub C dX9_off_7 ?_
    refine v_goto C 14 dX9_off_8 (by decide) ?_
    exact v_iretP C hq (Option.some.inj hF) dX9_off_14
set_option maxRecDepth 20000 in
set_option maxHeartbeats 2000000 in
theorem M_X9_found {Δ : DD} {d : Nat} {x0 : Nat} {x1 : Int32} {σ : Mem} {q : (Int32 × Mem)} (hd : 1 ≤ d) (h0 : isK 9 x0 = true) (hF : F_X9_found x0 x1 σ = some q) : Mt Δ d yX9_found cX9_found 2 (some .int) [rf Δ x0, .int x1] σ (some (.int q.1)) q.2 := by
  obtain ⟨d, rfl⟩ : ∃ e, d = e + 1 := ⟨d - 1, by omega⟩
  have hd : 0 ≤ d := by omega
  refine mt_of (by decide) rfl (Nat.le_of_ble_eq_true rfl) (fun Γ C hq => ?_)
  unfold F_X9_found at hF
  show V Δ Γ 2 0 [(0, rf Δ (x0)), (1, .int (x1))] [] σ
  refine v_aload_n C 0 0 dX9_found_0 rfl rfl ?_
  refine v_iload_n C 1 1 dX9_found_1 rfl rfl ?_
  obtain ⟨m2, g1, hF⟩ := bnd hF
  refine v_pI C fp_X9_44 g1 dX9_found_2 ?_
  refine v_aload_n C 0 0 dX9_found_5 rfl rfl ?_
  obtain ⟨p4, g3, hF⟩ := bnd hF
  refine v_gR C fu_X9_31 g3 dX9_found_6 ?_
  refine v_iload_n C 1 1 dX9_found_9 rfl rfl ?_
  refine v_dup2 C dX9_found_10 rfl rfl ?_
  obtain ⟨v5, g6, hF⟩ := bnd hF
  refine v_aI C g6 dX9_found_11 ?_
  refine v_iconst C (1) dX9_found_12 (by decide) ?_
  refine v_iadd C dX9_found_13 ?_
  obtain ⟨m7, g8, hF⟩ := bnd hF
  refine v_sI C g8 dX9_found_14 ?_
  refine v_bipush C (-3) dX9_found_15 (by decide) ?_
  exact v_iretF C hq (Option.some.inj hF) dX9_found_17
set_option maxRecDepth 20000 in
set_option maxHeartbeats 2000000 in
theorem M_X9_tells {Δ : DD} {d : Nat} {x0 : Nat} {x1 : Int32} {x2 : Int32} {σ : Mem} {q : (Int32 × Mem)} (hd : 1 ≤ d) (h0 : isK 9 x0 = true) (hF : F_X9_tells x0 x1 x2 σ = some q) : Mt Δ d yX9_tells cX9_tells 3 (some .int) [rf Δ x0, .int x1, .int x2] σ (some (.int q.1)) q.2 := by
  obtain ⟨d, rfl⟩ : ∃ e, d = e + 1 := ⟨d - 1, by omega⟩
  have hd : 0 ≤ d := by omega
  refine mt_of (by decide) rfl (Nat.le_of_ble_eq_true rfl) (fun Γ C hq => ?_)
  unfold F_X9_tells at hF
  show V Δ Γ 3 0 [(0, rf Δ (x0)), (1, .int (x1)), (2, .int (x2))] [] σ
  refine v_aload_n C 0 0 dX9_tells_0 rfl rfl ?_
  refine v_iload_n C 1 1 dX9_tells_1 rfl rfl ?_
  obtain ⟨m2, g1, hF⟩ := bnd hF
  refine v_pI C fp_X9_48 g1 dX9_tells_2 ?_
  refine v_iload_n C 2 2 dX9_tells_5 rfl rfl ?_
  exact v_iretF C hq (Option.some.inj hF) dX9_tells_6
def K_X9_copyAll_3 (Δ : DD) (Γ : GG) (q : Mem) (x0 : Nat) (x1 : Int32) (x2 : Int32) (x3 : Int32) (y : (Int32 × Mem) ⊕ Mem) : Prop := match y with
  | .inl s => V Δ Γ 5 3 [(0, rf Δ (x0)), (1, .int (x1)), (2, .int (x2)), (3, .int (x3)), (4, .int (s.1))] [] s.2
  | .inr t => (t = q)
set_option maxRecDepth 20000 in
set_option maxHeartbeats 2000000 in
theorem W_X9_copyAll_3 {Δ : DD} {Γ : GG} {d : Nat} {q : Mem} {x0 : Nat} {x1 : Int32} {x2 : Int32} {x3 : Int32} (C : Cx Δ Γ RX9 cX9_copyAll 5 d none) (hq : RetQ Δ Γ none q) (h0 : isK 9 x0 = true) (hd : 0 ≤ d) {s : Int32 × Mem} (hF : F_X9_copyAll_3 x0 x1 x2 x3  s = some q) : V Δ Γ 5 3 [(0, rf Δ (x0)), (1, .int (x1)), (2, .int (x2)), (3, .int (x3)), (4, .int (s.1))] [] s.2 := by
  have hF : F_X9_copyAll_3 x0 x1 x2 x3  s = some q := hF
  refine lp_V (W := fun (s : Int32 × Mem) => V Δ Γ 5 3 [(0, rf Δ (x0)), (1, .int (x1)), (2, .int (x2)), (3, .int (x3)), (4, .int (s.1))] [] s.2) (K := fun t => t = q) (K' := K_X9_copyAll_3 Δ Γ q x0 x1 x2 x3 ) (fun _ h => h) (fun _ h => h) ?_ s q hF rfl
  clear hF
  intro s z hF hK
  refine v_iload C 4 4 dX9_copyAll_3 rfl ?_
  refine v_iload_n C 3 3 dX9_copyAll_5 rfl rfl ?_
  refine v_icmp_ge C 33 dX9_copyAll_6 (by decide) (fun c1 => ?_) (fun c1 => ?_)
  · have hF := ifp hF c1
    cases hF
    exact v_vretF C hq hK dX9_copyAll_33
  · have hF := ifn hF c1
    refine v_aload_n C 0 0 dX9_copyAll_9 rfl rfl ?_
    obtain ⟨p3, g2, hF⟩ := bnd hF
    refine v_gR C fu_X9_7 g2 dX9_copyAll_10 ?_
    refine v_iload_n C 2 2 dX9_copyAll_13 rfl rfl ?_
    refine v_iload C 4 4 dX9_copyAll_14 rfl ?_
    refine v_iadd C dX9_copyAll_16 ?_
    refine v_aload_n C 0 0 dX9_copyAll_17 rfl rfl ?_
    obtain ⟨p5, g4, hF⟩ := bnd hF
    refine v_gR C fu_X9_7 g4 dX9_copyAll_18 ?_
    refine v_iload_n C 1 1 dX9_copyAll_21 rfl rfl ?_
    refine v_iload C 4 4 dX9_copyAll_22 rfl ?_
    refine v_iadd C dX9_copyAll_24 ?_
    obtain ⟨v6, g7, hF⟩ := bnd hF
    refine v_aI C g7 dX9_copyAll_25 ?_
    obtain ⟨m8, g9, hF⟩ := bnd hF
    refine v_sI C g9 dX9_copyAll_26 ?_
    refine v_iinc C (_ + (1 : Int32)) 4 (ll' := [(4, _), (0, _), (1, _), (2, _), (3, _)]) dX9_copyAll_27 rfl (inc_eq (by decide)) (by decide) rfl ?_
    refine v_goto C 3 dX9_copyAll_30 (by decide) ?_
    refine v_sub [1, 2, 3, 4, 0] (ll' := [(0, _), (1, _), (2, _), (3, _), (4, _)]) rfl ?_
    cases hF
    exact hK
set_option maxRecDepth 20000 in
set_option maxHeartbeats 2000000 in
theorem M_X9_copyAll {Δ : DD} {d : Nat} {x0 : Nat} {x1 : Int32} {x2 : Int32} {x3 : Int32} {σ : Mem} {q : Mem} (hd : 1 ≤ d) (h0 : isK 9 x0 = true) (hF : F_X9_copyAll x0 x1 x2 x3 σ = some q) : Mt Δ d yX9_copyAll cX9_copyAll 5 none [rf Δ x0, .int x1, .int x2, .int x3] σ none q := by
  obtain ⟨d, rfl⟩ : ∃ e, d = e + 1 := ⟨d - 1, by omega⟩
  have hd : 0 ≤ d := by omega
  refine mt_of (by decide) rfl (Nat.le_of_ble_eq_true rfl) (fun Γ C hq => ?_)
  unfold F_X9_copyAll at hF
  show V Δ Γ 5 0 [(0, rf Δ (x0)), (1, .int (x1)), (2, .int (x2)), (3, .int (x3))] [] σ
  refine v_iconst C (0) dX9_copyAll_0 (by decide) ?_
  refine v_istore C 4 (ll' := [(4, _), (0, _), (1, _), (2, _), (3, _)]) dX9_copyAll_1 (by decide) rfl ?_
  refine v_sub [1, 2, 3, 4, 0] (ll' := [(0, _), (1, _), (2, _), (3, _), (4, _)]) rfl ?_
  exact W_X9_copyAll_3 C hq h0 hd hF
set_option maxRecDepth 20000 in
set_option maxHeartbeats 2000000 in
theorem M_X9_isRow {Δ : DD} {d : Nat} {x0 : Int32} {σ : Mem} {q : Int32} (hd : 2 ≤ d) (hF : F_X9_isRow x0 σ = some q) : Mt Δ d yX9_isRow cX9_isRow 1 (some .boolean) [.int x0] σ (some (.int q)) σ := by
  obtain ⟨d, rfl⟩ : ∃ e, d = e + 1 := ⟨d - 1, by omega⟩
  have hd : 1 ≤ d := by omega
  refine mt_of (by decide) rfl (Nat.le_of_ble_eq_true rfl) (fun Γ C hq => ?_)
  unfold F_X9_isRow at hF
  show V Δ Γ 1 0 [(0, .int (x0))] [] σ
  refine v_iload_n C 0 0 dX9_isRow_0 rfl rfl ?_
  refine v_i2l C dX9_isRow_1 ?_
  refine v_lconst C 0 dX9_isRow_2 (by decide) ?_
  refine v_ldc2 C (5) kl_X9_51 dX9_isRow_3 ?_
  obtain ⟨q1, g2, hF⟩ := bnd hF
  refine v_cSi C mw_X9_in lk_X9_53 _ (M_X9_in (by omega) g2) rfl rfl (Nat.le_of_ble_eq_true rfl) dX9_isRow_6 ?_
  obtain ⟨_, g3, hF⟩ := bnd hF
  exact v_zretP C hq (Option.some.inj hF) (bz_nr g3) dX9_isRow_9
set_option maxRecDepth 20000 in
set_option maxHeartbeats 2000000 in
theorem M_X9_isText {Δ : DD} {d : Nat} {x0 : Int32} {σ : Mem} {q : Int32} (hd : 2 ≤ d) (hF : F_X9_isText x0 σ = some q) : Mt Δ d yX9_isText cX9_isText 1 (some .boolean) [.int x0] σ (some (.int q)) σ := by
  obtain ⟨d, rfl⟩ : ∃ e, d = e + 1 := ⟨d - 1, by omega⟩
  have hd : 1 ≤ d := by omega
  refine mt_of (by decide) rfl (Nat.le_of_ble_eq_true rfl) (fun Γ C hq => ?_)
  unfold F_X9_isText at hF
  show V Δ Γ 1 0 [(0, .int (x0))] [] σ
  refine v_iload_n C 0 0 dX9_isText_0 rfl rfl ?_
  refine v_i2l C dX9_isText_1 ?_
  refine v_lconst C 0 dX9_isText_2 (by decide) ?_
  refine v_ldc2 C (3) kl_X9_57 dX9_isText_3 ?_
  obtain ⟨q1, g2, hF⟩ := bnd hF
  refine v_cSi C mw_X9_in lk_X9_53 _ (M_X9_in (by omega) g2) rfl rfl (Nat.le_of_ble_eq_true rfl) dX9_isText_6 ?_
  obtain ⟨_, g3, hF⟩ := bnd hF
  exact v_zretP C hq (Option.some.inj hF) (bz_nr g3) dX9_isText_9
def K_X9_anew_9 (Δ : DD) (Γ : GG) (q : Mem) (x0 : Nat) (x1 : Int32) (y : (Int32 × Mem) ⊕ Mem) : Prop := match y with
  | .inl s => V Δ Γ 4 9 [(0, rf Δ (x0)), (1, .int (x1)), (3, .int (s.1))] [] s.2
  | .inr t => (t = q)
set_option maxRecDepth 20000 in
set_option maxHeartbeats 2000000 in
theorem W_X9_anew_9 {Δ : DD} {Γ : GG} {d : Nat} {q : Mem} {x0 : Nat} {x1 : Int32} (C : Cx Δ Γ RX9 cX9_anew 4 d none) (hq : RetQ Δ Γ none q) (h0 : isK 9 x0 = true) (hd : 0 ≤ d) {s : Int32 × Mem} (hF : F_X9_anew_9 x0 x1  s = some q) : V Δ Γ 4 9 [(0, rf Δ (x0)), (1, .int (x1)), (3, .int (s.1))] [] s.2 := by
  have hF : F_X9_anew_9 x0 x1  s = some q := hF
  refine lp_V (W := fun (s : Int32 × Mem) => V Δ Γ 4 9 [(0, rf Δ (x0)), (1, .int (x1)), (3, .int (s.1))] [] s.2) (K := fun t => t = q) (K' := K_X9_anew_9 Δ Γ q x0 x1 ) (fun _ h => h) (fun _ h => h) ?_ s q hF rfl
  clear hF
  intro s z hF hK
  refine v_iload_n C 3 2 dX9_anew_9 rfl rfl ?_
  refine v_bipush C (40) dX9_anew_10 (by decide) ?_
  refine v_icmp_ge C 33 dX9_anew_12 (by decide) (fun c1 => ?_) (fun c1 => ?_)
  · have hF := ifp hF c1
    cases hF
    exact v_vretF C hq hK dX9_anew_33
  · have hF := ifn hF c1
    refine v_aload_n C 0 0 dX9_anew_15 rfl rfl ?_
    obtain ⟨p3, g2, hF⟩ := bnd hF
    refine v_gR C fu_X9_16 g2 dX9_anew_16 ?_
    refine v_bipush C (40) dX9_anew_19 (by decide) ?_
    refine v_iload_n C 1 1 dX9_anew_21 rfl rfl ?_
    refine v_imul C dX9_anew_22 ?_
    refine v_iload_n C 3 2 dX9_anew_23 rfl rfl ?_
    refine v_iadd C dX9_anew_24 ?_
    refine v_iconst C (0) dX9_anew_25 (by decide) ?_
    obtain ⟨m4, g5, hF⟩ := bnd hF
    refine v_sI C g5 dX9_anew_26 ?_
    refine v_iinc C (_ + (1 : Int32)) 2 (ll' := [(3, _), (0, _), (1, _)]) dX9_anew_27 rfl (inc_eq (by decide)) (by decide) rfl ?_
    refine v_goto C 9 dX9_anew_30 (by decide) ?_
    refine v_sub [1, 2, 0] (ll' := [(0, _), (1, _), (3, _)]) rfl ?_
    cases hF
    exact hK
set_option maxRecDepth 20000 in
set_option maxHeartbeats 2000000 in
theorem M_X9_anew {Δ : DD} {d : Nat} {x0 : Nat} {x1 : Int32} {x2 : Int32} {σ : Mem} {q : Mem} (hd : 1 ≤ d) (h0 : isK 9 x0 = true) (hF : F_X9_anew x0 x1 x2 σ = some q) : Mt Δ d yX9_anew cX9_anew 4 none [rf Δ x0, .int x1, .int x2] σ none q := by
  obtain ⟨d, rfl⟩ : ∃ e, d = e + 1 := ⟨d - 1, by omega⟩
  have hd : 0 ≤ d := by omega
  refine mt_of (by decide) rfl (Nat.le_of_ble_eq_true rfl) (fun Γ C hq => ?_)
  unfold F_X9_anew at hF
  show V Δ Γ 4 0 [(0, rf Δ (x0)), (1, .int (x1)), (2, .int (x2))] [] σ
  refine v_aload_n C 0 0 dX9_anew_0 rfl rfl ?_
  obtain ⟨p7, g6, hF⟩ := bnd hF
  refine v_gR C fu_X9_19 g6 dX9_anew_1 ?_
  refine v_iload_n C 1 1 dX9_anew_4 rfl rfl ?_
  refine v_iload_n C 2 2 dX9_anew_5 rfl rfl ?_
  obtain ⟨m8, g9, hF⟩ := bnd hF
  refine v_sI C g9 dX9_anew_6 ?_
  refine v_iconst C (0) dX9_anew_7 (by decide) ?_
  refine v_istore_n C 3 (ll' := [(3, _), (0, _), (1, _), (2, _)]) dX9_anew_8 rfl (by decide) rfl ?_
  refine v_sub [1, 2, 0] (ll' := [(0, _), (1, _), (3, _)]) rfl ?_
  exact W_X9_anew_9 C hq h0 hd hF
set_option maxRecDepth 20000 in
set_option maxHeartbeats 2000000 in
theorem M_X9_row {Δ : DD} {d : Nat} {x0 : Nat} {x1 : Int32} {x2 : Int32} {σ : Mem} {q : (Int32 × Mem)} (hd : 3 ≤ d) (h0 : isK 9 x0 = true) (hF : F_X9_row x0 x1 x2 σ = some q) : Mt Δ d yX9_row cX9_row 3 (some .int) [rf Δ x0, .int x1, .int x2] σ (some (.int q.1)) q.2 := by
  obtain ⟨d, rfl⟩ : ∃ e, d = e + 1 := ⟨d - 1, by omega⟩
  have hd : 2 ≤ d := by omega
  refine mt_of (by decide) rfl (Nat.le_of_ble_eq_true rfl) (fun Γ C hq => ?_)
  unfold F_X9_row at hF
  show V Δ Γ 3 0 [(0, rf Δ (x0)), (1, .int (x1)), (2, .int (x2))] [] σ
  refine v_iload_n C 1 1 dX9_row_0 rfl rfl ?_
  obtain ⟨q1, g2, hF⟩ := bnd hF
  refine v_cSi C mw_X9_isRow lk_X9_59 _ (M_X9_isRow (by omega) g2) rfl rfl (Nat.le_of_ble_eq_true rfl) dX9_row_1 ?_
  refine v_if_eq C 13 dX9_row_4 (by decide) (fun c3 => ?_) (fun c3 => ?_)
  · have hF := ifp hF c3
    refine v_iconst C (-1) dX9_row_13 (by decide) ?_
    exact v_iretF C hq (Option.some.inj hF) dX9_row_14
  · have hF := ifn hF c3
    refine v_iload_n C 2 2 dX9_row_7 rfl rfl ?_
    refine v_bipush C (40) dX9_row_8 (by decide) ?_
    refine v_icmp_le C 15 dX9_row_10 (by decide) (fun c4 => ?_) (fun c4 => ?_)
    · have hF := ifp hF c4
      refine v_iload_n C 2 2 dX9_row_15 rfl rfl ?_
      refine v_if_ge C 25 dX9_row_16 (by decide) (fun c5 => ?_) (fun c5 => ?_)
      · have hF := ifp hF c5
        refine v_aload_n C 0 0 dX9_row_25 rfl rfl ?_
        refine v_iload_n C 1 1 dX9_row_26 rfl rfl ?_
        refine v_iload_n C 2 2 dX9_row_27 rfl rfl ?_
        obtain ⟨q6, g7, hF⟩ := bnd hF
        refine v_cVv C mw_X9_anew lk_X9_67 _ (M_X9_anew (by omega) h0 g7) h0 rfl rfl (Nat.le_of_ble_eq_true rfl) dX9_row_28 ?_
        refine v_iload_n C 2 2 dX9_row_31 rfl rfl ?_
        exact v_iretF C hq (Option.some.inj hF) dX9_row_32
      · have hF := ifn hF c5
        refine v_aload_n C 0 0 dX9_row_19 rfl rfl ?_
        refine v_iconst C (5) dX9_row_20 (by decide) ?_
        obtain ⟨q8, g9, hF⟩ := bnd hF
        refine v_cVi C mw_X9_found lk_X9_63 _ (M_X9_found (by omega) h0 g9) h0 rfl rfl (Nat.le_of_ble_eq_true rfl) dX9_row_21 ?_
        exact v_iretF C hq (Option.some.inj hF) dX9_row_24
    · have hF := ifn hF c4
      refine v_iconst C (-1) dX9_row_13 (by decide) ?_
      exact v_iretF C hq (Option.some.inj hF) dX9_row_14
set_option maxRecDepth 20000 in
set_option maxHeartbeats 2000000 in
theorem M_X9_at {Δ : DD} {d : Nat} {x0 : Nat} {x1 : Int32} {x2 : Int32} {σ : Mem} {q : (Int32 × Mem)} (hd : 3 ≤ d) (h0 : isK 9 x0 = true) (hF : F_X9_at x0 x1 x2 σ = some q) : Mt Δ d yX9_at cX9_at 3 (some .int) [rf Δ x0, .int x1, .int x2] σ (some (.int q.1)) q.2 := by
  obtain ⟨d, rfl⟩ : ∃ e, d = e + 1 := ⟨d - 1, by omega⟩
  have hd : 2 ≤ d := by omega
  refine mt_of (by decide) rfl (Nat.le_of_ble_eq_true rfl) (fun Γ C hq => ?_)
  unfold F_X9_at at hF
  show V Δ Γ 3 0 [(0, rf Δ (x0)), (1, .int (x1)), (2, .int (x2))] [] σ
  refine v_iload_n C 1 1 dX9_at_0 rfl rfl ?_
  obtain ⟨q1, g2, hF⟩ := bnd hF
  refine v_cSi C mw_X9_isRow lk_X9_59 _ (M_X9_isRow (by omega) g2) rfl rfl (Nat.le_of_ble_eq_true rfl) dX9_at_1 ?_
  refine v_if_ne C 9 dX9_at_4 (by decide) (fun c3 => ?_) (fun c3 => ?_)
  · have hF := ifn hF c3
    refine v_aload_n C 0 0 dX9_at_9 rfl rfl ?_
    obtain ⟨p5, g4, hF⟩ := bnd hF
    refine v_gR C fu_X9_19 g4 dX9_at_10 ?_
    refine v_iload_n C 1 1 dX9_at_13 rfl rfl ?_
    obtain ⟨v6, g7, hF⟩ := bnd hF
    refine v_aI C g7 dX9_at_14 ?_
    refine v_if_ge C 24 dX9_at_15 (by decide) (fun c8 => ?_) (fun c8 => ?_)
    · have hF := ifp hF c8
      refine v_iload_n C 2 2 dX9_at_24 rfl rfl ?_
      refine v_i2l C dX9_at_25 ?_
      refine v_lconst C 0 dX9_at_26 (by decide) ?_
      refine v_aload_n C 0 0 dX9_at_27 rfl rfl ?_
      obtain ⟨p10, g9, hF⟩ := bnd hF
      refine v_gR C fu_X9_19 g9 dX9_at_28 ?_
      refine v_iload_n C 1 1 dX9_at_31 rfl rfl ?_
      obtain ⟨v11, g12, hF⟩ := bnd hF
      refine v_aI C g12 dX9_at_32 ?_
      refine v_iconst C (1) dX9_at_33 (by decide) ?_
      refine v_isub C dX9_at_34 ?_
      refine v_i2l C dX9_at_35 ?_
      obtain ⟨q13, g14, hF⟩ := bnd hF
      refine v_cSi C mw_X9_in lk_X9_53 _ (M_X9_in (by omega) g14) rfl rfl (Nat.le_of_ble_eq_true rfl) dX9_at_36 ?_
      refine v_if_eq C 61 dX9_at_39 (by decide) (fun c15 => ?_) (fun c15 => ?_)
      · have hF := ifp hF c15
        refine v_aload_n C 0 0 dX9_at_61 rfl rfl ?_
        refine v_iconst C (2) dX9_at_62 (by decide) ?_
        obtain ⟨q16, g17, hF⟩ := bnd hF
        refine v_cVi C mw_X9_found lk_X9_63 _ (M_X9_found (by omega) h0 g17) h0 rfl rfl (Nat.le_of_ble_eq_true rfl) dX9_at_63 ?_
        exact v_iretF C hq (Option.some.inj hF) dX9_at_66
      · have hF := ifn hF c15
        refine v_aload_n C 0 0 dX9_at_42 rfl rfl ?_
        refine v_aload_n C 0 0 dX9_at_43 rfl rfl ?_
        obtain ⟨p19, g18, hF⟩ := bnd hF
        refine v_gR C fu_X9_16 g18 dX9_at_44 ?_
        refine v_bipush C (40) dX9_at_47 (by decide) ?_
        refine v_iload_n C 1 1 dX9_at_49 rfl rfl ?_
        refine v_imul C dX9_at_50 ?_
        refine v_iload_n C 2 2 dX9_at_51 rfl rfl ?_
        refine v_iadd C dX9_at_52 ?_
        obtain ⟨v20, g21, hF⟩ := bnd hF
        refine v_aI C g21 dX9_at_53 ?_
        refine v_iconst C (1) dX9_at_54 (by decide) ?_
        obtain ⟨q22, g23, hF⟩ := bnd hF
        refine v_cVi C mw_X9_tells lk_X9_75 _ (M_X9_tells (by omega) h0 g23) h0 rfl rfl (Nat.le_of_ble_eq_true rfl) dX9_at_55 ?_
        refine v_goto C 66 dX9_at_58 (by decide) ?_
        exact v_iretF C hq (Option.some.inj hF) dX9_at_66
    · have hF := ifn hF c8
      refine v_aload_n C 0 0 dX9_at_18 rfl rfl ?_
      refine v_iconst C (1) dX9_at_19 (by decide) ?_
      obtain ⟨q24, g25, hF⟩ := bnd hF
      refine v_cVi C mw_X9_found lk_X9_63 _ (M_X9_found (by omega) h0 g25) h0 rfl rfl (Nat.le_of_ble_eq_true rfl) dX9_at_20 ?_
      exact v_iretF C hq (Option.some.inj hF) dX9_at_23
  · have hF := ifp hF c3
    refine v_iconst C (-1) dX9_at_7 (by decide) ?_
    exact v_iretF C hq (Option.some.inj hF) dX9_at_8
set_option maxRecDepth 20000 in
set_option maxHeartbeats 2000000 in
theorem M_X9_lay {Δ : DD} {d : Nat} {x0 : Nat} {x1 : Int32} {x2 : Int32} {x3 : Int32} {σ : Mem} {q : (Int32 × Mem)} (hd : 4 ≤ d) (h0 : isK 9 x0 = true) (hF : F_X9_lay x0 x1 x2 x3 σ = some q) : Mt Δ d yX9_lay cX9_lay 5 (some .int) [rf Δ x0, .int x1, .int x2, .int x3] σ (some (.int q.1)) q.2 := by
  obtain ⟨d, rfl⟩ : ∃ e, d = e + 1 := ⟨d - 1, by omega⟩
  have hd : 3 ≤ d := by omega
  refine mt_of (by decide) rfl (Nat.le_of_ble_eq_true rfl) (fun Γ C hq => ?_)
  unfold F_X9_lay at hF
  show V Δ Γ 5 0 [(0, rf Δ (x0)), (1, .int (x1)), (2, .int (x2)), (3, .int (x3))] [] σ
  refine v_aload_n C 0 0 dX9_lay_0 rfl rfl ?_
  refine v_iload_n C 1 1 dX9_lay_1 rfl rfl ?_
  refine v_iload_n C 2 2 dX9_lay_2 rfl rfl ?_
  obtain ⟨q1, g2, hF⟩ := bnd hF
  refine v_cVi C mw_X9_at lk_X9_71 _ (M_X9_at (by omega) h0 g2) h0 rfl rfl (Nat.le_of_ble_eq_true rfl) dX9_lay_3 ?_
  refine v_istore C 4 (ll' := [(4, _), (0, _), (1, _), (2, _), (3, _)]) dX9_lay_6 (by decide) rfl ?_
  refine v_iload C 4 0 dX9_lay_8 rfl ?_
  refine v_iconst C (1) dX9_lay_10 (by decide) ?_
  refine v_icmp_ne C 26 dX9_lay_11 (by decide) (fun c3 => ?_) (fun c3 => ?_)
  · have hF := ifn hF c3
    refine v_iload C 4 0 dX9_lay_26 rfl ?_
    exact v_iretF C hq (Option.some.inj hF) dX9_lay_28
  · have hF := ifp hF c3
    refine v_aload_n C 0 1 dX9_lay_14 rfl rfl ?_
    obtain ⟨p5, g4, hF⟩ := bnd hF
    refine v_gR C fu_X9_16 g4 dX9_lay_15 ?_
    refine v_bipush C (40) dX9_lay_18 (by decide) ?_
    refine v_iload_n C 1 2 dX9_lay_20 rfl rfl ?_
    refine v_imul C dX9_lay_21 ?_
    refine v_iload_n C 2 3 dX9_lay_22 rfl rfl ?_
    refine v_iadd C dX9_lay_23 ?_
    refine v_iload_n C 3 4 dX9_lay_24 rfl rfl ?_
    obtain ⟨m6, g7, hF⟩ := bnd hF
    refine v_sI C g7 dX9_lay_25 ?_
    refine v_iload C 4 0 dX9_lay_26 rfl ?_
    exact v_iretF C hq (Option.some.inj hF) dX9_lay_28
set_option maxRecDepth 20000 in
set_option maxHeartbeats 2000000 in
theorem M_X9_tear {Δ : DD} {d : Nat} {x0 : Nat} {x1 : Int32} {σ : Mem} {q : (Int32 × Mem)} (hd : 3 ≤ d) (h0 : isK 9 x0 = true) (hF : F_X9_tear x0 x1 σ = some q) : Mt Δ d yX9_tear cX9_tear 2 (some .int) [rf Δ x0, .int x1] σ (some (.int q.1)) q.2 := by
  obtain ⟨d, rfl⟩ : ∃ e, d = e + 1 := ⟨d - 1, by omega⟩
  have hd : 2 ≤ d := by omega
  refine mt_of (by decide) rfl (Nat.le_of_ble_eq_true rfl) (fun Γ C hq => ?_)
  unfold F_X9_tear at hF
  show V Δ Γ 2 0 [(0, rf Δ (x0)), (1, .int (x1))] [] σ
  refine v_iload_n C 1 1 dX9_tear_0 rfl rfl ?_
  obtain ⟨q1, g2, hF⟩ := bnd hF
  refine v_cSi C mw_X9_isRow lk_X9_59 _ (M_X9_isRow (by omega) g2) rfl rfl (Nat.le_of_ble_eq_true rfl) dX9_tear_1 ?_
  refine v_if_ne C 9 dX9_tear_4 (by decide) (fun c3 => ?_) (fun c3 => ?_)
  · have hF := ifn hF c3
    refine v_aload_n C 0 0 dX9_tear_9 rfl rfl ?_
    obtain ⟨p5, g4, hF⟩ := bnd hF
    refine v_gR C fu_X9_19 g4 dX9_tear_10 ?_
    refine v_iload_n C 1 1 dX9_tear_13 rfl rfl ?_
    obtain ⟨v6, g7, hF⟩ := bnd hF
    refine v_aI C g7 dX9_tear_14 ?_
    refine v_if_ge C 24 dX9_tear_15 (by decide) (fun c8 => ?_) (fun c8 => ?_)
    · have hF := ifp hF c8
      refine v_aload_n C 0 0 dX9_tear_24 rfl rfl ?_
      obtain ⟨p10, g9, hF⟩ := bnd hF
      refine v_gR C fu_X9_19 g9 dX9_tear_25 ?_
      refine v_iload_n C 1 1 dX9_tear_28 rfl rfl ?_
      refine v_iconst C (-1) dX9_tear_29 (by decide) ?_
      obtain ⟨m11, g12, hF⟩ := bnd hF
      refine v_sI C g12 dX9_tear_30 ?_
      refine v_iconst C (1) dX9_tear_31 (by decide) ?_
      exact v_iretF C hq (Option.some.inj hF) dX9_tear_32
    · have hF := ifn hF c8
      refine v_aload_n C 0 0 dX9_tear_18 rfl rfl ?_
      refine v_iconst C (1) dX9_tear_19 (by decide) ?_
      obtain ⟨q13, g14, hF⟩ := bnd hF
      refine v_cVi C mw_X9_found lk_X9_63 _ (M_X9_found (by omega) h0 g14) h0 rfl rfl (Nat.le_of_ble_eq_true rfl) dX9_tear_20 ?_
      exact v_iretF C hq (Option.some.inj hF) dX9_tear_23
  · have hF := ifp hF c3
    refine v_iconst C (-1) dX9_tear_7 (by decide) ?_
    exact v_iretF C hq (Option.some.inj hF) dX9_tear_8
set_option maxRecDepth 20000 in
set_option maxHeartbeats 2000000 in
theorem M_X9_fits {Δ : DD} {d : Nat} {x0 : Int32} {x1 : Int32} {x2 : Int32} {σ : Mem} {q : Int32} (hd : 1 ≤ d) (hF : F_X9_fits x0 x1 x2 σ = some q) : Mt Δ d yX9_fits cX9_fits 3 (some .boolean) [.int x0, .int x1, .int x2] σ (some (.int q)) σ := by
  obtain ⟨d, rfl⟩ : ∃ e, d = e + 1 := ⟨d - 1, by omega⟩
  have hd : 0 ≤ d := by omega
  refine mt_of (by decide) rfl (Nat.le_of_ble_eq_true rfl) (fun Γ C hq => ?_)
  unfold F_X9_fits at hF
  show V Δ Γ 3 0 [(0, .int (x0)), (1, .int (x1)), (2, .int (x2))] [] σ
  refine v_iload_n C 0 0 dX9_fits_0 rfl rfl ?_
  refine v_if_lt C 19 dX9_fits_1 (by decide) (fun c1 => ?_) (fun c1 => ?_)
  · have hF := ifp hF c1
    refine v_iconst C (0) dX9_fits_19 (by decide) ?_
    exact v_zretP C hq (Option.some.inj hF) rfl dX9_fits_20
  · have hF := ifn hF c1
    refine v_iload_n C 0 0 dX9_fits_4 rfl rfl ?_
    refine v_i2l C dX9_fits_5 ?_
    refine v_iload_n C 1 1 dX9_fits_6 rfl rfl ?_
    refine v_i2l C dX9_fits_7 ?_
    refine v_ladd C dX9_fits_8 ?_
    refine v_iload_n C 2 2 dX9_fits_9 rfl rfl ?_
    refine v_i2l C dX9_fits_10 ?_
    refine v_lcmp C dX9_fits_11 ?_
    refine v_if_gt C 19 dX9_fits_12 (by decide) (fun c2 => ?_) (fun c2 => ?_)
    · have hF := ifp hF c2
      refine v_iconst C (0) dX9_fits_19 (by decide) ?_
      exact v_zretP C hq (Option.some.inj hF) rfl dX9_fits_20
    · have hF := ifn hF c2
      refine v_iconst C (1) dX9_fits_15 (by decide) ?_
      refine v_goto C 20 dX9_fits_16 (by decide) ?_
      exact v_zretP C hq (Option.some.inj hF) rfl dX9_fits_20
def K_X9_copy_91 (Δ : DD) (Γ : GG) (q : (Int32 × Mem)) (x0 : Nat) (x1 : Int32) (x2 : Int32) (x3 : Int32) (x4 : Int32) (x5 : Int32) (y : (Int32 × Mem) ⊕ (Int32 × Mem)) : Prop := match y with
  | .inl s => V Δ Γ 7 91 [(0, rf Δ (x0)), (1, .int (x1)), (2, .int (x2)), (3, .int (x3)), (4, .int (x4)), (5, .int (x5)), (6, .int (s.1))] [] s.2
  | .inr t => (t = q)
def K_X9_copy_128 (Δ : DD) (Γ : GG) (q : (Int32 × Mem)) (x0 : Nat) (x3 : Int32) (x4 : Int32) (x5 : Int32) (y : (Int32 × Mem) ⊕ (Int32 × Mem)) : Prop := match y with
  | .inl s => V Δ Γ 7 128 [(0, rf Δ (x0)), (3, .int (x3)), (4, .int (x4)), (5, .int (x5)), (6, .int (s.1))] [] s.2
  | .inr t => (t = q)
set_option maxRecDepth 20000 in
set_option maxHeartbeats 2000000 in
theorem W_X9_copy_45 {Δ : DD} {Γ : GG} {d : Nat} {q : (Int32 × Mem)} {x0 : Nat}  {σ : Mem} (C : Cx Δ Γ RX9 cX9_copy 7 d (some .int)) (hq : RetQ Δ Γ (some (.int q.1)) q.2) (h0 : isK 9 x0 = true) (hd : 2 ≤ d) (hF : F_X9_copy_45 x0  σ = some q) : V Δ Γ 7 45 [(0, rf Δ (x0))] [] σ := by
  unfold F_X9_copy_45 at hF
  refine v_aload_n C 0 0 dX9_copy_45 rfl rfl ?_
  refine v_iconst C (1) dX9_copy_46 (by decide) ?_
  obtain ⟨q1, g2, hF⟩ := bnd hF
  refine v_cVi C mw_X9_found lk_X9_63 _ (M_X9_found (by omega) h0 g2) h0 rfl rfl (Nat.le_of_ble_eq_true rfl) dX9_copy_47 ?_
  exact v_iretF C hq (Option.some.inj hF) dX9_copy_50
set_option maxRecDepth 20000 in
set_option maxHeartbeats 2000000 in
theorem W_X9_copy_82 {Δ : DD} {Γ : GG} {d : Nat} {q : (Int32 × Mem)} {x0 : Nat}  {σ : Mem} (C : Cx Δ Γ RX9 cX9_copy 7 d (some .int)) (hq : RetQ Δ Γ (some (.int q.1)) q.2) (h0 : isK 9 x0 = true) (hd : 2 ≤ d) (hF : F_X9_copy_82 x0  σ = some q) : V Δ Γ 7 82 [(0, rf Δ (x0))] [] σ := by
  unfold F_X9_copy_82 at hF
  refine v_aload_n C 0 0 dX9_copy_82 rfl rfl ?_
  refine v_iconst C (2) dX9_copy_83 (by decide) ?_
  obtain ⟨q3, g4, hF⟩ := bnd hF
  refine v_cVi C mw_X9_found lk_X9_63 _ (M_X9_found (by omega) h0 g4) h0 rfl rfl (Nat.le_of_ble_eq_true rfl) dX9_copy_84 ?_
  exact v_iretF C hq (Option.some.inj hF) dX9_copy_87
set_option maxRecDepth 20000 in
set_option maxHeartbeats 2000000 in
theorem W_X9_copy_128 {Δ : DD} {Γ : GG} {d : Nat} {q : (Int32 × Mem)} {x0 : Nat} {x3 : Int32} {x4 : Int32} {x5 : Int32} (C : Cx Δ Γ RX9 cX9_copy 7 d (some .int)) (hq : RetQ Δ Γ (some (.int q.1)) q.2) (h0 : isK 9 x0 = true) (hd : 2 ≤ d) {s : Int32 × Mem} (hF : F_X9_copy_128 x0 x3 x4 x5  s = some q) : V Δ Γ 7 128 [(0, rf Δ (x0)), (3, .int (x3)), (4, .int (x4)), (5, .int (x5)), (6, .int (s.1))] [] s.2 := by
  have hF : F_X9_copy_128 x0 x3 x4 x5  s = some q := hF
  refine lp_V (W := fun (s : Int32 × Mem) => V Δ Γ 7 128 [(0, rf Δ (x0)), (3, .int (x3)), (4, .int (x4)), (5, .int (x5)), (6, .int (s.1))] [] s.2) (K := fun t => t = q) (K' := K_X9_copy_128 Δ Γ q x0 x3 x4 x5 ) (fun _ h => h) (fun _ h => h) ?_ s q hF rfl
  clear hF
  intro s z hF hK
  refine v_iload C 6 4 dX9_copy_128 rfl ?_
  refine v_iload C 5 3 dX9_copy_130 rfl ?_
  refine v_icmp_ge C 163 dX9_copy_132 (by decide) (fun c14 => ?_) (fun c14 => ?_)
  · have hF := ifp hF c14
    refine v_iconst C (1) dX9_copy_163 (by decide) ?_
    cases hF
    exact v_iretF C hq hK dX9_copy_164
  · have hF := ifn hF c14
    refine v_aload_n C 0 0 dX9_copy_135 rfl rfl ?_
    obtain ⟨p16, g15, hF⟩ := bnd hF
    refine v_gR C fu_X9_16 g15 dX9_copy_136 ?_
    refine v_bipush C (40) dX9_copy_139 (by decide) ?_
    refine v_iload_n C 3 1 dX9_copy_141 rfl rfl ?_
    refine v_imul C dX9_copy_142 ?_
    refine v_iload C 4 2 dX9_copy_143 rfl ?_
    refine v_iadd C dX9_copy_145 ?_
    refine v_iload C 6 4 dX9_copy_146 rfl ?_
    refine v_iadd C dX9_copy_148 ?_
    refine v_aload_n C 0 0 dX9_copy_149 rfl rfl ?_
    obtain ⟨p18, g17, hF⟩ := bnd hF
    refine v_gR C fu_X9_28 g17 dX9_copy_150 ?_
    refine v_iload C 6 4 dX9_copy_153 rfl ?_
    obtain ⟨v19, g20, hF⟩ := bnd hF
    refine v_aI C g20 dX9_copy_155 ?_
    obtain ⟨m21, g22, hF⟩ := bnd hF
    refine v_sI C g22 dX9_copy_156 ?_
    refine v_iinc C (_ + (1 : Int32)) 4 (ll' := [(6, _), (0, _), (3, _), (4, _), (5, _)]) dX9_copy_157 rfl (inc_eq (by decide)) (by decide) rfl ?_
    refine v_goto C 128 dX9_copy_160 (by decide) ?_
    refine v_sub [1, 2, 3, 4, 0] (ll' := [(0, _), (3, _), (4, _), (5, _), (6, _)]) rfl ?_
    cases hF
    exact hK
set_option maxRecDepth 20000 in
set_option maxHeartbeats 2000000 in
theorem W_X9_copy_91 {Δ : DD} {Γ : GG} {d : Nat} {q : (Int32 × Mem)} {x0 : Nat} {x1 : Int32} {x2 : Int32} {x3 : Int32} {x4 : Int32} {x5 : Int32} (C : Cx Δ Γ RX9 cX9_copy 7 d (some .int)) (hq : RetQ Δ Γ (some (.int q.1)) q.2) (h0 : isK 9 x0 = true) (hd : 2 ≤ d) {s : Int32 × Mem} (hF : F_X9_copy_91 x0 x1 x2 x3 x4 x5  s = some q) : V Δ Γ 7 91 [(0, rf Δ (x0)), (1, .int (x1)), (2, .int (x2)), (3, .int (x3)), (4, .int (x4)), (5, .int (x5)), (6, .int (s.1))] [] s.2 := by
  have hF : F_X9_copy_91 x0 x1 x2 x3 x4 x5  s = some q := hF
  refine lp_V (W := fun (s : Int32 × Mem) => V Δ Γ 7 91 [(0, rf Δ (x0)), (1, .int (x1)), (2, .int (x2)), (3, .int (x3)), (4, .int (x4)), (5, .int (x5)), (6, .int (s.1))] [] s.2) (K := fun t => t = q) (K' := K_X9_copy_91 Δ Γ q x0 x1 x2 x3 x4 x5 ) (fun _ h => h) (fun _ h => h) ?_ s q hF rfl
  clear hF
  intro s z hF hK
  refine v_iload C 6 6 dX9_copy_91 rfl ?_
  refine v_iload C 5 5 dX9_copy_93 rfl ?_
  refine v_icmp_ge C 125 dX9_copy_95 (by decide) (fun c5 => ?_) (fun c5 => ?_)
  · have hF := ifp hF c5
    refine v_iconst C (0) dX9_copy_125 (by decide) ?_
    refine v_istore C 6 (ll' := [(6, _), (0, _), (1, _), (2, _), (3, _), (4, _), (5, _)]) dX9_copy_126 (by decide) rfl ?_
    refine v_sub [1, 4, 5, 6, 0] (ll' := [(0, _), (3, _), (4, _), (5, _), (6, _)]) rfl ?_
    obtain ⟨z, hz, e⟩ := mapd hF
    subst e
    exact W_X9_copy_128 C hq h0 hd (hz.trans (congrArg some hK))
  · have hF := ifn hF c5
    refine v_aload_n C 0 0 dX9_copy_98 rfl rfl ?_
    obtain ⟨p7, g6, hF⟩ := bnd hF
    refine v_gR C fu_X9_28 g6 dX9_copy_99 ?_
    refine v_iload C 6 6 dX9_copy_102 rfl ?_
    refine v_aload_n C 0 0 dX9_copy_104 rfl rfl ?_
    obtain ⟨p9, g8, hF⟩ := bnd hF
    refine v_gR C fu_X9_16 g8 dX9_copy_105 ?_
    refine v_bipush C (40) dX9_copy_108 (by decide) ?_
    refine v_iload_n C 1 1 dX9_copy_110 rfl rfl ?_
    refine v_imul C dX9_copy_111 ?_
    refine v_iload_n C 2 2 dX9_copy_112 rfl rfl ?_
    refine v_iadd C dX9_copy_113 ?_
    refine v_iload C 6 6 dX9_copy_114 rfl ?_
    refine v_iadd C dX9_copy_116 ?_
    obtain ⟨v10, g11, hF⟩ := bnd hF
    refine v_aI C g11 dX9_copy_117 ?_
    obtain ⟨m12, g13, hF⟩ := bnd hF
    refine v_sI C g13 dX9_copy_118 ?_
    refine v_iinc C (_ + (1 : Int32)) 6 (ll' := [(6, _), (0, _), (1, _), (2, _), (3, _), (4, _), (5, _)]) dX9_copy_119 rfl (inc_eq (by decide)) (by decide) rfl ?_
    refine v_goto C 91 dX9_copy_122 (by decide) ?_
    refine v_sub [1, 2, 3, 4, 5, 6, 0] (ll' := [(0, _), (1, _), (2, _), (3, _), (4, _), (5, _), (6, _)]) rfl ?_
    cases hF
    exact hK
set_option maxRecDepth 20000 in
set_option maxHeartbeats 2000000 in
theorem M_X9_copy {Δ : DD} {d : Nat} {x0 : Nat} {x1 : Int32} {x2 : Int32} {x3 : Int32} {x4 : Int32} {x5 : Int32} {σ : Mem} {q : (Int32 × Mem)} (hd : 3 ≤ d) (h0 : isK 9 x0 = true) (hF : F_X9_copy x0 x1 x2 x3 x4 x5 σ = some q) : Mt Δ d yX9_copy cX9_copy 7 (some .int) [rf Δ x0, .int x1, .int x2, .int x3, .int x4, .int x5] σ (some (.int q.1)) q.2 := by
  obtain ⟨d, rfl⟩ : ∃ e, d = e + 1 := ⟨d - 1, by omega⟩
  have hd : 2 ≤ d := by omega
  refine mt_of (by decide) rfl (Nat.le_of_ble_eq_true rfl) (fun Γ C hq => ?_)
  unfold F_X9_copy at hF
  show V Δ Γ 7 0 [(0, rf Δ (x0)), (1, .int (x1)), (2, .int (x2)), (3, .int (x3)), (4, .int (x4)), (5, .int (x5))] [] σ
  refine v_iload_n C 1 1 dX9_copy_0 rfl rfl ?_
  obtain ⟨q23, g24, hF⟩ := bnd hF
  refine v_cSi C mw_X9_isRow lk_X9_59 _ (M_X9_isRow (by omega) g24) rfl rfl (Nat.le_of_ble_eq_true rfl) dX9_copy_1 ?_
  refine v_if_eq C 14 dX9_copy_4 (by decide) (fun c25 => ?_) (fun c25 => ?_)
  · have hF := ifp hF c25
    refine v_iconst C (-1) dX9_copy_14 (by decide) ?_
    exact v_iretF C hq (Option.some.inj hF) dX9_copy_15
  · have hF := ifn hF c25
    refine v_iload_n C 3 3 dX9_copy_7 rfl rfl ?_
    obtain ⟨q26, g27, hF⟩ := bnd hF
    refine v_cSi C mw_X9_isRow lk_X9_59 _ (M_X9_isRow (by omega) g27) rfl rfl (Nat.le_of_ble_eq_true rfl) dX9_copy_8 ?_
    refine v_if_ne C 16 dX9_copy_11 (by decide) (fun c28 => ?_) (fun c28 => ?_)
    · have hF := ifn hF c28
      refine v_iload C 5 5 dX9_copy_16 rfl ?_
      refine v_if_ge C 27 dX9_copy_18 (by decide) (fun c29 => ?_) (fun c29 => ?_)
      · have hF := ifp hF c29
        refine v_aload_n C 0 0 dX9_copy_27 rfl rfl ?_
        obtain ⟨p31, g30, hF⟩ := bnd hF
        refine v_gR C fu_X9_19 g30 dX9_copy_28 ?_
        refine v_iload_n C 1 1 dX9_copy_31 rfl rfl ?_
        obtain ⟨v32, g33, hF⟩ := bnd hF
        refine v_aI C g33 dX9_copy_32 ?_
        refine v_if_lt C 45 dX9_copy_33 (by decide) (fun c34 => ?_) (fun c34 => ?_)
        · have hF := ifp hF c34
          refine v_sub [0] (ll' := [(0, _)]) rfl ?_
          exact W_X9_copy_45 C hq h0 hd hF
        · have hF := ifn hF c34
          refine v_aload_n C 0 0 dX9_copy_36 rfl rfl ?_
          obtain ⟨p36, g35, hF⟩ := bnd hF
          refine v_gR C fu_X9_19 g35 dX9_copy_37 ?_
          refine v_iload_n C 3 3 dX9_copy_40 rfl rfl ?_
          obtain ⟨v37, g38, hF⟩ := bnd hF
          refine v_aI C g38 dX9_copy_41 ?_
          refine v_if_ge C 51 dX9_copy_42 (by decide) (fun c39 => ?_) (fun c39 => ?_)
          · have hF := ifp hF c39
            refine v_iload_n C 2 2 dX9_copy_51 rfl rfl ?_
            refine v_iload C 5 5 dX9_copy_52 rfl ?_
            refine v_aload_n C 0 0 dX9_copy_54 rfl rfl ?_
            obtain ⟨p41, g40, hF⟩ := bnd hF
            refine v_gR C fu_X9_19 g40 dX9_copy_55 ?_
            refine v_iload_n C 1 1 dX9_copy_58 rfl rfl ?_
            obtain ⟨v42, g43, hF⟩ := bnd hF
            refine v_aI C g43 dX9_copy_59 ?_
            obtain ⟨q44, g45, hF⟩ := bnd hF
            refine v_cSi C mw_X9_fits lk_X9_78 _ (M_X9_fits (by omega) g45) rfl rfl (Nat.le_of_ble_eq_true rfl) dX9_copy_60 ?_
            refine v_if_eq C 82 dX9_copy_63 (by decide) (fun c46 => ?_) (fun c46 => ?_)
            · have hF := ifp hF c46
              refine v_sub [0] (ll' := [(0, _)]) rfl ?_
              exact W_X9_copy_82 C hq h0 hd hF
            · have hF := ifn hF c46
              refine v_iload C 4 4 dX9_copy_66 rfl ?_
              refine v_iload C 5 5 dX9_copy_68 rfl ?_
              refine v_aload_n C 0 0 dX9_copy_70 rfl rfl ?_
              obtain ⟨p48, g47, hF⟩ := bnd hF
              refine v_gR C fu_X9_19 g47 dX9_copy_71 ?_
              refine v_iload_n C 3 3 dX9_copy_74 rfl rfl ?_
              obtain ⟨v49, g50, hF⟩ := bnd hF
              refine v_aI C g50 dX9_copy_75 ?_
              obtain ⟨q51, g52, hF⟩ := bnd hF
              refine v_cSi C mw_X9_fits lk_X9_78 _ (M_X9_fits (by omega) g52) rfl rfl (Nat.le_of_ble_eq_true rfl) dX9_copy_76 ?_
              refine v_if_ne C 88 dX9_copy_79 (by decide) (fun c53 => ?_) (fun c53 => ?_)
              · have hF := ifn hF c53
                refine v_iconst C (0) dX9_copy_88 (by decide) ?_
                refine v_istore C 6 (ll' := [(6, _), (0, _), (1, _), (2, _), (3, _), (4, _), (5, _)]) dX9_copy_89 (by decide) rfl ?_
                refine v_sub [1, 2, 3, 4, 5, 6, 0] (ll' := [(0, _), (1, _), (2, _), (3, _), (4, _), (5, _), (6, _)]) rfl ?_
                exact W_X9_copy_91 C hq h0 hd hF
              · have hF := ifp hF c53
                refine v_sub [0] (ll' := [(0, _)]) rfl ?_
                exact W_X9_copy_82 C hq h0 hd hF
          · have hF := ifn hF c39
            refine v_sub [0] (ll' := [(0, _)]) rfl ?_
            exact W_X9_copy_45 C hq h0 hd hF
      · have hF := ifn hF c29
        refine v_aload_n C 0 0 dX9_copy_21 rfl rfl ?_
        refine v_iconst C (5) dX9_copy_22 (by decide) ?_
        obtain ⟨q54, g55, hF⟩ := bnd hF
        refine v_cVi C mw_X9_found lk_X9_63 _ (M_X9_found (by omega) h0 g55) h0 rfl rfl (Nat.le_of_ble_eq_true rfl) dX9_copy_23 ?_
        exact v_iretF C hq (Option.some.inj hF) dX9_copy_26
    · have hF := ifp hF c28
      refine v_iconst C (-1) dX9_copy_14 (by decide) ?_
      exact v_iretF C hq (Option.some.inj hF) dX9_copy_15
def K_X9_mean_44 (Δ : DD) (Γ : GG) (q : (Int32 × Mem)) (x0 : Nat) (x1 : Int32) (σ : Mem) (y : (Int64 × Int32) ⊕ (Int32 × Mem)) : Prop := match y with
  | .inl s => V Δ Γ 5 44 [(0, rf Δ (x0)), (1, .int (x1)), (2, .long (s.1)), (4, .int (s.2))] [] σ
  | .inr t => (t = q)
set_option maxRecDepth 20000 in
set_option maxHeartbeats 2000000 in
theorem W_X9_mean_44 {Δ : DD} {Γ : GG} {d : Nat} {q : (Int32 × Mem)} {x0 : Nat} {x1 : Int32} {σ : Mem} (C : Cx Δ Γ RX9 cX9_mean 5 d (some .int)) (hq : RetQ Δ Γ (some (.int q.1)) q.2) (h0 : isK 9 x0 = true) (hd : 2 ≤ d) {s : Int64 × Int32} (hF : F_X9_mean_44 x0 x1 σ s = some q) : V Δ Γ 5 44 [(0, rf Δ (x0)), (1, .int (x1)), (2, .long (s.1)), (4, .int (s.2))] [] σ := by
  have hF : F_X9_mean_44 x0 x1 σ s = some q := hF
  refine lp_V (W := fun (s : Int64 × Int32) => V Δ Γ 5 44 [(0, rf Δ (x0)), (1, .int (x1)), (2, .long (s.1)), (4, .int (s.2))] [] σ) (K := fun t => t = q) (K' := K_X9_mean_44 Δ Γ q x0 x1 σ) (fun _ h => h) (fun _ h => h) ?_ s q hF rfl
  clear hF
  intro s z hF hK
  refine v_iload C 4 3 dX9_mean_44 rfl ?_
  refine v_aload_n C 0 0 dX9_mean_46 rfl rfl ?_
  obtain ⟨p2, g1, hF⟩ := bnd hF
  refine v_gR C fu_X9_19 g1 dX9_mean_47 ?_
  refine v_iload_n C 1 1 dX9_mean_50 rfl rfl ?_
  obtain ⟨v3, g4, hF⟩ := bnd hF
  refine v_aI C g4 dX9_mean_51 ?_
  refine v_icmp_ge C 77 dX9_mean_52 (by decide) (fun c5 => ?_) (fun c5 => ?_)
  · have hF := ifp hF c5
    refine v_aload_n C 0 0 dX9_mean_77 rfl rfl ?_
    refine v_lload_n C 2 2 dX9_mean_78 rfl rfl ?_
    refine v_aload_n C 0 0 dX9_mean_79 rfl rfl ?_
    obtain ⟨p7, g6, hF⟩ := bnd hF
    refine v_gR C fu_X9_19 g6 dX9_mean_80 ?_
    refine v_iload_n C 1 1 dX9_mean_83 rfl rfl ?_
    obtain ⟨v8, g9, hF⟩ := bnd hF
    refine v_aI C g9 dX9_mean_84 ?_
    refine v_i2l C dX9_mean_85 ?_
    obtain ⟨_, g10, hF⟩ := bnd hF
    refine v_ldiv C dX9_mean_86 (nzL_ne g10) ?_
    refine v_l2i C dX9_mean_87 ?_
    refine v_iconst C (1) dX9_mean_88 (by decide) ?_
    obtain ⟨q11, g12, hF⟩ := bnd hF
    refine v_cVi C mw_X9_tells lk_X9_75 _ (M_X9_tells (by omega) h0 g12) h0 rfl rfl (Nat.le_of_ble_eq_true rfl) dX9_mean_89 ?_
    cases hF
    exact v_iretF C hq hK dX9_mean_92
  · have hF := ifn hF c5
    refine v_lload_n C 2 2 dX9_mean_55 rfl rfl ?_
    refine v_aload_n C 0 0 dX9_mean_56 rfl rfl ?_
    obtain ⟨p14, g13, hF⟩ := bnd hF
    refine v_gR C fu_X9_16 g13 dX9_mean_57 ?_
    refine v_bipush C (40) dX9_mean_60 (by decide) ?_
    refine v_iload_n C 1 1 dX9_mean_62 rfl rfl ?_
    refine v_imul C dX9_mean_63 ?_
    refine v_iload C 4 3 dX9_mean_64 rfl ?_
    refine v_iadd C dX9_mean_66 ?_
    obtain ⟨v15, g16, hF⟩ := bnd hF
    refine v_aI C g16 dX9_mean_67 ?_
    refine v_i2l C dX9_mean_68 ?_
    refine v_ladd C dX9_mean_69 ?_
    refine v_lstore_n C 2 (ll' := [(2, _), (0, _), (1, _), (4, _)]) dX9_mean_70 rfl (by decide) rfl ?_
    refine v_iinc C (_ + (1 : Int32)) 3 (ll' := [(4, _), (2, _), (0, _), (1, _)]) dX9_mean_71 rfl (inc_eq (by decide)) (by decide) rfl ?_
    refine v_goto C 44 dX9_mean_74 (by decide) ?_
    refine v_sub [2, 3, 1, 0] (ll' := [(0, _), (1, _), (2, _), (4, _)]) rfl ?_
    cases hF
    exact hK
set_option maxRecDepth 20000 in
set_option maxHeartbeats 2000000 in
theorem M_X9_mean {Δ : DD} {d : Nat} {x0 : Nat} {x1 : Int32} {σ : Mem} {q : (Int32 × Mem)} (hd : 3 ≤ d) (h0 : isK 9 x0 = true) (hF : F_X9_mean x0 x1 σ = some q) : Mt Δ d yX9_mean cX9_mean 5 (some .int) [rf Δ x0, .int x1] σ (some (.int q.1)) q.2 := by
  obtain ⟨d, rfl⟩ : ∃ e, d = e + 1 := ⟨d - 1, by omega⟩
  have hd : 2 ≤ d := by omega
  refine mt_of (by decide) rfl (Nat.le_of_ble_eq_true rfl) (fun Γ C hq => ?_)
  unfold F_X9_mean at hF
  show V Δ Γ 5 0 [(0, rf Δ (x0)), (1, .int (x1))] [] σ
  refine v_iload_n C 1 1 dX9_mean_0 rfl rfl ?_
  obtain ⟨q17, g18, hF⟩ := bnd hF
  refine v_cSi C mw_X9_isRow lk_X9_59 _ (M_X9_isRow (by omega) g18) rfl rfl (Nat.le_of_ble_eq_true rfl) dX9_mean_1 ?_
  refine v_if_ne C 9 dX9_mean_4 (by decide) (fun c19 => ?_) (fun c19 => ?_)
  · have hF := ifn hF c19
    refine v_aload_n C 0 0 dX9_mean_9 rfl rfl ?_
    obtain ⟨p21, g20, hF⟩ := bnd hF
    refine v_gR C fu_X9_19 g20 dX9_mean_10 ?_
    refine v_iload_n C 1 1 dX9_mean_13 rfl rfl ?_
    obtain ⟨v22, g23, hF⟩ := bnd hF
    refine v_aI C g23 dX9_mean_14 ?_
    refine v_if_ge C 24 dX9_mean_15 (by decide) (fun c24 => ?_) (fun c24 => ?_)
    · have hF := ifp hF c24
      refine v_aload_n C 0 0 dX9_mean_24 rfl rfl ?_
      obtain ⟨p26, g25, hF⟩ := bnd hF
      refine v_gR C fu_X9_19 g25 dX9_mean_25 ?_
      refine v_iload_n C 1 1 dX9_mean_28 rfl rfl ?_
      obtain ⟨v27, g28, hF⟩ := bnd hF
      refine v_aI C g28 dX9_mean_29 ?_
      refine v_if_ne C 39 dX9_mean_30 (by decide) (fun c29 => ?_) (fun c29 => ?_)
      · have hF := ifn hF c29
        refine v_lconst C 0 dX9_mean_39 (by decide) ?_
        refine v_lstore_n C 2 (ll' := [(2, _), (0, _), (1, _)]) dX9_mean_40 rfl (by decide) rfl ?_
        refine v_iconst C (0) dX9_mean_41 (by decide) ?_
        refine v_istore C 4 (ll' := [(4, _), (2, _), (0, _), (1, _)]) dX9_mean_42 (by decide) rfl ?_
        refine v_sub [2, 3, 1, 0] (ll' := [(0, _), (1, _), (2, _), (4, _)]) rfl ?_
        exact W_X9_mean_44 C hq h0 hd hF
      · have hF := ifp hF c29
        refine v_aload_n C 0 0 dX9_mean_33 rfl rfl ?_
        refine v_iconst C (4) dX9_mean_34 (by decide) ?_
        obtain ⟨q30, g31, hF⟩ := bnd hF
        refine v_cVi C mw_X9_found lk_X9_63 _ (M_X9_found (by omega) h0 g31) h0 rfl rfl (Nat.le_of_ble_eq_true rfl) dX9_mean_35 ?_
        exact v_iretF C hq (Option.some.inj hF) dX9_mean_38
    · have hF := ifn hF c24
      refine v_aload_n C 0 0 dX9_mean_18 rfl rfl ?_
      refine v_iconst C (1) dX9_mean_19 (by decide) ?_
      obtain ⟨q32, g33, hF⟩ := bnd hF
      refine v_cVi C mw_X9_found lk_X9_63 _ (M_X9_found (by omega) h0 g33) h0 rfl rfl (Nat.le_of_ble_eq_true rfl) dX9_mean_20 ?_
      exact v_iretF C hq (Option.some.inj hF) dX9_mean_23
  · have hF := ifp hF c19
    refine v_iconst C (-1) dX9_mean_7 (by decide) ?_
    exact v_iretF C hq (Option.some.inj hF) dX9_mean_8
def K_X9_text_34 (Δ : DD) (Γ : GG) (q : (Int32 × Mem)) (x0 : Nat) (x1 : Int32) (x2 : Int32) (y : (Int32 × Mem) ⊕ (Int32 × Mem)) : Prop := match y with
  | .inl s => V Δ Γ 4 34 [(0, rf Δ (x0)), (1, .int (x1)), (2, .int (x2)), (3, .int (s.1))] [] s.2
  | .inr t => (t = q)
set_option maxRecDepth 20000 in
set_option maxHeartbeats 2000000 in
theorem W_X9_text_34 {Δ : DD} {Γ : GG} {d : Nat} {q : (Int32 × Mem)} {x0 : Nat} {x1 : Int32} {x2 : Int32} (C : Cx Δ Γ RX9 cX9_text 4 d (some .int)) (hq : RetQ Δ Γ (some (.int q.1)) q.2) (h0 : isK 9 x0 = true) (hd : 2 ≤ d) {s : Int32 × Mem} (hF : F_X9_text_34 x0 x1 x2  s = some q) : V Δ Γ 4 34 [(0, rf Δ (x0)), (1, .int (x1)), (2, .int (x2)), (3, .int (s.1))] [] s.2 := by
  have hF : F_X9_text_34 x0 x1 x2  s = some q := hF
  refine lp_V (W := fun (s : Int32 × Mem) => V Δ Γ 4 34 [(0, rf Δ (x0)), (1, .int (x1)), (2, .int (x2)), (3, .int (s.1))] [] s.2) (K := fun t => t = q) (K' := K_X9_text_34 Δ Γ q x0 x1 x2 ) (fun _ h => h) (fun _ h => h) ?_ s q hF rfl
  clear hF
  intro s z hF hK
  refine v_iload_n C 3 3 dX9_text_34 rfl rfl ?_
  refine v_bipush C (60) dX9_text_35 (by decide) ?_
  refine v_icmp_ge C 59 dX9_text_37 (by decide) (fun c1 => ?_) (fun c1 => ?_)
  · have hF := ifp hF c1
    refine v_iload_n C 2 2 dX9_text_59 rfl rfl ?_
    cases hF
    exact v_iretF C hq hK dX9_text_60
  · have hF := ifn hF c1
    refine v_aload_n C 0 0 dX9_text_40 rfl rfl ?_
    obtain ⟨p3, g2, hF⟩ := bnd hF
    refine v_gR C fu_X9_22 g2 dX9_text_41 ?_
    refine v_bipush C (60) dX9_text_44 (by decide) ?_
    refine v_iload_n C 1 1 dX9_text_46 rfl rfl ?_
    refine v_imul C dX9_text_47 ?_
    refine v_iload_n C 3 3 dX9_text_48 rfl rfl ?_
    refine v_iadd C dX9_text_49 ?_
    refine v_bipush C (32) dX9_text_50 (by decide) ?_
    obtain ⟨m4, g5, hF⟩ := bnd hF
    refine v_sI C g5 dX9_text_52 ?_
    refine v_iinc C (_ + (1 : Int32)) 3 (ll' := [(3, _), (0, _), (1, _), (2, _)]) dX9_text_53 rfl (inc_eq (by decide)) (by decide) rfl ?_
    refine v_goto C 34 dX9_text_56 (by decide) ?_
    refine v_sub [1, 2, 3, 0] (ll' := [(0, _), (1, _), (2, _), (3, _)]) rfl ?_
    cases hF
    exact hK
set_option maxRecDepth 20000 in
set_option maxHeartbeats 2000000 in
theorem M_X9_text {Δ : DD} {d : Nat} {x0 : Nat} {x1 : Int32} {x2 : Int32} {σ : Mem} {q : (Int32 × Mem)} (hd : 3 ≤ d) (h0 : isK 9 x0 = true) (hF : F_X9_text x0 x1 x2 σ = some q) : Mt Δ d yX9_text cX9_text 4 (some .int) [rf Δ x0, .int x1, .int x2] σ (some (.int q.1)) q.2 := by
  obtain ⟨d, rfl⟩ : ∃ e, d = e + 1 := ⟨d - 1, by omega⟩
  have hd : 2 ≤ d := by omega
  refine mt_of (by decide) rfl (Nat.le_of_ble_eq_true rfl) (fun Γ C hq => ?_)
  unfold F_X9_text at hF
  show V Δ Γ 4 0 [(0, rf Δ (x0)), (1, .int (x1)), (2, .int (x2))] [] σ
  refine v_iload_n C 1 1 dX9_text_0 rfl rfl ?_
  obtain ⟨q6, g7, hF⟩ := bnd hF
  refine v_cSi C mw_X9_isText lk_X9_82 _ (M_X9_isText (by omega) g7) rfl rfl (Nat.le_of_ble_eq_true rfl) dX9_text_1 ?_
  refine v_if_eq C 13 dX9_text_4 (by decide) (fun c8 => ?_) (fun c8 => ?_)
  · have hF := ifp hF c8
    refine v_iconst C (-1) dX9_text_13 (by decide) ?_
    exact v_iretF C hq (Option.some.inj hF) dX9_text_14
  · have hF := ifn hF c8
    refine v_iload_n C 2 2 dX9_text_7 rfl rfl ?_
    refine v_bipush C (60) dX9_text_8 (by decide) ?_
    refine v_icmp_le C 15 dX9_text_10 (by decide) (fun c9 => ?_) (fun c9 => ?_)
    · have hF := ifp hF c9
      refine v_iload_n C 2 2 dX9_text_15 rfl rfl ?_
      refine v_if_ge C 25 dX9_text_16 (by decide) (fun c10 => ?_) (fun c10 => ?_)
      · have hF := ifp hF c10
        refine v_aload_n C 0 0 dX9_text_25 rfl rfl ?_
        obtain ⟨p12, g11, hF⟩ := bnd hF
        refine v_gR C fu_X9_25 g11 dX9_text_26 ?_
        refine v_iload_n C 1 1 dX9_text_29 rfl rfl ?_
        refine v_iload_n C 2 2 dX9_text_30 rfl rfl ?_
        obtain ⟨m13, g14, hF⟩ := bnd hF
        refine v_sI C g14 dX9_text_31 ?_
        refine v_iconst C (0) dX9_text_32 (by decide) ?_
        refine v_istore_n C 3 (ll' := [(3, _), (0, _), (1, _), (2, _)]) dX9_text_33 rfl (by decide) rfl ?_
        refine v_sub [1, 2, 3, 0] (ll' := [(0, _), (1, _), (2, _), (3, _)]) rfl ?_
        exact W_X9_text_34 C hq h0 hd hF
      · have hF := ifn hF c10
        refine v_aload_n C 0 0 dX9_text_19 rfl rfl ?_
        refine v_iconst C (5) dX9_text_20 (by decide) ?_
        obtain ⟨q15, g16, hF⟩ := bnd hF
        refine v_cVi C mw_X9_found lk_X9_63 _ (M_X9_found (by omega) h0 g16) h0 rfl rfl (Nat.le_of_ble_eq_true rfl) dX9_text_21 ?_
        exact v_iretF C hq (Option.some.inj hF) dX9_text_24
    · have hF := ifn hF c9
      refine v_iconst C (-1) dX9_text_13 (by decide) ?_
      exact v_iretF C hq (Option.some.inj hF) dX9_text_14
set_option maxRecDepth 20000 in
set_option maxHeartbeats 2000000 in
theorem M_X9_put {Δ : DD} {d : Nat} {x0 : Nat} {x1 : Int32} {x2 : Int32} {x3 : Int32} {σ : Mem} {q : (Int32 × Mem)} (hd : 3 ≤ d) (h0 : isK 9 x0 = true) (hF : F_X9_put x0 x1 x2 x3 σ = some q) : Mt Δ d yX9_put cX9_put 5 (some .int) [rf Δ x0, .int x1, .int x2, .int x3] σ (some (.int q.1)) q.2 := by
  obtain ⟨d, rfl⟩ : ∃ e, d = e + 1 := ⟨d - 1, by omega⟩
  have hd : 2 ≤ d := by omega
  refine mt_of (by decide) rfl (Nat.le_of_ble_eq_true rfl) (fun Γ C hq => ?_)
  unfold F_X9_put at hF
  show V Δ Γ 5 0 [(0, rf Δ (x0)), (1, .int (x1)), (2, .int (x2)), (3, .int (x3))] [] σ
  refine v_iload_n C 1 1 dX9_put_0 rfl rfl ?_
  obtain ⟨q1, g2, hF⟩ := bnd hF
  refine v_cSi C mw_X9_isText lk_X9_82 _ (M_X9_isText (by omega) g2) rfl rfl (Nat.le_of_ble_eq_true rfl) dX9_put_1 ?_
  refine v_if_ne C 9 dX9_put_4 (by decide) (fun c3 => ?_) (fun c3 => ?_)
  · have hF := ifn hF c3
    refine v_aload_n C 0 0 dX9_put_9 rfl rfl ?_
    obtain ⟨p5, g4, hF⟩ := bnd hF
    refine v_gR C fu_X9_25 g4 dX9_put_10 ?_
    refine v_iload_n C 1 1 dX9_put_13 rfl rfl ?_
    obtain ⟨v6, g7, hF⟩ := bnd hF
    refine v_aI C g7 dX9_put_14 ?_
    refine v_if_ge C 24 dX9_put_15 (by decide) (fun c8 => ?_) (fun c8 => ?_)
    · have hF := ifp hF c8
      refine v_iload_n C 2 2 dX9_put_24 rfl rfl ?_
      refine v_i2l C dX9_put_25 ?_
      refine v_lconst C 0 dX9_put_26 (by decide) ?_
      refine v_aload_n C 0 0 dX9_put_27 rfl rfl ?_
      obtain ⟨p10, g9, hF⟩ := bnd hF
      refine v_gR C fu_X9_25 g9 dX9_put_28 ?_
      refine v_iload_n C 1 1 dX9_put_31 rfl rfl ?_
      obtain ⟨v11, g12, hF⟩ := bnd hF
      refine v_aI C g12 dX9_put_32 ?_
      refine v_iconst C (1) dX9_put_33 (by decide) ?_
      refine v_isub C dX9_put_34 ?_
      refine v_i2l C dX9_put_35 ?_
      obtain ⟨q13, g14, hF⟩ := bnd hF
      refine v_cSi C mw_X9_in lk_X9_53 _ (M_X9_in (by omega) g14) rfl rfl (Nat.le_of_ble_eq_true rfl) dX9_put_36 ?_
      refine v_if_ne C 48 dX9_put_39 (by decide) (fun c15 => ?_) (fun c15 => ?_)
      · have hF := ifn hF c15
        refine v_aload_n C 0 0 dX9_put_48 rfl rfl ?_
        obtain ⟨p17, g16, hF⟩ := bnd hF
        refine v_gR C fu_X9_22 g16 dX9_put_49 ?_
        refine v_bipush C (60) dX9_put_52 (by decide) ?_
        refine v_iload_n C 1 1 dX9_put_54 rfl rfl ?_
        refine v_imul C dX9_put_55 ?_
        refine v_iload_n C 2 2 dX9_put_56 rfl rfl ?_
        refine v_iadd C dX9_put_57 ?_
        obtain ⟨v18, g19, hF⟩ := bnd hF
        refine v_aI C g19 dX9_put_58 ?_
        refine v_istore C 4 (ll' := [(4, _), (0, _), (1, _), (2, _), (3, _)]) dX9_put_59 (by decide) rfl ?_
        refine v_aload_n C 0 1 dX9_put_61 rfl rfl ?_
        obtain ⟨p21, g20, hF⟩ := bnd hF
        refine v_gR C fu_X9_22 g20 dX9_put_62 ?_
        refine v_bipush C (60) dX9_put_65 (by decide) ?_
        refine v_iload_n C 1 2 dX9_put_67 rfl rfl ?_
        refine v_imul C dX9_put_68 ?_
        refine v_iload_n C 2 3 dX9_put_69 rfl rfl ?_
        refine v_iadd C dX9_put_70 ?_
        refine v_iload_n C 3 4 dX9_put_71 rfl rfl ?_
        refine v_i2b C dX9_put_72 ?_
        obtain ⟨m22, g23, hF⟩ := bnd hF
        refine v_sI C g23 dX9_put_73 ?_
        refine v_iload C 4 0 dX9_put_74 rfl ?_
        refine v_sipush C (1000) dX9_put_76 (by decide) ?_
        refine v_iadd C dX9_put_79 ?_
        exact v_iretF C hq (Option.some.inj hF) dX9_put_80
      · have hF := ifp hF c15
        refine v_aload_n C 0 0 dX9_put_42 rfl rfl ?_
        refine v_iconst C (2) dX9_put_43 (by decide) ?_
        obtain ⟨q24, g25, hF⟩ := bnd hF
        refine v_cVi C mw_X9_found lk_X9_63 _ (M_X9_found (by omega) h0 g25) h0 rfl rfl (Nat.le_of_ble_eq_true rfl) dX9_put_44 ?_
        exact v_iretF C hq (Option.some.inj hF) dX9_put_47
    · have hF := ifn hF c8
      refine v_aload_n C 0 0 dX9_put_18 rfl rfl ?_
      refine v_iconst C (1) dX9_put_19 (by decide) ?_
      obtain ⟨q26, g27, hF⟩ := bnd hF
      refine v_cVi C mw_X9_found lk_X9_63 _ (M_X9_found (by omega) h0 g27) h0 rfl rfl (Nat.le_of_ble_eq_true rfl) dX9_put_20 ?_
      exact v_iretF C hq (Option.some.inj hF) dX9_put_23
  · have hF := ifp hF c3
    refine v_iconst C (-1) dX9_put_7 (by decide) ?_
    exact v_iretF C hq (Option.some.inj hF) dX9_put_8
set_option maxRecDepth 20000 in
set_option maxHeartbeats 2000000 in
theorem M_X9_kindOf {Δ : DD} {d : Nat} {x0 : Int32} {σ : Mem} {q : Int32} (hd : 1 ≤ d) (hF : F_X9_kindOf x0 σ = some q) : Mt Δ d yX9_kindOf cX9_kindOf 1 (some .int) [.int x0] σ (some (.int q)) σ := by
  obtain ⟨d, rfl⟩ : ∃ e, d = e + 1 := ⟨d - 1, by omega⟩
  have hd : 0 ≤ d := by omega
  refine mt_of (by decide) rfl (Nat.le_of_ble_eq_true rfl) (fun Γ C hq => ?_)
  unfold F_X9_kindOf at hF
  show V Δ Γ 1 0 [(0, .int (x0))] [] σ
  refine v_iload_n C 0 0 dX9_kindOf_0 rfl rfl ?_
  refine v_bipush C (98) dX9_kindOf_1 (by decide) ?_
  refine v_icmp_ne C 10 dX9_kindOf_3 (by decide) (fun c1 => ?_) (fun c1 => ?_)
  · have hF := ifn hF c1
    refine v_iload_n C 0 0 dX9_kindOf_10 rfl rfl ?_
    refine v_bipush C (115) dX9_kindOf_11 (by decide) ?_
    refine v_icmp_ne C 20 dX9_kindOf_13 (by decide) (fun c2 => ?_) (fun c2 => ?_)
    · have hF := ifn hF c2
      refine v_iload_n C 0 0 dX9_kindOf_20 rfl rfl ?_
      refine v_bipush C (113) dX9_kindOf_21 (by decide) ?_
      refine v_icmp_ne C 30 dX9_kindOf_23 (by decide) (fun c3 => ?_) (fun c3 => ?_)
      · have hF := ifn hF c3
        refine v_iload_n C 0 0 dX9_kindOf_30 rfl rfl ?_
        refine v_bipush C (99) dX9_kindOf_31 (by decide) ?_
        refine v_icmp_ne C 40 dX9_kindOf_33 (by decide) (fun c4 => ?_) (fun c4 => ?_)
        · have hF := ifn hF c4
          refine v_iload_n C 0 0 dX9_kindOf_40 rfl rfl ?_
          refine v_bipush C (116) dX9_kindOf_41 (by decide) ?_
          refine v_icmp_ne C 50 dX9_kindOf_43 (by decide) (fun c5 => ?_) (fun c5 => ?_)
          · have hF := ifn hF c5
            refine v_iload_n C 0 0 dX9_kindOf_50 rfl rfl ?_
            refine v_bipush C (119) dX9_kindOf_51 (by decide) ?_
            refine v_icmp_ne C 60 dX9_kindOf_53 (by decide) (fun c6 => ?_) (fun c6 => ?_)
            · have hF := ifn hF c6
              refine v_iconst C (-1) dX9_kindOf_60 (by decide) ?_
              exact v_iretP C hq (Option.some.inj hF) dX9_kindOf_61
            · have hF := ifp hF c6
              refine v_iconst C (5) dX9_kindOf_56 (by decide) ?_
              refine v_goto C 61 dX9_kindOf_57 (by decide) ?_
              exact v_iretP C hq (Option.some.inj hF) dX9_kindOf_61
          · have hF := ifp hF c5
            refine v_iconst C (4) dX9_kindOf_46 (by decide) ?_
            refine v_goto C 61 dX9_kindOf_47 (by decide) ?_
            exact v_iretP C hq (Option.some.inj hF) dX9_kindOf_61
        · have hF := ifp hF c4
          refine v_iconst C (3) dX9_kindOf_36 (by decide) ?_
          refine v_goto C 61 dX9_kindOf_37 (by decide) ?_
          exact v_iretP C hq (Option.some.inj hF) dX9_kindOf_61
      · have hF := ifp hF c3
        refine v_iconst C (2) dX9_kindOf_26 (by decide) ?_
        refine v_goto C 61 dX9_kindOf_27 (by decide) ?_
        exact v_iretP C hq (Option.some.inj hF) dX9_kindOf_61
    · have hF := ifp hF c2
      refine v_iconst C (1) dX9_kindOf_16 (by decide) ?_
      refine v_goto C 61 dX9_kindOf_17 (by decide) ?_
      exact v_iretP C hq (Option.some.inj hF) dX9_kindOf_61
  · have hF := ifp hF c1
    refine v_iconst C (0) dX9_kindOf_6 (by decide) ?_
    refine v_goto C 61 dX9_kindOf_7 (by decide) ?_
    exact v_iretP C hq (Option.some.inj hF) dX9_kindOf_61
set_option maxRecDepth 20000 in
set_option maxHeartbeats 2000000 in
theorem M_X9_byteAt {Δ : DD} {d : Nat} {x0 : Nat} {x1 : Int32} {x2 : Int32} {σ : Mem} {q : Int32} (hd : 1 ≤ d) (h0 : isK 9 x0 = true) (hF : F_X9_byteAt x0 x1 x2 σ = some q) : Mt Δ d yX9_byteAt cX9_byteAt 3 (some .int) [rf Δ x0, .int x1, .int x2] σ (some (.int q)) σ := by
  obtain ⟨d, rfl⟩ : ∃ e, d = e + 1 := ⟨d - 1, by omega⟩
  have hd : 0 ≤ d := by omega
  refine mt_of (by decide) rfl (Nat.le_of_ble_eq_true rfl) (fun Γ C hq => ?_)
  unfold F_X9_byteAt at hF
  show V Δ Γ 3 0 [(0, rf Δ (x0)), (1, .int (x1)), (2, .int (x2))] [] σ
  refine v_iload_n C 2 2 dX9_byteAt_0 rfl rfl ?_
  refine v_aload_n C 0 0 dX9_byteAt_1 rfl rfl ?_
  obtain ⟨p2, g1, hF⟩ := bnd hF
  refine v_gR C fu_X9_25 g1 dX9_byteAt_2 ?_
  refine v_iload_n C 1 1 dX9_byteAt_5 rfl rfl ?_
  obtain ⟨v3, g4, hF⟩ := bnd hF
  refine v_aI C g4 dX9_byteAt_6 ?_
  refine v_icmp_ge C 24 dX9_byteAt_7 (by decide) (fun c5 => ?_) (fun c5 => ?_)
  · have hF := ifp hF c5
    refine v_sipush C (-1000) dX9_byteAt_24 (by decide) ?_
    exact v_iretP C hq (Option.some.inj hF) dX9_byteAt_27
  · have hF := ifn hF c5
    refine v_aload_n C 0 0 dX9_byteAt_10 rfl rfl ?_
    obtain ⟨p7, g6, hF⟩ := bnd hF
    refine v_gR C fu_X9_22 g6 dX9_byteAt_11 ?_
    refine v_bipush C (60) dX9_byteAt_14 (by decide) ?_
    refine v_iload_n C 1 1 dX9_byteAt_16 rfl rfl ?_
    refine v_imul C dX9_byteAt_17 ?_
    refine v_iload_n C 2 2 dX9_byteAt_18 rfl rfl ?_
    refine v_iadd C dX9_byteAt_19 ?_
    obtain ⟨v8, g9, hF⟩ := bnd hF
    refine v_aI C g9 dX9_byteAt_20 ?_
    refine v_goto C 27 dX9_byteAt_21 (by decide) ?_
    exact v_iretP C hq (Option.some.inj hF) dX9_byteAt_27
def K_X9_blanks_0 (Δ : DD) (Γ : GG) (q : Mem) (x0 : Nat) (x1 : Int32) (y : (Mem) ⊕ Mem) : Prop := match y with
  | .inl s => V Δ Γ 2 0 [(0, rf Δ (x0)), (1, .int (x1))] [] s
  | .inr t => (t = q)
set_option maxRecDepth 20000 in
set_option maxHeartbeats 2000000 in
theorem W_X9_blanks_0 {Δ : DD} {Γ : GG} {d : Nat} {q : Mem} {x0 : Nat} {x1 : Int32} (C : Cx Δ Γ RX9 cX9_blanks 2 d none) (hq : RetQ Δ Γ none q) (h0 : isK 9 x0 = true) (hd : 1 ≤ d) {s : Mem} (hF : F_X9_blanks_0 x0 x1  s = some q) : V Δ Γ 2 0 [(0, rf Δ (x0)), (1, .int (x1))] [] s := by
  have hF : F_X9_blanks_0 x0 x1  s = some q := hF
  refine lp_V (W := fun (s : Mem) => V Δ Γ 2 0 [(0, rf Δ (x0)), (1, .int (x1))] [] s) (K := fun t => t = q) (K' := K_X9_blanks_0 Δ Γ q x0 x1 ) (fun _ h => h) (fun _ h => h) ?_ s q hF rfl
  clear hF
  intro s z hF hK
  refine v_aload_n C 0 0 dX9_blanks_0 rfl rfl ?_
  refine v_iload_n C 1 1 dX9_blanks_1 rfl rfl ?_
  refine v_aload_n C 0 0 dX9_blanks_2 rfl rfl ?_
  obtain ⟨v2, g1, hF⟩ := bnd hF
  refine v_gI C fu_X9_85 g1 dX9_blanks_3 ?_
  obtain ⟨q3, g4, hF⟩ := bnd hF
  refine v_cVi C mw_X9_byteAt lk_X9_88 _ (M_X9_byteAt (by omega) h0 g4) h0 rfl rfl (Nat.le_of_ble_eq_true rfl) dX9_blanks_6 ?_
  refine v_bipush C (32) dX9_blanks_9 (by decide) ?_
  refine v_icmp_ne C 27 dX9_blanks_11 (by decide) (fun c5 => ?_) (fun c5 => ?_)
  · have hF := ifn hF c5
    cases hF
    exact v_vretF C hq hK dX9_blanks_27
  · have hF := ifp hF c5
    refine v_aload_n C 0 0 dX9_blanks_14 rfl rfl ?_
    refine v_dup C dX9_blanks_15 rfl ?_
    obtain ⟨v7, g6, hF⟩ := bnd hF
    refine v_gI C fu_X9_85 g6 dX9_blanks_16 ?_
    refine v_iconst C (1) dX9_blanks_19 (by decide) ?_
    refine v_iadd C dX9_blanks_20 ?_
    obtain ⟨m9, g8, hF⟩ := bnd hF
    refine v_pI C fp_X9_85 g8 dX9_blanks_21 ?_
    refine v_goto C 0 dX9_blanks_24 (by decide) ?_
    cases hF
    exact hK
set_option maxRecDepth 20000 in
set_option maxHeartbeats 2000000 in
theorem M_X9_blanks {Δ : DD} {d : Nat} {x0 : Nat} {x1 : Int32} {σ : Mem} {q : Mem} (hd : 2 ≤ d) (h0 : isK 9 x0 = true) (hF : F_X9_blanks x0 x1 σ = some q) : Mt Δ d yX9_blanks cX9_blanks 2 none [rf Δ x0, .int x1] σ none q := by
  obtain ⟨d, rfl⟩ : ∃ e, d = e + 1 := ⟨d - 1, by omega⟩
  have hd : 1 ≤ d := by omega
  refine mt_of (by decide) rfl (Nat.le_of_ble_eq_true rfl) (fun Γ C hq => ?_)
  unfold F_X9_blanks at hF
  show V Δ Γ 2 0 [(0, rf Δ (x0)), (1, .int (x1))] [] σ
  exact W_X9_blanks_0 C hq h0 hd hF
def K_X9_figures_3 (Δ : DD) (Γ : GG) (q : (Int32 × Mem)) (x0 : Nat) (x1 : Int32) (x2 : Int32) (x3 : Int32) (x4 : Int32) (x5 : Int32) (y : (Int32 × Mem) ⊕ (Int32 × Mem)) : Prop := match y with
  | .inl s => V Δ Γ 8 3 [(0, rf Δ (x0)), (1, .int (x1)), (2, .int (x2)), (3, .int (x3)), (4, .int (x4)), (5, .int (x5)), (6, .int (s.1))] [] s.2
  | .inr t => (t = q)
set_option maxRecDepth 20000 in
set_option maxHeartbeats 2000000 in
theorem W_X9_figures_3 {Δ : DD} {Γ : GG} {d : Nat} {q : (Int32 × Mem)} {x0 : Nat} {x1 : Int32} {x2 : Int32} {x3 : Int32} {x4 : Int32} {x5 : Int32} (C : Cx Δ Γ RX9 cX9_figures 8 d (some .boolean)) (hq : RetQ Δ Γ (some (.int q.1)) q.2) (h0 : isK 9 x0 = true) (hd : 1 ≤ d) {s : Int32 × Mem} (hF : F_X9_figures_3 x0 x1 x2 x3 x4 x5  s = some q) : V Δ Γ 8 3 [(0, rf Δ (x0)), (1, .int (x1)), (2, .int (x2)), (3, .int (x3)), (4, .int (x4)), (5, .int (x5)), (6, .int (s.1))] [] s.2 := by
  have hF : F_X9_figures_3 x0 x1 x2 x3 x4 x5  s = some q := hF
  refine lp_V (W := fun (s : Int32 × Mem) => V Δ Γ 8 3 [(0, rf Δ (x0)), (1, .int (x1)), (2, .int (x2)), (3, .int (x3)), (4, .int (x4)), (5, .int (x5)), (6, .int (s.1))] [] s.2) (K := fun t => t = q) (K' := K_X9_figures_3 Δ Γ q x0 x1 x2 x3 x4 x5 ) (fun _ h => h) (fun _ h => h) ?_ s q hF rfl
  clear hF
  intro s z hF hK
  refine v_iload C 6 6 dX9_figures_3 rfl ?_
  refine v_iload_n C 2 2 dX9_figures_5 rfl rfl ?_
  refine v_icmp_ge C 70 dX9_figures_6 (by decide) (fun c1 => ?_) (fun c1 => ?_)
  · have hF := ifp hF c1
    refine v_iconst C (1) dX9_figures_70 (by decide) ?_
    cases hF
    exact v_zretF C hq hK rfl dX9_figures_71
  · have hF := ifn hF c1
    refine v_aload_n C 0 0 dX9_figures_9 rfl rfl ?_
    refine v_iload_n C 1 1 dX9_figures_10 rfl rfl ?_
    refine v_aload_n C 0 0 dX9_figures_11 rfl rfl ?_
    obtain ⟨v3, g2, hF⟩ := bnd hF
    refine v_gI C fu_X9_85 g2 dX9_figures_12 ?_
    obtain ⟨q4, g5, hF⟩ := bnd hF
    refine v_cVi C mw_X9_byteAt lk_X9_88 _ (M_X9_byteAt (by omega) h0 g5) h0 rfl rfl (Nat.le_of_ble_eq_true rfl) dX9_figures_15 ?_
    refine v_bipush C (48) dX9_figures_18 (by decide) ?_
    refine v_isub C dX9_figures_20 ?_
    refine v_istore C 7 (ll' := [(7, _), (0, _), (1, _), (2, _), (3, _), (4, _), (5, _), (6, _)]) dX9_figures_21 (by decide) rfl ?_
    refine v_iload C 7 0 dX9_figures_23 rfl ?_
    refine v_i2l C dX9_figures_25 ?_
    refine v_iload_n C 3 4 dX9_figures_26 rfl rfl ?_
    refine v_i2l C dX9_figures_27 ?_
    refine v_ldc2 C (9) kl_X9_91 dX9_figures_28 ?_
    obtain ⟨q6, g7, hF⟩ := bnd hF
    refine v_cSi C mw_X9_in lk_X9_53 _ (M_X9_in (by omega) g7) rfl rfl (Nat.le_of_ble_eq_true rfl) dX9_figures_31 ?_
    refine v_if_ne C 39 dX9_figures_34 (by decide) (fun c8 => ?_) (fun c8 => ?_)
    · have hF := ifn hF c8
      refine v_aload_n C 0 1 dX9_figures_39 rfl rfl ?_
      obtain ⟨p10, g9, hF⟩ := bnd hF
      refine v_gR C fu_X9_7 g9 dX9_figures_40 ?_
      refine v_iload C 4 5 dX9_figures_43 rfl ?_
      refine v_iload C 5 6 dX9_figures_45 rfl ?_
      refine v_iload C 6 7 dX9_figures_47 rfl ?_
      refine v_imul C dX9_figures_49 ?_
      refine v_iadd C dX9_figures_50 ?_
      refine v_iload C 7 0 dX9_figures_51 rfl ?_
      obtain ⟨m11, g12, hF⟩ := bnd hF
      refine v_sI C g12 dX9_figures_53 ?_
      refine v_aload_n C 0 1 dX9_figures_54 rfl rfl ?_
      refine v_dup C dX9_figures_55 rfl ?_
      obtain ⟨v14, g13, hF⟩ := bnd hF
      refine v_gI C fu_X9_85 g13 dX9_figures_56 ?_
      refine v_iconst C (1) dX9_figures_59 (by decide) ?_
      refine v_iadd C dX9_figures_60 ?_
      obtain ⟨m16, g15, hF⟩ := bnd hF
      refine v_pI C fp_X9_85 g15 dX9_figures_61 ?_
      refine v_iinc C (_ + (1 : Int32)) 7 (ll' := [(6, _), (7, _), (0, _), (1, _), (2, _), (3, _), (4, _), (5, _)]) dX9_figures_64 rfl (inc_eq (by decide)) (by decide) rfl ?_
      refine v_goto C 3 dX9_figures_67 (by decide) ?_
      refine v_sub [2, 3, 4, 5, 6, 7, 0] (ll' := [(0, _), (1, _), (2, _), (3, _), (4, _), (5, _), (6, _)]) rfl ?_
      cases hF
      exact hK
    · have hF := ifp hF c8
      refine v_iconst C (0) dX9_figures_37 (by decide) ?_
      cases hF
      exact v_zretF C hq hK rfl dX9_figures_38
set_option maxRecDepth 20000 in
set_option maxHeartbeats 2000000 in
theorem M_X9_figures {Δ : DD} {d : Nat} {x0 : Nat} {x1 : Int32} {x2 : Int32} {x3 : Int32} {x4 : Int32} {x5 : Int32} {σ : Mem} {q : (Int32 × Mem)} (hd : 2 ≤ d) (h0 : isK 9 x0 = true) (hF : F_X9_figures x0 x1 x2 x3 x4 x5 σ = some q) : Mt Δ d yX9_figures cX9_figures 8 (some .boolean) [rf Δ x0, .int x1, .int x2, .int x3, .int x4, .int x5] σ (some (.int q.1)) q.2 := by
  obtain ⟨d, rfl⟩ : ∃ e, d = e + 1 := ⟨d - 1, by omega⟩
  have hd : 1 ≤ d := by omega
  refine mt_of (by decide) rfl (Nat.le_of_ble_eq_true rfl) (fun Γ C hq => ?_)
  unfold F_X9_figures at hF
  show V Δ Γ 8 0 [(0, rf Δ (x0)), (1, .int (x1)), (2, .int (x2)), (3, .int (x3)), (4, .int (x4)), (5, .int (x5))] [] σ
  refine v_iconst C (0) dX9_figures_0 (by decide) ?_
  refine v_istore C 6 (ll' := [(6, _), (0, _), (1, _), (2, _), (3, _), (4, _), (5, _)]) dX9_figures_1 (by decide) rfl ?_
  refine v_sub [1, 2, 3, 4, 5, 6, 0] (ll' := [(0, _), (1, _), (2, _), (3, _), (4, _), (5, _), (6, _)]) rfl ?_
  exact W_X9_figures_3 C hq h0 hd hF
set_option maxRecDepth 20000 in
set_option maxHeartbeats 2000000 in
theorem M_X9_takesFirst {Δ : DD} {d : Nat} {x0 : Nat} {x1 : Int32} {σ : Mem} {q : (Int32 × Mem)} (hd : 3 ≤ d) (h0 : isK 9 x0 = true) (hF : F_X9_takesFirst x0 x1 σ = some q) : Mt Δ d yX9_takesFirst cX9_takesFirst 2 (some .boolean) [rf Δ x0, .int x1] σ (some (.int q.1)) q.2 := by
  obtain ⟨d, rfl⟩ : ∃ e, d = e + 1 := ⟨d - 1, by omega⟩
  have hd : 2 ≤ d := by omega
  refine mt_of (by decide) rfl (Nat.le_of_ble_eq_true rfl) (fun Γ C hq => ?_)
  unfold F_X9_takesFirst at hF
  show V Δ Γ 2 0 [(0, rf Δ (x0)), (1, .int (x1))] [] σ
  refine v_aload_n C 0 0 dX9_takesFirst_0 rfl rfl ?_
  refine v_iload_n C 1 1 dX9_takesFirst_1 rfl rfl ?_
  refine v_aload_n C 0 0 dX9_takesFirst_2 rfl rfl ?_
  obtain ⟨v2, g1, hF⟩ := bnd hF
  refine v_gI C fu_X9_85 g1 dX9_takesFirst_3 ?_
  obtain ⟨q3, g4, hF⟩ := bnd hF
  refine v_cVi C mw_X9_byteAt lk_X9_88 _ (M_X9_byteAt (by omega) h0 g4) h0 rfl rfl (Nat.le_of_ble_eq_true rfl) dX9_takesFirst_6 ?_
  refine v_bipush C (110) dX9_takesFirst_9 (by decide) ?_
  refine v_icmp_eq C 16 dX9_takesFirst_11 (by decide) (fun c5 => ?_) (fun c5 => ?_)
  · have hF := ifp hF c5
    refine v_aload_n C 0 0 dX9_takesFirst_16 rfl rfl ?_
    refine v_dup C dX9_takesFirst_17 rfl ?_
    obtain ⟨v7, g6, hF⟩ := bnd hF
    refine v_gI C fu_X9_85 g6 dX9_takesFirst_18 ?_
    refine v_iconst C (1) dX9_takesFirst_21 (by decide) ?_
    refine v_iadd C dX9_takesFirst_22 ?_
    obtain ⟨m9, g8, hF⟩ := bnd hF
    refine v_pI C fp_X9_85 g8 dX9_takesFirst_23 ?_
    refine v_aload_n C 0 0 dX9_takesFirst_26 rfl rfl ?_
    refine v_iload_n C 1 1 dX9_takesFirst_27 rfl rfl ?_
    refine v_iconst C (4) dX9_takesFirst_28 (by decide) ?_
    refine v_iconst C (0) dX9_takesFirst_29 (by decide) ?_
    refine v_sipush C (7255) dX9_takesFirst_30 (by decide) ?_
    refine v_iconst C (1) dX9_takesFirst_33 (by decide) ?_
    obtain ⟨q10, g11, hF⟩ := bnd hF
    refine v_cVi C mw_X9_figures lk_X9_93 _ (M_X9_figures (by omega) h0 g11) h0 rfl rfl (Nat.le_of_ble_eq_true rfl) dX9_takesFirst_34 ?_
    refine v_if_eq C 58 dX9_takesFirst_37 (by decide) (fun c12 => ?_) (fun c12 => ?_)
    · have hF := ifp hF c12
      refine v_iconst C (0) dX9_takesFirst_58 (by decide) ?_
      exact v_zretF C hq (Option.some.inj hF) rfl dX9_takesFirst_59
    · have hF := ifn hF c12
      refine v_aload_n C 0 0 dX9_takesFirst_40 rfl rfl ?_
      refine v_iload_n C 1 1 dX9_takesFirst_41 rfl rfl ?_
      refine v_iconst C (1) dX9_takesFirst_42 (by decide) ?_
      refine v_iconst C (1) dX9_takesFirst_43 (by decide) ?_
      refine v_sipush C (7259) dX9_takesFirst_44 (by decide) ?_
      refine v_iconst C (1) dX9_takesFirst_47 (by decide) ?_
      obtain ⟨q13, g14, hF⟩ := bnd hF
      refine v_cVi C mw_X9_figures lk_X9_93 _ (M_X9_figures (by omega) h0 g14) h0 rfl rfl (Nat.le_of_ble_eq_true rfl) dX9_takesFirst_48 ?_
      refine v_if_eq C 58 dX9_takesFirst_51 (by decide) (fun c15 => ?_) (fun c15 => ?_)
      · have hF := ifp hF c15
        refine v_iconst C (0) dX9_takesFirst_58 (by decide) ?_
        exact v_zretF C hq (Option.some.inj hF) rfl dX9_takesFirst_59
      · have hF := ifn hF c15
        refine v_iconst C (1) dX9_takesFirst_54 (by decide) ?_
        refine v_goto C 59 dX9_takesFirst_55 (by decide) ?_
        exact v_zretF C hq (Option.some.inj hF) rfl dX9_takesFirst_59
  · have hF := ifn hF c5
    refine v_iconst C (0) dX9_takesFirst_14 (by decide) ?_
    exact v_zretF C hq (Option.some.inj hF) rfl dX9_takesFirst_15
set_option maxRecDepth 20000 in
set_option maxHeartbeats 2000000 in
theorem M_X9_takesBed {Δ : DD} {d : Nat} {x0 : Nat} {x1 : Int32} {σ : Mem} {q : (Int32 × Mem)} (hd : 3 ≤ d) (h0 : isK 9 x0 = true) (hF : F_X9_takesBed x0 x1 σ = some q) : Mt Δ d yX9_takesBed cX9_takesBed 4 (some .boolean) [rf Δ x0, .int x1] σ (some (.int q.1)) q.2 := by
  obtain ⟨d, rfl⟩ : ∃ e, d = e + 1 := ⟨d - 1, by omega⟩
  have hd : 2 ≤ d := by omega
  refine mt_of (by decide) rfl (Nat.le_of_ble_eq_true rfl) (fun Γ C hq => ?_)
  unfold F_X9_takesBed at hF
  show V Δ Γ 4 0 [(0, rf Δ (x0)), (1, .int (x1))] [] σ
  refine v_aload_n C 0 0 dX9_takesBed_0 rfl rfl ?_
  refine v_iload_n C 1 1 dX9_takesBed_1 rfl rfl ?_
  refine v_aload_n C 0 0 dX9_takesBed_2 rfl rfl ?_
  obtain ⟨v2, g1, hF⟩ := bnd hF
  refine v_gI C fu_X9_85 g1 dX9_takesBed_3 ?_
  obtain ⟨q3, g4, hF⟩ := bnd hF
  refine v_cVi C mw_X9_byteAt lk_X9_88 _ (M_X9_byteAt (by omega) h0 g4) h0 rfl rfl (Nat.le_of_ble_eq_true rfl) dX9_takesBed_6 ?_
  obtain ⟨q5, g6, hF⟩ := bnd hF
  refine v_cSi C mw_X9_kindOf lk_X9_97 _ (M_X9_kindOf (by omega) g6) rfl rfl (Nat.le_of_ble_eq_true rfl) dX9_takesBed_9 ?_
  refine v_istore_n C 2 (ll' := [(2, _), (0, _), (1, _)]) dX9_takesBed_12 rfl (by decide) rfl ?_
  refine v_aload_n C 0 1 dX9_takesBed_13 rfl rfl ?_
  obtain ⟨p8, g7, hF⟩ := bnd hF
  refine v_gR C fu_X9_7 g7 dX9_takesBed_14 ?_
  refine v_sipush C (7216) dX9_takesBed_17 (by decide) ?_
  obtain ⟨v9, g10, hF⟩ := bnd hF
  refine v_aI C g10 dX9_takesBed_20 ?_
  refine v_istore_n C 3 (ll' := [(3, _), (2, _), (0, _), (1, _)]) dX9_takesBed_21 rfl (by decide) rfl ?_
  refine v_iload_n C 2 1 dX9_takesBed_22 rfl rfl ?_
  refine v_if_lt C 32 dX9_takesBed_23 (by decide) (fun c11 => ?_) (fun c11 => ?_)
  · have hF := ifp hF c11
    refine v_iconst C (0) dX9_takesBed_32 (by decide) ?_
    exact v_zretF C hq (Option.some.inj hF) rfl dX9_takesBed_33
  · have hF := ifn hF c11
    refine v_iload_n C 3 0 dX9_takesBed_26 rfl rfl ?_
    refine v_bipush C (6) dX9_takesBed_27 (by decide) ?_
    refine v_icmp_ne C 34 dX9_takesBed_29 (by decide) (fun c12 => ?_) (fun c12 => ?_)
    · have hF := ifn hF c12
      refine v_aload_n C 0 2 dX9_takesBed_34 rfl rfl ?_
      refine v_dup C dX9_takesBed_35 rfl ?_
      obtain ⟨v14, g13, hF⟩ := bnd hF
      refine v_gI C fu_X9_85 g13 dX9_takesBed_36 ?_
      refine v_iconst C (1) dX9_takesBed_39 (by decide) ?_
      refine v_iadd C dX9_takesBed_40 ?_
      obtain ⟨m16, g15, hF⟩ := bnd hF
      refine v_pI C fp_X9_85 g15 dX9_takesBed_41 ?_
      refine v_aload_n C 0 2 dX9_takesBed_44 rfl rfl ?_
      obtain ⟨p18, g17, hF⟩ := bnd hF
      refine v_gR C fu_X9_7 g17 dX9_takesBed_45 ?_
      refine v_sipush C (7219) dX9_takesBed_48 (by decide) ?_
      refine v_iload_n C 3 0 dX9_takesBed_51 rfl rfl ?_
      refine v_iadd C dX9_takesBed_52 ?_
      refine v_iload_n C 2 1 dX9_takesBed_53 rfl rfl ?_
      obtain ⟨m19, g20, hF⟩ := bnd hF
      refine v_sI C g20 dX9_takesBed_54 ?_
      refine v_aload_n C 0 2 dX9_takesBed_55 rfl rfl ?_
      refine v_iload_n C 1 3 dX9_takesBed_56 rfl rfl ?_
      refine v_iconst C (3) dX9_takesBed_57 (by decide) ?_
      refine v_iconst C (0) dX9_takesBed_58 (by decide) ?_
      refine v_sipush C (7225) dX9_takesBed_59 (by decide) ?_
      refine v_iload_n C 3 0 dX9_takesBed_62 rfl rfl ?_
      refine v_iadd C dX9_takesBed_63 ?_
      refine v_bipush C (6) dX9_takesBed_64 (by decide) ?_
      obtain ⟨q21, g22, hF⟩ := bnd hF
      refine v_cVi C mw_X9_figures lk_X9_93 _ (M_X9_figures (by omega) h0 g22) h0 rfl rfl (Nat.le_of_ble_eq_true rfl) dX9_takesBed_66 ?_
      refine v_if_ne C 74 dX9_takesBed_69 (by decide) (fun c23 => ?_) (fun c23 => ?_)
      · have hF := ifn hF c23
        refine v_aload_n C 0 2 dX9_takesBed_74 rfl rfl ?_
        obtain ⟨p25, g24, hF⟩ := bnd hF
        refine v_gR C fu_X9_7 g24 dX9_takesBed_75 ?_
        refine v_sipush C (7216) dX9_takesBed_78 (by decide) ?_
        refine v_dup2 C dX9_takesBed_81 rfl rfl ?_
        obtain ⟨v26, g27, hF⟩ := bnd hF
        refine v_aI C g27 dX9_takesBed_82 ?_
        refine v_iconst C (1) dX9_takesBed_83 (by decide) ?_
        refine v_iadd C dX9_takesBed_84 ?_
        obtain ⟨m28, g29, hF⟩ := bnd hF
        refine v_sI C g29 dX9_takesBed_85 ?_
        refine v_iconst C (1) dX9_takesBed_86 (by decide) ?_
        exact v_zretF C hq (Option.some.inj hF) rfl dX9_takesBed_87
      · have hF := ifp hF c23
        refine v_iconst C (0) dX9_takesBed_72 (by decide) ?_
        exact v_zretF C hq (Option.some.inj hF) rfl dX9_takesBed_73
    · have hF := ifp hF c12
      refine v_iconst C (0) dX9_takesBed_32 (by decide) ?_
      exact v_zretF C hq (Option.some.inj hF) rfl dX9_takesBed_33

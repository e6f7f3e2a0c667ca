set_option maxRecDepth 20000 in
set_option maxHeartbeats 4000000 in
theorem M_L_cell {Δ : DD2} {d : Nat} {x0 : Nat} {x1 : Int32} {σ : Mem2} {q : Int32} (hd : 1 ≤ d) (hF : F_L_cell x0 x1 σ = some q) : Mt2 Δ d yL_cell cL_cell 2 (some .int) [rf2 Δ x0, .int x1] σ (some (.int q)) σ := by
  obtain ⟨d, rfl⟩ : ∃ e, d = e + 1 := ⟨d - 1, by omega⟩
  have hd : 0 ≤ d := by omega
  refine mt2_of (by decide) rfl (Nat.le_of_ble_eq_true rfl) (fun Γ C hq => ?_)
  unfold F_L_cell at hF
  show V2 Δ Γ 2 0 [(0, rf2 Δ (x0)), (1, .int (x1))] [] σ
  refine w_iload_n C 1 1 dL_cell_0 rfl rfl ?_
  refine w_aload_n C 0 0 dL_cell_1 rfl rfl ?_
  obtain ⟨v1, g2, hF⟩ := bnd hF
  refine w_aN C g2 dL_cell_2 ?_
  refine w_icmp_ge C 12 dL_cell_3 (by decide) (fun c3 => ?_) (fun c3 => ?_)
  · have hF := ifp hF c3
    refine w_ldc C (747796405) kc_L_7 dL_cell_12 ?_
    refine w_iload_n C 1 1 dL_cell_14 rfl rfl ?_
    refine w_iconst C (1) dL_cell_15 (by decide) ?_
    refine w_iadd C dL_cell_16 ?_
    refine w_imul C dL_cell_17 ?_
    exact w_iretP C hq (Option.some.inj hF) dL_cell_18
  · have hF := ifn hF c3
    refine w_aload_n C 0 0 dL_cell_6 rfl rfl ?_
    refine w_iload_n C 1 1 dL_cell_7 rfl rfl ?_
    obtain ⟨v4, g5, hF⟩ := bnd hF
    refine w_aI C g5 dL_cell_8 ?_
    refine w_goto C 18 dL_cell_9 (by decide) ?_
    exact w_iretP C hq (Option.some.inj hF) dL_cell_18
set_option maxRecDepth 20000 in
set_option maxHeartbeats 4000000 in
theorem M_L_low {Δ : DD2} {d : Nat} {x0 : Int32} {x1 : Int32} {σ : Mem2} {q : Int32} (hd : 1 ≤ d) (hF : F_L_low x0 x1 σ = some q) : Mt2 Δ d yL_low cL_low 2 (some .int) [.int x0, .int x1] σ (some (.int q)) σ := by
  obtain ⟨d, rfl⟩ : ∃ e, d = e + 1 := ⟨d - 1, by omega⟩
  have hd : 0 ≤ d := by omega
  refine mt2_of (by decide) rfl (Nat.le_of_ble_eq_true rfl) (fun Γ C hq => ?_)
  unfold F_L_low at hF
  show V2 Δ Γ 2 0 [(0, .int (x0)), (1, .int (x1))] [] σ
  refine w_iload_n C 0 0 dL_low_0 rfl rfl ?_
  refine w_ldc C (2147483647) kc_L_8 dL_low_1 ?_
  refine w_iand C dL_low_3 ?_
  refine w_iload_n C 1 1 dL_low_4 rfl rfl ?_
  obtain ⟨_, g1, hF⟩ := bnd hF
  refine w_irem C dL_low_5 (nz_ne g1) ?_
  exact w_iretP C hq (Option.some.inj hF) dL_low_6
set_option maxRecDepth 20000 in
set_option maxHeartbeats 4000000 in
theorem M_L_letter {Δ : DD2} {d : Nat} {x0 : Int32} {σ : Mem2} {q : Int32} (hd : 1 ≤ d) (hF : F_L_letter x0 σ = some q) : Mt2 Δ d yL_letter cL_letter 1 (some .int) [.int x0] σ (some (.int q)) σ := by
  obtain ⟨d, rfl⟩ : ∃ e, d = e + 1 := ⟨d - 1, by omega⟩
  have hd : 0 ≤ d := by omega
  refine mt2_of (by decide) rfl (Nat.le_of_ble_eq_true rfl) (fun Γ C hq => ?_)
  unfold F_L_letter at hF
  show V2 Δ Γ 1 0 [(0, .int (x0))] [] σ
  refine w_iload_n C 0 0 dL_letter_0 rfl rfl ?_
  refine w_if_ne C 9 dL_letter_1 (by decide) (fun c1 => ?_) (fun c1 => ?_)
  · have hF := ifn hF c1
    refine w_iload_n C 0 0 dL_letter_9 rfl rfl ?_
    refine w_iconst C (1) dL_letter_10 (by decide) ?_
    refine w_icmp_ne C 19 dL_letter_11 (by decide) (fun c2 => ?_) (fun c2 => ?_)
    · have hF := ifn hF c2
      refine w_iload_n C 0 0 dL_letter_19 rfl rfl ?_
      refine w_iconst C (2) dL_letter_20 (by decide) ?_
      refine w_icmp_ne C 29 dL_letter_21 (by decide) (fun c3 => ?_) (fun c3 => ?_)
      · have hF := ifn hF c3
        refine w_iload_n C 0 0 dL_letter_29 rfl rfl ?_
        refine w_iconst C (3) dL_letter_30 (by decide) ?_
        refine w_icmp_ne C 39 dL_letter_31 (by decide) (fun c4 => ?_) (fun c4 => ?_)
        · have hF := ifn hF c4
          refine w_iload_n C 0 0 dL_letter_39 rfl rfl ?_
          refine w_iconst C (4) dL_letter_40 (by decide) ?_
          refine w_icmp_ne C 49 dL_letter_41 (by decide) (fun c5 => ?_) (fun c5 => ?_)
          · have hF := ifn hF c5
            refine w_bipush C (119) dL_letter_49 (by decide) ?_
            exact w_iretP C hq (Option.some.inj hF) dL_letter_51
          · have hF := ifp hF c5
            refine w_bipush C (116) dL_letter_44 (by decide) ?_
            refine w_goto C 51 dL_letter_46 (by decide) ?_
            exact w_iretP C hq (Option.some.inj hF) dL_letter_51
        · have hF := ifp hF c4
          refine w_bipush C (99) dL_letter_34 (by decide) ?_
          refine w_goto C 51 dL_letter_36 (by decide) ?_
          exact w_iretP C hq (Option.some.inj hF) dL_letter_51
      · have hF := ifp hF c3
        refine w_bipush C (113) dL_letter_24 (by decide) ?_
        refine w_goto C 51 dL_letter_26 (by decide) ?_
        exact w_iretP C hq (Option.some.inj hF) dL_letter_51
    · have hF := ifp hF c2
      refine w_bipush C (115) dL_letter_14 (by decide) ?_
      refine w_goto C 51 dL_letter_16 (by decide) ?_
      exact w_iretP C hq (Option.some.inj hF) dL_letter_51
  · have hF := ifp hF c1
    refine w_bipush C (98) dL_letter_4 (by decide) ?_
    refine w_goto C 51 dL_letter_6 (by decide) ?_
    exact w_iretP C hq (Option.some.inj hF) dL_letter_51
set_option maxRecDepth 20000 in
set_option maxHeartbeats 4000000 in
theorem W_L_puts_21 {Δ : DD2} {Γ : GG} {d : Nat} {q : (Int32 × Mem2)} {x1 : Nat} {y0 : Int32} {σ : Mem2} (C : Cx2 Δ Γ RL cL_puts 4 d (some .boolean)) (hq : RetQ2 Δ Γ (some (.int q.1)) q.2) (hd : 5 ≤ d) (hF : F_L_puts_21 x1 y0 σ = some q) : V2 Δ Γ 4 21 [(1, rf2 Δ (x1))] [.int (y0)] σ := by
  unfold F_L_puts_21 at hF
  refine w_istore_n C 3 (ll' := [(3, _), (1, _)]) dL_puts_21 rfl (by decide) rfl ?_
  refine w_aload_n C 1 1 dL_puts_22 rfl rfl ?_
  refine w_bipush C (60) dL_puts_23 (by decide) ?_
  refine w_dup2 C dL_puts_25 rfl rfl ?_
  obtain ⟨v1, g2, hF⟩ := bnd hF
  refine w_aI C g2 dL_puts_26 ?_
  refine w_iconst C (1) dL_puts_27 (by decide) ?_
  refine w_iadd C dL_puts_28 ?_
  obtain ⟨m3, g4, hF⟩ := bnd hF
  refine w_sI C g4 dL_puts_29 ?_
  refine w_iload_n C 3 0 dL_puts_30 rfl rfl ?_
  obtain ⟨_, g5, hF⟩ := bnd hF
  exact w_zretF C hq (Option.some.inj hF) (bz_nr g5) dL_puts_31
set_option maxRecDepth 20000 in
set_option maxHeartbeats 4000000 in
theorem M_L_puts {Δ : DD2} {d : Nat} {x0 : Nat} {x1 : Nat} {x2 : Int32} {σ : Mem2} {q : (Int32 × Mem2)} (hd : 6 ≤ d) (hF : F_L_puts x0 x1 x2 σ = some q) : Mt2 Δ d yL_puts cL_puts 4 (some .boolean) [rf2 Δ x0, rf2 Δ x1, .int x2] σ (some (.int q.1)) q.2 := by
  obtain ⟨d, rfl⟩ : ∃ e, d = e + 1 := ⟨d - 1, by omega⟩
  have hd : 5 ≤ d := by omega
  refine mt2_of (by decide) rfl (Nat.le_of_ble_eq_true rfl) (fun Γ C hq => ?_)
  unfold F_L_puts at hF
  show V2 Δ Γ 4 0 [(0, rf2 Δ (x0)), (1, rf2 Δ (x1)), (2, .int (x2))] [] σ
  refine w_aload_n C 0 0 dL_puts_0 rfl rfl ?_
  refine w_iconst C (0) dL_puts_1 (by decide) ?_
  refine w_aload_n C 1 1 dL_puts_2 rfl rfl ?_
  refine w_bipush C (60) dL_puts_3 (by decide) ?_
  obtain ⟨v6, g7, hF⟩ := bnd hF
  refine w_aI C g7 dL_puts_5 ?_
  refine w_iload_n C 2 2 dL_puts_6 rfl rfl ?_
  obtain ⟨_, g8, hF⟩ := bnd hF
  obtain ⟨q9, g10, hF⟩ := bnd hF
  refine w_cVi C mw_X8_put lk_L_9 _ (N_X8_put (by omega) (chk2_k g8) g10) (chk2_k g8) rfl rfl (Nat.le_of_ble_eq_true rfl) dL_puts_7 ?_
  refine w_sipush C (1032) dL_puts_10 (by decide) ?_
  refine w_icmp_ne C 20 dL_puts_13 (by decide) (fun c11 => ?_) (fun c11 => ?_)
  · have hF := ifn hF c11
    refine w_iconst C (0) dL_puts_20 (by decide) ?_
    refine w_sub [1] (ll' := [(1, _)]) rfl ?_
    exact W_L_puts_21 C hq hd hF
  · have hF := ifp hF c11
    refine w_iconst C (1) dL_puts_16 (by decide) ?_
    refine w_goto C 21 dL_puts_17 (by decide) ?_
    refine w_sub [1] (ll' := [(1, _)]) rfl ?_
    exact W_L_puts_21 C hq hd hF
def K_L_town_10 (Δ : DD2) (Γ : GG) (q : (Int32 × Mem2)) (x0 : Nat) (x1 : Nat) (x2 : Int32) (x3 : Nat) (x4 : Nat) (x5 : Int32) (y : (Int32 × Mem2) ⊕ (Int32 × Mem2)) : Prop := match y with
  | .inl s => V2 Δ Γ 9 10 [(0, rf2 Δ (x0)), (1, rf2 Δ (x1)), (2, .int (x2)), (3, rf2 Δ (x3)), (4, rf2 Δ (x4)), (5, .int (x5)), (6, .int (s.1))] [] s.2
  | .inr t => (t = q)
def K_L_town_104 (Δ : DD2) (Γ : GG) (q : (Int32 × Mem2)) (x0 : Nat) (x1 : Nat) (x3 : Nat) (x4 : Nat) (x5 : Int32) (y : (Int32 × Int32 × Mem2) ⊕ (Int32 × Mem2)) : Prop := match y with
  | .inl s => V2 Δ Γ 9 104 [(0, rf2 Δ (x0)), (1, rf2 Δ (x1)), (3, rf2 Δ (x3)), (4, rf2 Δ (x4)), (5, .int (x5)), (6, .int (s.1)), (7, .int (s.2.1))] [] s.2.2
  | .inr t => (t = q)
def K_L_town_217 (Δ : DD2) (Γ : GG) (q : (Int32 × Mem2)) (x0 : Nat) (x1 : Nat) (x3 : Nat) (x4 : Nat) (y : (Int32 × Int32 × Mem2) ⊕ (Int32 × Mem2)) : Prop := match y with
  | .inl s => V2 Δ Γ 9 217 [(0, rf2 Δ (x0)), (1, rf2 Δ (x1)), (3, rf2 Δ (x3)), (4, rf2 Δ (x4)), (6, .int (s.1)), (7, .int (s.2.1))] [] s.2.2
  | .inr t => (t = q)
set_option maxRecDepth 20000 in
set_option maxHeartbeats 4000000 in
theorem W_L_town_163 {Δ : DD2} {Γ : GG} {d : Nat} {q : (Int32 × Mem2)} {x0 : Nat} {x1 : Nat} {x3 : Nat} {x4 : Nat} {x5 : Int32} {x7 : Int32} {y0 : Int32} {y1 : Int32} {y2 : Nat} {σ : Mem2} {y : ((Int32 × Int32 × Mem2) ⊕ (Int32 × Mem2))} (C : Cx2 Δ Γ RL cL_town 9 d (some .boolean)) (hq : RetQ2 Δ Γ (some (.int q.1)) q.2) (hd : 6 ≤ d) (hF : F_L_town_163 x0 x1 x3 x4 x5 x7 y0 y1 y2 σ = some y) (hK : (K_L_town_104 Δ Γ q x0 x1 x3 x4 x5 y)) : V2 Δ Γ 9 163 [(0, rf2 Δ (x0)), (1, rf2 Δ (x1)), (3, rf2 Δ (x3)), (4, rf2 Δ (x4)), (5, .int (x5)), (7, .int (x7))] [.int (y0), .int (y1), rf2 Δ (y2)] σ := by
  unfold F_L_town_163 at hF
  obtain ⟨m32, g33, hF⟩ := bnd hF
  refine w_sI C g33 dL_town_163 ?_
  refine w_aload_n C 0 0 dL_town_164 rfl rfl ?_
  refine w_aload_n C 3 2 dL_town_165 rfl rfl ?_
  refine w_bipush C (48) dL_town_166 (by decide) ?_
  refine w_aload_n C 3 2 dL_town_168 rfl rfl ?_
  refine w_bipush C (13) dL_town_169 (by decide) ?_
  refine w_iload C 7 5 dL_town_171 rfl ?_
  refine w_iadd C dL_town_173 ?_
  obtain ⟨v34, g35, hF⟩ := bnd hF
  refine w_aI C g35 dL_town_174 ?_
  refine w_iadd C dL_town_175 ?_
  obtain ⟨q36, g37, hF⟩ := bnd hF
  refine w_cSi C mw_L_puts lk_L_28 _ (M_L_puts (by omega) g37) rfl rfl (Nat.le_of_ble_eq_true rfl) dL_town_176 ?_
  refine w_istore C 6 (ll' := [(6, _), (0, _), (1, _), (3, _), (4, _), (5, _), (7, _)]) dL_town_179 (by decide) rfl ?_
  refine w_iinc C (_ + (1 : Int32)) 6 (ll' := [(7, _), (6, _), (0, _), (1, _), (3, _), (4, _), (5, _)]) dL_town_181 rfl (inc_eq (by decide)) (by decide) rfl ?_
  refine w_goto C 104 dL_town_184 (by decide) ?_
  refine w_sub [2, 3, 4, 5, 6, 1, 0] (ll' := [(0, _), (1, _), (3, _), (4, _), (5, _), (6, _), (7, _)]) rfl ?_
  cases hF
  exact hK
set_option maxRecDepth 20000 in
set_option maxHeartbeats 4000000 in
theorem W_L_town_412 {Δ : DD2} {Γ : GG} {d : Nat} {q : (Int32 × Mem2)} {x0 : Nat} {x1 : Nat} {x3 : Nat} {x4 : Nat} {x7 : Int32}  {σ : Mem2} {y : ((Int32 × Int32 × Mem2) ⊕ (Int32 × Mem2))} (C : Cx2 Δ Γ RL cL_town 9 d (some .boolean)) (hq : RetQ2 Δ Γ (some (.int q.1)) q.2) (hd : 6 ≤ d) (hF : F_L_town_412 x0 x1 x3 x4 x7  σ = some y) (hK : (K_L_town_217 Δ Γ q x0 x1 x3 x4 y)) : V2 Δ Γ 9 412 [(0, rf2 Δ (x0)), (1, rf2 Δ (x1)), (3, rf2 Δ (x3)), (4, rf2 Δ (x4)), (7, .int (x7))] [] σ := by
  unfold F_L_town_412 at hF
  refine w_iconst C (0) dL_town_412 (by decide) ?_
  refine w_istore C 6 (ll' := [(6, _), (0, _), (1, _), (3, _), (4, _), (7, _)]) dL_town_413 (by decide) rfl ?_
  refine w_iinc C (_ + (1 : Int32)) 5 (ll' := [(7, _), (6, _), (0, _), (1, _), (3, _), (4, _)]) dL_town_415 rfl (inc_eq (by decide)) (by decide) rfl ?_
  refine w_goto C 217 dL_town_418 (by decide) ?_
  refine w_sub [2, 3, 4, 5, 1, 0] (ll' := [(0, _), (1, _), (3, _), (4, _), (6, _), (7, _)]) rfl ?_
  cases hF
  exact hK
set_option maxRecDepth 20000 in
set_option maxHeartbeats 4000000 in
theorem W_L_town_335 {Δ : DD2} {Γ : GG} {d : Nat} {q : (Int32 × Mem2)} {x0 : Nat} {x1 : Nat} {x3 : Nat} {x4 : Nat} {x7 : Int32} {y0 : Int32} {y1 : Int32} {y2 : Nat} {σ : Mem2} {y : ((Int32 × Int32 × Mem2) ⊕ (Int32 × Mem2))} (C : Cx2 Δ Γ RL cL_town 9 d (some .boolean)) (hq : RetQ2 Δ Γ (some (.int q.1)) q.2) (hd : 6 ≤ d) (hF : F_L_town_335 x0 x1 x3 x4 x7 y0 y1 y2 σ = some y) (hK : (K_L_town_217 Δ Γ q x0 x1 x3 x4 y)) : V2 Δ Γ 9 335 [(0, rf2 Δ (x0)), (1, rf2 Δ (x1)), (3, rf2 Δ (x3)), (4, rf2 Δ (x4)), (7, .int (x7))] [.int (y0), .int (y1), rf2 Δ (y2)] σ := by
  unfold F_L_town_335 at hF
  obtain ⟨m68, g69, hF⟩ := bnd hF
  refine w_sI C g69 dL_town_335 ?_
  refine w_aload_n C 0 0 dL_town_336 rfl rfl ?_
  refine w_aload_n C 3 2 dL_town_337 rfl rfl ?_
  refine w_aload_n C 3 2 dL_town_338 rfl rfl ?_
  refine w_iconst C (1) dL_town_339 (by decide) ?_
  refine w_iload C 7 4 dL_town_340 rfl ?_
  refine w_iadd C dL_town_342 ?_
  obtain ⟨v70, g71, hF⟩ := bnd hF
  refine w_aI C g71 dL_town_343 ?_
  obtain ⟨q72, g73, hF⟩ := bnd hF
  refine w_cSi C mw_L_letter lk_L_32 _ (M_L_letter (by omega) g73) rfl rfl (Nat.le_of_ble_eq_true rfl) dL_town_344 ?_
  obtain ⟨q74, g75, hF⟩ := bnd hF
  refine w_cSi C mw_L_puts lk_L_28 _ (M_L_puts (by omega) g75) rfl rfl (Nat.le_of_ble_eq_true rfl) dL_town_347 ?_
  refine w_if_eq C 412 dL_town_350 (by decide) (fun c76 => ?_) (fun c76 => ?_)
  · have hF := ifp hF c76
    exact W_L_town_412 C hq hd hF hK
  · have hF := ifn hF c76
    refine w_aload_n C 0 0 dL_town_353 rfl rfl ?_
    refine w_aload_n C 3 2 dL_town_354 rfl rfl ?_
    refine w_bipush C (48) dL_town_355 (by decide) ?_
    refine w_aload_n C 3 2 dL_town_357 rfl rfl ?_
    refine w_bipush C (7) dL_town_358 (by decide) ?_
    refine w_iload C 7 4 dL_town_360 rfl ?_
    refine w_iadd C dL_town_362 ?_
    obtain ⟨v77, g78, hF⟩ := bnd hF
    refine w_aI C g78 dL_town_363 ?_
    refine w_iadd C dL_town_364 ?_
    obtain ⟨q79, g80, hF⟩ := bnd hF
    refine w_cSi C mw_L_puts lk_L_28 _ (M_L_puts (by omega) g80) rfl rfl (Nat.le_of_ble_eq_true rfl) dL_town_365 ?_
    refine w_if_eq C 412 dL_town_368 (by decide) (fun c81 => ?_) (fun c81 => ?_)
    · have hF := ifp hF c81
      exact W_L_town_412 C hq hd hF hK
    · have hF := ifn hF c81
      refine w_aload_n C 0 0 dL_town_371 rfl rfl ?_
      refine w_aload_n C 3 2 dL_town_372 rfl rfl ?_
      refine w_bipush C (48) dL_town_373 (by decide) ?_
      refine w_aload C 4 3 dL_town_375 rfl ?_
      refine w_iconst C (2) dL_town_377 (by decide) ?_
      refine w_iload C 7 4 dL_town_378 rfl ?_
      refine w_iadd C dL_town_380 ?_
      obtain ⟨v82, g83, hF⟩ := bnd hF
      refine w_aI C g83 dL_town_381 ?_
      refine w_iadd C dL_town_382 ?_
      obtain ⟨q84, g85, hF⟩ := bnd hF
      refine w_cSi C mw_L_puts lk_L_28 _ (M_L_puts (by omega) g85) rfl rfl (Nat.le_of_ble_eq_true rfl) dL_town_383 ?_
      refine w_if_eq C 412 dL_town_386 (by decide) (fun c86 => ?_) (fun c86 => ?_)
      · have hF := ifp hF c86
        exact W_L_town_412 C hq hd hF hK
      · have hF := ifn hF c86
        refine w_aload_n C 0 0 dL_town_389 rfl rfl ?_
        refine w_aload_n C 3 2 dL_town_390 rfl rfl ?_
        refine w_bipush C (48) dL_town_391 (by decide) ?_
        refine w_aload C 4 3 dL_town_393 rfl ?_
        refine w_bipush C (8) dL_town_395 (by decide) ?_
        refine w_iload C 7 4 dL_town_397 rfl ?_
        refine w_iadd C dL_town_399 ?_
        obtain ⟨v87, g88, hF⟩ := bnd hF
        refine w_aI C g88 dL_town_400 ?_
        refine w_iadd C dL_town_401 ?_
        obtain ⟨q89, g90, hF⟩ := bnd hF
        refine w_cSi C mw_L_puts lk_L_28 _ (M_L_puts (by omega) g90) rfl rfl (Nat.le_of_ble_eq_true rfl) dL_town_402 ?_
        refine w_if_eq C 412 dL_town_405 (by decide) (fun c91 => ?_) (fun c91 => ?_)
        · have hF := ifp hF c91
          exact W_L_town_412 C hq hd hF hK
        · have hF := ifn hF c91
          refine w_iconst C (1) dL_town_408 (by decide) ?_
          refine w_goto C 413 dL_town_409 (by decide) ?_
          refine w_istore C 6 (ll' := [(6, _), (0, _), (1, _), (3, _), (4, _), (7, _)]) dL_town_413 (by decide) rfl ?_
          refine w_iinc C (_ + (1 : Int32)) 5 (ll' := [(7, _), (6, _), (0, _), (1, _), (3, _), (4, _)]) dL_town_415 rfl (inc_eq (by decide)) (by decide) rfl ?_
          refine w_goto C 217 dL_town_418 (by decide) ?_
          refine w_sub [2, 3, 4, 5, 1, 0] (ll' := [(0, _), (1, _), (3, _), (4, _), (6, _), (7, _)]) rfl ?_
          cases hF
          exact hK
set_option maxRecDepth 20000 in
set_option maxHeartbeats 4000000 in
theorem W_L_town_421 {Δ : DD2} {Γ : GG} {d : Nat} {q : (Int32 × Mem2)} {x0 : Nat} {x3 : Nat} {x6 : Int32}  {σ : Mem2} (C : Cx2 Δ Γ RL cL_town 9 d (some .boolean)) (hq : RetQ2 Δ Γ (some (.int q.1)) q.2) (hd : 6 ≤ d) (hF : F_L_town_421 x0 x3 x6  σ = some q) : V2 Δ Γ 9 421 [(0, rf2 Δ (x0)), (3, rf2 Δ (x3)), (6, .int (x6))] [] σ := by
  unfold F_L_town_421 at hF
  refine w_iload C 6 2 dL_town_421 rfl ?_
  refine w_if_eq C 451 dL_town_423 (by decide) (fun c92 => ?_) (fun c92 => ?_)
  · have hF := ifp hF c92
    refine w_iconst C (0) dL_town_451 (by decide) ?_
    exact w_zretF C hq (Option.some.inj hF) rfl dL_town_452
  · have hF := ifn hF c92
    refine w_aload_n C 0 0 dL_town_426 rfl rfl ?_
    refine w_iconst C (0) dL_town_427 (by decide) ?_
    obtain ⟨_, g93, hF⟩ := bnd hF
    obtain ⟨q94, g95, hF⟩ := bnd hF
    refine w_cVi C mw_X8_fault lk_L_36 _ (N_X8_fault (by omega) (chk2_k g93) g95) (chk2_k g93) rfl rfl (Nat.le_of_ble_eq_true rfl) dL_town_428 ?_
    refine w_bipush C (-9) dL_town_431 (by decide) ?_
    refine w_icmp_ne C 451 dL_town_433 (by decide) (fun c96 => ?_) (fun c96 => ?_)
    · have hF := ifn hF c96
      refine w_iconst C (0) dL_town_451 (by decide) ?_
      exact w_zretF C hq (Option.some.inj hF) rfl dL_town_452
    · have hF := ifp hF c96
      refine w_aload_n C 0 0 dL_town_436 rfl rfl ?_
      refine w_iconst C (0) dL_town_437 (by decide) ?_
      obtain ⟨_, g97, hF⟩ := bnd hF
      obtain ⟨q98, g99, hF⟩ := bnd hF
      refine w_cVi C mw_X8_town lk_L_39 _ (N_X8_town (by omega) (chk2_k g97) g99) (chk2_k g97) rfl rfl (Nat.le_of_ble_eq_true rfl) dL_town_438 ?_
      refine w_aload_n C 3 1 dL_town_441 rfl rfl ?_
      refine w_iconst C (0) dL_town_442 (by decide) ?_
      obtain ⟨v100, g101, hF⟩ := bnd hF
      refine w_aI C g101 dL_town_443 ?_
      refine w_icmp_ne C 451 dL_town_444 (by decide) (fun c102 => ?_) (fun c102 => ?_)
      · have hF := ifn hF c102
        refine w_iconst C (0) dL_town_451 (by decide) ?_
        exact w_zretF C hq (Option.some.inj hF) rfl dL_town_452
      · have hF := ifp hF c102
        refine w_iconst C (1) dL_town_447 (by decide) ?_
        refine w_goto C 452 dL_town_448 (by decide) ?_
        exact w_zretF C hq (Option.some.inj hF) rfl dL_town_452
set_option maxRecDepth 20000 in
set_option maxHeartbeats 4000000 in
theorem W_L_town_217 {Δ : DD2} {Γ : GG} {d : Nat} {q : (Int32 × Mem2)} {x0 : Nat} {x1 : Nat} {x3 : Nat} {x4 : Nat} (C : Cx2 Δ Γ RL cL_town 9 d (some .boolean)) (hq : RetQ2 Δ Γ (some (.int q.1)) q.2) (hd : 6 ≤ d) {s : Int32 × Int32 × Mem2} (hF : F_L_town_217 x0 x1 x3 x4  s = some q) : V2 Δ Γ 9 217 [(0, rf2 Δ (x0)), (1, rf2 Δ (x1)), (3, rf2 Δ (x3)), (4, rf2 Δ (x4)), (6, .int (s.1)), (7, .int (s.2.1))] [] s.2.2 := by
  have hF : F_L_town_217 x0 x1 x3 x4  s = some q := hF
  refine lp_V (W := fun (s : Int32 × Int32 × Mem2) => V2 Δ Γ 9 217 [(0, rf2 Δ (x0)), (1, rf2 Δ (x1)), (3, rf2 Δ (x3)), (4, rf2 Δ (x4)), (6, .int (s.1)), (7, .int (s.2.1))] [] s.2.2) (K := fun t => t = q) (K' := K_L_town_217 Δ Γ q x0 x1 x3 x4 ) (fun _ h => h) (fun _ h => h) ?_ s q hF rfl
  clear hF
  intro s z hF hK
  refine w_iload C 7 5 dL_town_217 rfl ?_
  refine w_aload_n C 3 2 dL_town_219 rfl rfl ?_
  refine w_iconst C (0) dL_town_220 (by decide) ?_
  obtain ⟨v44, g45, hF⟩ := bnd hF
  refine w_aI C g45 dL_town_221 ?_
  refine w_icmp_ge C 421 dL_town_222 (by decide) (fun c46 => ?_) (fun c46 => ?_)
  · have hF := ifp hF c46
    refine w_sub [0, 2, 4] (ll' := [(0, _), (3, _), (6, _)]) rfl ?_
    obtain ⟨z, hz, e⟩ := mapd hF
    subst e
    exact W_L_town_421 C hq hd (hz.trans (congrArg some hK))
  · have hF := ifn hF c46
    refine w_iload C 6 4 dL_town_225 rfl ?_
    refine w_if_eq C 421 dL_town_227 (by decide) (fun c47 => ?_) (fun c47 => ?_)
    · have hF := ifp hF c47
      refine w_sub [0, 2, 4] (ll' := [(0, _), (3, _), (6, _)]) rfl ?_
      obtain ⟨z, hz, e⟩ := mapd hF
      subst e
      exact W_L_town_421 C hq hd (hz.trans (congrArg some hK))
    · have hF := ifn hF c47
      refine w_aload_n C 1 1 dL_town_230 rfl rfl ?_
      refine w_iconst C (1) dL_town_231 (by decide) ?_
      refine w_iload C 7 5 dL_town_232 rfl ?_
      refine w_iconst C (2) dL_town_234 (by decide) ?_
      refine w_idiv C dL_town_235 (by decide) ?_
      refine w_iadd C dL_town_236 ?_
      obtain ⟨q48, g49, hF⟩ := bnd hF
      refine w_cSi C mw_L_cell lk_L_15 _ (M_L_cell (by omega) g49) rfl rfl (Nat.le_of_ble_eq_true rfl) dL_town_237 ?_
      refine w_bipush C (14) dL_town_240 (by decide) ?_
      refine w_iload C 7 5 dL_town_242 rfl ?_
      refine w_iconst C (2) dL_town_244 (by decide) ?_
      refine w_irem C dL_town_245 (by decide) ?_
      refine w_imul C dL_town_246 ?_
      refine w_ishr C dL_town_247 ?_
      refine w_istore C 8 (ll' := [(8, _), (0, _), (1, _), (3, _), (4, _), (6, _), (7, _)]) dL_town_248 (by decide) rfl ?_
      refine w_aload_n C 3 3 dL_town_250 rfl rfl ?_
      refine w_iconst C (1) dL_town_251 (by decide) ?_
      refine w_iload C 7 6 dL_town_252 rfl ?_
      refine w_iadd C dL_town_254 ?_
      refine w_iload C 8 0 dL_town_255 rfl ?_
      refine w_bipush C (6) dL_town_257 (by decide) ?_
      obtain ⟨q51, g52, hF⟩ := bnd hF
      refine w_cSi C mw_L_low lk_L_21 _ (M_L_low (by omega) g52) rfl rfl (Nat.le_of_ble_eq_true rfl) dL_town_259 ?_
      obtain ⟨m53, g54, hF⟩ := bnd hF
      refine w_sI C g54 dL_town_262 ?_
      refine w_aload_n C 3 3 dL_town_263 rfl rfl ?_
      refine w_bipush C (7) dL_town_264 (by decide) ?_
      refine w_iload C 7 6 dL_town_266 rfl ?_
      refine w_iadd C dL_town_268 ?_
      refine w_iload C 8 0 dL_town_269 rfl ?_
      refine w_iconst C (3) dL_town_271 (by decide) ?_
      refine w_ishr C dL_town_272 ?_
      refine w_bipush C (10) dL_town_273 (by decide) ?_
      obtain ⟨q55, g56, hF⟩ := bnd hF
      refine w_cSi C mw_L_low lk_L_21 _ (M_L_low (by omega) g56) rfl rfl (Nat.le_of_ble_eq_true rfl) dL_town_275 ?_
      obtain ⟨m57, g58, hF⟩ := bnd hF
      refine w_sI C g58 dL_town_278 ?_
      refine w_aload C 4 4 dL_town_279 rfl ?_
      refine w_iconst C (2) dL_town_281 (by decide) ?_
      refine w_iload C 7 6 dL_town_282 rfl ?_
      refine w_iadd C dL_town_284 ?_
      refine w_iload C 8 0 dL_town_285 rfl ?_
      refine w_bipush C (6) dL_town_287 (by decide) ?_
      refine w_ishr C dL_town_289 ?_
      refine w_bipush C (10) dL_town_290 (by decide) ?_
      obtain ⟨q59, g60, hF⟩ := bnd hF
      refine w_cSi C mw_L_low lk_L_21 _ (M_L_low (by omega) g60) rfl rfl (Nat.le_of_ble_eq_true rfl) dL_town_292 ?_
      obtain ⟨m61, g62, hF⟩ := bnd hF
      refine w_sI C g62 dL_town_295 ?_
      refine w_aload C 4 4 dL_town_296 rfl ?_
      refine w_bipush C (8) dL_town_298 (by decide) ?_
      refine w_iload C 7 6 dL_town_300 rfl ?_
      refine w_iadd C dL_town_302 ?_
      refine w_iload C 8 0 dL_town_303 rfl ?_
      refine w_bipush C (13) dL_town_305 (by decide) ?_
      refine w_ishr C dL_town_307 ?_
      refine w_iconst C (1) dL_town_308 (by decide) ?_
      refine w_iand C dL_town_309 ?_
      refine w_if_ne C 326 dL_town_310 (by decide) (fun c63 => ?_) (fun c63 => ?_)
      · have hF := ifn hF c63
        refine w_iload C 8 0 dL_town_326 rfl ?_
        refine w_bipush C (9) dL_town_328 (by decide) ?_
        refine w_ishr C dL_town_330 ?_
        refine w_iconst C (4) dL_town_331 (by decide) ?_
        obtain ⟨q64, g65, hF⟩ := bnd hF
        refine w_cSi C mw_L_low lk_L_21 _ (M_L_low (by omega) g65) rfl rfl (Nat.le_of_ble_eq_true rfl) dL_town_332 ?_
        refine w_sub [1, 2, 3, 4, 6] (ll' := [(0, _), (1, _), (3, _), (4, _), (7, _)]) rfl ?_
        exact W_L_town_335 C hq hd hF hK
      · have hF := ifp hF c63
        refine w_iload C 8 0 dL_town_313 rfl ?_
        refine w_bipush C (9) dL_town_315 (by decide) ?_
        refine w_ishr C dL_town_317 ?_
        refine w_bipush C (10) dL_town_318 (by decide) ?_
        obtain ⟨q66, g67, hF⟩ := bnd hF
        refine w_cSi C mw_L_low lk_L_21 _ (M_L_low (by omega) g67) rfl rfl (Nat.le_of_ble_eq_true rfl) dL_town_320 ?_
        refine w_goto C 335 dL_town_323 (by decide) ?_
        refine w_sub [1, 2, 3, 4, 6] (ll' := [(0, _), (1, _), (3, _), (4, _), (7, _)]) rfl ?_
        exact W_L_town_335 C hq hd hF hK
set_option maxRecDepth 20000 in
set_option maxHeartbeats 4000000 in
theorem W_L_town_212 {Δ : DD2} {Γ : GG} {d : Nat} {q : (Int32 × Mem2)} {x0 : Nat} {x1 : Nat} {x3 : Nat} {x4 : Nat} {y0 : Int32} {σ : Mem2} (C : Cx2 Δ Γ RL cL_town 9 d (some .boolean)) (hq : RetQ2 Δ Γ (some (.int q.1)) q.2) (hd : 6 ≤ d) (hF : F_L_town_212 x0 x1 x3 x4 y0 σ = some q) : V2 Δ Γ 9 212 [(0, rf2 Δ (x0)), (1, rf2 Δ (x1)), (3, rf2 Δ (x3)), (4, rf2 Δ (x4))] [.int (y0)] σ := by
  unfold F_L_town_212 at hF
  refine w_istore C 6 (ll' := [(6, _), (0, _), (1, _), (3, _), (4, _)]) dL_town_212 (by decide) rfl ?_
  refine w_iconst C (0) dL_town_214 (by decide) ?_
  refine w_istore C 7 (ll' := [(7, _), (6, _), (0, _), (1, _), (3, _), (4, _)]) dL_town_215 (by decide) rfl ?_
  refine w_sub [2, 3, 4, 5, 1, 0] (ll' := [(0, _), (1, _), (3, _), (4, _), (6, _), (7, _)]) rfl ?_
  exact W_L_town_217 C hq hd hF
set_option maxRecDepth 20000 in
set_option maxHeartbeats 4000000 in
theorem W_L_town_211 {Δ : DD2} {Γ : GG} {d : Nat} {q : (Int32 × Mem2)} {x0 : Nat} {x1 : Nat} {x3 : Nat} {x4 : Nat}  {σ : Mem2} (C : Cx2 Δ Γ RL cL_town 9 d (some .boolean)) (hq : RetQ2 Δ Γ (some (.int q.1)) q.2) (hd : 6 ≤ d) (hF : F_L_town_211 x0 x1 x3 x4  σ = some q) : V2 Δ Γ 9 211 [(0, rf2 Δ (x0)), (1, rf2 Δ (x1)), (3, rf2 Δ (x3)), (4, rf2 Δ (x4))] [] σ := by
  unfold F_L_town_211 at hF
  refine w_iconst C (0) dL_town_211 (by decide) ?_
  exact W_L_town_212 C hq hd hF
set_option maxRecDepth 20000 in
set_option maxHeartbeats 4000000 in
theorem W_L_town_187 {Δ : DD2} {Γ : GG} {d : Nat} {q : (Int32 × Mem2)} {x0 : Nat} {x1 : Nat} {x3 : Nat} {x4 : Nat} {x6 : Int32}  {σ : Mem2} (C : Cx2 Δ Γ RL cL_town 9 d (some .boolean)) (hq : RetQ2 Δ Γ (some (.int q.1)) q.2) (hd : 6 ≤ d) (hF : F_L_town_187 x0 x1 x3 x4 x6  σ = some q) : V2 Δ Γ 9 187 [(0, rf2 Δ (x0)), (1, rf2 Δ (x1)), (3, rf2 Δ (x3)), (4, rf2 Δ (x4)), (6, .int (x6))] [] σ := by
  unfold F_L_town_187 at hF
  refine w_iload C 6 4 dL_town_187 rfl ?_
  refine w_if_eq C 211 dL_town_189 (by decide) (fun c38 => ?_) (fun c38 => ?_)
  · have hF := ifp hF c38
    refine w_sub [0, 1, 2, 3] (ll' := [(0, _), (1, _), (3, _), (4, _)]) rfl ?_
    exact W_L_town_211 C hq hd hF
  · have hF := ifn hF c38
    refine w_aload_n C 0 0 dL_town_192 rfl rfl ?_
    refine w_aload_n C 3 2 dL_town_193 rfl rfl ?_
    refine w_bipush C (48) dL_town_194 (by decide) ?_
    refine w_aload_n C 3 2 dL_town_196 rfl rfl ?_
    refine w_bipush C (17) dL_town_197 (by decide) ?_
    obtain ⟨v39, g40, hF⟩ := bnd hF
    refine w_aI C g40 dL_town_199 ?_
    refine w_iadd C dL_town_200 ?_
    obtain ⟨q41, g42, hF⟩ := bnd hF
    refine w_cSi C mw_L_puts lk_L_28 _ (M_L_puts (by omega) g42) rfl rfl (Nat.le_of_ble_eq_true rfl) dL_town_201 ?_
    refine w_if_eq C 211 dL_town_204 (by decide) (fun c43 => ?_) (fun c43 => ?_)
    · have hF := ifp hF c43
      refine w_sub [0, 1, 2, 3] (ll' := [(0, _), (1, _), (3, _), (4, _)]) rfl ?_
      exact W_L_town_211 C hq hd hF
    · have hF := ifn hF c43
      refine w_iconst C (1) dL_town_207 (by decide) ?_
      refine w_goto C 212 dL_town_208 (by decide) ?_
      refine w_sub [0, 1, 2, 3] (ll' := [(0, _), (1, _), (3, _), (4, _)]) rfl ?_
      exact W_L_town_212 C hq hd hF
set_option maxRecDepth 20000 in
set_option maxHeartbeats 4000000 in
theorem W_L_town_104 {Δ : DD2} {Γ : GG} {d : Nat} {q : (Int32 × Mem2)} {x0 : Nat} {x1 : Nat} {x3 : Nat} {x4 : Nat} {x5 : Int32} (C : Cx2 Δ Γ RL cL_town 9 d (some .boolean)) (hq : RetQ2 Δ Γ (some (.int q.1)) q.2) (hd : 6 ≤ d) {s : Int32 × Int32 × Mem2} (hF : F_L_town_104 x0 x1 x3 x4 x5  s = some q) : V2 Δ Γ 9 104 [(0, rf2 Δ (x0)), (1, rf2 Δ (x1)), (3, rf2 Δ (x3)), (4, rf2 Δ (x4)), (5, .int (x5)), (6, .int (s.1)), (7, .int (s.2.1))] [] s.2.2 := by
  have hF : F_L_town_104 x0 x1 x3 x4 x5  s = some q := hF
  refine lp_V (W := fun (s : Int32 × Int32 × Mem2) => V2 Δ Γ 9 104 [(0, rf2 Δ (x0)), (1, rf2 Δ (x1)), (3, rf2 Δ (x3)), (4, rf2 Δ (x4)), (5, .int (x5)), (6, .int (s.1)), (7, .int (s.2.1))] [] s.2.2) (K := fun t => t = q) (K' := K_L_town_104 Δ Γ q x0 x1 x3 x4 x5 ) (fun _ h => h) (fun _ h => h) ?_ s q hF rfl
  clear hF
  intro s z hF hK
  refine w_iload C 7 6 dL_town_104 rfl ?_
  refine w_iconst C (4) dL_town_106 (by decide) ?_
  refine w_icmp_ge C 187 dL_town_107 (by decide) (fun c25 => ?_) (fun c25 => ?_)
  · have hF := ifp hF c25
    refine w_sub [0, 1, 2, 3, 5] (ll' := [(0, _), (1, _), (3, _), (4, _), (6, _)]) rfl ?_
    obtain ⟨z, hz, e⟩ := mapd hF
    subst e
    exact W_L_town_187 C hq hd (hz.trans (congrArg some hK))
  · have hF := ifn hF c25
    refine w_iload C 6 5 dL_town_110 rfl ?_
    refine w_if_eq C 187 dL_town_112 (by decide) (fun c26 => ?_) (fun c26 => ?_)
    · have hF := ifp hF c26
      refine w_sub [0, 1, 2, 3, 5] (ll' := [(0, _), (1, _), (3, _), (4, _), (6, _)]) rfl ?_
      obtain ⟨z, hz, e⟩ := mapd hF
      subst e
      exact W_L_town_187 C hq hd (hz.trans (congrArg some hK))
    · have hF := ifn hF c26
      refine w_aload_n C 3 2 dL_town_115 rfl rfl ?_
      refine w_bipush C (13) dL_town_116 (by decide) ?_
      refine w_iload C 7 6 dL_town_118 rfl ?_
      refine w_iadd C dL_town_120 ?_
      refine w_iload C 5 4 dL_town_121 rfl ?_
      refine w_bipush C (7) dL_town_123 (by decide) ?_
      refine w_ishr C dL_town_125 ?_
      refine w_iconst C (1) dL_town_126 (by decide) ?_
      refine w_iand C dL_town_127 ?_
      refine w_if_ne C 149 dL_town_128 (by decide) (fun c27 => ?_) (fun c27 => ?_)
      · have hF := ifn hF c27
        refine w_iload C 5 4 dL_town_149 rfl ?_
        refine w_bipush C (8) dL_town_151 (by decide) ?_
        refine w_iconst C (4) dL_town_153 (by decide) ?_
        refine w_iload C 7 6 dL_town_154 rfl ?_
        refine w_imul C dL_town_156 ?_
        refine w_iadd C dL_town_157 ?_
        refine w_ishr C dL_town_158 ?_
        refine w_iconst C (4) dL_town_159 (by decide) ?_
        obtain ⟨q28, g29, hF⟩ := bnd hF
        refine w_cSi C mw_L_low lk_L_21 _ (M_L_low (by omega) g29) rfl rfl (Nat.le_of_ble_eq_true rfl) dL_town_160 ?_
        refine w_sub [0, 1, 2, 3, 4, 6] (ll' := [(0, _), (1, _), (3, _), (4, _), (5, _), (7, _)]) rfl ?_
        exact W_L_town_163 C hq hd hF hK
      · have hF := ifp hF c27
        refine w_iload C 5 4 dL_town_131 rfl ?_
        refine w_bipush C (8) dL_town_133 (by decide) ?_
        refine w_iconst C (4) dL_town_135 (by decide) ?_
        refine w_iload C 7 6 dL_town_136 rfl ?_
        refine w_imul C dL_town_138 ?_
        refine w_iadd C dL_town_139 ?_
        refine w_ishr C dL_town_140 ?_
        refine w_bipush C (10) dL_town_141 (by decide) ?_
        obtain ⟨q30, g31, hF⟩ := bnd hF
        refine w_cSi C mw_L_low lk_L_21 _ (M_L_low (by omega) g31) rfl rfl (Nat.le_of_ble_eq_true rfl) dL_town_143 ?_
        refine w_goto C 163 dL_town_146 (by decide) ?_
        refine w_sub [0, 1, 2, 3, 4, 6] (ll' := [(0, _), (1, _), (3, _), (4, _), (5, _), (7, _)]) rfl ?_
        exact W_L_town_163 C hq hd hF hK
set_option maxRecDepth 20000 in
set_option maxHeartbeats 4000000 in
theorem W_L_town_99 {Δ : DD2} {Γ : GG} {d : Nat} {q : (Int32 × Mem2)} {x0 : Nat} {x1 : Nat} {x3 : Nat} {x4 : Nat} {x5 : Int32} {y0 : Int32} {σ : Mem2} (C : Cx2 Δ Γ RL cL_town 9 d (some .boolean)) (hq : RetQ2 Δ Γ (some (.int q.1)) q.2) (hd : 6 ≤ d) (hF : F_L_town_99 x0 x1 x3 x4 x5 y0 σ = some q) : V2 Δ Γ 9 99 [(0, rf2 Δ (x0)), (1, rf2 Δ (x1)), (3, rf2 Δ (x3)), (4, rf2 Δ (x4)), (5, .int (x5))] [.int (y0)] σ := by
  unfold F_L_town_99 at hF
  refine w_istore C 6 (ll' := [(6, _), (0, _), (1, _), (3, _), (4, _), (5, _)]) dL_town_99 (by decide) rfl ?_
  refine w_iconst C (0) dL_town_101 (by decide) ?_
  refine w_istore C 7 (ll' := [(7, _), (6, _), (0, _), (1, _), (3, _), (4, _), (5, _)]) dL_town_102 (by decide) rfl ?_
  refine w_sub [2, 3, 4, 5, 6, 1, 0] (ll' := [(0, _), (1, _), (3, _), (4, _), (5, _), (6, _), (7, _)]) rfl ?_
  exact W_L_town_104 C hq hd hF
set_option maxRecDepth 20000 in
set_option maxHeartbeats 4000000 in
theorem W_L_town_98 {Δ : DD2} {Γ : GG} {d : Nat} {q : (Int32 × Mem2)} {x0 : Nat} {x1 : Nat} {x3 : Nat} {x4 : Nat} {x5 : Int32}  {σ : Mem2} (C : Cx2 Δ Γ RL cL_town 9 d (some .boolean)) (hq : RetQ2 Δ Γ (some (.int q.1)) q.2) (hd : 6 ≤ d) (hF : F_L_town_98 x0 x1 x3 x4 x5  σ = some q) : V2 Δ Γ 9 98 [(0, rf2 Δ (x0)), (1, rf2 Δ (x1)), (3, rf2 Δ (x3)), (4, rf2 Δ (x4)), (5, .int (x5))] [] σ := by
  unfold F_L_town_98 at hF
  refine w_iconst C (0) dL_town_98 (by decide) ?_
  exact W_L_town_99 C hq hd hF
set_option maxRecDepth 20000 in
set_option maxHeartbeats 4000000 in
theorem W_L_town_10 {Δ : DD2} {Γ : GG} {d : Nat} {q : (Int32 × Mem2)} {x0 : Nat} {x1 : Nat} {x2 : Int32} {x3 : Nat} {x4 : Nat} {x5 : Int32} (C : Cx2 Δ Γ RL cL_town 9 d (some .boolean)) (hq : RetQ2 Δ Γ (some (.int q.1)) q.2) (hd : 6 ≤ d) {s : Int32 × Mem2} (hF : F_L_town_10 x0 x1 x2 x3 x4 x5  s = some q) : V2 Δ Γ 9 10 [(0, rf2 Δ (x0)), (1, rf2 Δ (x1)), (2, .int (x2)), (3, rf2 Δ (x3)), (4, rf2 Δ (x4)), (5, .int (x5)), (6, .int (s.1))] [] s.2 := by
  have hF : F_L_town_10 x0 x1 x2 x3 x4 x5  s = some q := hF
  refine lp_V (W := fun (s : Int32 × Mem2) => V2 Δ Γ 9 10 [(0, rf2 Δ (x0)), (1, rf2 Δ (x1)), (2, .int (x2)), (3, rf2 Δ (x3)), (4, rf2 Δ (x4)), (5, .int (x5)), (6, .int (s.1))] [] s.2) (K := fun t => t = q) (K' := K_L_town_10 Δ Γ q x0 x1 x2 x3 x4 x5 ) (fun _ h => h) (fun _ h => h) ?_ s q hF rfl
  clear hF
  intro s z hF hK
  refine w_iload C 6 6 dL_town_10 rfl ?_
  refine w_bipush C (64) dL_town_12 (by decide) ?_
  refine w_icmp_ge C 34 dL_town_14 (by decide) (fun c1 => ?_) (fun c1 => ?_)
  · have hF := ifp hF c1
    refine w_aload_n C 3 3 dL_town_34 rfl rfl ?_
    refine w_iconst C (0) dL_town_35 (by decide) ?_
    refine w_iconst C (1) dL_town_36 (by decide) ?_
    refine w_iload C 5 5 dL_town_37 rfl ?_
    refine w_iload_n C 2 2 dL_town_39 rfl rfl ?_
    obtain ⟨q2, g3, hF⟩ := bnd hF
    refine w_cSi C mw_L_low lk_L_21 _ (M_L_low (by omega) g3) rfl rfl (Nat.le_of_ble_eq_true rfl) dL_town_40 ?_
    refine w_iadd C dL_town_43 ?_
    obtain ⟨m4, g5, hF⟩ := bnd hF
    refine w_sI C g5 dL_town_44 ?_
    refine w_aload_n C 3 3 dL_town_45 rfl rfl ?_
    refine w_bipush C (17) dL_town_46 (by decide) ?_
    refine w_iconst C (1) dL_town_48 (by decide) ?_
    refine w_iload C 5 5 dL_town_49 rfl ?_
    refine w_iconst C (3) dL_town_51 (by decide) ?_
    refine w_ishr C dL_town_52 ?_
    refine w_bipush C (9) dL_town_53 (by decide) ?_
    obtain ⟨q6, g7, hF⟩ := bnd hF
    refine w_cSi C mw_L_low lk_L_21 _ (M_L_low (by omega) g7) rfl rfl (Nat.le_of_ble_eq_true rfl) dL_town_55 ?_
    refine w_iadd C dL_town_58 ?_
    obtain ⟨m8, g9, hF⟩ := bnd hF
    refine w_sI C g9 dL_town_59 ?_
    refine w_aload_n C 0 0 dL_town_60 rfl rfl ?_
    refine w_iconst C (0) dL_town_61 (by decide) ?_
    refine w_bipush C (6) dL_town_62 (by decide) ?_
    refine w_iconst C (4) dL_town_64 (by decide) ?_
    refine w_aload_n C 3 3 dL_town_65 rfl rfl ?_
    refine w_iconst C (0) dL_town_66 (by decide) ?_
    obtain ⟨v10, g11, hF⟩ := bnd hF
    refine w_aI C g11 dL_town_67 ?_
    refine w_imul C dL_town_68 ?_
    refine w_iadd C dL_town_69 ?_
    obtain ⟨_, g12, hF⟩ := bnd hF
    obtain ⟨q13, g14, hF⟩ := bnd hF
    refine w_cVi C mw_X8_text lk_L_25 _ (N_X8_text (by omega) (chk2_k g12) g14) (chk2_k g12) rfl rfl (Nat.le_of_ble_eq_true rfl) dL_town_70 ?_
    refine w_bipush C (6) dL_town_73 (by decide) ?_
    refine w_iconst C (4) dL_town_75 (by decide) ?_
    refine w_aload_n C 3 3 dL_town_76 rfl rfl ?_
    refine w_iconst C (0) dL_town_77 (by decide) ?_
    obtain ⟨v15, g16, hF⟩ := bnd hF
    refine w_aI C g16 dL_town_78 ?_
    refine w_imul C dL_town_79 ?_
    refine w_iadd C dL_town_80 ?_
    refine w_icmp_ne C 98 dL_town_81 (by decide) (fun c17 => ?_) (fun c17 => ?_)
    · have hF := ifn hF c17
      refine w_sub [0, 1, 3, 4, 5] (ll' := [(0, _), (1, _), (3, _), (4, _), (5, _)]) rfl ?_
      obtain ⟨z, hz, e⟩ := mapd hF
      subst e
      exact W_L_town_98 C hq hd (hz.trans (congrArg some hK))
    · have hF := ifp hF c17
      refine w_aload_n C 0 0 dL_town_84 rfl rfl ?_
      refine w_aload_n C 3 3 dL_town_85 rfl rfl ?_
      refine w_bipush C (110) dL_town_86 (by decide) ?_
      obtain ⟨q18, g19, hF⟩ := bnd hF
      refine w_cSi C mw_L_puts lk_L_28 _ (M_L_puts (by omega) g19) rfl rfl (Nat.le_of_ble_eq_true rfl) dL_town_88 ?_
      refine w_if_eq C 98 dL_town_91 (by decide) (fun c20 => ?_) (fun c20 => ?_)
      · have hF := ifp hF c20
        refine w_sub [0, 1, 3, 4, 5] (ll' := [(0, _), (1, _), (3, _), (4, _), (5, _)]) rfl ?_
        obtain ⟨z, hz, e⟩ := mapd hF
        subst e
        exact W_L_town_98 C hq hd (hz.trans (congrArg some hK))
      · have hF := ifn hF c20
        refine w_iconst C (1) dL_town_94 (by decide) ?_
        refine w_goto C 99 dL_town_95 (by decide) ?_
        refine w_sub [0, 1, 3, 4, 5] (ll' := [(0, _), (1, _), (3, _), (4, _), (5, _)]) rfl ?_
        obtain ⟨z, hz, e⟩ := mapd hF
        subst e
        exact W_L_town_99 C hq hd (hz.trans (congrArg some hK))
  · have hF := ifn hF c1
    refine w_aload_n C 3 3 dL_town_17 rfl rfl ?_
    refine w_iload C 6 6 dL_town_18 rfl ?_
    refine w_iconst C (0) dL_town_20 (by decide) ?_
    obtain ⟨m21, g22, hF⟩ := bnd hF
    refine w_sI C g22 dL_town_21 ?_
    refine w_aload C 4 4 dL_town_22 rfl ?_
    refine w_iload C 6 6 dL_town_24 rfl ?_
    refine w_iconst C (0) dL_town_26 (by decide) ?_
    obtain ⟨m23, g24, hF⟩ := bnd hF
    refine w_sI C g24 dL_town_27 ?_
    refine w_iinc C (_ + (1 : Int32)) 6 (ll' := [(6, _), (0, _), (1, _), (2, _), (3, _), (4, _), (5, _)]) dL_town_28 rfl (inc_eq (by decide)) (by decide) rfl ?_
    refine w_goto C 10 dL_town_31 (by decide) ?_
    refine w_sub [1, 2, 3, 4, 5, 6, 0] (ll' := [(0, _), (1, _), (2, _), (3, _), (4, _), (5, _), (6, _)]) rfl ?_
    cases hF
    exact hK
set_option maxRecDepth 20000 in
set_option maxHeartbeats 4000000 in
theorem M_L_town {Δ : DD2} {d : Nat} {x0 : Nat} {x1 : Nat} {x2 : Int32} {x3 : Nat} {x4 : Nat} {σ : Mem2} {q : (Int32 × Mem2)} (hd : 7 ≤ d) (hF : F_L_town x0 x1 x2 x3 x4 σ = some q) : Mt2 Δ d yL_town cL_town 9 (some .boolean) [rf2 Δ x0, rf2 Δ x1, .int x2, rf2 Δ x3, rf2 Δ x4] σ (some (.int q.1)) q.2 := by
  obtain ⟨d, rfl⟩ : ∃ e, d = e + 1 := ⟨d - 1, by omega⟩
  have hd : 6 ≤ d := by omega
  refine mt2_of (by decide) rfl (Nat.le_of_ble_eq_true rfl) (fun Γ C hq => ?_)
  unfold F_L_town at hF
  show V2 Δ Γ 9 0 [(0, rf2 Δ (x0)), (1, rf2 Δ (x1)), (2, .int (x2)), (3, rf2 Δ (x3)), (4, rf2 Δ (x4))] [] σ
  refine w_aload_n C 1 1 dL_town_0 rfl rfl ?_
  refine w_iconst C (0) dL_town_1 (by decide) ?_
  obtain ⟨q103, g104, hF⟩ := bnd hF
  refine w_cSi C mw_L_cell lk_L_15 _ (M_L_cell (by omega) g104) rfl rfl (Nat.le_of_ble_eq_true rfl) dL_town_2 ?_
  refine w_istore C 5 (ll' := [(5, _), (0, _), (1, _), (2, _), (3, _), (4, _)]) dL_town_5 (by decide) rfl ?_
  refine w_iconst C (0) dL_town_7 (by decide) ?_
  refine w_istore C 6 (ll' := [(6, _), (5, _), (0, _), (1, _), (2, _), (3, _), (4, _)]) dL_town_8 (by decide) rfl ?_
  refine w_sub [2, 3, 4, 5, 6, 1, 0] (ll' := [(0, _), (1, _), (2, _), (3, _), (4, _), (5, _), (6, _)]) rfl ?_
  exact W_L_town_10 C hq hd hF
set_option maxRecDepth 20000 in
set_option maxHeartbeats 4000000 in
theorem W_L_act_100 {Δ : DD2} {Γ : GG} {d : Nat} {q : (Int32 × Mem2)} {x0 : Nat}  {σ : Mem2} (C : Cx2 Δ Γ RL cL_act 4 d (some .int)) (hq : RetQ2 Δ Γ (some (.int q.1)) q.2) (hd : 24 ≤ d) (hF : F_L_act_100 x0  σ = some q) : V2 Δ Γ 4 100 [(0, rf2 Δ (x0))] [] σ := by
  unfold F_L_act_100 at hF
  refine w_aload_n C 0 0 dL_act_100 rfl rfl ?_
  obtain ⟨_, g1, hF⟩ := bnd hF
  obtain ⟨q2, g3, hF⟩ := bnd hF
  refine w_cVi C mw_X8_night lk_L_61 _ (N_X8_night (by omega) (chk2_k g1) g3) (chk2_k g1) rfl rfl (Nat.le_of_ble_eq_true rfl) dL_act_101 ?_
  exact w_iretF C hq (Option.some.inj hF) dL_act_104
set_option maxRecDepth 20000 in
set_option maxHeartbeats 4000000 in
theorem M_L_act {Δ : DD2} {d : Nat} {x0 : Nat} {x1 : Int32} {σ : Mem2} {q : (Int32 × Mem2)} (hd : 25 ≤ d) (hF : F_L_act x0 x1 σ = some q) : Mt2 Δ d yL_act cL_act 4 (some .int) [rf2 Δ x0, .int x1] σ (some (.int q.1)) q.2 := by
  obtain ⟨d, rfl⟩ : ∃ e, d = e + 1 := ⟨d - 1, by omega⟩
  have hd : 24 ≤ d := by omega
  refine mt2_of (by decide) rfl (Nat.le_of_ble_eq_true rfl) (fun Γ C hq => ?_)
  unfold F_L_act at hF
  show V2 Δ Γ 4 0 [(0, rf2 Δ (x0)), (1, .int (x1))] [] σ
  refine w_iload_n C 1 1 dL_act_0 rfl rfl ?_
  refine w_iconst C (4) dL_act_1 (by decide) ?_
  refine w_ishr C dL_act_2 ?_
  refine w_bipush C (9) dL_act_3 (by decide) ?_
  obtain ⟨q4, g5, hF⟩ := bnd hF
  refine w_cSi C mw_L_low lk_L_21 _ (M_L_low (by omega) g5) rfl rfl (Nat.le_of_ble_eq_true rfl) dL_act_5 ?_
  refine w_iconst C (1) dL_act_8 (by decide) ?_
  refine w_isub C dL_act_9 ?_
  refine w_istore_n C 2 (ll' := [(2, _), (0, _), (1, _)]) dL_act_10 rfl (by decide) rfl ?_
  refine w_iload_n C 1 2 dL_act_11 rfl rfl ?_
  refine w_bipush C (8) dL_act_12 (by decide) ?_
  refine w_ishr C dL_act_14 ?_
  refine w_bipush C (43) dL_act_15 (by decide) ?_
  obtain ⟨q6, g7, hF⟩ := bnd hF
  refine w_cSi C mw_L_low lk_L_21 _ (M_L_low (by omega) g7) rfl rfl (Nat.le_of_ble_eq_true rfl) dL_act_17 ?_
  refine w_iconst C (1) dL_act_20 (by decide) ?_
  refine w_isub C dL_act_21 ?_
  refine w_istore_n C 3 (ll' := [(3, _), (2, _), (0, _), (1, _)]) dL_act_22 rfl (by decide) rfl ?_
  refine w_iload_n C 1 3 dL_act_23 rfl rfl ?_
  refine w_bipush C (15) dL_act_24 (by decide) ?_
  refine w_iand C dL_act_26 ?_
  rcases ifc hF with ⟨c8, hF⟩ | ⟨c8, hF⟩
  · refine w_tableEq C 100 (0) (73) dL_act_27 c8 (by decide) (by decide) (by decide) (by decide) ?_
    refine w_sub [2] (ll' := [(0, _)]) rfl ?_
    exact W_L_act_100 C hq hd hF
  · skip
    rcases ifc hF with ⟨c9, hF⟩ | ⟨c9, hF⟩
    · refine w_tableEq C 100 (1) (73) dL_act_27 c9 (by decide) (by decide) (by decide) (by decide) ?_
      refine w_sub [2] (ll' := [(0, _)]) rfl ?_
      exact W_L_act_100 C hq hd hF
    · skip
      rcases ifc hF with ⟨c10, hF⟩ | ⟨c10, hF⟩
      · refine w_tableEq C 105 (2) (78) dL_act_27 c10 (by decide) (by decide) (by decide) (by decide) ?_
        refine w_aload_n C 0 2 dL_act_105 rfl rfl ?_
        refine w_iload_n C 2 1 dL_act_106 rfl rfl ?_
        obtain ⟨_, g11, hF⟩ := bnd hF
        obtain ⟨q12, g13, hF⟩ := bnd hF
        refine w_cVi C mw_X8_inspect lk_L_64 _ (N_X8_inspect (by omega) (chk2_k g11) g13) (chk2_k g11) rfl rfl (Nat.le_of_ble_eq_true rfl) dL_act_107 ?_
        exact w_iretF C hq (Option.some.inj hF) dL_act_110
      · skip
        rcases ifc hF with ⟨c14, hF⟩ | ⟨c14, hF⟩
        · refine w_tableEq C 111 (3) (84) dL_act_27 c14 (by decide) (by decide) (by decide) (by decide) ?_
          refine w_aload_n C 0 2 dL_act_111 rfl rfl ?_
          refine w_iload_n C 2 1 dL_act_112 rfl rfl ?_
          obtain ⟨_, g15, hF⟩ := bnd hF
          obtain ⟨q16, g17, hF⟩ := bnd hF
          refine w_cVi C mw_X8_thin lk_L_67 _ (N_X8_thin (by omega) (chk2_k g15) g17) (chk2_k g15) rfl rfl (Nat.le_of_ble_eq_true rfl) dL_act_113 ?_
          exact w_iretF C hq (Option.some.inj hF) dL_act_116
        · skip
          rcases ifc hF with ⟨c18, hF⟩ | ⟨c18, hF⟩
          · refine w_tableEq C 117 (4) (90) dL_act_27 c18 (by decide) (by decide) (by decide) (by decide) ?_
            refine w_aload_n C 0 2 dL_act_117 rfl rfl ?_
            refine w_iload_n C 2 1 dL_act_118 rfl rfl ?_
            refine w_iload_n C 3 0 dL_act_119 rfl rfl ?_
            refine w_bipush C (7) dL_act_120 (by decide) ?_
            refine w_irem C dL_act_122 (by decide) ?_
            obtain ⟨_, g19, hF⟩ := bnd hF
            obtain ⟨q20, g21, hF⟩ := bnd hF
            refine w_cVi C mw_X8_swap lk_L_70 _ (N_X8_swap (by omega) (chk2_k g19) g21) (chk2_k g19) rfl rfl (Nat.le_of_ble_eq_true rfl) dL_act_123 ?_
            exact w_iretF C hq (Option.some.inj hF) dL_act_126
          · skip
            rcases ifc hF with ⟨c22, hF⟩ | ⟨c22, hF⟩
            · refine w_tableEq C 127 (5) (100) dL_act_27 c22 (by decide) (by decide) (by decide) (by decide) ?_
              refine w_iload_n C 1 3 dL_act_127 rfl rfl ?_
              refine w_bipush C (16) dL_act_128 (by decide) ?_
              refine w_ishr C dL_act_130 ?_
              refine w_iconst C (1) dL_act_131 (by decide) ?_
              refine w_iand C dL_act_132 ?_
              refine w_if_ne C 144 dL_act_133 (by decide) (fun c23 => ?_) (fun c23 => ?_)
              · have hF := ifn hF c23
                refine w_aload_n C 0 2 dL_act_144 rfl rfl ?_
                refine w_iload_n C 3 0 dL_act_145 rfl rfl ?_
                refine w_iconst C (4) dL_act_146 (by decide) ?_
                refine w_irem C dL_act_147 (by decide) ?_
                refine w_iload_n C 3 0 dL_act_148 rfl rfl ?_
                obtain ⟨_, g24, hF⟩ := bnd hF
                obtain ⟨q25, g26, hF⟩ := bnd hF
                refine w_cVi C mw_X8_lots lk_L_76 _ (N_X8_lots (by omega) (chk2_k g24) g26) (chk2_k g24) rfl rfl (Nat.le_of_ble_eq_true rfl) dL_act_149 ?_
                exact w_iretF C hq (Option.some.inj hF) dL_act_152
              · have hF := ifp hF c23
                refine w_aload_n C 0 2 dL_act_136 rfl rfl ?_
                refine w_iload_n C 3 0 dL_act_137 rfl rfl ?_
                obtain ⟨_, g27, hF⟩ := bnd hF
                obtain ⟨q28, g29, hF⟩ := bnd hF
                refine w_cVi C mw_X8_undo lk_L_73 _ (N_X8_undo (by omega) (chk2_k g27) g29) (chk2_k g27) rfl rfl (Nat.le_of_ble_eq_true rfl) dL_act_138 ?_
                refine w_goto C 152 dL_act_141 (by decide) ?_
                exact w_iretF C hq (Option.some.inj hF) dL_act_152
            · skip
              rcases ifc hF with ⟨c30, hF⟩ | ⟨c30, hF⟩
              · refine w_tableEq C 153 (6) (126) dL_act_27 c30 (by decide) (by decide) (by decide) (by decide) ?_
                refine w_iload_n C 1 3 dL_act_153 rfl rfl ?_
                refine w_bipush C (16) dL_act_154 (by decide) ?_
                refine w_ishr C dL_act_156 ?_
                refine w_iconst C (1) dL_act_157 (by decide) ?_
                refine w_iand C dL_act_158 ?_
                refine w_if_ne C 170 dL_act_159 (by decide) (fun c31 => ?_) (fun c31 => ?_)
                · have hF := ifn hF c31
                  refine w_aload_n C 0 2 dL_act_170 rfl rfl ?_
                  refine w_iload_n C 2 1 dL_act_171 rfl rfl ?_
                  obtain ⟨_, g32, hF⟩ := bnd hF
                  obtain ⟨q33, g34, hF⟩ := bnd hF
                  refine w_cVi C mw_X8_on lk_L_82 _ (N_X8_on (by omega) (chk2_k g32) g34) (chk2_k g32) rfl rfl (Nat.le_of_ble_eq_true rfl) dL_act_172 ?_
                  exact w_iretF C hq (Option.some.inj hF) dL_act_175
                · have hF := ifp hF c31
                  refine w_aload_n C 0 2 dL_act_162 rfl rfl ?_
                  refine w_iload_n C 2 1 dL_act_163 rfl rfl ?_
                  obtain ⟨_, g35, hF⟩ := bnd hF
                  obtain ⟨q36, g37, hF⟩ := bnd hF
                  refine w_cVi C mw_X8_keep lk_L_79 _ (N_X8_keep (by omega) (chk2_k g35) g37) (chk2_k g35) rfl rfl (Nat.le_of_ble_eq_true rfl) dL_act_164 ?_
                  refine w_goto C 175 dL_act_167 (by decide) ?_
                  exact w_iretF C hq (Option.some.inj hF) dL_act_175
              · skip
                rcases ifc hF with ⟨c38, hF⟩ | ⟨c38, hF⟩
                · refine w_tableEq C 176 (7) (149) dL_act_27 c38 (by decide) (by decide) (by decide) (by decide) ?_
                  refine w_aload_n C 0 2 dL_act_176 rfl rfl ?_
                  refine w_iload_n C 2 1 dL_act_177 rfl rfl ?_
                  refine w_iload_n C 3 0 dL_act_178 rfl rfl ?_
                  obtain ⟨_, g39, hF⟩ := bnd hF
                  obtain ⟨q40, g41, hF⟩ := bnd hF
                  refine w_cVi C mw_X8_row lk_L_85 _ (N_X8_row (by omega) (chk2_k g39) g41) (chk2_k g39) rfl rfl (Nat.le_of_ble_eq_true rfl) dL_act_179 ?_
                  exact w_iretF C hq (Option.some.inj hF) dL_act_182
                · skip
                  rcases ifc hF with ⟨c42, hF⟩ | ⟨c42, hF⟩
                  · refine w_tableEq C 183 (8) (156) dL_act_27 c42 (by decide) (by decide) (by decide) (by decide) ?_
                    refine w_aload_n C 0 2 dL_act_183 rfl rfl ?_
                    refine w_iload_n C 2 1 dL_act_184 rfl rfl ?_
                    refine w_iload_n C 3 0 dL_act_185 rfl rfl ?_
                    refine w_bipush C (9) dL_act_186 (by decide) ?_
                    refine w_irem C dL_act_188 (by decide) ?_
                    refine w_iload_n C 3 0 dL_act_189 rfl rfl ?_
                    refine w_bipush C (12) dL_act_190 (by decide) ?_
                    refine w_irem C dL_act_192 (by decide) ?_
                    obtain ⟨_, g43, hF⟩ := bnd hF
                    obtain ⟨q44, g45, hF⟩ := bnd hF
                    refine w_cVi C mw_X8_lay lk_L_88 _ (N_X8_lay (by omega) (chk2_k g43) g45) (chk2_k g43) rfl rfl (Nat.le_of_ble_eq_true rfl) dL_act_193 ?_
                    exact w_iretF C hq (Option.some.inj hF) dL_act_196
                  · skip
                    rcases ifc hF with ⟨c46, hF⟩ | ⟨c46, hF⟩
                    · refine w_tableEq C 197 (9) (170) dL_act_27 c46 (by decide) (by decide) (by decide) (by decide) ?_
                      refine w_aload_n C 0 2 dL_act_197 rfl rfl ?_
                      refine w_iload_n C 2 1 dL_act_198 rfl rfl ?_
                      refine w_iload_n C 3 0 dL_act_199 rfl rfl ?_
                      refine w_iconst C (5) dL_act_200 (by decide) ?_
                      refine w_irem C dL_act_201 (by decide) ?_
                      refine w_iload_n C 1 3 dL_act_202 rfl rfl ?_
                      refine w_bipush C (12) dL_act_203 (by decide) ?_
                      refine w_ishr C dL_act_205 ?_
                      refine w_bipush C (7) dL_act_206 (by decide) ?_
                      obtain ⟨q47, g48, hF⟩ := bnd hF
                      refine w_cSi C mw_L_low lk_L_21 _ (M_L_low (by omega) g48) rfl rfl (Nat.le_of_ble_eq_true rfl) dL_act_208 ?_
                      refine w_iload_n C 3 0 dL_act_211 rfl rfl ?_
                      refine w_iconst C (3) dL_act_212 (by decide) ?_
                      refine w_irem C dL_act_213 (by decide) ?_
                      refine w_iload_n C 3 0 dL_act_214 rfl rfl ?_
                      refine w_iconst C (4) dL_act_215 (by decide) ?_
                      refine w_irem C dL_act_216 (by decide) ?_
                      obtain ⟨_, g49, hF⟩ := bnd hF
                      obtain ⟨q50, g51, hF⟩ := bnd hF
                      refine w_cVi C mw_X8_copy lk_L_91 _ (N_X8_copy (by omega) (chk2_k g49) g51) (chk2_k g49) rfl rfl (Nat.le_of_ble_eq_true rfl) dL_act_217 ?_
                      exact w_iretF C hq (Option.some.inj hF) dL_act_220
                    · skip
                      rcases ifc hF with ⟨c52, hF⟩ | ⟨c52, hF⟩
                      · refine w_tableEq C 221 (10) (194) dL_act_27 c52 (by decide) (by decide) (by decide) (by decide) ?_
                        refine w_iload_n C 1 3 dL_act_221 rfl rfl ?_
                        refine w_bipush C (16) dL_act_222 (by decide) ?_
                        refine w_ishr C dL_act_224 ?_
                        refine w_iconst C (1) dL_act_225 (by decide) ?_
                        refine w_iand C dL_act_226 ?_
                        refine w_if_ne C 238 dL_act_227 (by decide) (fun c53 => ?_) (fun c53 => ?_)
                        · have hF := ifn hF c53
                          refine w_aload_n C 0 2 dL_act_238 rfl rfl ?_
                          refine w_iload_n C 2 1 dL_act_239 rfl rfl ?_
                          obtain ⟨_, g54, hF⟩ := bnd hF
                          obtain ⟨q55, g56, hF⟩ := bnd hF
                          refine w_cVi C mw_X8_mean lk_L_98 _ (N_X8_mean (by omega) (chk2_k g54) g56) (chk2_k g54) rfl rfl (Nat.le_of_ble_eq_true rfl) dL_act_240 ?_
                          exact w_iretF C hq (Option.some.inj hF) dL_act_243
                        · have hF := ifp hF c53
                          refine w_aload_n C 0 2 dL_act_230 rfl rfl ?_
                          refine w_iload_n C 2 1 dL_act_231 rfl rfl ?_
                          obtain ⟨_, g57, hF⟩ := bnd hF
                          obtain ⟨q58, g59, hF⟩ := bnd hF
                          refine w_cVi C mw_X8_tear lk_L_95 _ (N_X8_tear (by omega) (chk2_k g57) g59) (chk2_k g57) rfl rfl (Nat.le_of_ble_eq_true rfl) dL_act_232 ?_
                          refine w_goto C 243 dL_act_235 (by decide) ?_
                          exact w_iretF C hq (Option.some.inj hF) dL_act_243
                      · skip
                        rcases ifc hF with ⟨c60, hF⟩ | ⟨c60, hF⟩
                        · refine w_tableEq C 244 (11) (217) dL_act_27 c60 (by decide) (by decide) (by decide) (by decide) ?_
                          refine w_iload_n C 1 3 dL_act_244 rfl rfl ?_
                          refine w_bipush C (16) dL_act_245 (by decide) ?_
                          refine w_ishr C dL_act_247 ?_
                          refine w_iconst C (3) dL_act_248 (by decide) ?_
                          refine w_iand C dL_act_249 ?_
                          refine w_if_ne C 262 dL_act_250 (by decide) (fun c61 => ?_) (fun c61 => ?_)
                          · have hF := ifn hF c61
                            refine w_aload_n C 0 2 dL_act_262 rfl rfl ?_
                            refine w_iload_n C 2 1 dL_act_263 rfl rfl ?_
                            refine w_iload_n C 3 0 dL_act_264 rfl rfl ?_
                            refine w_iconst C (3) dL_act_265 (by decide) ?_
                            refine w_iload_n C 3 0 dL_act_266 rfl rfl ?_
                            refine w_imul C dL_act_267 ?_
                            obtain ⟨_, g62, hF⟩ := bnd hF
                            obtain ⟨q63, g64, hF⟩ := bnd hF
                            refine w_cVi C mw_X8_put lk_L_9 _ (N_X8_put (by omega) (chk2_k g62) g64) (chk2_k g62) rfl rfl (Nat.le_of_ble_eq_true rfl) dL_act_268 ?_
                            exact w_iretF C hq (Option.some.inj hF) dL_act_271
                          · have hF := ifp hF c61
                            refine w_aload_n C 0 2 dL_act_253 rfl rfl ?_
                            refine w_iload_n C 2 1 dL_act_254 rfl rfl ?_
                            refine w_iload_n C 3 0 dL_act_255 rfl rfl ?_
                            obtain ⟨_, g65, hF⟩ := bnd hF
                            obtain ⟨q66, g67, hF⟩ := bnd hF
                            refine w_cVi C mw_X8_text lk_L_25 _ (N_X8_text (by omega) (chk2_k g65) g67) (chk2_k g65) rfl rfl (Nat.le_of_ble_eq_true rfl) dL_act_256 ?_
                            refine w_goto C 271 dL_act_259 (by decide) ?_
                            exact w_iretF C hq (Option.some.inj hF) dL_act_271
                        · skip
                          rcases ifc hF with ⟨c68, hF⟩ | ⟨c68, hF⟩
                          · refine w_tableEq C 272 (12) (245) dL_act_27 c68 (by decide) (by decide) (by decide) (by decide) ?_
                            refine w_iload_n C 1 3 dL_act_272 rfl rfl ?_
                            refine w_bipush C (16) dL_act_273 (by decide) ?_
                            refine w_ishr C dL_act_275 ?_
                            refine w_iconst C (1) dL_act_276 (by decide) ?_
                            refine w_iand C dL_act_277 ?_
                            refine w_if_ne C 292 dL_act_278 (by decide) (fun c69 => ?_) (fun c69 => ?_)
                            · have hF := ifn hF c69
                              refine w_aload_n C 0 2 dL_act_292 rfl rfl ?_
                              refine w_iload_n C 2 1 dL_act_293 rfl rfl ?_
                              obtain ⟨_, g70, hF⟩ := bnd hF
                              obtain ⟨q71, g72, hF⟩ := bnd hF
                              refine w_cVi C mw_X8_marry lk_L_104 _ (N_X8_marry (by omega) (chk2_k g70) g72) (chk2_k g70) rfl rfl (Nat.le_of_ble_eq_true rfl) dL_act_294 ?_
                              exact w_iretF C hq (Option.some.inj hF) dL_act_297
                            · have hF := ifp hF c69
                              refine w_aload_n C 0 2 dL_act_281 rfl rfl ?_
                              refine w_iload_n C 3 0 dL_act_282 rfl rfl ?_
                              refine w_iconst C (3) dL_act_283 (by decide) ?_
                              refine w_irem C dL_act_284 (by decide) ?_
                              refine w_iload_n C 2 1 dL_act_285 rfl rfl ?_
                              obtain ⟨_, g73, hF⟩ := bnd hF
                              obtain ⟨q74, g75, hF⟩ := bnd hF
                              refine w_cVi C mw_X8_round lk_L_101 _ (N_X8_round (by omega) (chk2_k g73) g75) (chk2_k g73) rfl rfl (Nat.le_of_ble_eq_true rfl) dL_act_286 ?_
                              refine w_goto C 297 dL_act_289 (by decide) ?_
                              exact w_iretF C hq (Option.some.inj hF) dL_act_297
                          · skip
                            rcases ifc hF with ⟨c76, hF⟩ | ⟨c76, hF⟩
                            · refine w_tableEq C 298 (13) (271) dL_act_27 c76 (by decide) (by decide) (by decide) (by decide) ?_
                              refine w_iload_n C 1 3 dL_act_298 rfl rfl ?_
                              refine w_bipush C (16) dL_act_299 (by decide) ?_
                              refine w_ishr C dL_act_301 ?_
                              refine w_iconst C (1) dL_act_302 (by decide) ?_
                              refine w_iand C dL_act_303 ?_
                              refine w_if_ne C 319 dL_act_304 (by decide) (fun c77 => ?_) (fun c77 => ?_)
                              · have hF := ifn hF c77
                                refine w_aload_n C 0 2 dL_act_319 rfl rfl ?_
                                refine w_iload_n C 2 1 dL_act_320 rfl rfl ?_
                                obtain ⟨_, g78, hF⟩ := bnd hF
                                obtain ⟨q79, g80, hF⟩ := bnd hF
                                refine w_cVi C mw_X8_brings lk_L_110 _ (N_X8_brings (by omega) (chk2_k g78) g80) (chk2_k g78) rfl rfl (Nat.le_of_ble_eq_true rfl) dL_act_321 ?_
                                exact w_iretF C hq (Option.some.inj hF) dL_act_324
                              · have hF := ifp hF c77
                                refine w_aload_n C 0 2 dL_act_307 rfl rfl ?_
                                refine w_iload_n C 2 1 dL_act_308 rfl rfl ?_
                                refine w_iload_n C 3 0 dL_act_309 rfl rfl ?_
                                refine w_bipush C (7) dL_act_310 (by decide) ?_
                                refine w_irem C dL_act_312 (by decide) ?_
                                obtain ⟨_, g81, hF⟩ := bnd hF
                                obtain ⟨q82, g83, hF⟩ := bnd hF
                                refine w_cVi C mw_X8_mark lk_L_107 _ (N_X8_mark (by omega) (chk2_k g81) g83) (chk2_k g81) rfl rfl (Nat.le_of_ble_eq_true rfl) dL_act_313 ?_
                                refine w_goto C 324 dL_act_316 (by decide) ?_
                                exact w_iretF C hq (Option.some.inj hF) dL_act_324
                            · skip
                              rcases ifc hF with ⟨c84, hF⟩ | ⟨c84, hF⟩
                              · refine w_tableEq C 325 (14) (298) dL_act_27 c84 (by decide) (by decide) (by decide) (by decide) ?_
                                refine w_iload_n C 1 3 dL_act_325 rfl rfl ?_
                                refine w_bipush C (16) dL_act_326 (by decide) ?_
                                refine w_ishr C dL_act_328 ?_
                                refine w_iconst C (1) dL_act_329 (by decide) ?_
                                refine w_iand C dL_act_330 ?_
                                refine w_if_ne C 346 dL_act_331 (by decide) (fun c85 => ?_) (fun c85 => ?_)
                                · have hF := ifn hF c85
                                  refine w_aload_n C 0 2 dL_act_346 rfl rfl ?_
                                  refine w_iload_n C 2 1 dL_act_347 rfl rfl ?_
                                  refine w_iload_n C 3 0 dL_act_348 rfl rfl ?_
                                  refine w_bipush C (7) dL_act_349 (by decide) ?_
                                  refine w_irem C dL_act_351 (by decide) ?_
                                  obtain ⟨_, g86, hF⟩ := bnd hF
                                  obtain ⟨q87, g88, hF⟩ := bnd hF
                                  refine w_cVi C mw_X8_test lk_L_116 _ (N_X8_test (by omega) (chk2_k g86) g88) (chk2_k g86) rfl rfl (Nat.le_of_ble_eq_true rfl) dL_act_352 ?_
                                  exact w_iretF C hq (Option.some.inj hF) dL_act_355
                                · have hF := ifp hF c85
                                  refine w_aload_n C 0 2 dL_act_334 rfl rfl ?_
                                  refine w_iload_n C 2 1 dL_act_335 rfl rfl ?_
                                  refine w_iload_n C 3 0 dL_act_336 rfl rfl ?_
                                  refine w_bipush C (14) dL_act_337 (by decide) ?_
                                  refine w_irem C dL_act_339 (by decide) ?_
                                  obtain ⟨_, g89, hF⟩ := bnd hF
                                  obtain ⟨q90, g91, hF⟩ := bnd hF
                                  refine w_cVi C mw_X8_odds lk_L_113 _ (N_X8_odds (by omega) (chk2_k g89) g91) (chk2_k g89) rfl rfl (Nat.le_of_ble_eq_true rfl) dL_act_340 ?_
                                  refine w_goto C 355 dL_act_343 (by decide) ?_
                                  exact w_iretF C hq (Option.some.inj hF) dL_act_355
                              · skip
                                have c8 := lv_neT c8 (a := 0) (by decide)
                                have c9 := lv_neT c9 (a := 1) (by decide)
                                have c10 := lv_neT c10 (a := 2) (by decide)
                                have c14 := lv_neT c14 (a := 3) (by decide)
                                have c18 := lv_neT c18 (a := 4) (by decide)
                                have c22 := lv_neT c22 (a := 5) (by decide)
                                have c30 := lv_neT c30 (a := 6) (by decide)
                                have c38 := lv_neT c38 (a := 7) (by decide)
                                have c42 := lv_neT c42 (a := 8) (by decide)
                                have c46 := lv_neT c46 (a := 9) (by decide)
                                have c52 := lv_neT c52 (a := 10) (by decide)
                                have c60 := lv_neT c60 (a := 11) (by decide)
                                have c68 := lv_neT c68 (a := 12) (by decide)
                                have c76 := lv_neT c76 (a := 13) (by decide)
                                have c84 := lv_neT c84 (a := 14) (by decide)
                                refine w_tableOut C 356 dL_act_27 (by omega) (by decide) ?_
                                refine w_iload_n C 1 3 dL_act_356 rfl rfl ?_
                                refine w_bipush C (16) dL_act_357 (by decide) ?_
                                refine w_ishr C dL_act_359 ?_
                                refine w_iconst C (3) dL_act_360 (by decide) ?_
                                refine w_iand C dL_act_361 ?_
                                refine w_if_ne C 373 dL_act_362 (by decide) (fun c92 => ?_) (fun c92 => ?_)
                                · have hF := ifn hF c92
                                  refine w_aload_n C 0 2 dL_act_373 rfl rfl ?_
                                  refine w_iload_n C 2 1 dL_act_374 rfl rfl ?_
                                  refine w_iload_n C 3 0 dL_act_375 rfl rfl ?_
                                  obtain ⟨_, g93, hF⟩ := bnd hF
                                  obtain ⟨q94, g95, hF⟩ := bnd hF
                                  refine w_cVi C mw_X8_then lk_L_119 _ (N_X8_then (by omega) (chk2_k g93) g95) (chk2_k g93) rfl rfl (Nat.le_of_ble_eq_true rfl) dL_act_376 ?_
                                  exact w_iretF C hq (Option.some.inj hF) dL_act_379
                                · have hF := ifp hF c92
                                  refine w_aload_n C 0 2 dL_act_365 rfl rfl ?_
                                  refine w_iload_n C 2 1 dL_act_366 rfl rfl ?_
                                  obtain ⟨_, g96, hF⟩ := bnd hF
                                  obtain ⟨q97, g98, hF⟩ := bnd hF
                                  refine w_cVi C mw_X8_town lk_L_39 _ (N_X8_town (by omega) (chk2_k g96) g98) (chk2_k g96) rfl rfl (Nat.le_of_ble_eq_true rfl) dL_act_367 ?_
                                  refine w_goto C 379 dL_act_370 (by decide) ?_
                                  exact w_iretF C hq (Option.some.inj hF) dL_act_379
set_option maxRecDepth 20000 in
set_option maxHeartbeats 4000000 in
theorem W_L_isLeft_376 {Δ : DD2} {Γ : GG} {d : Nat} {q : (Int32 × Mem2)} {x0 : Nat} {y0 : Int32} {σ : Mem2} (C : Cx2 Δ Γ RL cL_isLeft 5 d (some .boolean)) (hq : RetQ2 Δ Γ (some (.int q.1)) q.2) (hd : 24 ≤ d) (hF : F_L_isLeft_376 x0 y0 σ = some q) : V2 Δ Γ 5 376 [(0, rf2 Δ (x0))] [.int (y0)] σ := by
  unfold F_L_isLeft_376 at hF
  refine w_istore_n C 3 (ll' := [(3, _), (0, _)]) dL_isLeft_376 rfl (by decide) rfl ?_
  refine w_aload_n C 0 1 dL_isLeft_377 rfl rfl ?_
  refine w_iconst C (0) dL_isLeft_378 (by decide) ?_
  refine w_iconst C (3) dL_isLeft_379 (by decide) ?_
  obtain ⟨_, g141, hF⟩ := bnd hF
  obtain ⟨q142, g143, hF⟩ := bnd hF
  refine w_cVi C mw_X8_cross lk_L_128 _ (N_X8_cross (by omega) (chk2_k g141) g143) (chk2_k g141) rfl rfl (Nat.le_of_ble_eq_true rfl) dL_isLeft_380 ?_
  refine w_aload_n C 0 1 dL_isLeft_383 rfl rfl ?_
  refine w_iconst C (0) dL_isLeft_384 (by decide) ?_
  obtain ⟨_, g144, hF⟩ := bnd hF
  obtain ⟨q145, g146, hF⟩ := bnd hF
  refine w_cVi C mw_X8_when lk_L_131 _ (N_X8_when (by omega) (chk2_k g144) g146) (chk2_k g144) rfl rfl (Nat.le_of_ble_eq_true rfl) dL_isLeft_385 ?_
  refine w_iadd C dL_isLeft_388 ?_
  refine w_aload_n C 0 1 dL_isLeft_389 rfl rfl ?_
  refine w_iconst C (0) dL_isLeft_390 (by decide) ?_
  refine w_iconst C (3) dL_isLeft_391 (by decide) ?_
  obtain ⟨_, g147, hF⟩ := bnd hF
  obtain ⟨q148, g149, hF⟩ := bnd hF
  refine w_cVi C mw_X8_least lk_L_134 _ (N_X8_least (by omega) (chk2_k g147) g149) (chk2_k g147) rfl rfl (Nat.le_of_ble_eq_true rfl) dL_isLeft_392 ?_
  refine w_iadd C dL_isLeft_395 ?_
  refine w_aload_n C 0 1 dL_isLeft_396 rfl rfl ?_
  refine w_iconst C (2) dL_isLeft_397 (by decide) ?_
  obtain ⟨_, g150, hF⟩ := bnd hF
  obtain ⟨q151, g152, hF⟩ := bnd hF
  refine w_cVi C mw_X8_duel lk_L_143 _ (N_X8_duel (by omega) (chk2_k g150) g152) (chk2_k g150) rfl rfl (Nat.le_of_ble_eq_true rfl) dL_isLeft_398 ?_
  refine w_iadd C dL_isLeft_401 ?_
  refine w_istore C 4 (ll' := [(4, _), (3, _), (0, _)]) dL_isLeft_402 (by decide) rfl ?_
  refine w_iload_n C 3 1 dL_isLeft_404 rfl rfl ?_
  refine w_if_eq C 420 dL_isLeft_405 (by decide) (fun c153 => ?_) (fun c153 => ?_)
  · have hF := ifp hF c153
    refine w_iconst C (0) dL_isLeft_420 (by decide) ?_
    exact w_zretF C hq (Option.some.inj hF) rfl dL_isLeft_421
  · have hF := ifn hF c153
    refine w_iload C 4 0 dL_isLeft_408 rfl ?_
    refine w_sipush C (-9999) dL_isLeft_410 (by decide) ?_
    refine w_icmp_le C 420 dL_isLeft_413 (by decide) (fun c154 => ?_) (fun c154 => ?_)
    · have hF := ifp hF c154
      refine w_iconst C (0) dL_isLeft_420 (by decide) ?_
      exact w_zretF C hq (Option.some.inj hF) rfl dL_isLeft_421
    · have hF := ifn hF c154
      refine w_iconst C (1) dL_isLeft_416 (by decide) ?_
      refine w_goto C 421 dL_isLeft_417 (by decide) ?_
      exact w_zretF C hq (Option.some.inj hF) rfl dL_isLeft_421
set_option maxRecDepth 20000 in
set_option maxHeartbeats 4000000 in
theorem W_L_isLeft_375 {Δ : DD2} {Γ : GG} {d : Nat} {q : (Int32 × Mem2)} {x0 : Nat}  {σ : Mem2} (C : Cx2 Δ Γ RL cL_isLeft 5 d (some .boolean)) (hq : RetQ2 Δ Γ (some (.int q.1)) q.2) (hd : 24 ≤ d) (hF : F_L_isLeft_375 x0  σ = some q) : V2 Δ Γ 5 375 [(0, rf2 Δ (x0))] [] σ := by
  unfold F_L_isLeft_375 at hF
  refine w_iconst C (0) dL_isLeft_375 (by decide) ?_
  exact W_L_isLeft_376 C hq hd hF
set_option maxRecDepth 20000 in
set_option maxHeartbeats 4000000 in
theorem W_L_isLeft_31 {Δ : DD2} {Γ : GG} {d : Nat} {q : (Int32 × Mem2)} {x0 : Nat} {y0 : Int32} {σ : Mem2} (C : Cx2 Δ Γ RL cL_isLeft 5 d (some .boolean)) (hq : RetQ2 Δ Γ (some (.int q.1)) q.2) (hd : 24 ≤ d) (hF : F_L_isLeft_31 x0 y0 σ = some q) : V2 Δ Γ 5 31 [(0, rf2 Δ (x0))] [.int (y0)] σ := by
  unfold F_L_isLeft_31 at hF
  refine w_istore_n C 2 (ll' := [(2, _), (0, _)]) dL_isLeft_31 rfl (by decide) rfl ?_
  refine w_aload_n C 0 1 dL_isLeft_32 rfl rfl ?_
  refine w_iload_n C 2 0 dL_isLeft_33 rfl rfl ?_
  refine w_iconst C (0) dL_isLeft_34 (by decide) ?_
  obtain ⟨_, g1, hF⟩ := bnd hF
  obtain ⟨q2, g3, hF⟩ := bnd hF
  refine w_cVi C mw_X8_row lk_L_85 _ (N_X8_row (by omega) (chk2_k g1) g3) (chk2_k g1) rfl rfl (Nat.le_of_ble_eq_true rfl) dL_isLeft_35 ?_
  refine w_iconst C (-1) dL_isLeft_38 (by decide) ?_
  refine w_icmp_ne C 375 dL_isLeft_39 (by decide) (fun c4 => ?_) (fun c4 => ?_)
  · have hF := ifn hF c4
    refine w_sub [1] (ll' := [(0, _)]) rfl ?_
    exact W_L_isLeft_375 C hq hd hF
  · have hF := ifp hF c4
    refine w_aload_n C 0 1 dL_isLeft_42 rfl rfl ?_
    refine w_iload_n C 2 0 dL_isLeft_43 rfl rfl ?_
    refine w_iconst C (0) dL_isLeft_44 (by decide) ?_
    refine w_iconst C (0) dL_isLeft_45 (by decide) ?_
    obtain ⟨_, g5, hF⟩ := bnd hF
    obtain ⟨q6, g7, hF⟩ := bnd hF
    refine w_cVi C mw_X8_lay lk_L_88 _ (N_X8_lay (by omega) (chk2_k g5) g7) (chk2_k g5) rfl rfl (Nat.le_of_ble_eq_true rfl) dL_isLeft_46 ?_
    refine w_iconst C (-1) dL_isLeft_49 (by decide) ?_
    refine w_icmp_ne C 375 dL_isLeft_50 (by decide) (fun c8 => ?_) (fun c8 => ?_)
    · have hF := ifn hF c8
      refine w_sub [1] (ll' := [(0, _)]) rfl ?_
      exact W_L_isLeft_375 C hq hd hF
    · have hF := ifp hF c8
      refine w_aload_n C 0 1 dL_isLeft_53 rfl rfl ?_
      refine w_iload_n C 2 0 dL_isLeft_54 rfl rfl ?_
      refine w_iconst C (0) dL_isLeft_55 (by decide) ?_
      obtain ⟨_, g9, hF⟩ := bnd hF
      obtain ⟨q10, g11, hF⟩ := bnd hF
      refine w_cVi C mw_X8_at lk_L_122 _ (N_X8_at (by omega) (chk2_k g9) g11) (chk2_k g9) rfl rfl (Nat.le_of_ble_eq_true rfl) dL_isLeft_56 ?_
      refine w_iconst C (-1) dL_isLeft_59 (by decide) ?_
      refine w_icmp_ne C 375 dL_isLeft_60 (by decide) (fun c12 => ?_) (fun c12 => ?_)
      · have hF := ifn hF c12
        refine w_sub [1] (ll' := [(0, _)]) rfl ?_
        exact W_L_isLeft_375 C hq hd hF
      · have hF := ifp hF c12
        refine w_aload_n C 0 1 dL_isLeft_63 rfl rfl ?_
        refine w_iload_n C 2 0 dL_isLeft_64 rfl rfl ?_
        obtain ⟨_, g13, hF⟩ := bnd hF
        obtain ⟨q14, g15, hF⟩ := bnd hF
        refine w_cVi C mw_X8_tear lk_L_95 _ (N_X8_tear (by omega) (chk2_k g13) g15) (chk2_k g13) rfl rfl (Nat.le_of_ble_eq_true rfl) dL_isLeft_65 ?_
        refine w_iconst C (-1) dL_isLeft_68 (by decide) ?_
        refine w_icmp_ne C 375 dL_isLeft_69 (by decide) (fun c16 => ?_) (fun c16 => ?_)
        · have hF := ifn hF c16
          refine w_sub [1] (ll' := [(0, _)]) rfl ?_
          exact W_L_isLeft_375 C hq hd hF
        · have hF := ifp hF c16
          refine w_aload_n C 0 1 dL_isLeft_72 rfl rfl ?_
          refine w_iload_n C 2 0 dL_isLeft_73 rfl rfl ?_
          refine w_iconst C (0) dL_isLeft_74 (by decide) ?_
          refine w_iconst C (0) dL_isLeft_75 (by decide) ?_
          refine w_iconst C (0) dL_isLeft_76 (by decide) ?_
          refine w_iconst C (0) dL_isLeft_77 (by decide) ?_
          obtain ⟨_, g17, hF⟩ := bnd hF
          obtain ⟨q18, g19, hF⟩ := bnd hF
          refine w_cVi C mw_X8_copy lk_L_91 _ (N_X8_copy (by omega) (chk2_k g17) g19) (chk2_k g17) rfl rfl (Nat.le_of_ble_eq_true rfl) dL_isLeft_78 ?_
          refine w_iconst C (-1) dL_isLeft_81 (by decide) ?_
          refine w_icmp_ne C 375 dL_isLeft_82 (by decide) (fun c20 => ?_) (fun c20 => ?_)
          · have hF := ifn hF c20
            refine w_sub [1] (ll' := [(0, _)]) rfl ?_
            exact W_L_isLeft_375 C hq hd hF
          · have hF := ifp hF c20
            refine w_aload_n C 0 1 dL_isLeft_85 rfl rfl ?_
            refine w_iload_n C 2 0 dL_isLeft_86 rfl rfl ?_
            obtain ⟨_, g21, hF⟩ := bnd hF
            obtain ⟨q22, g23, hF⟩ := bnd hF
            refine w_cVi C mw_X8_mean lk_L_98 _ (N_X8_mean (by omega) (chk2_k g21) g23) (chk2_k g21) rfl rfl (Nat.le_of_ble_eq_true rfl) dL_isLeft_87 ?_
            refine w_iconst C (-1) dL_isLeft_90 (by decide) ?_
            refine w_icmp_ne C 375 dL_isLeft_91 (by decide) (fun c24 => ?_) (fun c24 => ?_)
            · have hF := ifn hF c24
              refine w_sub [1] (ll' := [(0, _)]) rfl ?_
              exact W_L_isLeft_375 C hq hd hF
            · have hF := ifp hF c24
              refine w_aload_n C 0 1 dL_isLeft_94 rfl rfl ?_
              refine w_iload_n C 2 0 dL_isLeft_95 rfl rfl ?_
              refine w_iconst C (0) dL_isLeft_96 (by decide) ?_
              obtain ⟨_, g25, hF⟩ := bnd hF
              obtain ⟨q26, g27, hF⟩ := bnd hF
              refine w_cVi C mw_X8_text lk_L_25 _ (N_X8_text (by omega) (chk2_k g25) g27) (chk2_k g25) rfl rfl (Nat.le_of_ble_eq_true rfl) dL_isLeft_97 ?_
              refine w_iconst C (-1) dL_isLeft_100 (by decide) ?_
              refine w_icmp_ne C 375 dL_isLeft_101 (by decide) (fun c28 => ?_) (fun c28 => ?_)
              · have hF := ifn hF c28
                refine w_sub [1] (ll' := [(0, _)]) rfl ?_
                exact W_L_isLeft_375 C hq hd hF
              · have hF := ifp hF c28
                refine w_aload_n C 0 1 dL_isLeft_104 rfl rfl ?_
                refine w_iload_n C 2 0 dL_isLeft_105 rfl rfl ?_
                refine w_iconst C (0) dL_isLeft_106 (by decide) ?_
                refine w_iconst C (0) dL_isLeft_107 (by decide) ?_
                obtain ⟨_, g29, hF⟩ := bnd hF
                obtain ⟨q30, g31, hF⟩ := bnd hF
                refine w_cVi C mw_X8_put lk_L_9 _ (N_X8_put (by omega) (chk2_k g29) g31) (chk2_k g29) rfl rfl (Nat.le_of_ble_eq_true rfl) dL_isLeft_108 ?_
                refine w_iconst C (-1) dL_isLeft_111 (by decide) ?_
                refine w_icmp_ne C 375 dL_isLeft_112 (by decide) (fun c32 => ?_) (fun c32 => ?_)
                · have hF := ifn hF c32
                  refine w_sub [1] (ll' := [(0, _)]) rfl ?_
                  exact W_L_isLeft_375 C hq hd hF
                · have hF := ifp hF c32
                  refine w_aload_n C 0 1 dL_isLeft_115 rfl rfl ?_
                  refine w_iload_n C 2 0 dL_isLeft_116 rfl rfl ?_
                  obtain ⟨_, g33, hF⟩ := bnd hF
                  obtain ⟨q34, g35, hF⟩ := bnd hF
                  refine w_cVi C mw_X8_fault lk_L_36 _ (N_X8_fault (by omega) (chk2_k g33) g35) (chk2_k g33) rfl rfl (Nat.le_of_ble_eq_true rfl) dL_isLeft_117 ?_
                  refine w_iconst C (-1) dL_isLeft_120 (by decide) ?_
                  refine w_icmp_ne C 375 dL_isLeft_121 (by decide) (fun c36 => ?_) (fun c36 => ?_)
                  · have hF := ifn hF c36
                    refine w_sub [1] (ll' := [(0, _)]) rfl ?_
                    exact W_L_isLeft_375 C hq hd hF
                  · have hF := ifp hF c36
                    refine w_aload_n C 0 1 dL_isLeft_124 rfl rfl ?_
                    refine w_iload_n C 2 0 dL_isLeft_125 rfl rfl ?_
                    obtain ⟨_, g37, hF⟩ := bnd hF
                    obtain ⟨q38, g39, hF⟩ := bnd hF
                    refine w_cVi C mw_X8_town lk_L_39 _ (N_X8_town (by omega) (chk2_k g37) g39) (chk2_k g37) rfl rfl (Nat.le_of_ble_eq_true rfl) dL_isLeft_126 ?_
                    refine w_iconst C (-1) dL_isLeft_129 (by decide) ?_
                    refine w_icmp_ne C 375 dL_isLeft_130 (by decide) (fun c40 => ?_) (fun c40 => ?_)
                    · have hF := ifn hF c40
                      refine w_sub [1] (ll' := [(0, _)]) rfl ?_
                      exact W_L_isLeft_375 C hq hd hF
                    · have hF := ifp hF c40
                      refine w_aload_n C 0 1 dL_isLeft_133 rfl rfl ?_
                      refine w_iload_n C 2 0 dL_isLeft_134 rfl rfl ?_
                      refine w_iconst C (0) dL_isLeft_135 (by decide) ?_
                      obtain ⟨_, g41, hF⟩ := bnd hF
                      obtain ⟨q42, g43, hF⟩ := bnd hF
                      refine w_cVi C mw_X8_bed lk_L_125 _ (N_X8_bed (by omega) (chk2_k g41) g43) (chk2_k g41) rfl rfl (Nat.le_of_ble_eq_true rfl) dL_isLeft_136 ?_
                      refine w_iconst C (-1) dL_isLeft_139 (by decide) ?_
                      refine w_icmp_ne C 375 dL_isLeft_140 (by decide) (fun c44 => ?_) (fun c44 => ?_)
                      · have hF := ifn hF c44
                        refine w_sub [1] (ll' := [(0, _)]) rfl ?_
                        exact W_L_isLeft_375 C hq hd hF
                      · have hF := ifp hF c44
                        refine w_aload_n C 0 1 dL_isLeft_143 rfl rfl ?_
                        refine w_iload_n C 2 0 dL_isLeft_144 rfl rfl ?_
                        refine w_iconst C (1) dL_isLeft_145 (by decide) ?_
                        obtain ⟨_, g45, hF⟩ := bnd hF
                        obtain ⟨q46, g47, hF⟩ := bnd hF
                        refine w_cVi C mw_X8_mark lk_L_107 _ (N_X8_mark (by omega) (chk2_k g45) g47) (chk2_k g45) rfl rfl (Nat.le_of_ble_eq_true rfl) dL_isLeft_146 ?_
                        refine w_iconst C (-1) dL_isLeft_149 (by decide) ?_
                        refine w_icmp_ne C 375 dL_isLeft_150 (by decide) (fun c48 => ?_) (fun c48 => ?_)
                        · have hF := ifn hF c48
                          refine w_sub [1] (ll' := [(0, _)]) rfl ?_
                          exact W_L_isLeft_375 C hq hd hF
                        · have hF := ifp hF c48
                          refine w_aload_n C 0 1 dL_isLeft_153 rfl rfl ?_
                          refine w_iload_n C 2 0 dL_isLeft_154 rfl rfl ?_
                          refine w_iconst C (0) dL_isLeft_155 (by decide) ?_
                          obtain ⟨_, g49, hF⟩ := bnd hF
                          obtain ⟨q50, g51, hF⟩ := bnd hF
                          refine w_cVi C mw_X8_cross lk_L_128 _ (N_X8_cross (by omega) (chk2_k g49) g51) (chk2_k g49) rfl rfl (Nat.le_of_ble_eq_true rfl) dL_isLeft_156 ?_
                          refine w_iconst C (-1) dL_isLeft_159 (by decide) ?_
                          refine w_icmp_ne C 375 dL_isLeft_160 (by decide) (fun c52 => ?_) (fun c52 => ?_)
                          · have hF := ifn hF c52
                            refine w_sub [1] (ll' := [(0, _)]) rfl ?_
                            exact W_L_isLeft_375 C hq hd hF
                          · have hF := ifp hF c52
                            refine w_aload_n C 0 1 dL_isLeft_163 rfl rfl ?_
                            refine w_iload_n C 2 0 dL_isLeft_164 rfl rfl ?_
                            obtain ⟨_, g53, hF⟩ := bnd hF
                            obtain ⟨q54, g55, hF⟩ := bnd hF
                            refine w_cVi C mw_X8_inspect lk_L_64 _ (N_X8_inspect (by omega) (chk2_k g53) g55) (chk2_k g53) rfl rfl (Nat.le_of_ble_eq_true rfl) dL_isLeft_165 ?_
                            refine w_iconst C (-1) dL_isLeft_168 (by decide) ?_
                            refine w_icmp_ne C 375 dL_isLeft_169 (by decide) (fun c56 => ?_) (fun c56 => ?_)
                            · have hF := ifn hF c56
                              refine w_sub [1] (ll' := [(0, _)]) rfl ?_
                              exact W_L_isLeft_375 C hq hd hF
                            · have hF := ifp hF c56
                              refine w_aload_n C 0 1 dL_isLeft_172 rfl rfl ?_
                              refine w_iload_n C 2 0 dL_isLeft_173 rfl rfl ?_
                              obtain ⟨_, g57, hF⟩ := bnd hF
                              obtain ⟨q58, g59, hF⟩ := bnd hF
                              refine w_cVi C mw_X8_thin lk_L_67 _ (N_X8_thin (by omega) (chk2_k g57) g59) (chk2_k g57) rfl rfl (Nat.le_of_ble_eq_true rfl) dL_isLeft_174 ?_
                              refine w_iconst C (-1) dL_isLeft_177 (by decide) ?_
                              refine w_icmp_ne C 375 dL_isLeft_178 (by decide) (fun c60 => ?_) (fun c60 => ?_)
                              · have hF := ifn hF c60
                                refine w_sub [1] (ll' := [(0, _)]) rfl ?_
                                exact W_L_isLeft_375 C hq hd hF
                              · have hF := ifp hF c60
                                refine w_aload_n C 0 1 dL_isLeft_181 rfl rfl ?_
                                refine w_iload_n C 2 0 dL_isLeft_182 rfl rfl ?_
                                refine w_iconst C (0) dL_isLeft_183 (by decide) ?_
                                obtain ⟨_, g61, hF⟩ := bnd hF
                                obtain ⟨q62, g63, hF⟩ := bnd hF
                                refine w_cVi C mw_X8_swap lk_L_70 _ (N_X8_swap (by omega) (chk2_k g61) g63) (chk2_k g61) rfl rfl (Nat.le_of_ble_eq_true rfl) dL_isLeft_184 ?_
                                refine w_iconst C (-1) dL_isLeft_187 (by decide) ?_
                                refine w_icmp_ne C 375 dL_isLeft_188 (by decide) (fun c64 => ?_) (fun c64 => ?_)
                                · have hF := ifn hF c64
                                  refine w_sub [1] (ll' := [(0, _)]) rfl ?_
                                  exact W_L_isLeft_375 C hq hd hF
                                · have hF := ifp hF c64
                                  refine w_aload_n C 0 1 dL_isLeft_191 rfl rfl ?_
                                  refine w_iload_n C 2 0 dL_isLeft_192 rfl rfl ?_
                                  obtain ⟨_, g65, hF⟩ := bnd hF
                                  obtain ⟨q66, g67, hF⟩ := bnd hF
                                  refine w_cVi C mw_X8_undo lk_L_73 _ (N_X8_undo (by omega) (chk2_k g65) g67) (chk2_k g65) rfl rfl (Nat.le_of_ble_eq_true rfl) dL_isLeft_193 ?_
                                  refine w_iconst C (-1) dL_isLeft_196 (by decide) ?_
                                  refine w_icmp_ne C 375 dL_isLeft_197 (by decide) (fun c68 => ?_) (fun c68 => ?_)
                                  · have hF := ifn hF c68
                                    refine w_sub [1] (ll' := [(0, _)]) rfl ?_
                                    exact W_L_isLeft_375 C hq hd hF
                                  · have hF := ifp hF c68
                                    refine w_aload_n C 0 1 dL_isLeft_200 rfl rfl ?_
                                    refine w_iload_n C 2 0 dL_isLeft_201 rfl rfl ?_
                                    obtain ⟨_, g69, hF⟩ := bnd hF
                                    obtain ⟨q70, g71, hF⟩ := bnd hF
                                    refine w_cVi C mw_X8_keep lk_L_79 _ (N_X8_keep (by omega) (chk2_k g69) g71) (chk2_k g69) rfl rfl (Nat.le_of_ble_eq_true rfl) dL_isLeft_202 ?_
                                    refine w_iconst C (-1) dL_isLeft_205 (by decide) ?_
                                    refine w_icmp_ne C 375 dL_isLeft_206 (by decide) (fun c72 => ?_) (fun c72 => ?_)
                                    · have hF := ifn hF c72
                                      refine w_sub [1] (ll' := [(0, _)]) rfl ?_
                                      exact W_L_isLeft_375 C hq hd hF
                                    · have hF := ifp hF c72
                                      refine w_aload_n C 0 1 dL_isLeft_209 rfl rfl ?_
                                      refine w_iload_n C 2 0 dL_isLeft_210 rfl rfl ?_
                                      obtain ⟨_, g73, hF⟩ := bnd hF
                                      obtain ⟨q74, g75, hF⟩ := bnd hF
                                      refine w_cVi C mw_X8_on lk_L_82 _ (N_X8_on (by omega) (chk2_k g73) g75) (chk2_k g73) rfl rfl (Nat.le_of_ble_eq_true rfl) dL_isLeft_211 ?_
                                      refine w_iconst C (-1) dL_isLeft_214 (by decide) ?_
                                      refine w_icmp_ne C 375 dL_isLeft_215 (by decide) (fun c76 => ?_) (fun c76 => ?_)
                                      · have hF := ifn hF c76
                                        refine w_sub [1] (ll' := [(0, _)]) rfl ?_
                                        exact W_L_isLeft_375 C hq hd hF
                                      · have hF := ifp hF c76
                                        refine w_aload_n C 0 1 dL_isLeft_218 rfl rfl ?_
                                        refine w_iload_n C 2 0 dL_isLeft_219 rfl rfl ?_
                                        refine w_iconst C (0) dL_isLeft_220 (by decide) ?_
                                        obtain ⟨_, g77, hF⟩ := bnd hF
                                        obtain ⟨q78, g79, hF⟩ := bnd hF
                                        refine w_cVi C mw_X8_then lk_L_119 _ (N_X8_then (by omega) (chk2_k g77) g79) (chk2_k g77) rfl rfl (Nat.le_of_ble_eq_true rfl) dL_isLeft_221 ?_
                                        refine w_iconst C (-1) dL_isLeft_224 (by decide) ?_
                                        refine w_icmp_ne C 375 dL_isLeft_225 (by decide) (fun c80 => ?_) (fun c80 => ?_)
                                        · have hF := ifn hF c80
                                          refine w_sub [1] (ll' := [(0, _)]) rfl ?_
                                          exact W_L_isLeft_375 C hq hd hF
                                        · have hF := ifp hF c80
                                          refine w_aload_n C 0 1 dL_isLeft_228 rfl rfl ?_
                                          refine w_iload_n C 2 0 dL_isLeft_229 rfl rfl ?_
                                          obtain ⟨_, g81, hF⟩ := bnd hF
                                          obtain ⟨q82, g83, hF⟩ := bnd hF
                                          refine w_cVi C mw_X8_when lk_L_131 _ (N_X8_when (by omega) (chk2_k g81) g83) (chk2_k g81) rfl rfl (Nat.le_of_ble_eq_true rfl) dL_isLeft_230 ?_
                                          refine w_iconst C (-1) dL_isLeft_233 (by decide) ?_
                                          refine w_icmp_ne C 375 dL_isLeft_234 (by decide) (fun c84 => ?_) (fun c84 => ?_)
                                          · have hF := ifn hF c84
                                            refine w_sub [1] (ll' := [(0, _)]) rfl ?_
                                            exact W_L_isLeft_375 C hq hd hF
                                          · have hF := ifp hF c84
                                            refine w_aload_n C 0 1 dL_isLeft_237 rfl rfl ?_
                                            refine w_iload_n C 2 0 dL_isLeft_238 rfl rfl ?_
                                            refine w_iconst C (0) dL_isLeft_239 (by decide) ?_
                                            obtain ⟨_, g85, hF⟩ := bnd hF
                                            obtain ⟨q86, g87, hF⟩ := bnd hF
                                            refine w_cVi C mw_X8_least lk_L_134 _ (N_X8_least (by omega) (chk2_k g85) g87) (chk2_k g85) rfl rfl (Nat.le_of_ble_eq_true rfl) dL_isLeft_240 ?_
                                            refine w_iconst C (-1) dL_isLeft_243 (by decide) ?_
                                            refine w_icmp_ne C 375 dL_isLeft_244 (by decide) (fun c88 => ?_) (fun c88 => ?_)
                                            · have hF := ifn hF c88
                                              refine w_sub [1] (ll' := [(0, _)]) rfl ?_
                                              exact W_L_isLeft_375 C hq hd hF
                                            · have hF := ifp hF c88
                                              refine w_aload_n C 0 1 dL_isLeft_247 rfl rfl ?_
                                              refine w_iload_n C 2 0 dL_isLeft_248 rfl rfl ?_
                                              refine w_iconst C (0) dL_isLeft_249 (by decide) ?_
                                              obtain ⟨_, g89, hF⟩ := bnd hF
                                              obtain ⟨q90, g91, hF⟩ := bnd hF
                                              refine w_cVi C mw_X8_round lk_L_101 _ (N_X8_round (by omega) (chk2_k g89) g91) (chk2_k g89) rfl rfl (Nat.le_of_ble_eq_true rfl) dL_isLeft_250 ?_
                                              refine w_iconst C (-1) dL_isLeft_253 (by decide) ?_
                                              refine w_icmp_ne C 375 dL_isLeft_254 (by decide) (fun c92 => ?_) (fun c92 => ?_)
                                              · have hF := ifn hF c92
                                                refine w_sub [1] (ll' := [(0, _)]) rfl ?_
                                                exact W_L_isLeft_375 C hq hd hF
                                              · have hF := ifp hF c92
                                                refine w_aload_n C 0 1 dL_isLeft_257 rfl rfl ?_
                                                refine w_iconst C (0) dL_isLeft_258 (by decide) ?_
                                                refine w_iload_n C 2 0 dL_isLeft_259 rfl rfl ?_
                                                obtain ⟨_, g93, hF⟩ := bnd hF
                                                obtain ⟨q94, g95, hF⟩ := bnd hF
                                                refine w_cVi C mw_X8_round lk_L_101 _ (N_X8_round (by omega) (chk2_k g93) g95) (chk2_k g93) rfl rfl (Nat.le_of_ble_eq_true rfl) dL_isLeft_260 ?_
                                                refine w_iconst C (-1) dL_isLeft_263 (by decide) ?_
                                                refine w_icmp_ne C 375 dL_isLeft_264 (by decide) (fun c96 => ?_) (fun c96 => ?_)
                                                · have hF := ifn hF c96
                                                  refine w_sub [1] (ll' := [(0, _)]) rfl ?_
                                                  exact W_L_isLeft_375 C hq hd hF
                                                · have hF := ifp hF c96
                                                  refine w_aload_n C 0 1 dL_isLeft_267 rfl rfl ?_
                                                  refine w_iload_n C 2 0 dL_isLeft_268 rfl rfl ?_
                                                  obtain ⟨_, g97, hF⟩ := bnd hF
                                                  obtain ⟨q98, g99, hF⟩ := bnd hF
                                                  refine w_cVi C mw_X8_brings lk_L_110 _ (N_X8_brings (by omega) (chk2_k g97) g99) (chk2_k g97) rfl rfl (Nat.le_of_ble_eq_true rfl) dL_isLeft_269 ?_
                                                  refine w_iconst C (-1) dL_isLeft_272 (by decide) ?_
                                                  refine w_icmp_ne C 375 dL_isLeft_273 (by decide) (fun c100 => ?_) (fun c100 => ?_)
                                                  · have hF := ifn hF c100
                                                    refine w_sub [1] (ll' := [(0, _)]) rfl ?_
                                                    exact W_L_isLeft_375 C hq hd hF
                                                  · have hF := ifp hF c100
                                                    refine w_aload_n C 0 1 dL_isLeft_276 rfl rfl ?_
                                                    refine w_iload_n C 2 0 dL_isLeft_277 rfl rfl ?_
                                                    obtain ⟨_, g101, hF⟩ := bnd hF
                                                    obtain ⟨q102, g103, hF⟩ := bnd hF
                                                    refine w_cVi C mw_X8_marry lk_L_104 _ (N_X8_marry (by omega) (chk2_k g101) g103) (chk2_k g101) rfl rfl (Nat.le_of_ble_eq_true rfl) dL_isLeft_278 ?_
                                                    refine w_iconst C (-1) dL_isLeft_281 (by decide) ?_
                                                    refine w_icmp_ne C 375 dL_isLeft_282 (by decide) (fun c104 => ?_) (fun c104 => ?_)
                                                    · have hF := ifn hF c104
                                                      refine w_sub [1] (ll' := [(0, _)]) rfl ?_
                                                      exact W_L_isLeft_375 C hq hd hF
                                                    · have hF := ifp hF c104
                                                      refine w_aload_n C 0 1 dL_isLeft_285 rfl rfl ?_
                                                      refine w_iload_n C 2 0 dL_isLeft_286 rfl rfl ?_
                                                      refine w_iconst C (0) dL_isLeft_287 (by decide) ?_
                                                      obtain ⟨_, g105, hF⟩ := bnd hF
                                                      obtain ⟨q106, g107, hF⟩ := bnd hF
                                                      refine w_cVi C mw_X8_thicks lk_L_137 _ (N_X8_thicks (by omega) (chk2_k g105) g107) (chk2_k g105) rfl rfl (Nat.le_of_ble_eq_true rfl) dL_isLeft_288 ?_
                                                      refine w_iconst C (-1) dL_isLeft_291 (by decide) ?_
                                                      refine w_icmp_ne C 375 dL_isLeft_292 (by decide) (fun c108 => ?_) (fun c108 => ?_)
                                                      · have hF := ifn hF c108
                                                        refine w_sub [1] (ll' := [(0, _)]) rfl ?_
                                                        exact W_L_isLeft_375 C hq hd hF
                                                      · have hF := ifp hF c108
                                                        refine w_aload_n C 0 1 dL_isLeft_295 rfl rfl ?_
                                                        refine w_iconst C (0) dL_isLeft_296 (by decide) ?_
                                                        refine w_iload_n C 2 0 dL_isLeft_297 rfl rfl ?_
                                                        obtain ⟨_, g109, hF⟩ := bnd hF
                                                        obtain ⟨q110, g111, hF⟩ := bnd hF
                                                        refine w_cVi C mw_X8_kinds lk_L_140 _ (N_X8_kinds (by omega) (chk2_k g109) g111) (chk2_k g109) rfl rfl (Nat.le_of_ble_eq_true rfl) dL_isLeft_298 ?_
                                                        refine w_iconst C (-1) dL_isLeft_301 (by decide) ?_
                                                        refine w_icmp_ne C 375 dL_isLeft_302 (by decide) (fun c112 => ?_) (fun c112 => ?_)
                                                        · have hF := ifn hF c112
                                                          refine w_sub [1] (ll' := [(0, _)]) rfl ?_
                                                          exact W_L_isLeft_375 C hq hd hF
                                                        · have hF := ifp hF c112
                                                          refine w_aload_n C 0 1 dL_isLeft_305 rfl rfl ?_
                                                          refine w_iload_n C 2 0 dL_isLeft_306 rfl rfl ?_
                                                          refine w_iconst C (0) dL_isLeft_307 (by decide) ?_
                                                          obtain ⟨_, g113, hF⟩ := bnd hF
                                                          obtain ⟨q114, g115, hF⟩ := bnd hF
                                                          refine w_cVi C mw_X8_test lk_L_116 _ (N_X8_test (by omega) (chk2_k g113) g115) (chk2_k g113) rfl rfl (Nat.le_of_ble_eq_true rfl) dL_isLeft_308 ?_
                                                          refine w_iconst C (-1) dL_isLeft_311 (by decide) ?_
                                                          refine w_icmp_ne C 375 dL_isLeft_312 (by decide) (fun c116 => ?_) (fun c116 => ?_)
                                                          · have hF := ifn hF c116
                                                            refine w_sub [1] (ll' := [(0, _)]) rfl ?_
                                                            exact W_L_isLeft_375 C hq hd hF
                                                          · have hF := ifp hF c116
                                                            refine w_aload_n C 0 1 dL_isLeft_315 rfl rfl ?_
                                                            refine w_iload_n C 2 0 dL_isLeft_316 rfl rfl ?_
                                                            obtain ⟨_, g117, hF⟩ := bnd hF
                                                            obtain ⟨q118, g119, hF⟩ := bnd hF
                                                            refine w_cVi C mw_X8_duel lk_L_143 _ (N_X8_duel (by omega) (chk2_k g117) g119) (chk2_k g117) rfl rfl (Nat.le_of_ble_eq_true rfl) dL_isLeft_317 ?_
                                                            refine w_iconst C (-1) dL_isLeft_320 (by decide) ?_
                                                            refine w_icmp_ne C 375 dL_isLeft_321 (by decide) (fun c120 => ?_) (fun c120 => ?_)
                                                            · have hF := ifn hF c120
                                                              refine w_sub [1] (ll' := [(0, _)]) rfl ?_
                                                              exact W_L_isLeft_375 C hq hd hF
                                                            · have hF := ifp hF c120
                                                              refine w_aload_n C 0 1 dL_isLeft_324 rfl rfl ?_
                                                              refine w_iload_n C 2 0 dL_isLeft_325 rfl rfl ?_
                                                              refine w_iconst C (0) dL_isLeft_326 (by decide) ?_
                                                              obtain ⟨_, g121, hF⟩ := bnd hF
                                                              obtain ⟨q122, g123, hF⟩ := bnd hF
                                                              refine w_cVi C mw_X8_odds lk_L_113 _ (N_X8_odds (by omega) (chk2_k g121) g123) (chk2_k g121) rfl rfl (Nat.le_of_ble_eq_true rfl) dL_isLeft_327 ?_
                                                              refine w_iconst C (-1) dL_isLeft_330 (by decide) ?_
                                                              refine w_icmp_ne C 375 dL_isLeft_331 (by decide) (fun c124 => ?_) (fun c124 => ?_)
                                                              · have hF := ifn hF c124
                                                                refine w_sub [1] (ll' := [(0, _)]) rfl ?_
                                                                exact W_L_isLeft_375 C hq hd hF
                                                              · have hF := ifp hF c124
                                                                refine w_aload_n C 0 1 dL_isLeft_334 rfl rfl ?_
                                                                refine w_iload_n C 2 0 dL_isLeft_335 rfl rfl ?_
                                                                obtain ⟨_, g125, hF⟩ := bnd hF
                                                                obtain ⟨q126, g127, hF⟩ := bnd hF
                                                                refine w_cVi C mw_X8_mid lk_L_146 _ (N_X8_mid (by omega) (chk2_k g125) g127) (chk2_k g125) rfl rfl (Nat.le_of_ble_eq_true rfl) dL_isLeft_336 ?_
                                                                refine w_iconst C (-1) dL_isLeft_339 (by decide) ?_
                                                                refine w_icmp_ne C 375 dL_isLeft_340 (by decide) (fun c128 => ?_) (fun c128 => ?_)
                                                                · have hF := ifn hF c128
                                                                  refine w_sub [1] (ll' := [(0, _)]) rfl ?_
                                                                  exact W_L_isLeft_375 C hq hd hF
                                                                · have hF := ifp hF c128
                                                                  refine w_aload_n C 0 1 dL_isLeft_343 rfl rfl ?_
                                                                  refine w_iload_n C 2 0 dL_isLeft_344 rfl rfl ?_
                                                                  refine w_iconst C (1) dL_isLeft_345 (by decide) ?_
                                                                  obtain ⟨_, g129, hF⟩ := bnd hF
                                                                  obtain ⟨q130, g131, hF⟩ := bnd hF
                                                                  refine w_cVi C mw_X8_lots lk_L_76 _ (N_X8_lots (by omega) (chk2_k g129) g131) (chk2_k g129) rfl rfl (Nat.le_of_ble_eq_true rfl) dL_isLeft_346 ?_
                                                                  refine w_iconst C (-1) dL_isLeft_349 (by decide) ?_
                                                                  refine w_icmp_ne C 375 dL_isLeft_350 (by decide) (fun c132 => ?_) (fun c132 => ?_)
                                                                  · have hF := ifn hF c132
                                                                    refine w_sub [1] (ll' := [(0, _)]) rfl ?_
                                                                    exact W_L_isLeft_375 C hq hd hF
                                                                  · have hF := ifp hF c132
                                                                    refine w_aload_n C 0 1 dL_isLeft_353 rfl rfl ?_
                                                                    refine w_iload_n C 2 0 dL_isLeft_354 rfl rfl ?_
                                                                    obtain ⟨_, g133, hF⟩ := bnd hF
                                                                    obtain ⟨q134, g135, hF⟩ := bnd hF
                                                                    refine w_cVi C mw_X8_count lk_L_149 _ (N_X8_count (by omega) (chk2_k g133) g135) (chk2_k g133) rfl rfl (Nat.le_of_ble_eq_true rfl) dL_isLeft_355 ?_
                                                                    refine w_iconst C (-1) dL_isLeft_358 (by decide) ?_
                                                                    refine w_icmp_ne C 375 dL_isLeft_359 (by decide) (fun c136 => ?_) (fun c136 => ?_)
                                                                    · have hF := ifn hF c136
                                                                      refine w_sub [1] (ll' := [(0, _)]) rfl ?_
                                                                      exact W_L_isLeft_375 C hq hd hF
                                                                    · have hF := ifp hF c136
                                                                      refine w_aload_n C 0 1 dL_isLeft_362 rfl rfl ?_
                                                                      refine w_iload_n C 2 0 dL_isLeft_363 rfl rfl ?_
                                                                      obtain ⟨_, g137, hF⟩ := bnd hF
                                                                      obtain ⟨q138, g139, hF⟩ := bnd hF
                                                                      refine w_cVi C mw_X8_findings lk_L_152 _ (N_X8_findings (by omega) (chk2_k g137) g139) (chk2_k g137) rfl rfl (Nat.le_of_ble_eq_true rfl) dL_isLeft_364 ?_
                                                                      refine w_iconst C (-1) dL_isLeft_367 (by decide) ?_
                                                                      refine w_icmp_ne C 375 dL_isLeft_368 (by decide) (fun c140 => ?_) (fun c140 => ?_)
                                                                      · have hF := ifn hF c140
                                                                        refine w_sub [1] (ll' := [(0, _)]) rfl ?_
                                                                        exact W_L_isLeft_375 C hq hd hF
                                                                      · have hF := ifp hF c140
                                                                        refine w_iconst C (1) dL_isLeft_371 (by decide) ?_
                                                                        refine w_goto C 376 dL_isLeft_372 (by decide) ?_
                                                                        refine w_sub [1] (ll' := [(0, _)]) rfl ?_
                                                                        exact W_L_isLeft_376 C hq hd hF
set_option maxRecDepth 20000 in
set_option maxHeartbeats 4000000 in
theorem M_L_isLeft {Δ : DD2} {d : Nat} {x0 : Nat} {x1 : Int32} {σ : Mem2} {q : (Int32 × Mem2)} (hd : 25 ≤ d) (hF : F_L_isLeft x0 x1 σ = some q) : Mt2 Δ d yL_isLeft cL_isLeft 5 (some .boolean) [rf2 Δ x0, .int x1] σ (some (.int q.1)) q.2 := by
  obtain ⟨d, rfl⟩ : ∃ e, d = e + 1 := ⟨d - 1, by omega⟩
  have hd : 24 ≤ d := by omega
  refine mt2_of (by decide) rfl (Nat.le_of_ble_eq_true rfl) (fun Γ C hq => ?_)
  unfold F_L_isLeft at hF
  show V2 Δ Γ 5 0 [(0, rf2 Δ (x0)), (1, .int (x1))] [] σ
  refine w_iload_n C 1 1 dL_isLeft_0 rfl rfl ?_
  refine w_iconst C (1) dL_isLeft_1 (by decide) ?_
  refine w_iand C dL_isLeft_2 ?_
  refine w_if_ne C 20 dL_isLeft_3 (by decide) (fun c155 => ?_) (fun c155 => ?_)
  · have hF := ifn hF c155
    refine w_sipush C (-1000) dL_isLeft_20 (by decide) ?_
    refine w_iload_n C 1 1 dL_isLeft_23 rfl rfl ?_
    refine w_iconst C (1) dL_isLeft_24 (by decide) ?_
    refine w_ishr C dL_isLeft_25 ?_
    refine w_sipush C (1023) dL_isLeft_26 (by decide) ?_
    refine w_iand C dL_isLeft_29 ?_
    refine w_isub C dL_isLeft_30 ?_
    refine w_sub [0] (ll' := [(0, _)]) rfl ?_
    exact W_L_isLeft_31 C hq hd hF
  · have hF := ifp hF c155
    refine w_sipush C (1000) dL_isLeft_6 (by decide) ?_
    refine w_iload_n C 1 1 dL_isLeft_9 rfl rfl ?_
    refine w_iconst C (1) dL_isLeft_10 (by decide) ?_
    refine w_ishr C dL_isLeft_11 ?_
    refine w_sipush C (1023) dL_isLeft_12 (by decide) ?_
    refine w_iand C dL_isLeft_15 ?_
    refine w_iadd C dL_isLeft_16 ?_
    refine w_goto C 31 dL_isLeft_17 (by decide) ?_
    refine w_sub [0] (ll' := [(0, _)]) rfl ?_
    exact W_L_isLeft_31 C hq hd hF
def K_L_areAlike_79 (Δ : DD2) (Γ : GG) (q : (Int32 × Mem2)) (x0 : Nat) (x1 : Nat) (y : (Int32 × Int32 × Mem2) ⊕ (Int32 × Mem2)) : Prop := match y with
  | .inl s => V2 Δ Γ 4 79 [(0, rf2 Δ (x0)), (1, rf2 Δ (x1)), (2, .int (s.1)), (3, .int (s.2.1))] [] s.2.2
  | .inr t => (t = q)
set_option maxRecDepth 20000 in
set_option maxHeartbeats 4000000 in
theorem W_L_areAlike_153 {Δ : DD2} {Γ : GG} {d : Nat} {q : (Int32 × Mem2)} {x0 : Nat} {x1 : Nat} {x3 : Int32}  {σ : Mem2} {y : ((Int32 × Int32 × Mem2) ⊕ (Int32 × Mem2))} (C : Cx2 Δ Γ RL cL_areAlike 4 d (some .boolean)) (hq : RetQ2 Δ Γ (some (.int q.1)) q.2) (hd : 24 ≤ d) (hF : F_L_areAlike_153 x0 x1 x3  σ = some y) (hK : (K_L_areAlike_79 Δ Γ q x0 x1 y)) : V2 Δ Γ 4 153 [(0, rf2 Δ (x0)), (1, rf2 Δ (x1)), (3, .int (x3))] [] σ := by
  unfold F_L_areAlike_153 at hF
  refine w_iconst C (0) dL_areAlike_153 (by decide) ?_
  refine w_istore_n C 2 (ll' := [(2, _), (0, _), (1, _), (3, _)]) dL_areAlike_154 rfl (by decide) rfl ?_
  refine w_iinc C (_ + (1 : Int32)) 3 (ll' := [(3, _), (2, _), (0, _), (1, _)]) dL_areAlike_155 rfl (inc_eq (by decide)) (by decide) rfl ?_
  refine w_goto C 79 dL_areAlike_158 (by decide) ?_
  refine w_sub [2, 3, 1, 0] (ll' := [(0, _), (1, _), (2, _), (3, _)]) rfl ?_
  cases hF
  exact hK
set_option maxRecDepth 20000 in
set_option maxHeartbeats 4000000 in
theorem W_L_areAlike_79 {Δ : DD2} {Γ : GG} {d : Nat} {q : (Int32 × Mem2)} {x0 : Nat} {x1 : Nat} (C : Cx2 Δ Γ RL cL_areAlike 4 d (some .boolean)) (hq : RetQ2 Δ Γ (some (.int q.1)) q.2) (hd : 24 ≤ d) {s : Int32 × Int32 × Mem2} (hF : F_L_areAlike_79 x0 x1  s = some q) : V2 Δ Γ 4 79 [(0, rf2 Δ (x0)), (1, rf2 Δ (x1)), (2, .int (s.1)), (3, .int (s.2.1))] [] s.2.2 := by
  have hF : F_L_areAlike_79 x0 x1  s = some q := hF
  refine lp_V (W := fun (s : Int32 × Int32 × Mem2) => V2 Δ Γ 4 79 [(0, rf2 Δ (x0)), (1, rf2 Δ (x1)), (2, .int (s.1)), (3, .int (s.2.1))] [] s.2.2) (K := fun t => t = q) (K' := K_L_areAlike_79 Δ Γ q x0 x1 ) (fun _ h => h) (fun _ h => h) ?_ s q hF rfl
  clear hF
  intro s z hF hK
  refine w_iload_n C 3 3 dL_areAlike_79 rfl rfl ?_
  refine w_bipush C (6) dL_areAlike_80 (by decide) ?_
  refine w_icmp_ge C 161 dL_areAlike_82 (by decide) (fun c1 => ?_) (fun c1 => ?_)
  · have hF := ifp hF c1
    refine w_iload_n C 2 2 dL_areAlike_161 rfl rfl ?_
    obtain ⟨_, g2, hF⟩ := bnd hF
    cases hF
    exact w_zretF C hq hK (bz_nr g2) dL_areAlike_162
  · have hF := ifn hF c1
    refine w_iload_n C 2 2 dL_areAlike_85 rfl rfl ?_
    refine w_if_eq C 153 dL_areAlike_86 (by decide) (fun c3 => ?_) (fun c3 => ?_)
    · have hF := ifp hF c3
      refine w_sub [0, 1, 3] (ll' := [(0, _), (1, _), (3, _)]) rfl ?_
      exact W_L_areAlike_153 C hq hd hF hK
    · have hF := ifn hF c3
      refine w_aload_n C 0 0 dL_areAlike_89 rfl rfl ?_
      refine w_iload_n C 3 3 dL_areAlike_90 rfl rfl ?_
      obtain ⟨_, g4, hF⟩ := bnd hF
      obtain ⟨q5, g6, hF⟩ := bnd hF
      refine w_cVi C mw_X8_findings lk_L_152 _ (N_X8_findings (by omega) (chk2_k g4) g6) (chk2_k g4) rfl rfl (Nat.le_of_ble_eq_true rfl) dL_areAlike_91 ?_
      refine w_aload_n C 1 1 dL_areAlike_94 rfl rfl ?_
      refine w_iload_n C 3 3 dL_areAlike_95 rfl rfl ?_
      obtain ⟨_, g7, hF⟩ := bnd hF
      obtain ⟨q8, g9, hF⟩ := bnd hF
      refine w_cVi C mw_X8_findings lk_L_152 _ (N_X8_findings (by omega) (chk2_k g7) g9) (chk2_k g7) rfl rfl (Nat.le_of_ble_eq_true rfl) dL_areAlike_96 ?_
      refine w_icmp_ne C 153 dL_areAlike_99 (by decide) (fun c10 => ?_) (fun c10 => ?_)
      · have hF := ifn hF c10
        refine w_sub [0, 1, 3] (ll' := [(0, _), (1, _), (3, _)]) rfl ?_
        exact W_L_areAlike_153 C hq hd hF hK
      · have hF := ifp hF c10
        refine w_aload_n C 0 0 dL_areAlike_102 rfl rfl ?_
        refine w_iload_n C 3 3 dL_areAlike_103 rfl rfl ?_
        obtain ⟨_, g11, hF⟩ := bnd hF
        obtain ⟨q12, g13, hF⟩ := bnd hF
        refine w_cVi C mw_X8_when lk_L_131 _ (N_X8_when (by omega) (chk2_k g11) g13) (chk2_k g11) rfl rfl (Nat.le_of_ble_eq_true rfl) dL_areAlike_104 ?_
        refine w_aload_n C 1 1 dL_areAlike_107 rfl rfl ?_
        refine w_iload_n C 3 3 dL_areAlike_108 rfl rfl ?_
        obtain ⟨_, g14, hF⟩ := bnd hF
        obtain ⟨q15, g16, hF⟩ := bnd hF
        refine w_cVi C mw_X8_when lk_L_131 _ (N_X8_when (by omega) (chk2_k g14) g16) (chk2_k g14) rfl rfl (Nat.le_of_ble_eq_true rfl) dL_areAlike_109 ?_
        refine w_icmp_ne C 153 dL_areAlike_112 (by decide) (fun c17 => ?_) (fun c17 => ?_)
        · have hF := ifn hF c17
          refine w_sub [0, 1, 3] (ll' := [(0, _), (1, _), (3, _)]) rfl ?_
          exact W_L_areAlike_153 C hq hd hF hK
        · have hF := ifp hF c17
          refine w_aload_n C 0 0 dL_areAlike_115 rfl rfl ?_
          refine w_iload_n C 3 3 dL_areAlike_116 rfl rfl ?_
          refine w_bipush C (9) dL_areAlike_117 (by decide) ?_
          obtain ⟨_, g18, hF⟩ := bnd hF
          obtain ⟨q19, g20, hF⟩ := bnd hF
          refine w_cVi C mw_X8_least lk_L_134 _ (N_X8_least (by omega) (chk2_k g18) g20) (chk2_k g18) rfl rfl (Nat.le_of_ble_eq_true rfl) dL_areAlike_119 ?_
          refine w_aload_n C 1 1 dL_areAlike_122 rfl rfl ?_
          refine w_iload_n C 3 3 dL_areAlike_123 rfl rfl ?_
          refine w_bipush C (9) dL_areAlike_124 (by decide) ?_
          obtain ⟨_, g21, hF⟩ := bnd hF
          obtain ⟨q22, g23, hF⟩ := bnd hF
          refine w_cVi C mw_X8_least lk_L_134 _ (N_X8_least (by omega) (chk2_k g21) g23) (chk2_k g21) rfl rfl (Nat.le_of_ble_eq_true rfl) dL_areAlike_126 ?_
          refine w_icmp_ne C 153 dL_areAlike_129 (by decide) (fun c24 => ?_) (fun c24 => ?_)
          · have hF := ifn hF c24
            refine w_sub [0, 1, 3] (ll' := [(0, _), (1, _), (3, _)]) rfl ?_
            exact W_L_areAlike_153 C hq hd hF hK
          · have hF := ifp hF c24
            refine w_aload_n C 0 0 dL_areAlike_132 rfl rfl ?_
            refine w_iload_n C 3 3 dL_areAlike_133 rfl rfl ?_
            refine w_bipush C (7) dL_areAlike_134 (by decide) ?_
            obtain ⟨_, g25, hF⟩ := bnd hF
            obtain ⟨q26, g27, hF⟩ := bnd hF
            refine w_cVi C mw_X8_cross lk_L_128 _ (N_X8_cross (by omega) (chk2_k g25) g27) (chk2_k g25) rfl rfl (Nat.le_of_ble_eq_true rfl) dL_areAlike_136 ?_
            refine w_aload_n C 1 1 dL_areAlike_139 rfl rfl ?_
            refine w_iload_n C 3 3 dL_areAlike_140 rfl rfl ?_
            refine w_bipush C (7) dL_areAlike_141 (by decide) ?_
            obtain ⟨_, g28, hF⟩ := bnd hF
            obtain ⟨q29, g30, hF⟩ := bnd hF
            refine w_cVi C mw_X8_cross lk_L_128 _ (N_X8_cross (by omega) (chk2_k g28) g30) (chk2_k g28) rfl rfl (Nat.le_of_ble_eq_true rfl) dL_areAlike_143 ?_
            refine w_icmp_ne C 153 dL_areAlike_146 (by decide) (fun c31 => ?_) (fun c31 => ?_)
            · have hF := ifn hF c31
              refine w_sub [0, 1, 3] (ll' := [(0, _), (1, _), (3, _)]) rfl ?_
              exact W_L_areAlike_153 C hq hd hF hK
            · have hF := ifp hF c31
              refine w_iconst C (1) dL_areAlike_149 (by decide) ?_
              refine w_goto C 154 dL_areAlike_150 (by decide) ?_
              refine w_istore_n C 2 (ll' := [(2, _), (0, _), (1, _), (3, _)]) dL_areAlike_154 rfl (by decide) rfl ?_
              refine w_iinc C (_ + (1 : Int32)) 3 (ll' := [(3, _), (2, _), (0, _), (1, _)]) dL_areAlike_155 rfl (inc_eq (by decide)) (by decide) rfl ?_
              refine w_goto C 79 dL_areAlike_158 (by decide) ?_
              refine w_sub [2, 3, 1, 0] (ll' := [(0, _), (1, _), (2, _), (3, _)]) rfl ?_
              cases hF
              exact hK
set_option maxRecDepth 20000 in
set_option maxHeartbeats 4000000 in
theorem W_L_areAlike_76 {Δ : DD2} {Γ : GG} {d : Nat} {q : (Int32 × Mem2)} {x0 : Nat} {x1 : Nat} {y0 : Int32} {σ : Mem2} (C : Cx2 Δ Γ RL cL_areAlike 4 d (some .boolean)) (hq : RetQ2 Δ Γ (some (.int q.1)) q.2) (hd : 24 ≤ d) (hF : F_L_areAlike_76 x0 x1 y0 σ = some q) : V2 Δ Γ 4 76 [(0, rf2 Δ (x0)), (1, rf2 Δ (x1))] [.int (y0)] σ := by
  unfold F_L_areAlike_76 at hF
  refine w_istore_n C 2 (ll' := [(2, _), (0, _), (1, _)]) dL_areAlike_76 rfl (by decide) rfl ?_
  refine w_iconst C (0) dL_areAlike_77 (by decide) ?_
  refine w_istore_n C 3 (ll' := [(3, _), (2, _), (0, _), (1, _)]) dL_areAlike_78 rfl (by decide) rfl ?_
  refine w_sub [2, 3, 1, 0] (ll' := [(0, _), (1, _), (2, _), (3, _)]) rfl ?_
  exact W_L_areAlike_79 C hq hd hF
set_option maxRecDepth 20000 in
set_option maxHeartbeats 4000000 in
theorem W_L_areAlike_75 {Δ : DD2} {Γ : GG} {d : Nat} {q : (Int32 × Mem2)} {x0 : Nat} {x1 : Nat}  {σ : Mem2} (C : Cx2 Δ Γ RL cL_areAlike 4 d (some .boolean)) (hq : RetQ2 Δ Γ (some (.int q.1)) q.2) (hd : 24 ≤ d) (hF : F_L_areAlike_75 x0 x1  σ = some q) : V2 Δ Γ 4 75 [(0, rf2 Δ (x0)), (1, rf2 Δ (x1))] [] σ := by
  unfold F_L_areAlike_75 at hF
  refine w_iconst C (0) dL_areAlike_75 (by decide) ?_
  exact W_L_areAlike_76 C hq hd hF
set_option maxRecDepth 20000 in
set_option maxHeartbeats 4000000 in
theorem M_L_areAlike {Δ : DD2} {d : Nat} {x0 : Nat} {x1 : Nat} {σ : Mem2} {q : (Int32 × Mem2)} (hd : 25 ≤ d) (hF : F_L_areAlike x0 x1 σ = some q) : Mt2 Δ d yL_areAlike cL_areAlike 4 (some .boolean) [rf2 Δ x0, rf2 Δ x1] σ (some (.int q.1)) q.2 := by
  obtain ⟨d, rfl⟩ : ∃ e, d = e + 1 := ⟨d - 1, by omega⟩
  have hd : 24 ≤ d := by omega
  refine mt2_of (by decide) rfl (Nat.le_of_ble_eq_true rfl) (fun Γ C hq => ?_)
  unfold F_L_areAlike at hF
  show V2 Δ Γ 4 0 [(0, rf2 Δ (x0)), (1, rf2 Δ (x1))] [] σ
  refine w_aload_n C 0 0 dL_areAlike_0 rfl rfl ?_
  obtain ⟨_, g32, hF⟩ := bnd hF
  obtain ⟨q33, g34, hF⟩ := bnd hF
  refine w_cVl C mw_X8_digest lk_L_155 _ (N_X8_digest (by omega) (chk2_k g32) g34) (chk2_k g32) rfl rfl (Nat.le_of_ble_eq_true rfl) dL_areAlike_1 ?_
  refine w_aload_n C 1 1 dL_areAlike_4 rfl rfl ?_
  obtain ⟨_, g35, hF⟩ := bnd hF
  obtain ⟨q36, g37, hF⟩ := bnd hF
  refine w_cVl C mw_X8_digest lk_L_155 _ (N_X8_digest (by omega) (chk2_k g35) g37) (chk2_k g35) rfl rfl (Nat.le_of_ble_eq_true rfl) dL_areAlike_5 ?_
  refine w_lcmp C dL_areAlike_8 ?_
  refine w_if_ne C 75 dL_areAlike_9 (by decide) (fun c38 => ?_) (fun c38 => ?_)
  · have hF := ifn hF c38
    exact W_L_areAlike_75 C hq hd hF
  · have hF := ifp hF c38
    refine w_aload_n C 0 0 dL_areAlike_12 rfl rfl ?_
    obtain ⟨_, g39, hF⟩ := bnd hF
    obtain ⟨q40, g41, hF⟩ := bnd hF
    refine w_cVl C mw_X8_upper lk_L_159 _ (N_X8_upper (by omega) (chk2_k g39) g41) (chk2_k g39) rfl rfl (Nat.le_of_ble_eq_true rfl) dL_areAlike_13 ?_
    refine w_aload_n C 1 1 dL_areAlike_16 rfl rfl ?_
    obtain ⟨_, g42, hF⟩ := bnd hF
    obtain ⟨q43, g44, hF⟩ := bnd hF
    refine w_cVl C mw_X8_upper lk_L_159 _ (N_X8_upper (by omega) (chk2_k g42) g44) (chk2_k g42) rfl rfl (Nat.le_of_ble_eq_true rfl) dL_areAlike_17 ?_
    refine w_lcmp C dL_areAlike_20 ?_
    refine w_if_ne C 75 dL_areAlike_21 (by decide) (fun c45 => ?_) (fun c45 => ?_)
    · have hF := ifn hF c45
      exact W_L_areAlike_75 C hq hd hF
    · have hF := ifp hF c45
      refine w_aload_n C 0 0 dL_areAlike_24 rfl rfl ?_
      obtain ⟨_, g46, hF⟩ := bnd hF
      obtain ⟨q47, g48, hF⟩ := bnd hF
      refine w_cVl C mw_X8_lower lk_L_162 _ (N_X8_lower (by omega) (chk2_k g46) g48) (chk2_k g46) rfl rfl (Nat.le_of_ble_eq_true rfl) dL_areAlike_25 ?_
      refine w_aload_n C 1 1 dL_areAlike_28 rfl rfl ?_
      obtain ⟨_, g49, hF⟩ := bnd hF
      obtain ⟨q50, g51, hF⟩ := bnd hF
      refine w_cVl C mw_X8_lower lk_L_162 _ (N_X8_lower (by omega) (chk2_k g49) g51) (chk2_k g49) rfl rfl (Nat.le_of_ble_eq_true rfl) dL_areAlike_29 ?_
      refine w_lcmp C dL_areAlike_32 ?_
      refine w_if_ne C 75 dL_areAlike_33 (by decide) (fun c52 => ?_) (fun c52 => ?_)
      · have hF := ifn hF c52
        exact W_L_areAlike_75 C hq hd hF
      · have hF := ifp hF c52
        refine w_aload_n C 0 0 dL_areAlike_36 rfl rfl ?_
        obtain ⟨_, g53, hF⟩ := bnd hF
        obtain ⟨q54, g55, hF⟩ := bnd hF
        refine w_cVi C mw_X8_asked lk_L_165 _ (N_X8_asked (by omega) (chk2_k g53) g55) (chk2_k g53) rfl rfl (Nat.le_of_ble_eq_true rfl) dL_areAlike_37 ?_
        refine w_aload_n C 1 1 dL_areAlike_40 rfl rfl ?_
        obtain ⟨_, g56, hF⟩ := bnd hF
        obtain ⟨q57, g58, hF⟩ := bnd hF
        refine w_cVi C mw_X8_asked lk_L_165 _ (N_X8_asked (by omega) (chk2_k g56) g58) (chk2_k g56) rfl rfl (Nat.le_of_ble_eq_true rfl) dL_areAlike_41 ?_
        refine w_icmp_ne C 75 dL_areAlike_44 (by decide) (fun c59 => ?_) (fun c59 => ?_)
        · have hF := ifn hF c59
          exact W_L_areAlike_75 C hq hd hF
        · have hF := ifp hF c59
          refine w_aload_n C 0 0 dL_areAlike_47 rfl rfl ?_
          obtain ⟨_, g60, hF⟩ := bnd hF
          obtain ⟨q61, g62, hF⟩ := bnd hF
          refine w_cVi C mw_X8_finding lk_L_168 _ (N_X8_finding (by omega) (chk2_k g60) g62) (chk2_k g60) rfl rfl (Nat.le_of_ble_eq_true rfl) dL_areAlike_48 ?_
          refine w_aload_n C 1 1 dL_areAlike_51 rfl rfl ?_
          obtain ⟨_, g63, hF⟩ := bnd hF
          obtain ⟨q64, g65, hF⟩ := bnd hF
          refine w_cVi C mw_X8_finding lk_L_168 _ (N_X8_finding (by omega) (chk2_k g63) g65) (chk2_k g63) rfl rfl (Nat.le_of_ble_eq_true rfl) dL_areAlike_52 ?_
          refine w_icmp_ne C 75 dL_areAlike_55 (by decide) (fun c66 => ?_) (fun c66 => ?_)
          · have hF := ifn hF c66
            exact W_L_areAlike_75 C hq hd hF
          · have hF := ifp hF c66
            refine w_aload_n C 0 0 dL_areAlike_58 rfl rfl ?_
            refine w_iconst C (2) dL_areAlike_59 (by decide) ?_
            obtain ⟨_, g67, hF⟩ := bnd hF
            obtain ⟨q68, g69, hF⟩ := bnd hF
            refine w_cVi C mw_X8_duel lk_L_143 _ (N_X8_duel (by omega) (chk2_k g67) g69) (chk2_k g67) rfl rfl (Nat.le_of_ble_eq_true rfl) dL_areAlike_60 ?_
            refine w_aload_n C 1 1 dL_areAlike_63 rfl rfl ?_
            refine w_iconst C (2) dL_areAlike_64 (by decide) ?_
            obtain ⟨_, g70, hF⟩ := bnd hF
            obtain ⟨q71, g72, hF⟩ := bnd hF
            refine w_cVi C mw_X8_duel lk_L_143 _ (N_X8_duel (by omega) (chk2_k g70) g72) (chk2_k g70) rfl rfl (Nat.le_of_ble_eq_true rfl) dL_areAlike_65 ?_
            refine w_icmp_ne C 75 dL_areAlike_68 (by decide) (fun c73 => ?_) (fun c73 => ?_)
            · have hF := ifn hF c73
              exact W_L_areAlike_75 C hq hd hF
            · have hF := ifp hF c73
              refine w_iconst C (1) dL_areAlike_71 (by decide) ?_
              refine w_goto C 76 dL_areAlike_72 (by decide) ?_
              exact W_L_areAlike_76 C hq hd hF

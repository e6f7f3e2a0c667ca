def K_X9_test_43 (Δ : DD) (Γ : GG) (q : (Int32 × Mem)) (x0 : Nat) (x1 : Int32) (x2 : Int32) (y : (Int32 × Int32 × Int32 × Int32 × Mem) ⊕ (Int32 × Mem)) : Prop := match y with
  | .inl s => V Δ Γ 11 43 [(0, rf Δ (x0)), (1, .int (x1)), (2, .int (x2)), (4, .int (s.1)), (5, .int (s.2.1)), (6, .int (s.2.2.1)), (7, .int (s.2.2.2.1))] [] s.2.2.2.2
  | .inr t => (t = q)
def K_X9_test_59 (Δ : DD) (Γ : GG) (q : (Int32 × Mem)) (x0 : Nat) (x1 : Int32) (x2 : Int32) (x4 : Int32) (x5 : Int32) (x6 : Int32) (x7 : Int32) (x8 : Int32) (y : (Int32 × Mem) ⊕ ((Int32 × Int32 × Int32 × Int32 × Mem) ⊕ (Int32 × Mem))) : Prop := match y with
  | .inl s => V Δ Γ 11 59 [(0, rf Δ (x0)), (1, .int (x1)), (2, .int (x2)), (4, .int (x4)), (5, .int (x5)), (6, .int (x6)), (7, .int (x7)), (8, .int (x8)), (9, .int (s.1))] [] s.2
  | .inr t => (K_X9_test_43 Δ Γ q x0 x1 x2 t)
def K_X9_test_83 (Δ : DD) (Γ : GG) (q : (Int32 × Mem)) (x0 : Nat) (x1 : Int32) (x2 : Int32) (x4 : Int32) (x5 : Int32) (x7 : Int32) (y : (Int32 × Int32 × Int32 × Mem) ⊕ ((Int32 × Int32 × Int32 × Int32 × Mem) ⊕ (Int32 × Mem))) : Prop := match y with
  | .inl s => V Δ Γ 11 83 [(0, rf Δ (x0)), (1, .int (x1)), (2, .int (x2)), (4, .int (x4)), (5, .int (x5)), (6, .int (s.1)), (7, .int (x7)), (8, .int (s.2.1)), (9, .int (s.2.2.1))] [] s.2.2.2
  | .inr t => (K_X9_test_43 Δ Γ q x0 x1 x2 t)
set_option maxRecDepth 20000 in
set_option maxHeartbeats 2000000 in
theorem W_X9_test_168 {Δ : DD} {Γ : GG} {d : Nat} {q : (Int32 × Mem)} {x0 : Nat} {x1 : Int32} {x2 : Int32} {x4 : Int32} {x5 : Int32} {x6 : Int32} {x7 : Int32} {x9 : Int32} {y0 : Int32} {σ : Mem} {y : ((Int32 × Int32 × Int32 × Mem) ⊕ ((Int32 × Int32 × Int32 × Int32 × Mem) ⊕ (Int32 × Mem)))} (C : Cx Δ Γ RX9 cX9_test 11 d (some .int)) (hq : RetQ Δ Γ (some (.int q.1)) q.2) (h0 : isK 9 x0 = true) (hd : 3 ≤ d) (hF : F_X9_test_168 x0 x1 x2 x4 x5 x6 x7 x9 y0 σ = some y) (hK : (K_X9_test_83 Δ Γ q x0 x1 x2 x4 x5 x7 y)) : V Δ Γ 11 168 [(0, rf Δ (x0)), (1, .int (x1)), (2, .int (x2)), (4, .int (x4)), (5, .int (x5)), (6, .int (x6)), (7, .int (x7)), (9, .int (x9))] [.int (y0)] σ := by
  unfold F_X9_test_168 at hF
  refine v_istore C 8 (ll' := [(8, _), (0, _), (1, _), (2, _), (4, _), (5, _), (6, _), (7, _), (9, _)]) dX9_test_168 (by decide) rfl ?_
  refine v_iinc C (_ + (1 : Int32)) 6 (ll' := [(6, _), (8, _), (0, _), (1, _), (2, _), (4, _), (5, _), (7, _), (9, _)]) dX9_test_170 rfl (inc_eq (by decide)) (by decide) rfl ?_
  refine v_iinc C (_ + (1 : Int32)) 8 (ll' := [(9, _), (6, _), (8, _), (0, _), (1, _), (2, _), (4, _), (5, _), (7, _)]) dX9_test_173 rfl (inc_eq (by decide)) (by decide) rfl ?_
  refine v_goto C 83 dX9_test_176 (by decide) ?_
  refine v_sub [3, 4, 5, 6, 7, 1, 8, 2, 0] (ll' := [(0, _), (1, _), (2, _), (4, _), (5, _), (6, _), (7, _), (8, _), (9, _)]) rfl ?_
  cases hF
  exact hK
set_option maxRecDepth 20000 in
set_option maxHeartbeats 2000000 in
theorem W_X9_test_193 {Δ : DD} {Γ : GG} {d : Nat} {q : (Int32 × Mem)} {x0 : Nat} {x1 : Int32} {x2 : Int32} {x5 : Int32} {x6 : Int32} {x7 : Int32} {x8 : Int32} {y0 : Int32} {σ : Mem} {y : ((Int32 × Int32 × Int32 × Int32 × Mem) ⊕ (Int32 × Mem))} (C : Cx Δ Γ RX9 cX9_test 11 d (some .int)) (hq : RetQ Δ Γ (some (.int q.1)) q.2) (h0 : isK 9 x0 = true) (hd : 3 ≤ d) (hF : F_X9_test_193 x0 x1 x2 x5 x6 x7 x8 y0 σ = some y) (hK : (K_X9_test_43 Δ Γ q x0 x1 x2 y)) : V Δ Γ 11 193 [(0, rf Δ (x0)), (1, .int (x1)), (2, .int (x2)), (5, .int (x5)), (6, .int (x6)), (7, .int (x7)), (8, .int (x8))] [.int (y0)] σ := by
  unfold F_X9_test_193 at hF
  refine v_istore C 4 (ll' := [(4, _), (0, _), (1, _), (2, _), (5, _), (6, _), (7, _), (8, _)]) dX9_test_193 (by decide) rfl ?_
  refine v_iload C 8 7 dX9_test_195 rfl ?_
  refine v_iload C 5 4 dX9_test_197 rfl ?_
  refine v_icmp_ge C 207 dX9_test_199 (by decide) (fun c34 => ?_) (fun c34 => ?_)
  · have hF := ifp hF c34
    refine v_iload C 5 4 dX9_test_207 rfl ?_
    refine v_istore C 5 (ll' := [(5, _), (4, _), (0, _), (1, _), (2, _), (6, _), (7, _), (8, _)]) dX9_test_209 (by decide) rfl ?_
    refine v_iinc C (_ + (1 : Int32)) 6 (ll' := [(7, _), (5, _), (4, _), (0, _), (1, _), (2, _), (6, _), (8, _)]) dX9_test_211 rfl (inc_eq (by decide)) (by decide) rfl ?_
    refine v_goto C 43 dX9_test_214 (by decide) ?_
    refine v_sub [3, 4, 5, 2, 1, 6, 0] (ll' := [(0, _), (1, _), (2, _), (4, _), (5, _), (6, _), (7, _)]) rfl ?_
    cases hF
    exact hK
  · have hF := ifn hF c34
    refine v_iload C 8 7 dX9_test_202 rfl ?_
    refine v_goto C 209 dX9_test_204 (by decide) ?_
    refine v_istore C 5 (ll' := [(5, _), (4, _), (0, _), (1, _), (2, _), (6, _), (7, _), (8, _)]) dX9_test_209 (by decide) rfl ?_
    refine v_iinc C (_ + (1 : Int32)) 6 (ll' := [(7, _), (5, _), (4, _), (0, _), (1, _), (2, _), (6, _), (8, _)]) dX9_test_211 rfl (inc_eq (by decide)) (by decide) rfl ?_
    refine v_goto C 43 dX9_test_214 (by decide) ?_
    refine v_sub [3, 4, 5, 2, 1, 6, 0] (ll' := [(0, _), (1, _), (2, _), (4, _), (5, _), (6, _), (7, _)]) rfl ?_
    cases hF
    exact hK
set_option maxRecDepth 20000 in
set_option maxHeartbeats 2000000 in
theorem W_X9_test_83 {Δ : DD} {Γ : GG} {d : Nat} {q : (Int32 × Mem)} {x0 : Nat} {x1 : Int32} {x2 : Int32} {x4 : Int32} {x5 : Int32} {x7 : Int32} (C : Cx Δ Γ RX9 cX9_test 11 d (some .int)) (hq : RetQ Δ Γ (some (.int q.1)) q.2) (h0 : isK 9 x0 = true) (hd : 3 ≤ d) {s : Int32 × Int32 × Int32 × Mem} {y : ((Int32 × Int32 × Int32 × Int32 × Mem) ⊕ (Int32 × Mem))} (hF : F_X9_test_83 x0 x1 x2 x4 x5 x7  s = some y) (hK : (K_X9_test_43 Δ Γ q x0 x1 x2 y)) : V Δ Γ 11 83 [(0, rf Δ (x0)), (1, .int (x1)), (2, .int (x2)), (4, .int (x4)), (5, .int (x5)), (6, .int (s.1)), (7, .int (x7)), (8, .int (s.2.1)), (9, .int (s.2.2.1))] [] s.2.2.2 := by
  refine lp_V (W := fun (s : Int32 × Int32 × Int32 × Mem) => V Δ Γ 11 83 [(0, rf Δ (x0)), (1, .int (x1)), (2, .int (x2)), (4, .int (x4)), (5, .int (x5)), (6, .int (s.1)), (7, .int (x7)), (8, .int (s.2.1)), (9, .int (s.2.2.1))] [] s.2.2.2) (K := fun (t : ((Int32 × Int32 × Int32 × Int32 × Mem) ⊕ (Int32 × Mem))) => (K_X9_test_43 Δ Γ q x0 x1 x2 t)) (K' := K_X9_test_83 Δ Γ q x0 x1 x2 x4 x5 x7 ) (fun _ h => h) (fun _ h => h) ?_ s y hF hK
  clear hF hK
  intro s z hF hK
  refine v_iload C 9 8 dX9_test_83 rfl ?_
  refine v_bipush C (60) dX9_test_85 (by decide) ?_
  refine v_icmp_ge C 179 dX9_test_87 (by decide) (fun c10 => ?_) (fun c10 => ?_)
  · have hF := ifp hF c10
    refine v_iload C 8 7 dX9_test_179 rfl ?_
    refine v_iload C 5 4 dX9_test_181 rfl ?_
    refine v_icmp_ge C 191 dX9_test_183 (by decide) (fun c11 => ?_) (fun c11 => ?_)
    · have hF := ifp hF c11
      refine v_iload C 4 3 dX9_test_191 rfl ?_
      refine v_sub [0, 1, 2, 4, 5, 6, 7] (ll' := [(0, _), (1, _), (2, _), (5, _), (6, _), (7, _), (8, _)]) rfl ?_
      obtain ⟨z, hz, e⟩ := mapd hF
      subst e
      exact W_X9_test_193 C hq h0 hd hz hK
    · have hF := ifn hF c11
      refine v_iload C 7 6 dX9_test_186 rfl ?_
      refine v_goto C 193 dX9_test_188 (by decide) ?_
      refine v_sub [0, 1, 2, 4, 5, 6, 7] (ll' := [(0, _), (1, _), (2, _), (5, _), (6, _), (7, _), (8, _)]) rfl ?_
      obtain ⟨z, hz, e⟩ := mapd hF
      subst e
      exact W_X9_test_193 C hq h0 hd hz hK
  · have hF := ifn hF c10
    refine v_aload_n C 0 0 dX9_test_90 rfl rfl ?_
    refine v_iload_n C 2 2 dX9_test_91 rfl rfl ?_
    refine v_iload_n C 1 1 dX9_test_92 rfl rfl ?_
    refine v_iload C 9 8 dX9_test_93 rfl ?_
    refine v_bipush C (10) dX9_test_95 (by decide) ?_
    refine v_idiv C dX9_test_97 (by decide) ?_
    refine v_iload C 9 8 dX9_test_98 rfl ?_
    refine v_bipush C (10) dX9_test_100 (by decide) ?_
    refine v_irem C dX9_test_102 (by decide) ?_
    obtain ⟨q12, g13, hF⟩ := bnd hF
    refine v_cVi C mw_X9_crossedSo lk_X9_193 _ (M_X9_crossedSo (by omega) h0 g13) h0 rfl rfl (Nat.le_of_ble_eq_true rfl) dX9_test_103 ?_
    refine v_if_eq C 173 dX9_test_106 (by decide) (fun c14 => ?_) (fun c14 => ?_)
    · have hF := ifp hF c14
      refine v_iinc C (_ + (1 : Int32)) 8 (ll' := [(9, _), (0, _), (1, _), (2, _), (4, _), (5, _), (6, _), (7, _), (8, _)]) dX9_test_173 rfl (inc_eq (by decide)) (by decide) rfl ?_
      refine v_goto C 83 dX9_test_176 (by decide) ?_
      refine v_sub [1, 2, 3, 4, 5, 6, 7, 8, 0] (ll' := [(0, _), (1, _), (2, _), (4, _), (5, _), (6, _), (7, _), (8, _), (9, _)]) rfl ?_
      cases hF
      exact hK
    · have hF := ifn hF c14
      refine v_aload_n C 0 0 dX9_test_109 rfl rfl ?_
      refine v_iload C 9 8 dX9_test_110 rfl ?_
      refine v_bipush C (10) dX9_test_112 (by decide) ?_
      refine v_idiv C dX9_test_114 (by decide) ?_
      refine v_iload C 9 8 dX9_test_115 rfl ?_
      refine v_bipush C (10) dX9_test_117 (by decide) ?_
      refine v_irem C dX9_test_119 (by decide) ?_
      refine v_aload_n C 0 0 dX9_test_120 rfl rfl ?_
      refine v_iconst C (0) dX9_test_121 (by decide) ?_
      refine v_iload_n C 1 1 dX9_test_122 rfl rfl ?_
      obtain ⟨q15, g16, hF⟩ := bnd hF
      refine v_cVi C mw_X9_gapIn lk_X9_126 _ (M_X9_gapIn (by omega) h0 g16) h0 rfl rfl (Nat.le_of_ble_eq_true rfl) dX9_test_123 ?_
      refine v_iload C 7 6 dX9_test_126 rfl ?_
      obtain ⟨q17, g18, hF⟩ := bnd hF
      refine v_cVi C mw_X9_crossBy lk_X9_129 _ (M_X9_crossBy (by omega) h0 g18) h0 rfl rfl (Nat.le_of_ble_eq_true rfl) dX9_test_128 ?_
      refine v_istore C 10 (ll' := [(10, _), (0, _), (1, _), (2, _), (4, _), (5, _), (6, _), (7, _), (8, _), (9, _)]) dX9_test_131 (by decide) rfl ?_
      refine v_aload_n C 0 1 dX9_test_133 rfl rfl ?_
      obtain ⟨p20, g19, hF⟩ := bnd hF
      refine v_gR C fu_X9_38 g19 dX9_test_134 ?_
      refine v_iload C 10 0 dX9_test_137 rfl ?_
      refine v_dup2 C dX9_test_139 rfl rfl ?_
      obtain ⟨v21, g22, hF⟩ := bnd hF
      refine v_aI C g22 dX9_test_140 ?_
      refine v_iconst C (1) dX9_test_141 (by decide) ?_
      refine v_iadd C dX9_test_142 ?_
      obtain ⟨m23, g24, hF⟩ := bnd hF
      refine v_sI C g24 dX9_test_143 ?_
      refine v_aload_n C 0 1 dX9_test_144 rfl rfl ?_
      obtain ⟨p26, g25, hF⟩ := bnd hF
      refine v_gR C fu_X9_38 g25 dX9_test_145 ?_
      refine v_iload C 10 0 dX9_test_148 rfl ?_
      obtain ⟨v27, g28, hF⟩ := bnd hF
      refine v_aI C g28 dX9_test_150 ?_
      refine v_iload C 8 8 dX9_test_151 rfl ?_
      refine v_icmp_le C 166 dX9_test_153 (by decide) (fun c29 => ?_) (fun c29 => ?_)
      · have hF := ifp hF c29
        refine v_iload C 8 8 dX9_test_166 rfl ?_
        refine v_sub [1, 2, 3, 4, 5, 6, 7, 9] (ll' := [(0, _), (1, _), (2, _), (4, _), (5, _), (6, _), (7, _), (9, _)]) rfl ?_
        exact W_X9_test_168 C hq h0 hd hF hK
      · have hF := ifn hF c29
        refine v_aload_n C 0 1 dX9_test_156 rfl rfl ?_
        obtain ⟨p31, g30, hF⟩ := bnd hF
        refine v_gR C fu_X9_38 g30 dX9_test_157 ?_
        refine v_iload C 10 0 dX9_test_160 rfl ?_
        obtain ⟨v32, g33, hF⟩ := bnd hF
        refine v_aI C g33 dX9_test_162 ?_
        refine v_goto C 168 dX9_test_163 (by decide) ?_
        refine v_sub [1, 2, 3, 4, 5, 6, 7, 9] (ll' := [(0, _), (1, _), (2, _), (4, _), (5, _), (6, _), (7, _), (9, _)]) rfl ?_
        exact W_X9_test_168 C hq h0 hd hF hK
set_option maxRecDepth 20000 in
set_option maxHeartbeats 2000000 in
theorem W_X9_test_59 {Δ : DD} {Γ : GG} {d : Nat} {q : (Int32 × Mem)} {x0 : Nat} {x1 : Int32} {x2 : Int32} {x4 : Int32} {x5 : Int32} {x6 : Int32} {x7 : Int32} {x8 : Int32} (C : Cx Δ Γ RX9 cX9_test 11 d (some .int)) (hq : RetQ Δ Γ (some (.int q.1)) q.2) (h0 : isK 9 x0 = true) (hd : 3 ≤ d) {s : Int32 × Mem} {y : ((Int32 × Int32 × Int32 × Int32 × Mem) ⊕ (Int32 × Mem))} (hF : F_X9_test_59 x0 x1 x2 x4 x5 x6 x7 x8  s = some y) (hK : (K_X9_test_43 Δ Γ q x0 x1 x2 y)) : V Δ Γ 11 59 [(0, rf Δ (x0)), (1, .int (x1)), (2, .int (x2)), (4, .int (x4)), (5, .int (x5)), (6, .int (x6)), (7, .int (x7)), (8, .int (x8)), (9, .int (s.1))] [] s.2 := by
  refine lp_V (W := fun (s : Int32 × Mem) => V Δ Γ 11 59 [(0, rf Δ (x0)), (1, .int (x1)), (2, .int (x2)), (4, .int (x4)), (5, .int (x5)), (6, .int (x6)), (7, .int (x7)), (8, .int (x8)), (9, .int (s.1))] [] s.2) (K := fun (t : ((Int32 × Int32 × Int32 × Int32 × Mem) ⊕ (Int32 × Mem))) => (K_X9_test_43 Δ Γ q x0 x1 x2 t)) (K' := K_X9_test_59 Δ Γ q x0 x1 x2 x4 x5 x6 x7 x8 ) (fun _ h => h) (fun _ h => h) ?_ s y hF hK
  clear hF hK
  intro s z hF hK
  refine v_iload C 9 8 dX9_test_59 rfl ?_
  refine v_bipush C (32) dX9_test_61 (by decide) ?_
  refine v_icmp_ge C 80 dX9_test_63 (by decide) (fun c5 => ?_) (fun c5 => ?_)
  · have hF := ifp hF c5
    refine v_iconst C (0) dX9_test_80 (by decide) ?_
    refine v_istore C 9 (ll' := [(9, _), (0, _), (1, _), (2, _), (4, _), (5, _), (6, _), (7, _), (8, _)]) dX9_test_81 (by decide) rfl ?_
    refine v_sub [1, 2, 3, 4, 5, 6, 7, 8, 0] (ll' := [(0, _), (1, _), (2, _), (4, _), (5, _), (6, _), (7, _), (8, _), (9, _)]) rfl ?_
    obtain ⟨z, hz, e⟩ := mapd hF
    subst e
    exact W_X9_test_83 C hq h0 hd hz hK
  · have hF := ifn hF c5
    refine v_aload_n C 0 0 dX9_test_66 rfl rfl ?_
    obtain ⟨p7, g6, hF⟩ := bnd hF
    refine v_gR C fu_X9_38 g6 dX9_test_67 ?_
    refine v_iload C 9 8 dX9_test_70 rfl ?_
    refine v_iconst C (0) dX9_test_72 (by decide) ?_
    obtain ⟨m8, g9, hF⟩ := bnd hF
    refine v_sI C g9 dX9_test_73 ?_
    refine v_iinc C (_ + (1 : Int32)) 8 (ll' := [(9, _), (0, _), (1, _), (2, _), (4, _), (5, _), (6, _), (7, _), (8, _)]) dX9_test_74 rfl (inc_eq (by decide)) (by decide) rfl ?_
    refine v_goto C 59 dX9_test_77 (by decide) ?_
    refine v_sub [1, 2, 3, 4, 5, 6, 7, 8, 0] (ll' := [(0, _), (1, _), (2, _), (4, _), (5, _), (6, _), (7, _), (8, _), (9, _)]) rfl ?_
    cases hF
    exact hK
set_option maxRecDepth 20000 in
set_option maxHeartbeats 2000000 in
theorem W_X9_test_43 {Δ : DD} {Γ : GG} {d : Nat} {q : (Int32 × Mem)} {x0 : Nat} {x1 : Int32} {x2 : Int32} (C : Cx Δ Γ RX9 cX9_test 11 d (some .int)) (hq : RetQ Δ Γ (some (.int q.1)) q.2) (h0 : isK 9 x0 = true) (hd : 3 ≤ d) {s : Int32 × Int32 × Int32 × Int32 × Mem} (hF : F_X9_test_43 x0 x1 x2  s = some q) : V Δ Γ 11 43 [(0, rf Δ (x0)), (1, .int (x1)), (2, .int (x2)), (4, .int (s.1)), (5, .int (s.2.1)), (6, .int (s.2.2.1)), (7, .int (s.2.2.2.1))] [] s.2.2.2.2 := by
  have hF : F_X9_test_43 x0 x1 x2  s = some q := hF
  refine lp_V (W := fun (s : Int32 × Int32 × Int32 × Int32 × Mem) => V Δ Γ 11 43 [(0, rf Δ (x0)), (1, .int (x1)), (2, .int (x2)), (4, .int (s.1)), (5, .int (s.2.1)), (6, .int (s.2.2.1)), (7, .int (s.2.2.2.1))] [] s.2.2.2.2) (K := fun t => t = q) (K' := K_X9_test_43 Δ Γ q x0 x1 x2 ) (fun _ h => h) (fun _ h => h) ?_ s q hF rfl
  clear hF
  intro s z hF hK
  refine v_iload C 7 6 dX9_test_43 rfl ?_
  refine v_bipush C (8) dX9_test_45 (by decide) ?_
  refine v_icmp_ge C 217 dX9_test_47 (by decide) (fun c1 => ?_) (fun c1 => ?_)
  · have hF := ifp hF c1
    refine v_iload C 6 5 dX9_test_217 rfl ?_
    refine v_if_ne C 227 dX9_test_219 (by decide) (fun c2 => ?_) (fun c2 => ?_)
    · have hF := ifn hF c2
      refine v_aload_n C 0 0 dX9_test_227 rfl rfl ?_
      refine v_iload C 5 4 dX9_test_228 rfl ?_
      refine v_iload C 4 3 dX9_test_230 rfl ?_
      obtain ⟨q3, g4, hF⟩ := bnd hF
      refine v_cVi C mw_X9_tells lk_X9_75 _ (M_X9_tells (by omega) h0 g4) h0 rfl rfl (Nat.le_of_ble_eq_true rfl) dX9_test_232 ?_
      cases hF
      exact v_iretF C hq hK dX9_test_235
    · have hF := ifp hF c2
      refine v_bipush C (-9) dX9_test_222 (by decide) ?_
      refine v_goto C 235 dX9_test_224 (by decide) ?_
      cases hF
      exact v_iretF C hq hK dX9_test_235
  · have hF := ifn hF c1
    refine v_iconst C (0) dX9_test_50 (by decide) ?_
    refine v_istore C 8 (ll' := [(8, _), (0, _), (1, _), (2, _), (4, _), (5, _), (6, _), (7, _)]) dX9_test_51 (by decide) rfl ?_
    refine v_iconst C (0) dX9_test_53 (by decide) ?_
    refine v_istore C 6 (ll' := [(6, _), (8, _), (0, _), (1, _), (2, _), (4, _), (5, _), (7, _)]) dX9_test_54 (by decide) rfl ?_
    refine v_iconst C (0) dX9_test_56 (by decide) ?_
    refine v_istore C 9 (ll' := [(9, _), (6, _), (8, _), (0, _), (1, _), (2, _), (4, _), (5, _), (7, _)]) dX9_test_57 (by decide) rfl ?_
    refine v_sub [3, 4, 5, 6, 7, 1, 8, 2, 0] (ll' := [(0, _), (1, _), (2, _), (4, _), (5, _), (6, _), (7, _), (8, _), (9, _)]) rfl ?_
    exact W_X9_test_59 C hq h0 hd hF hK
set_option maxRecDepth 20000 in
set_option maxHeartbeats 2000000 in
theorem M_X9_test {Δ : DD} {d : Nat} {x0 : Nat} {x1 : Int32} {x2 : Int32} {σ : Mem} {q : (Int32 × Mem)} (hd : 4 ≤ d) (h0 : isK 9 x0 = true) (hF : F_X9_test x0 x1 x2 σ = some q) : Mt Δ d yX9_test cX9_test 11 (some .int) [rf Δ x0, .int x1, .int x2] σ (some (.int q.1)) q.2 := by
  obtain ⟨d, rfl⟩ : ∃ e, d = e + 1 := ⟨d - 1, by omega⟩
  have hd : 3 ≤ d := by omega
  refine mt_of (by decide) rfl (Nat.le_of_ble_eq_true rfl) (fun Γ C hq => ?_)
  unfold F_X9_test at hF
  show V Δ Γ 11 0 [(0, rf Δ (x0)), (1, .int (x1)), (2, .int (x2))] [] σ
  refine v_aload_n C 0 0 dX9_test_0 rfl rfl ?_
  refine v_iload_n C 1 1 dX9_test_1 rfl rfl ?_
  obtain ⟨q35, g36, hF⟩ := bnd hF
  refine v_cVi C mw_X9_isBed lk_X9_140 _ (M_X9_isBed (by omega) h0 g36) h0 rfl rfl (Nat.le_of_ble_eq_true rfl) dX9_test_2 ?_
  refine v_if_eq C 15 dX9_test_5 (by decide) (fun c37 => ?_) (fun c37 => ?_)
  · have hF := ifp hF c37
    refine v_iconst C (-1) dX9_test_15 (by decide) ?_
    exact v_iretF C hq (Option.some.inj hF) dX9_test_16
  · have hF := ifn hF c37
    refine v_iload_n C 2 2 dX9_test_8 rfl rfl ?_
    obtain ⟨q38, g39, hF⟩ := bnd hF
    refine v_cSi C mw_X9_isRow lk_X9_59 _ (M_X9_isRow (by omega) g39) rfl rfl (Nat.le_of_ble_eq_true rfl) dX9_test_9 ?_
    refine v_if_ne C 17 dX9_test_12 (by decide) (fun c40 => ?_) (fun c40 => ?_)
    · have hF := ifn hF c40
      refine v_aload_n C 0 0 dX9_test_17 rfl rfl ?_
      refine v_iload_n C 2 2 dX9_test_18 rfl rfl ?_
      obtain ⟨q41, g42, hF⟩ := bnd hF
      refine v_cVi C mw_X9_against lk_X9_190 _ (M_X9_against (by omega) h0 g42) h0 rfl rfl (Nat.le_of_ble_eq_true rfl) dX9_test_19 ?_
      refine v_istore_n C 3 (ll' := [(3, _), (0, _), (1, _), (2, _)]) dX9_test_22 rfl (by decide) rfl ?_
      refine v_iload_n C 3 0 dX9_test_23 rfl rfl ?_
      refine v_if_ge C 29 dX9_test_24 (by decide) (fun c43 => ?_) (fun c43 => ?_)
      · have hF := ifp hF c43
        refine v_bipush C (-9) dX9_test_29 (by decide) ?_
        refine v_istore C 4 (ll' := [(4, _), (3, _), (0, _), (1, _), (2, _)]) dX9_test_31 (by decide) rfl ?_
        refine v_ldc C (1000000) kc_X9_181 dX9_test_33 ?_
        refine v_istore C 5 (ll' := [(5, _), (4, _), (3, _), (0, _), (1, _), (2, _)]) dX9_test_35 (by decide) rfl ?_
        refine v_iconst C (0) dX9_test_37 (by decide) ?_
        refine v_istore C 6 (ll' := [(6, _), (5, _), (4, _), (3, _), (0, _), (1, _), (2, _)]) dX9_test_38 (by decide) rfl ?_
        refine v_iconst C (0) dX9_test_40 (by decide) ?_
        refine v_istore C 7 (ll' := [(7, _), (6, _), (5, _), (4, _), (3, _), (0, _), (1, _), (2, _)]) dX9_test_41 (by decide) rfl ?_
        refine v_sub [5, 6, 7, 3, 2, 1, 0] (ll' := [(0, _), (1, _), (2, _), (4, _), (5, _), (6, _), (7, _)]) rfl ?_
        exact W_X9_test_43 C hq h0 hd hF
      · have hF := ifn hF c43
        refine v_iload_n C 3 0 dX9_test_27 rfl rfl ?_
        exact v_iretF C hq (Option.some.inj hF) dX9_test_28
    · have hF := ifp hF c40
      refine v_iconst C (-1) dX9_test_15 (by decide) ?_
      exact v_iretF C hq (Option.some.inj hF) dX9_test_16

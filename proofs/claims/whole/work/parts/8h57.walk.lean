def K_X9_duel_38 (Δ : DD) (Γ : GG) (q : (Int32 × Mem)) (x0 : Nat) (x1 : Int32) (x2 : Int32) (σ : Mem) (y : (Int32 × Int32) ⊕ (Int32 × Mem)) : Prop := match y with
  | .inl s => V Δ Γ 11 38 [(0, rf Δ (x0)), (1, .int (x1)), (2, .int (x2)), (3, .int (s.1)), (4, .int (s.2))] [] σ
  | .inr t => (t = q)
theorem KE_X9_duel_38 {Δ : DD} {Γ : GG} {q : (Int32 × Mem)} {x0 : Nat} {x1 : Int32} {x2 : Int32} {σ : Mem} {a0 : Int32} {a1 : Int32} (h : K_X9_duel_38 Δ Γ q x0 x1 x2 σ (.inl (a0, a1))) : V Δ Γ 11 38 [(0, rf Δ (x0)), (1, .int (x1)), (2, .int (x2)), (3, .int (a0)), (4, .int (a1))] [] σ := h
theorem KR_X9_duel_38 {Δ : DD} {Γ : GG} {q : (Int32 × Mem)} {x0 : Nat} {x1 : Int32} {x2 : Int32} {σ : Mem} {t : (Int32 × Mem)} (h : K_X9_duel_38 Δ Γ q x0 x1 x2 σ (.inr t)) : (t = q) := h
def K_X9_duel_57 (Δ : DD) (Γ : GG) (q : (Int32 × Mem)) (x0 : Nat) (x1 : Int32) (x2 : Int32) (x3 : Int32) (y : (Int32 × Mem) ⊕ (Int32 × Mem)) : Prop := match y with
  | .inl s => V Δ Γ 11 57 [(0, rf Δ (x0)), (1, .int (x1)), (2, .int (x2)), (3, .int (x3)), (4, .int (s.1))] [] s.2
  | .inr t => (t = q)
theorem KE_X9_duel_57 {Δ : DD} {Γ : GG} {q : (Int32 × Mem)} {x0 : Nat} {x1 : Int32} {x2 : Int32} {x3 : Int32} {a0 : Int32} {a1 : Mem} (h : K_X9_duel_57 Δ Γ q x0 x1 x2 x3  (.inl (a0, a1))) : V Δ Γ 11 57 [(0, rf Δ (x0)), (1, .int (x1)), (2, .int (x2)), (3, .int (x3)), (4, .int (a0))] [] a1 := h
theorem KR_X9_duel_57 {Δ : DD} {Γ : GG} {q : (Int32 × Mem)} {x0 : Nat} {x1 : Int32} {x2 : Int32} {x3 : Int32} {t : (Int32 × Mem)} (h : K_X9_duel_57 Δ Γ q x0 x1 x2 x3  (.inr t)) : (t = q) := h
def K_X9_duel_238 (Δ : DD) (Γ : GG) (q : (Int32 × Mem)) (x0 : Nat) (x2 : Int32) (y : (Int32 × Int32 × Mem) ⊕ (Int32 × Mem)) : Prop := match y with
  | .inl s => V Δ Γ 11 238 [(0, rf Δ (x0)), (2, .int (x2)), (4, .int (s.1)), (5, .int (s.2.1))] [] s.2.2
  | .inr t => (t = q)
theorem KE_X9_duel_238 {Δ : DD} {Γ : GG} {q : (Int32 × Mem)} {x0 : Nat} {x2 : Int32} {a0 : Int32} {a1 : Int32} {a2 : Mem} (h : K_X9_duel_238 Δ Γ q x0 x2  (.inl (a0, a1, a2))) : V Δ Γ 11 238 [(0, rf Δ (x0)), (2, .int (x2)), (4, .int (a0)), (5, .int (a1))] [] a2 := h
theorem KR_X9_duel_238 {Δ : DD} {Γ : GG} {q : (Int32 × Mem)} {x0 : Nat} {x2 : Int32} {t : (Int32 × Mem)} (h : K_X9_duel_238 Δ Γ q x0 x2  (.inr t)) : (t = q) := h
def K_X9_duel_79 (Δ : DD) (Γ : GG) (q : (Int32 × Mem)) (x0 : Nat) (x1 : Int32) (x2 : Int32) (x3 : Int32) (x4 : Int32) (y : (Int32 × Int32 × Int32 × Int32 × Mem) ⊕ ((Int32 × Mem) ⊕ (Int32 × Mem))) : Prop := match y with
  | .inl s => V Δ Γ 11 79 [(0, rf Δ (x0)), (1, .int (x1)), (2, .int (x2)), (3, .int (x3)), (4, .int (x4)), (5, .int (s.1)), (6, .int (s.2.1)), (7, .int (s.2.2.1)), (8, .int (s.2.2.2.1))] [] s.2.2.2.2
  | .inr t => (K_X9_duel_57 Δ Γ q x0 x1 x2 x3 t)
theorem KE_X9_duel_79 {Δ : DD} {Γ : GG} {q : (Int32 × Mem)} {x0 : Nat} {x1 : Int32} {x2 : Int32} {x3 : Int32} {x4 : Int32} {a0 : Int32} {a1 : Int32} {a2 : Int32} {a3 : Int32} {a4 : Mem} (h : K_X9_duel_79 Δ Γ q x0 x1 x2 x3 x4  (.inl (a0, a1, a2, a3, a4))) : V Δ Γ 11 79 [(0, rf Δ (x0)), (1, .int (x1)), (2, .int (x2)), (3, .int (x3)), (4, .int (x4)), (5, .int (a0)), (6, .int (a1)), (7, .int (a2)), (8, .int (a3))] [] a4 := h
theorem KR_X9_duel_79 {Δ : DD} {Γ : GG} {q : (Int32 × Mem)} {x0 : Nat} {x1 : Int32} {x2 : Int32} {x3 : Int32} {x4 : Int32} {t : ((Int32 × Mem) ⊕ (Int32 × Mem))} (h : K_X9_duel_79 Δ Γ q x0 x1 x2 x3 x4  (.inr t)) : (K_X9_duel_57 Δ Γ q x0 x1 x2 x3 t) := h
def K_X9_duel_252 (Δ : DD) (Γ : GG) (q : (Int32 × Mem)) (x0 : Nat) (x2 : Int32) (x4 : Int32) (x5 : Int32) (y : (Int32 × Mem) ⊕ ((Int32 × Int32 × Mem) ⊕ (Int32 × Mem))) : Prop := match y with
  | .inl s => V Δ Γ 11 252 [(0, rf Δ (x0)), (2, .int (x2)), (4, .int (x4)), (5, .int (x5)), (6, .int (s.1))] [] s.2
  | .inr t => (K_X9_duel_238 Δ Γ q x0 x2 t)
theorem KE_X9_duel_252 {Δ : DD} {Γ : GG} {q : (Int32 × Mem)} {x0 : Nat} {x2 : Int32} {x4 : Int32} {x5 : Int32} {a0 : Int32} {a1 : Mem} (h : K_X9_duel_252 Δ Γ q x0 x2 x4 x5  (.inl (a0, a1))) : V Δ Γ 11 252 [(0, rf Δ (x0)), (2, .int (x2)), (4, .int (x4)), (5, .int (x5)), (6, .int (a0))] [] a1 := h
theorem KR_X9_duel_252 {Δ : DD} {Γ : GG} {q : (Int32 × Mem)} {x0 : Nat} {x2 : Int32} {x4 : Int32} {x5 : Int32} {t : ((Int32 × Int32 × Mem) ⊕ (Int32 × Mem))} (h : K_X9_duel_252 Δ Γ q x0 x2 x4 x5  (.inr t)) : (K_X9_duel_238 Δ Γ q x0 x2 t) := h
def K_X9_duel_265 (Δ : DD) (Γ : GG) (q : (Int32 × Mem)) (x0 : Nat) (x2 : Int32) (x4 : Int32) (x5 : Int32) (x6 : Int32) (σ : Mem) (y : (Int32 × Int32) ⊕ ((Int32 × Mem) ⊕ ((Int32 × Int32 × Mem) ⊕ (Int32 × Mem)))) : Prop := match y with
  | .inl s => V Δ Γ 11 265 [(0, rf Δ (x0)), (2, .int (x2)), (4, .int (x4)), (5, .int (x5)), (6, .int (x6)), (7, .int (s.1)), (8, .int (s.2))] [] σ
  | .inr t => (K_X9_duel_252 Δ Γ q x0 x2 x4 x5 t)
theorem KE_X9_duel_265 {Δ : DD} {Γ : GG} {q : (Int32 × Mem)} {x0 : Nat} {x2 : Int32} {x4 : Int32} {x5 : Int32} {x6 : Int32} {σ : Mem} {a0 : Int32} {a1 : Int32} (h : K_X9_duel_265 Δ Γ q x0 x2 x4 x5 x6 σ (.inl (a0, a1))) : V Δ Γ 11 265 [(0, rf Δ (x0)), (2, .int (x2)), (4, .int (x4)), (5, .int (x5)), (6, .int (x6)), (7, .int (a0)), (8, .int (a1))] [] σ := h
theorem KR_X9_duel_265 {Δ : DD} {Γ : GG} {q : (Int32 × Mem)} {x0 : Nat} {x2 : Int32} {x4 : Int32} {x5 : Int32} {x6 : Int32} {σ : Mem} {t : ((Int32 × Mem) ⊕ ((Int32 × Int32 × Mem) ⊕ (Int32 × Mem)))} (h : K_X9_duel_265 Δ Γ q x0 x2 x4 x5 x6 σ (.inr t)) : (K_X9_duel_252 Δ Γ q x0 x2 x4 x5 t) := h
set_option maxRecDepth 20000 in
set_option maxHeartbeats 2000000 in
theorem W_X9_duel_130 {Δ : DD} {Γ : GG} {d : Nat} {q : (Int32 × Mem)} {x0 : Nat} {x1 : Int32} {x2 : Int32} {x3 : Int32} {x4 : Int32} {x6 : Int32} {x7 : Int32} {x8 : Int32} {y0 : Int32} {y1 : Int32} {σ : Mem} {y : ((Int32 × Int32 × Int32 × Int32 × Mem) ⊕ ((Int32 × Mem) ⊕ (Int32 × Mem)))} (C : Cx Δ Γ RX9 cX9_duel 11 d (some .int)) (hq : RetQ Δ Γ (some (.int q.1)) q.2) (h0 : isK 9 x0 = true) (hd : 4 ≤ d) (hF : F_X9_duel_130 x0 x1 x2 x3 x4 x6 x7 x8 y0 y1 σ = some y) (hK : (K_X9_duel_79 Δ Γ q x0 x1 x2 x3 x4 y)) : V Δ Γ 11 130 [(0, rf Δ (x0)), (1, .int (x1)), (2, .int (x2)), (3, .int (x3)), (4, .int (x4)), (6, .int (x6)), (7, .int (x7)), (8, .int (x8))] [.int (y0), .int (y1)] σ := by
  unfold F_X9_duel_130 at hF
  refine v_iadd C dX9_duel_130 ?_
  refine v_istore C 5 (ll' := [(5, _), (0, _), (1, _), (2, _), (3, _), (4, _), (6, _), (7, _), (8, _)]) dX9_duel_131 (by decide) rfl ?_
  refine v_goto C 200 dX9_duel_133 (by decide) ?_
  refine v_iinc C (_ + (1 : Int32)) 8 (ll' := [(8, _), (5, _), (0, _), (1, _), (2, _), (3, _), (4, _), (6, _), (7, _)]) dX9_duel_200 rfl (inc_eq (by decide)) (by decide) rfl ?_
  refine v_goto C 79 dX9_duel_203 (by decide) ?_
  refine v_sub [2, 3, 4, 5, 6, 1, 7, 8, 0] (ll' := [(0, _), (1, _), (2, _), (3, _), (4, _), (5, _), (6, _), (7, _), (8, _)]) rfl ?_
  cases hF
  exact KE_X9_duel_79 hK
set_option maxRecDepth 20000 in
set_option maxHeartbeats 2000000 in
theorem W_X9_duel_192 {Δ : DD} {Γ : GG} {d : Nat} {q : (Int32 × Mem)} {x0 : Nat} {x1 : Int32} {x2 : Int32} {x3 : Int32} {x4 : Int32} {x5 : Int32} {x6 : Int32} {x7 : Int32} {x8 : Int32}  {σ : Mem} {y : ((Int32 × Int32 × Int32 × Int32 × Mem) ⊕ ((Int32 × Mem) ⊕ (Int32 × Mem)))} (C : Cx Δ Γ RX9 cX9_duel 11 d (some .int)) (hq : RetQ Δ Γ (some (.int q.1)) q.2) (h0 : isK 9 x0 = true) (hd : 4 ≤ d) (hF : F_X9_duel_192 x0 x1 x2 x3 x4 x5 x6 x7 x8  σ = some y) (hK : (K_X9_duel_79 Δ Γ q x0 x1 x2 x3 x4 y)) : V Δ Γ 11 192 [(0, rf Δ (x0)), (1, .int (x1)), (2, .int (x2)), (3, .int (x3)), (4, .int (x4)), (5, .int (x5)), (6, .int (x6)), (7, .int (x7)), (8, .int (x8))] [] σ := by
  unfold F_X9_duel_192 at hF
  refine v_aload_n C 0 0 dX9_duel_192 rfl rfl ?_
  refine v_sipush C (7260) dX9_duel_193 (by decide) ?_
  obtain ⟨q32, g33, hF⟩ := bnd hF
  refine v_cVi C mw_X9_passes lk_X9_160 _ (M_X9_passes (by omega) h0 g33) h0 rfl rfl (Nat.le_of_ble_eq_true rfl) dX9_duel_196 ?_
  refine v_pop C dX9_duel_199 rfl ?_
  refine v_iinc C (_ + (1 : Int32)) 8 (ll' := [(8, _), (0, _), (1, _), (2, _), (3, _), (4, _), (5, _), (6, _), (7, _)]) dX9_duel_200 rfl (inc_eq (by decide)) (by decide) rfl ?_
  refine v_goto C 79 dX9_duel_203 (by decide) ?_
  refine v_sub [1, 2, 3, 4, 5, 6, 7, 8, 0] (ll' := [(0, _), (1, _), (2, _), (3, _), (4, _), (5, _), (6, _), (7, _), (8, _)]) rfl ?_
  cases hF
  exact KE_X9_duel_79 hK
set_option maxRecDepth 20000 in
set_option maxHeartbeats 2000000 in
theorem W_X9_duel_165 {Δ : DD} {Γ : GG} {d : Nat} {q : (Int32 × Mem)} {x0 : Nat} {x1 : Int32} {x2 : Int32} {x3 : Int32} {x4 : Int32} {x5 : Int32} {x6 : Int32} {x8 : Int32} {x9 : Int32} {y0 : Int32} {σ : Mem} {y : ((Int32 × Int32 × Int32 × Int32 × Mem) ⊕ ((Int32 × Mem) ⊕ (Int32 × Mem)))} (C : Cx Δ Γ RX9 cX9_duel 11 d (some .int)) (hq : RetQ Δ Γ (some (.int q.1)) q.2) (h0 : isK 9 x0 = true) (hd : 4 ≤ d) (hF : F_X9_duel_165 x0 x1 x2 x3 x4 x5 x6 x8 x9 y0 σ = some y) (hK : (K_X9_duel_79 Δ Γ q x0 x1 x2 x3 x4 y)) : V Δ Γ 11 165 [(0, rf Δ (x0)), (1, .int (x1)), (2, .int (x2)), (3, .int (x3)), (4, .int (x4)), (5, .int (x5)), (6, .int (x6)), (8, .int (x8)), (9, .int (x9))] [.int (y0)] σ := by
  unfold F_X9_duel_165 at hF
  refine v_istore C 7 (ll' := [(7, _), (0, _), (1, _), (2, _), (3, _), (4, _), (5, _), (6, _), (8, _), (9, _)]) dX9_duel_165 (by decide) rfl ?_
  refine v_iload C 7 0 dX9_duel_167 rfl ?_
  refine v_if_eq C 192 dX9_duel_169 (by decide) (fun c24 => ?_) (fun c24 => ?_)
  · have hF := ifp hF c24
    refine v_sub [1, 2, 3, 4, 5, 6, 7, 0, 8] (ll' := [(0, _), (1, _), (2, _), (3, _), (4, _), (5, _), (6, _), (7, _), (8, _)]) rfl ?_
    exact W_X9_duel_192 C hq h0 hd hF hK
  · have hF := ifn hF c24
    refine v_iload C 9 9 dX9_duel_172 rfl ?_
    refine v_if_lt C 192 dX9_duel_174 (by decide) (fun c25 => ?_) (fun c25 => ?_)
    · have hF := ifp hF c25
      refine v_sub [1, 2, 3, 4, 5, 6, 7, 0, 8] (ll' := [(0, _), (1, _), (2, _), (3, _), (4, _), (5, _), (6, _), (7, _), (8, _)]) rfl ?_
      exact W_X9_duel_192 C hq h0 hd hF hK
    · have hF := ifn hF c25
      refine v_aload_n C 0 1 dX9_duel_177 rfl rfl ?_
      obtain ⟨p27, g26, hF⟩ := bnd hF
      refine v_gR C fu_X9_7 g26 dX9_duel_178 ?_
      refine v_sipush C (7281) dX9_duel_181 (by decide) ?_
      refine v_iload C 9 9 dX9_duel_184 rfl ?_
      refine v_iadd C dX9_duel_186 ?_
      refine v_dup2 C dX9_duel_187 rfl rfl ?_
      obtain ⟨v28, g29, hF⟩ := bnd hF
      refine v_aI C g29 dX9_duel_188 ?_
      refine v_iconst C (1) dX9_duel_189 (by decide) ?_
      refine v_isub C dX9_duel_190 ?_
      obtain ⟨m30, g31, hF⟩ := bnd hF
      refine v_sI C g31 dX9_duel_191 ?_
      refine v_sub [1, 2, 3, 4, 5, 6, 7, 0, 8] (ll' := [(0, _), (1, _), (2, _), (3, _), (4, _), (5, _), (6, _), (7, _), (8, _)]) rfl ?_
      exact W_X9_duel_192 C hq h0 hd hF hK
set_option maxRecDepth 20000 in
set_option maxHeartbeats 2000000 in
theorem W_X9_duel_160 {Δ : DD} {Γ : GG} {d : Nat} {q : (Int32 × Mem)} {x0 : Nat} {x1 : Int32} {x2 : Int32} {x3 : Int32} {x4 : Int32} {x5 : Int32} {x6 : Int32} {x8 : Int32} {x9 : Int32}  {σ : Mem} {y : ((Int32 × Int32 × Int32 × Int32 × Mem) ⊕ ((Int32 × Mem) ⊕ (Int32 × Mem)))} (C : Cx Δ Γ RX9 cX9_duel 11 d (some .int)) (hq : RetQ Δ Γ (some (.int q.1)) q.2) (h0 : isK 9 x0 = true) (hd : 4 ≤ d) (hF : F_X9_duel_160 x0 x1 x2 x3 x4 x5 x6 x8 x9  σ = some y) (hK : (K_X9_duel_79 Δ Γ q x0 x1 x2 x3 x4 y)) : V Δ Γ 11 160 [(0, rf Δ (x0)), (1, .int (x1)), (2, .int (x2)), (3, .int (x3)), (4, .int (x4)), (5, .int (x5)), (6, .int (x6)), (8, .int (x8)), (9, .int (x9))] [] σ := by
  unfold F_X9_duel_160 at hF
  refine v_iconst C (1) dX9_duel_160 (by decide) ?_
  refine v_goto C 165 dX9_duel_161 (by decide) ?_
  exact W_X9_duel_165 C hq h0 hd hF hK
set_option maxRecDepth 20000 in
set_option maxHeartbeats 2000000 in
theorem W_X9_duel_164 {Δ : DD} {Γ : GG} {d : Nat} {q : (Int32 × Mem)} {x0 : Nat} {x1 : Int32} {x2 : Int32} {x3 : Int32} {x4 : Int32} {x5 : Int32} {x6 : Int32} {x8 : Int32} {x9 : Int32}  {σ : Mem} {y : ((Int32 × Int32 × Int32 × Int32 × Mem) ⊕ ((Int32 × Mem) ⊕ (Int32 × Mem)))} (C : Cx Δ Γ RX9 cX9_duel 11 d (some .int)) (hq : RetQ Δ Γ (some (.int q.1)) q.2) (h0 : isK 9 x0 = true) (hd : 4 ≤ d) (hF : F_X9_duel_164 x0 x1 x2 x3 x4 x5 x6 x8 x9  σ = some y) (hK : (K_X9_duel_79 Δ Γ q x0 x1 x2 x3 x4 y)) : V Δ Γ 11 164 [(0, rf Δ (x0)), (1, .int (x1)), (2, .int (x2)), (3, .int (x3)), (4, .int (x4)), (5, .int (x5)), (6, .int (x6)), (8, .int (x8)), (9, .int (x9))] [] σ := by
  unfold F_X9_duel_164 at hF
  refine v_iconst C (0) dX9_duel_164 (by decide) ?_
  exact W_X9_duel_165 C hq h0 hd hF hK
set_option maxRecDepth 20000 in
set_option maxHeartbeats 2000000 in
theorem W_X9_duel_223 {Δ : DD} {Γ : GG} {d : Nat} {q : (Int32 × Mem)} {x0 : Nat} {x1 : Int32} {x2 : Int32} {x3 : Int32} {x4 : Int32} {y0 : Int32} {y1 : Int32} {y2 : Nat} {σ : Mem} {y : ((Int32 × Mem) ⊕ (Int32 × Mem))} (C : Cx Δ Γ RX9 cX9_duel 11 d (some .int)) (hq : RetQ Δ Γ (some (.int q.1)) q.2) (h0 : isK 9 x0 = true) (hd : 4 ≤ d) (hF : F_X9_duel_223 x0 x1 x2 x3 x4 y0 y1 y2 σ = some y) (hK : (K_X9_duel_57 Δ Γ q x0 x1 x2 x3 y)) : V Δ Γ 11 223 [(0, rf Δ (x0)), (1, .int (x1)), (2, .int (x2)), (3, .int (x3)), (4, .int (x4))] [.int (y0), .int (y1), rf Δ (y2)] σ := by
  unfold F_X9_duel_223 at hF
  obtain ⟨m34, g35, hF⟩ := bnd hF
  refine v_sI C g35 dX9_duel_223 ?_
  refine v_iinc C (_ + (1 : Int32)) 4 (ll' := [(4, _), (0, _), (1, _), (2, _), (3, _)]) dX9_duel_224 rfl (inc_eq (by decide)) (by decide) rfl ?_
  refine v_goto C 57 dX9_duel_227 (by decide) ?_
  refine v_sub [1, 2, 3, 4, 0] (ll' := [(0, _), (1, _), (2, _), (3, _), (4, _)]) rfl ?_
  cases hF
  exact KE_X9_duel_57 hK
set_option maxRecDepth 20000 in
set_option maxHeartbeats 2000000 in
theorem W_X9_duel_79 {Δ : DD} {Γ : GG} {d : Nat} {q : (Int32 × Mem)} {x0 : Nat} {x1 : Int32} {x2 : Int32} {x3 : Int32} {x4 : Int32} (C : Cx Δ Γ RX9 cX9_duel 11 d (some .int)) (hq : RetQ Δ Γ (some (.int q.1)) q.2) (h0 : isK 9 x0 = true) (hd : 4 ≤ d) {s : Int32 × Int32 × Int32 × Int32 × Mem} {y : ((Int32 × Mem) ⊕ (Int32 × Mem))} (hF : F_X9_duel_79 x0 x1 x2 x3 x4  s = some y) (hK : (K_X9_duel_57 Δ Γ q x0 x1 x2 x3 y)) : V Δ Γ 11 79 [(0, rf Δ (x0)), (1, .int (x1)), (2, .int (x2)), (3, .int (x3)), (4, .int (x4)), (5, .int (s.1)), (6, .int (s.2.1)), (7, .int (s.2.2.1)), (8, .int (s.2.2.2.1))] [] s.2.2.2.2 := by
  refine lp_V (W := fun (s : Int32 × Int32 × Int32 × Int32 × Mem) => V Δ Γ 11 79 [(0, rf Δ (x0)), (1, .int (x1)), (2, .int (x2)), (3, .int (x3)), (4, .int (x4)), (5, .int (s.1)), (6, .int (s.2.1)), (7, .int (s.2.2.1)), (8, .int (s.2.2.2.1))] [] s.2.2.2.2) (K := fun (t : ((Int32 × Mem) ⊕ (Int32 × Mem))) => (K_X9_duel_57 Δ Γ q x0 x1 x2 x3 t)) (K' := K_X9_duel_79 Δ Γ q x0 x1 x2 x3 x4 ) (fun _ h => h) (fun _ h => h) ?_ s y hF hK
  clear hF hK
  intro s z hF hK
  refine v_iload C 8 8 dX9_duel_79 rfl ?_
  refine v_iload_n C 1 1 dX9_duel_81 rfl rfl ?_
  refine v_icmp_ge C 206 dX9_duel_82 (by decide) (fun c5 => ?_) (fun c5 => ?_)
  · have hF := ifp hF c5
    refine v_aload_n C 0 0 dX9_duel_206 rfl rfl ?_
    obtain ⟨p7, g6, hF⟩ := bnd hF
    refine v_gR C fu_X9_41 g6 dX9_duel_207 ?_
    refine v_iload C 4 4 dX9_duel_210 rfl ?_
    refine v_iload C 7 7 dX9_duel_212 rfl ?_
    refine v_if_eq C 222 dX9_duel_214 (by decide) (fun c8 => ?_) (fun c8 => ?_)
    · have hF := ifp hF c8
      refine v_iconst C (-1) dX9_duel_222 (by decide) ?_
      refine v_sub [0, 1, 2, 3, 4] (ll' := [(0, _), (1, _), (2, _), (3, _), (4, _)]) rfl ?_
      obtain ⟨z, hz, e⟩ := mapd hF
      subst e
      exact W_X9_duel_223 C hq h0 hd hz hK
    · have hF := ifn hF c8
      refine v_iload C 5 5 dX9_duel_217 rfl ?_
      refine v_goto C 223 dX9_duel_219 (by decide) ?_
      refine v_sub [0, 1, 2, 3, 4] (ll' := [(0, _), (1, _), (2, _), (3, _), (4, _)]) rfl ?_
      obtain ⟨z, hz, e⟩ := mapd hF
      subst e
      exact W_X9_duel_223 C hq h0 hd hz hK
  · have hF := ifn hF c5
    refine v_iload C 6 6 dX9_duel_85 rfl ?_
    refine v_iload_n C 2 2 dX9_duel_87 rfl rfl ?_
    obtain ⟨_, g9, hF⟩ := bnd hF
    refine v_idiv C dX9_duel_88 (nz_ne g9) ?_
    refine v_istore C 6 (ll' := [(6, _), (0, _), (1, _), (2, _), (3, _), (4, _), (5, _), (7, _), (8, _)]) dX9_duel_89 (by decide) rfl ?_
    refine v_iload C 4 5 dX9_duel_91 rfl ?_
    refine v_iload C 6 0 dX9_duel_93 rfl ?_
    obtain ⟨_, g10, hF⟩ := bnd hF
    refine v_idiv C dX9_duel_95 (nz_ne g10) ?_
    refine v_iload_n C 2 3 dX9_duel_96 rfl rfl ?_
    obtain ⟨_, g11, hF⟩ := bnd hF
    refine v_irem C dX9_duel_97 (nz_ne g11) ?_
    refine v_iconst C (1) dX9_duel_98 (by decide) ?_
    refine v_isub C dX9_duel_99 ?_
    refine v_istore C 9 (ll' := [(9, _), (6, _), (0, _), (1, _), (2, _), (3, _), (4, _), (5, _), (7, _), (8, _)]) dX9_duel_100 (by decide) rfl ?_
    refine v_iload C 8 9 dX9_duel_102 rfl ?_
    refine v_iconst C (2) dX9_duel_104 (by decide) ?_
    refine v_irem C dX9_duel_105 (by decide) ?_
    refine v_iconst C (1) dX9_duel_106 (by decide) ?_
    refine v_icmp_ne C 136 dX9_duel_107 (by decide) (fun c13 => ?_) (fun c13 => ?_)
    · have hF := ifn hF c13
      refine v_iload C 7 8 dX9_duel_136 rfl ?_
      refine v_if_eq C 164 dX9_duel_138 (by decide) (fun c14 => ?_) (fun c14 => ?_)
      · have hF := ifp hF c14
        refine v_sub [2, 3, 4, 5, 6, 7, 1, 9, 0] (ll' := [(0, _), (1, _), (2, _), (3, _), (4, _), (5, _), (6, _), (8, _), (9, _)]) rfl ?_
        exact W_X9_duel_164 C hq h0 hd hF hK
      · have hF := ifn hF c14
        refine v_iload C 9 0 dX9_duel_141 rfl ?_
        refine v_if_lt C 160 dX9_duel_143 (by decide) (fun c15 => ?_) (fun c15 => ?_)
        · have hF := ifp hF c15
          refine v_sub [2, 3, 4, 5, 6, 7, 1, 9, 0] (ll' := [(0, _), (1, _), (2, _), (3, _), (4, _), (5, _), (6, _), (8, _), (9, _)]) rfl ?_
          exact W_X9_duel_160 C hq h0 hd hF hK
        · have hF := ifn hF c15
          refine v_aload_n C 0 2 dX9_duel_146 rfl rfl ?_
          obtain ⟨p17, g16, hF⟩ := bnd hF
          refine v_gR C fu_X9_7 g16 dX9_duel_147 ?_
          refine v_sipush C (7281) dX9_duel_150 (by decide) ?_
          refine v_iload C 9 0 dX9_duel_153 rfl ?_
          refine v_iadd C dX9_duel_155 ?_
          obtain ⟨v18, g19, hF⟩ := bnd hF
          refine v_aI C g19 dX9_duel_156 ?_
          refine v_if_le C 164 dX9_duel_157 (by decide) (fun c20 => ?_) (fun c20 => ?_)
          · have hF := ifp hF c20
            refine v_sub [2, 3, 4, 5, 6, 7, 1, 9, 0] (ll' := [(0, _), (1, _), (2, _), (3, _), (4, _), (5, _), (6, _), (8, _), (9, _)]) rfl ?_
            exact W_X9_duel_164 C hq h0 hd hF hK
          · have hF := ifn hF c20
            refine v_sub [2, 3, 4, 5, 6, 7, 1, 9, 0] (ll' := [(0, _), (1, _), (2, _), (3, _), (4, _), (5, _), (6, _), (8, _), (9, _)]) rfl ?_
            exact W_X9_duel_160 C hq h0 hd hF hK
    · have hF := ifp hF c13
      refine v_iload C 5 7 dX9_duel_110 rfl ?_
      refine v_iload C 9 0 dX9_duel_112 rfl ?_
      refine v_if_ge C 121 dX9_duel_114 (by decide) (fun c21 => ?_) (fun c21 => ?_)
      · have hF := ifp hF c21
        refine v_aload_n C 0 2 dX9_duel_121 rfl rfl ?_
        refine v_sipush C (7260) dX9_duel_122 (by decide) ?_
        refine v_iload C 9 0 dX9_duel_125 rfl ?_
        obtain ⟨q22, g23, hF⟩ := bnd hF
        refine v_cVi C mw_X9_inspects lk_X9_163 _ (M_X9_inspects (by omega) h0 g23) h0 rfl rfl (Nat.le_of_ble_eq_true rfl) dX9_duel_127 ?_
        refine v_sub [2, 3, 4, 5, 6, 1, 8, 9] (ll' := [(0, _), (1, _), (2, _), (3, _), (4, _), (6, _), (7, _), (8, _)]) rfl ?_
        exact W_X9_duel_130 C hq h0 hd hF hK
      · have hF := ifn hF c21
        refine v_iconst C (0) dX9_duel_117 (by decide) ?_
        refine v_goto C 130 dX9_duel_118 (by decide) ?_
        refine v_sub [2, 3, 4, 5, 6, 1, 8, 9] (ll' := [(0, _), (1, _), (2, _), (3, _), (4, _), (6, _), (7, _), (8, _)]) rfl ?_
        exact W_X9_duel_130 C hq h0 hd hF hK
set_option maxRecDepth 20000 in
set_option maxHeartbeats 2000000 in
theorem W_X9_duel_325 {Δ : DD} {Γ : GG} {d : Nat} {q : (Int32 × Mem)} {x0 : Nat} {x2 : Int32} {x4 : Int32} {x5 : Int32} {x6 : Int32} {x7 : Int32} {x8 : Int32} {x9 : Int32} {y0 : Int32} {σ : Mem} {y : ((Int32 × Int32) ⊕ ((Int32 × Mem) ⊕ ((Int32 × Int32 × Mem) ⊕ (Int32 × Mem))))} (C : Cx Δ Γ RX9 cX9_duel 11 d (some .int)) (hq : RetQ Δ Γ (some (.int q.1)) q.2) (h0 : isK 9 x0 = true) (hd : 4 ≤ d) (hF : F_X9_duel_325 x0 x2 x4 x5 x6 x7 x8 x9 y0 σ = some y) (hK : (K_X9_duel_265 Δ Γ q x0 x2 x4 x5 x6 σ y)) : V Δ Γ 11 325 [(0, rf Δ (x0)), (2, .int (x2)), (4, .int (x4)), (5, .int (x5)), (6, .int (x6)), (7, .int (x7)), (8, .int (x8)), (9, .int (x9))] [.int (y0)] σ := by
  unfold F_X9_duel_325 at hF
  refine v_istore C 10 (ll' := [(10, _), (0, _), (2, _), (4, _), (5, _), (6, _), (7, _), (8, _), (9, _)]) dX9_duel_325 (by decide) rfl ?_
  refine v_iload C 10 0 dX9_duel_327 rfl ?_
  refine v_if_eq C 337 dX9_duel_329 (by decide) (fun c57 => ?_) (fun c57 => ?_)
  · have hF := ifp hF c57
    refine v_iload C 7 6 dX9_duel_337 rfl ?_
    refine v_istore C 7 (ll' := [(7, _), (10, _), (0, _), (2, _), (4, _), (5, _), (6, _), (8, _), (9, _)]) dX9_duel_339 (by decide) rfl ?_
    refine v_iinc C (_ + (1 : Int32)) 7 (ll' := [(8, _), (7, _), (10, _), (0, _), (2, _), (4, _), (5, _), (6, _), (9, _)]) dX9_duel_341 rfl (inc_eq (by decide)) (by decide) rfl ?_
    refine v_goto C 265 dX9_duel_344 (by decide) ?_
    refine v_sub [3, 4, 5, 6, 7, 1, 0] (ll' := [(0, _), (2, _), (4, _), (5, _), (6, _), (7, _), (8, _)]) rfl ?_
    cases hF
    exact KE_X9_duel_265 hK
  · have hF := ifn hF c57
    refine v_iload C 9 8 dX9_duel_332 rfl ?_
    refine v_goto C 339 dX9_duel_334 (by decide) ?_
    refine v_istore C 7 (ll' := [(7, _), (10, _), (0, _), (2, _), (4, _), (5, _), (6, _), (8, _), (9, _)]) dX9_duel_339 (by decide) rfl ?_
    refine v_iinc C (_ + (1 : Int32)) 7 (ll' := [(8, _), (7, _), (10, _), (0, _), (2, _), (4, _), (5, _), (6, _), (9, _)]) dX9_duel_341 rfl (inc_eq (by decide)) (by decide) rfl ?_
    refine v_goto C 265 dX9_duel_344 (by decide) ?_
    refine v_sub [3, 4, 5, 6, 7, 1, 0] (ll' := [(0, _), (2, _), (4, _), (5, _), (6, _), (7, _), (8, _)]) rfl ?_
    cases hF
    exact KE_X9_duel_265 hK
set_option maxRecDepth 20000 in
set_option maxHeartbeats 2000000 in
theorem W_X9_duel_320 {Δ : DD} {Γ : GG} {d : Nat} {q : (Int32 × Mem)} {x0 : Nat} {x2 : Int32} {x4 : Int32} {x5 : Int32} {x6 : Int32} {x7 : Int32} {x8 : Int32} {x9 : Int32}  {σ : Mem} {y : ((Int32 × Int32) ⊕ ((Int32 × Mem) ⊕ ((Int32 × Int32 × Mem) ⊕ (Int32 × Mem))))} (C : Cx Δ Γ RX9 cX9_duel 11 d (some .int)) (hq : RetQ Δ Γ (some (.int q.1)) q.2) (h0 : isK 9 x0 = true) (hd : 4 ≤ d) (hF : F_X9_duel_320 x0 x2 x4 x5 x6 x7 x8 x9  σ = some y) (hK : (K_X9_duel_265 Δ Γ q x0 x2 x4 x5 x6 σ y)) : V Δ Γ 11 320 [(0, rf Δ (x0)), (2, .int (x2)), (4, .int (x4)), (5, .int (x5)), (6, .int (x6)), (7, .int (x7)), (8, .int (x8)), (9, .int (x9))] [] σ := by
  unfold F_X9_duel_320 at hF
  refine v_iconst C (1) dX9_duel_320 (by decide) ?_
  refine v_goto C 325 dX9_duel_321 (by decide) ?_
  exact W_X9_duel_325 C hq h0 hd hF hK
set_option maxRecDepth 20000 in
set_option maxHeartbeats 2000000 in
theorem W_X9_duel_324 {Δ : DD} {Γ : GG} {d : Nat} {q : (Int32 × Mem)} {x0 : Nat} {x2 : Int32} {x4 : Int32} {x5 : Int32} {x6 : Int32} {x7 : Int32} {x8 : Int32} {x9 : Int32}  {σ : Mem} {y : ((Int32 × Int32) ⊕ ((Int32 × Mem) ⊕ ((Int32 × Int32 × Mem) ⊕ (Int32 × Mem))))} (C : Cx Δ Γ RX9 cX9_duel 11 d (some .int)) (hq : RetQ Δ Γ (some (.int q.1)) q.2) (h0 : isK 9 x0 = true) (hd : 4 ≤ d) (hF : F_X9_duel_324 x0 x2 x4 x5 x6 x7 x8 x9  σ = some y) (hK : (K_X9_duel_265 Δ Γ q x0 x2 x4 x5 x6 σ y)) : V Δ Γ 11 324 [(0, rf Δ (x0)), (2, .int (x2)), (4, .int (x4)), (5, .int (x5)), (6, .int (x6)), (7, .int (x7)), (8, .int (x8)), (9, .int (x9))] [] σ := by
  unfold F_X9_duel_324 at hF
  refine v_iconst C (0) dX9_duel_324 (by decide) ?_
  exact W_X9_duel_325 C hq h0 hd hF hK
set_option maxRecDepth 20000 in
set_option maxHeartbeats 2000000 in
theorem W_X9_duel_265 {Δ : DD} {Γ : GG} {d : Nat} {q : (Int32 × Mem)} {x0 : Nat} {x2 : Int32} {x4 : Int32} {x5 : Int32} {x6 : Int32} {σ : Mem} (C : Cx Δ Γ RX9 cX9_duel 11 d (some .int)) (hq : RetQ Δ Γ (some (.int q.1)) q.2) (h0 : isK 9 x0 = true) (hd : 4 ≤ d) {s : Int32 × Int32} {y : ((Int32 × Mem) ⊕ ((Int32 × Int32 × Mem) ⊕ (Int32 × Mem)))} (hF : F_X9_duel_265 x0 x2 x4 x5 x6 σ s = some y) (hK : (K_X9_duel_252 Δ Γ q x0 x2 x4 x5 y)) : V Δ Γ 11 265 [(0, rf Δ (x0)), (2, .int (x2)), (4, .int (x4)), (5, .int (x5)), (6, .int (x6)), (7, .int (s.1)), (8, .int (s.2))] [] σ := by
  refine lp_V (W := fun (s : Int32 × Int32) => V Δ Γ 11 265 [(0, rf Δ (x0)), (2, .int (x2)), (4, .int (x4)), (5, .int (x5)), (6, .int (x6)), (7, .int (s.1)), (8, .int (s.2))] [] σ) (K := fun (t : ((Int32 × Mem) ⊕ ((Int32 × Int32 × Mem) ⊕ (Int32 × Mem)))) => (K_X9_duel_252 Δ Γ q x0 x2 x4 x5 t)) (K' := K_X9_duel_265 Δ Γ q x0 x2 x4 x5 x6 σ) (fun _ h => h) (fun _ h => h) ?_ s y hF hK
  clear hF hK
  intro s z hF hK
  refine v_iload C 8 6 dX9_duel_265 rfl ?_
  refine v_iload_n C 2 1 dX9_duel_267 rfl rfl ?_
  refine v_icmp_ge C 347 dX9_duel_268 (by decide) (fun c43 => ?_) (fun c43 => ?_)
  · have hF := ifp hF c43
    refine v_aload_n C 0 0 dX9_duel_347 rfl rfl ?_
    obtain ⟨p45, g44, hF⟩ := bnd hF
    refine v_gR C fu_X9_41 g44 dX9_duel_348 ?_
    refine v_iload C 6 4 dX9_duel_351 rfl ?_
    refine v_iload C 7 5 dX9_duel_353 rfl ?_
    obtain ⟨m46, g47, hF⟩ := bnd hF
    refine v_sI C g47 dX9_duel_355 ?_
    refine v_iinc C (_ + (1 : Int32)) 4 (ll' := [(6, _), (0, _), (2, _), (4, _), (5, _), (7, _), (8, _)]) dX9_duel_356 rfl (inc_eq (by decide)) (by decide) rfl ?_
    refine v_goto C 252 dX9_duel_359 (by decide) ?_
    refine v_sub [1, 2, 3, 4, 0] (ll' := [(0, _), (2, _), (4, _), (5, _), (6, _)]) rfl ?_
    cases hF
    exact KE_X9_duel_252 (KR_X9_duel_265 hK)
  · have hF := ifn hF c43
    refine v_aload_n C 0 0 dX9_duel_271 rfl rfl ?_
    obtain ⟨p49, g48, hF⟩ := bnd hF
    refine v_gR C fu_X9_41 g48 dX9_duel_272 ?_
    refine v_iload_n C 2 1 dX9_duel_275 rfl rfl ?_
    refine v_iload C 6 4 dX9_duel_276 rfl ?_
    refine v_imul C dX9_duel_278 ?_
    refine v_iload C 8 6 dX9_duel_279 rfl ?_
    refine v_iadd C dX9_duel_281 ?_
    obtain ⟨v50, g51, hF⟩ := bnd hF
    refine v_aI C g51 dX9_duel_282 ?_
    refine v_istore C 9 (ll' := [(9, _), (0, _), (2, _), (4, _), (5, _), (6, _), (7, _), (8, _)]) dX9_duel_283 (by decide) rfl ?_
    refine v_iload C 9 0 dX9_duel_285 rfl ?_
    refine v_if_lt C 324 dX9_duel_287 (by decide) (fun c52 => ?_) (fun c52 => ?_)
    · have hF := ifp hF c52
      refine v_sub [1, 2, 3, 4, 5, 6, 7, 0] (ll' := [(0, _), (2, _), (4, _), (5, _), (6, _), (7, _), (8, _), (9, _)]) rfl ?_
      exact W_X9_duel_324 C hq h0 hd hF hK
    · have hF := ifn hF c52
      refine v_iload C 7 6 dX9_duel_290 rfl ?_
      refine v_if_lt C 320 dX9_duel_292 (by decide) (fun c53 => ?_) (fun c53 => ?_)
      · have hF := ifp hF c53
        refine v_sub [1, 2, 3, 4, 5, 6, 7, 0] (ll' := [(0, _), (2, _), (4, _), (5, _), (6, _), (7, _), (8, _), (9, _)]) rfl ?_
        exact W_X9_duel_320 C hq h0 hd hF hK
      · have hF := ifn hF c53
        refine v_iload C 5 4 dX9_duel_295 rfl ?_
        refine v_iconst C (2) dX9_duel_297 (by decide) ?_
        refine v_irem C dX9_duel_298 (by decide) ?_
        refine v_iconst C (1) dX9_duel_299 (by decide) ?_
        refine v_icmp_ne C 313 dX9_duel_300 (by decide) (fun c54 => ?_) (fun c54 => ?_)
        · have hF := ifn hF c54
          refine v_iload C 9 0 dX9_duel_313 rfl ?_
          refine v_iload C 7 6 dX9_duel_315 rfl ?_
          refine v_icmp_ge C 324 dX9_duel_317 (by decide) (fun c55 => ?_) (fun c55 => ?_)
          · have hF := ifp hF c55
            refine v_sub [1, 2, 3, 4, 5, 6, 7, 0] (ll' := [(0, _), (2, _), (4, _), (5, _), (6, _), (7, _), (8, _), (9, _)]) rfl ?_
            exact W_X9_duel_324 C hq h0 hd hF hK
          · have hF := ifn hF c55
            refine v_sub [1, 2, 3, 4, 5, 6, 7, 0] (ll' := [(0, _), (2, _), (4, _), (5, _), (6, _), (7, _), (8, _), (9, _)]) rfl ?_
            exact W_X9_duel_320 C hq h0 hd hF hK
        · have hF := ifp hF c54
          refine v_iload C 9 0 dX9_duel_303 rfl ?_
          refine v_iload C 7 6 dX9_duel_305 rfl ?_
          refine v_icmp_le C 324 dX9_duel_307 (by decide) (fun c56 => ?_) (fun c56 => ?_)
          · have hF := ifp hF c56
            refine v_sub [1, 2, 3, 4, 5, 6, 7, 0] (ll' := [(0, _), (2, _), (4, _), (5, _), (6, _), (7, _), (8, _), (9, _)]) rfl ?_
            exact W_X9_duel_324 C hq h0 hd hF hK
          · have hF := ifn hF c56
            refine v_goto C 320 dX9_duel_310 (by decide) ?_
            refine v_sub [1, 2, 3, 4, 5, 6, 7, 0] (ll' := [(0, _), (2, _), (4, _), (5, _), (6, _), (7, _), (8, _), (9, _)]) rfl ?_
            exact W_X9_duel_320 C hq h0 hd hF hK
set_option maxRecDepth 20000 in
set_option maxHeartbeats 2000000 in
theorem W_X9_duel_252 {Δ : DD} {Γ : GG} {d : Nat} {q : (Int32 × Mem)} {x0 : Nat} {x2 : Int32} {x4 : Int32} {x5 : Int32} (C : Cx Δ Γ RX9 cX9_duel 11 d (some .int)) (hq : RetQ Δ Γ (some (.int q.1)) q.2) (h0 : isK 9 x0 = true) (hd : 4 ≤ d) {s : Int32 × Mem} {y : ((Int32 × Int32 × Mem) ⊕ (Int32 × Mem))} (hF : F_X9_duel_252 x0 x2 x4 x5  s = some y) (hK : (K_X9_duel_238 Δ Γ q x0 x2 y)) : V Δ Γ 11 252 [(0, rf Δ (x0)), (2, .int (x2)), (4, .int (x4)), (5, .int (x5)), (6, .int (s.1))] [] s.2 := by
  refine lp_V (W := fun (s : Int32 × Mem) => V Δ Γ 11 252 [(0, rf Δ (x0)), (2, .int (x2)), (4, .int (x4)), (5, .int (x5)), (6, .int (s.1))] [] s.2) (K := fun (t : ((Int32 × Int32 × Mem) ⊕ (Int32 × Mem))) => (K_X9_duel_238 Δ Γ q x0 x2 t)) (K' := K_X9_duel_252 Δ Γ q x0 x2 x4 x5 ) (fun _ h => h) (fun _ h => h) ?_ s y hF hK
  clear hF hK
  intro s z hF hK
  refine v_iload C 6 4 dX9_duel_252 rfl ?_
  refine v_iload C 4 2 dX9_duel_254 rfl ?_
  refine v_icmp_ge C 362 dX9_duel_256 (by decide) (fun c42 => ?_) (fun c42 => ?_)
  · have hF := ifp hF c42
    refine v_iinc C (_ + (-1 : Int32)) 3 (ll' := [(5, _), (0, _), (2, _), (4, _), (6, _)]) dX9_duel_362 rfl (inc_eq (by decide)) (by decide) rfl ?_
    refine v_goto C 238 dX9_duel_365 (by decide) ?_
    refine v_sub [1, 2, 3, 0] (ll' := [(0, _), (2, _), (4, _), (5, _)]) rfl ?_
    cases hF
    exact KE_X9_duel_238 (KR_X9_duel_252 hK)
  · have hF := ifn hF c42
    refine v_iconst C (-1) dX9_duel_259 (by decide) ?_
    refine v_istore C 7 (ll' := [(7, _), (0, _), (2, _), (4, _), (5, _), (6, _)]) dX9_duel_260 (by decide) rfl ?_
    refine v_iconst C (0) dX9_duel_262 (by decide) ?_
    refine v_istore C 8 (ll' := [(8, _), (7, _), (0, _), (2, _), (4, _), (5, _), (6, _)]) dX9_duel_263 (by decide) rfl ?_
    refine v_sub [2, 3, 4, 5, 6, 1, 0] (ll' := [(0, _), (2, _), (4, _), (5, _), (6, _), (7, _), (8, _)]) rfl ?_
    exact W_X9_duel_265 C hq h0 hd hF hK
set_option maxRecDepth 20000 in
set_option maxHeartbeats 2000000 in
theorem W_X9_duel_238 {Δ : DD} {Γ : GG} {d : Nat} {q : (Int32 × Mem)} {x0 : Nat} {x2 : Int32} (C : Cx Δ Γ RX9 cX9_duel 11 d (some .int)) (hq : RetQ Δ Γ (some (.int q.1)) q.2) (h0 : isK 9 x0 = true) (hd : 4 ≤ d) {s : Int32 × Int32 × Mem} (hF : F_X9_duel_238 x0 x2  s = some q) : V Δ Γ 11 238 [(0, rf Δ (x0)), (2, .int (x2)), (4, .int (s.1)), (5, .int (s.2.1))] [] s.2.2 := by
  have hF : F_X9_duel_238 x0 x2  s = some q := hF
  refine lp_V (W := fun (s : Int32 × Int32 × Mem) => V Δ Γ 11 238 [(0, rf Δ (x0)), (2, .int (x2)), (4, .int (s.1)), (5, .int (s.2.1))] [] s.2.2) (K := fun t => t = q) (K' := K_X9_duel_238 Δ Γ q x0 x2 ) (fun _ h => h) (fun _ h => h) ?_ s q hF rfl
  clear hF
  intro s z hF hK
  refine v_iload C 5 3 dX9_duel_238 rfl ?_
  refine v_if_lt C 368 dX9_duel_240 (by decide) (fun c36 => ?_) (fun c36 => ?_)
  · have hF := ifp hF c36
    refine v_aload_n C 0 0 dX9_duel_368 rfl rfl ?_
    obtain ⟨p38, g37, hF⟩ := bnd hF
    refine v_gR C fu_X9_41 g37 dX9_duel_369 ?_
    refine v_iconst C (0) dX9_duel_372 (by decide) ?_
    obtain ⟨v39, g40, hF⟩ := bnd hF
    refine v_aI C g40 dX9_duel_373 ?_
    cases hF
    exact v_iretF C hq hK dX9_duel_374
  · have hF := ifn hF c36
    refine v_iload C 4 2 dX9_duel_243 rfl ?_
    refine v_iload_n C 2 1 dX9_duel_245 rfl rfl ?_
    obtain ⟨_, g41, hF⟩ := bnd hF
    refine v_idiv C dX9_duel_246 (nz_ne g41) ?_
    refine v_istore C 4 (ll' := [(4, _), (0, _), (2, _), (5, _)]) dX9_duel_247 (by decide) rfl ?_
    refine v_iconst C (0) dX9_duel_249 (by decide) ?_
    refine v_istore C 6 (ll' := [(6, _), (4, _), (0, _), (2, _), (5, _)]) dX9_duel_250 (by decide) rfl ?_
    refine v_sub [2, 3, 1, 4, 0] (ll' := [(0, _), (2, _), (4, _), (5, _), (6, _)]) rfl ?_
    exact W_X9_duel_252 C hq h0 hd hF hK
set_option maxRecDepth 20000 in
set_option maxHeartbeats 2000000 in
theorem W_X9_duel_57 {Δ : DD} {Γ : GG} {d : Nat} {q : (Int32 × Mem)} {x0 : Nat} {x1 : Int32} {x2 : Int32} {x3 : Int32} (C : Cx Δ Γ RX9 cX9_duel 11 d (some .int)) (hq : RetQ Δ Γ (some (.int q.1)) q.2) (h0 : isK 9 x0 = true) (hd : 4 ≤ d) {s : Int32 × Mem} (hF : F_X9_duel_57 x0 x1 x2 x3  s = some q) : V Δ Γ 11 57 [(0, rf Δ (x0)), (1, .int (x1)), (2, .int (x2)), (3, .int (x3)), (4, .int (s.1))] [] s.2 := by
  have hF : F_X9_duel_57 x0 x1 x2 x3  s = some q := hF
  refine lp_V (W := fun (s : Int32 × Mem) => V Δ Γ 11 57 [(0, rf Δ (x0)), (1, .int (x1)), (2, .int (x2)), (3, .int (x3)), (4, .int (s.1))] [] s.2) (K := fun t => t = q) (K' := K_X9_duel_57 Δ Γ q x0 x1 x2 x3 ) (fun _ h => h) (fun _ h => h) ?_ s q hF rfl
  clear hF
  intro s z hF hK
  refine v_iload C 4 4 dX9_duel_57 rfl ?_
  refine v_iload_n C 3 3 dX9_duel_59 rfl rfl ?_
  refine v_icmp_ge C 230 dX9_duel_60 (by decide) (fun c2 => ?_) (fun c2 => ?_)
  · have hF := ifp hF c2
    refine v_iload_n C 3 3 dX9_duel_230 rfl rfl ?_
    refine v_istore C 4 (ll' := [(4, _), (0, _), (1, _), (2, _), (3, _)]) dX9_duel_231 (by decide) rfl ?_
    refine v_iload_n C 1 2 dX9_duel_233 rfl rfl ?_
    refine v_iconst C (1) dX9_duel_234 (by decide) ?_
    refine v_isub C dX9_duel_235 ?_
    refine v_istore C 5 (ll' := [(5, _), (4, _), (0, _), (1, _), (2, _), (3, _)]) dX9_duel_236 (by decide) rfl ?_
    refine v_sub [2, 4, 1, 0] (ll' := [(0, _), (2, _), (4, _), (5, _)]) rfl ?_
    obtain ⟨z, hz, e⟩ := mapd hF
    subst e
    exact W_X9_duel_238 C hq h0 hd (hz.trans (congrArg some hK))
  · have hF := ifn hF c2
    refine v_aload_n C 0 0 dX9_duel_63 rfl rfl ?_
    obtain ⟨q3, g4, hF⟩ := bnd hF
    refine v_cVv C mw_X9_tries lk_X9_173 _ (M_X9_tries (by omega) h0 g4) h0 rfl rfl (Nat.le_of_ble_eq_true rfl) dX9_duel_64 ?_
    refine v_iconst C (0) dX9_duel_67 (by decide) ?_
    refine v_istore C 5 (ll' := [(5, _), (0, _), (1, _), (2, _), (3, _), (4, _)]) dX9_duel_68 (by decide) rfl ?_
    refine v_iload_n C 3 4 dX9_duel_70 rfl rfl ?_
    refine v_istore C 6 (ll' := [(6, _), (5, _), (0, _), (1, _), (2, _), (3, _), (4, _)]) dX9_duel_71 (by decide) rfl ?_
    refine v_iconst C (1) dX9_duel_73 (by decide) ?_
    refine v_istore C 7 (ll' := [(7, _), (6, _), (5, _), (0, _), (1, _), (2, _), (3, _), (4, _)]) dX9_duel_74 (by decide) rfl ?_
    refine v_iconst C (0) dX9_duel_76 (by decide) ?_
    refine v_istore C 8 (ll' := [(8, _), (7, _), (6, _), (5, _), (0, _), (1, _), (2, _), (3, _), (4, _)]) dX9_duel_77 (by decide) rfl ?_
    refine v_sub [4, 5, 6, 7, 8, 3, 2, 1, 0] (ll' := [(0, _), (1, _), (2, _), (3, _), (4, _), (5, _), (6, _), (7, _), (8, _)]) rfl ?_
    exact W_X9_duel_79 C hq h0 hd hF hK
set_option maxRecDepth 20000 in
set_option maxHeartbeats 2000000 in
theorem W_X9_duel_38 {Δ : DD} {Γ : GG} {d : Nat} {q : (Int32 × Mem)} {x0 : Nat} {x1 : Int32} {x2 : Int32} {σ : Mem} (C : Cx Δ Γ RX9 cX9_duel 11 d (some .int)) (hq : RetQ Δ Γ (some (.int q.1)) q.2) (h0 : isK 9 x0 = true) (hd : 4 ≤ d) {s : Int32 × Int32} (hF : F_X9_duel_38 x0 x1 x2 σ s = some q) : V Δ Γ 11 38 [(0, rf Δ (x0)), (1, .int (x1)), (2, .int (x2)), (3, .int (s.1)), (4, .int (s.2))] [] σ := by
  have hF : F_X9_duel_38 x0 x1 x2 σ s = some q := hF
  refine lp_V (W := fun (s : Int32 × Int32) => V Δ Γ 11 38 [(0, rf Δ (x0)), (1, .int (x1)), (2, .int (x2)), (3, .int (s.1)), (4, .int (s.2))] [] σ) (K := fun t => t = q) (K' := K_X9_duel_38 Δ Γ q x0 x1 x2 σ) (fun _ h => h) (fun _ h => h) ?_ s q hF rfl
  clear hF
  intro s z hF hK
  refine v_iload C 4 4 dX9_duel_38 rfl ?_
  refine v_iload_n C 1 1 dX9_duel_40 rfl rfl ?_
  refine v_icmp_ge C 54 dX9_duel_41 (by decide) (fun c1 => ?_) (fun c1 => ?_)
  · have hF := ifp hF c1
    refine v_iconst C (0) dX9_duel_54 (by decide) ?_
    refine v_istore C 4 (ll' := [(4, _), (0, _), (1, _), (2, _), (3, _)]) dX9_duel_55 (by decide) rfl ?_
    refine v_sub [1, 2, 3, 4, 0] (ll' := [(0, _), (1, _), (2, _), (3, _), (4, _)]) rfl ?_
    obtain ⟨z, hz, e⟩ := mapd hF
    subst e
    exact W_X9_duel_57 C hq h0 hd (hz.trans (congrArg some hK))
  · have hF := ifn hF c1
    refine v_iload_n C 3 3 dX9_duel_44 rfl rfl ?_
    refine v_iload_n C 2 2 dX9_duel_45 rfl rfl ?_
    refine v_imul C dX9_duel_46 ?_
    refine v_istore_n C 3 (ll' := [(3, _), (0, _), (1, _), (2, _), (4, _)]) dX9_duel_47 rfl (by decide) rfl ?_
    refine v_iinc C (_ + (1 : Int32)) 4 (ll' := [(4, _), (3, _), (0, _), (1, _), (2, _)]) dX9_duel_48 rfl (inc_eq (by decide)) (by decide) rfl ?_
    refine v_goto C 38 dX9_duel_51 (by decide) ?_
    refine v_sub [2, 3, 4, 1, 0] (ll' := [(0, _), (1, _), (2, _), (3, _), (4, _)]) rfl ?_
    cases hF
    exact KE_X9_duel_38 hK
set_option maxRecDepth 20000 in
set_option maxHeartbeats 2000000 in
theorem M_X9_duel {Δ : DD} {d : Nat} {x0 : Nat} {x1 : Int32} {σ : Mem} {q : (Int32 × Mem)} (hd : 5 ≤ d) (h0 : isK 9 x0 = true) (hF : F_X9_duel x0 x1 σ = some q) : Mt Δ d yX9_duel cX9_duel 11 (some .int) [rf Δ x0, .int x1] σ (some (.int q.1)) q.2 := by
  obtain ⟨d, rfl⟩ : ∃ e, d = e + 1 := ⟨d - 1, by omega⟩
  have hd : 4 ≤ d := by omega
  refine mt_of (by decide) rfl (Nat.le_of_ble_eq_true rfl) (fun Γ C hq => ?_)
  unfold F_X9_duel at hF
  show V Δ Γ 11 0 [(0, rf Δ (x0)), (1, .int (x1))] [] σ
  refine v_iload_n C 1 1 dX9_duel_0 rfl rfl ?_
  refine v_i2l C dX9_duel_1 ?_
  refine v_lconst C 0 dX9_duel_2 (by decide) ?_
  refine v_ldc2 C (4) kl_X9_179 dX9_duel_3 ?_
  obtain ⟨q58, g59, hF⟩ := bnd hF
  refine v_cSi C mw_X9_in lk_X9_53 _ (M_X9_in (by omega) g59) rfl rfl (Nat.le_of_ble_eq_true rfl) dX9_duel_6 ?_
  refine v_if_ne C 14 dX9_duel_9 (by decide) (fun c60 => ?_) (fun c60 => ?_)
  · have hF := ifn hF c60
    refine v_aload_n C 0 0 dX9_duel_14 rfl rfl ?_
    obtain ⟨q61, g62, hF⟩ := bnd hF
    refine v_cVi C mw_X9_isTown lk_X9_153 _ (M_X9_isTown (by omega) h0 g62) h0 rfl rfl (Nat.le_of_ble_eq_true rfl) dX9_duel_15 ?_
    refine v_if_ne C 24 dX9_duel_18 (by decide) (fun c63 => ?_) (fun c63 => ?_)
    · have hF := ifn hF c63
      refine v_aload_n C 0 0 dX9_duel_24 rfl rfl ?_
      obtain ⟨p65, g64, hF⟩ := bnd hF
      refine v_gR C fu_X9_7 g64 dX9_duel_25 ?_
      refine v_iconst C (0) dX9_duel_28 (by decide) ?_
      obtain ⟨v66, g67, hF⟩ := bnd hF
      refine v_aI C g67 dX9_duel_29 ?_
      refine v_iconst C (1) dX9_duel_30 (by decide) ?_
      refine v_iadd C dX9_duel_31 ?_
      refine v_istore_n C 2 (ll' := [(2, _), (0, _), (1, _)]) dX9_duel_32 rfl (by decide) rfl ?_
      refine v_iconst C (1) dX9_duel_33 (by decide) ?_
      refine v_istore_n C 3 (ll' := [(3, _), (2, _), (0, _), (1, _)]) dX9_duel_34 rfl (by decide) rfl ?_
      refine v_iconst C (0) dX9_duel_35 (by decide) ?_
      refine v_istore C 4 (ll' := [(4, _), (3, _), (2, _), (0, _), (1, _)]) dX9_duel_36 (by decide) rfl ?_
      refine v_sub [3, 4, 2, 1, 0] (ll' := [(0, _), (1, _), (2, _), (3, _), (4, _)]) rfl ?_
      exact W_X9_duel_38 C hq h0 hd hF
    · have hF := ifp hF c63
      refine v_bipush C (-4) dX9_duel_21 (by decide) ?_
      exact v_iretF C hq (Option.some.inj hF) dX9_duel_23
  · have hF := ifp hF c60
    refine v_iconst C (-1) dX9_duel_12 (by decide) ?_
    exact v_iretF C hq (Option.some.inj hF) dX9_duel_13
def K_X9_tellsParts_6 (Δ : DD) (Γ : GG) (q : (Int32 × Mem)) (x0 : Nat) (x1 : Int64) (x3 : Int64) (σ : Mem) (y : (Int64 × Int64) ⊕ (Int32 × Mem)) : Prop := match y with
  | .inl s => V Δ Γ 11 6 [(0, rf Δ (x0)), (1, .long (x1)), (3, .long (x3)), (5, .long (s.1)), (7, .long (s.2))] [] σ
  | .inr t => (t = q)
set_option maxRecDepth 20000 in
set_option maxHeartbeats 2000000 in
theorem W_X9_tellsParts_6 {Δ : DD} {Γ : GG} {d : Nat} {q : (Int32 × Mem)} {x0 : Nat} {x1 : Int64} {x3 : Int64} {σ : Mem} (C : Cx Δ Γ RX9 cX9_tellsParts 11 d (some .int)) (hq : RetQ Δ Γ (some (.int q.1)) q.2) (h0 : isK 9 x0 = true) (hd : 0 ≤ d) {s : Int64 × Int64} (hF : F_X9_tellsParts_6 x0 x1 x3 σ s = some q) : V Δ Γ 11 6 [(0, rf Δ (x0)), (1, .long (x1)), (3, .long (x3)), (5, .long (s.1)), (7, .long (s.2))] [] σ := by
  have hF : F_X9_tellsParts_6 x0 x1 x3 σ s = some q := hF
  refine lp_V (W := fun (s : Int64 × Int64) => V Δ Γ 11 6 [(0, rf Δ (x0)), (1, .long (x1)), (3, .long (x3)), (5, .long (s.1)), (7, .long (s.2))] [] σ) (K := fun t => t = q) (K' := K_X9_tellsParts_6 Δ Γ q x0 x1 x3 σ) (fun _ h => h) (fun _ h => h) ?_ s q hF rfl
  clear hF
  intro s z hF hK
  refine v_lload C 7 4 dX9_tellsParts_6 rfl ?_
  refine v_lconst C 0 dX9_tellsParts_8 (by decide) ?_
  refine v_lcmp C dX9_tellsParts_9 ?_
  refine v_if_eq C 31 dX9_tellsParts_10 (by decide) (fun c1 => ?_) (fun c1 => ?_)
  · have hF := ifp hF c1
    refine v_aload_n C 0 0 dX9_tellsParts_31 rfl rfl ?_
    refine v_lload_n C 1 1 dX9_tellsParts_32 rfl rfl ?_
    refine v_lload C 5 3 dX9_tellsParts_33 rfl ?_
    obtain ⟨_, g2, hF⟩ := bnd hF
    refine v_ldiv C dX9_tellsParts_35 (nzL_ne g2) ?_
    obtain ⟨m4, g3, hF⟩ := bnd hF
    refine v_pL C fp_X9_197 g3 dX9_tellsParts_36 ?_
    refine v_aload_n C 0 0 dX9_tellsParts_39 rfl rfl ?_
    refine v_lload_n C 3 2 dX9_tellsParts_40 rfl rfl ?_
    refine v_lload C 5 3 dX9_tellsParts_41 rfl ?_
    obtain ⟨_, g5, hF⟩ := bnd hF
    refine v_ldiv C dX9_tellsParts_43 (nzL_ne g5) ?_
    obtain ⟨m7, g6, hF⟩ := bnd hF
    refine v_pL C fp_X9_34 g6 dX9_tellsParts_44 ?_
    refine v_iconst C (1) dX9_tellsParts_47 (by decide) ?_
    cases hF
    exact v_iretF C hq hK dX9_tellsParts_48
  · have hF := ifn hF c1
    refine v_lload C 5 3 dX9_tellsParts_13 rfl ?_
    refine v_lload C 7 4 dX9_tellsParts_15 rfl ?_
    obtain ⟨_, g8, hF⟩ := bnd hF
    refine v_lrem C dX9_tellsParts_17 (nzL_ne g8) ?_
    refine v_lstore C 9 (ll' := [(9, _), (0, _), (1, _), (3, _), (5, _), (7, _)]) dX9_tellsParts_18 (by decide) rfl ?_
    refine v_lload C 7 5 dX9_tellsParts_20 rfl ?_
    refine v_lstore C 5 (ll' := [(5, _), (9, _), (0, _), (1, _), (3, _), (7, _)]) dX9_tellsParts_22 (by decide) rfl ?_
    refine v_lload C 9 1 dX9_tellsParts_24 rfl ?_
    refine v_lstore C 7 (ll' := [(7, _), (5, _), (9, _), (0, _), (1, _), (3, _)]) dX9_tellsParts_26 (by decide) rfl ?_
    refine v_goto C 6 dX9_tellsParts_28 (by decide) ?_
    refine v_sub [3, 4, 5, 1, 0] (ll' := [(0, _), (1, _), (3, _), (5, _), (7, _)]) rfl ?_
    cases hF
    exact hK
set_option maxRecDepth 20000 in
set_option maxHeartbeats 2000000 in
theorem M_X9_tellsParts {Δ : DD} {d : Nat} {x0 : Nat} {x1 : Int64} {x3 : Int64} {σ : Mem} {q : (Int32 × Mem)} (hd : 1 ≤ d) (h0 : isK 9 x0 = true) (hF : F_X9_tellsParts x0 x1 x3 σ = some q) : Mt Δ d yX9_tellsParts cX9_tellsParts 11 (some .int) [rf Δ x0, .long x1, .long x3] σ (some (.int q.1)) q.2 := by
  obtain ⟨d, rfl⟩ : ∃ e, d = e + 1 := ⟨d - 1, by omega⟩
  have hd : 0 ≤ d := by omega
  refine mt_of (by decide) rfl (Nat.le_of_ble_eq_true rfl) (fun Γ C hq => ?_)
  unfold F_X9_tellsParts at hF
  show V Δ Γ 11 0 [(0, rf Δ (x0)), (1, .long (x1)), (3, .long (x3))] [] σ
  refine v_lload_n C 1 1 dX9_tellsParts_0 rfl rfl ?_
  refine v_lstore C 5 (ll' := [(5, _), (0, _), (1, _), (3, _)]) dX9_tellsParts_1 (by decide) rfl ?_
  refine v_lload_n C 3 3 dX9_tellsParts_3 rfl rfl ?_
  refine v_lstore C 7 (ll' := [(7, _), (5, _), (0, _), (1, _), (3, _)]) dX9_tellsParts_4 (by decide) rfl ?_
  refine v_sub [2, 3, 4, 1, 0] (ll' := [(0, _), (1, _), (3, _), (5, _), (7, _)]) rfl ?_
  exact W_X9_tellsParts_6 C hq h0 hd hF
def K_X9_dueNow_4 (Δ : DD) (Γ : GG) (q : Int32) (x0 : Nat) (σ : Mem) (y : (Int32 × Int32) ⊕ Int32) : Prop := match y with
  | .inl s => V Δ Γ 3 4 [(0, rf Δ (x0)), (1, .int (s.1)), (2, .int (s.2))] [] σ
  | .inr t => (t = q)
set_option maxRecDepth 20000 in
set_option maxHeartbeats 2000000 in
theorem W_X9_dueNow_31 {Δ : DD} {Γ : GG} {d : Nat} {q : Int32} {x0 : Nat} {x2 : Int32} {y0 : Int32} {y1 : Int32} {σ : Mem} {y : ((Int32 × Int32) ⊕ Int32)} (C : Cx Δ Γ RX9 cX9_dueNow 3 d (some .int)) (hq : RetQ Δ Γ (some (.int q)) σ) (h0 : isK 9 x0 = true) (hd : 1 ≤ d) (hF : F_X9_dueNow_31 x0 x2 y0 y1 σ = some y) (hK : (K_X9_dueNow_4 Δ Γ q x0 σ y)) : V Δ Γ 3 31 [(0, rf Δ (x0)), (2, .int (x2))] [.int (y0), .int (y1)] σ := by
  unfold F_X9_dueNow_31 at hF
  refine v_ior C dX9_dueNow_31 ?_
  refine v_istore_n C 1 (ll' := [(1, _), (0, _), (2, _)]) dX9_dueNow_32 rfl (by decide) rfl ?_
  refine v_iinc C (_ + (1 : Int32)) 2 (ll' := [(2, _), (1, _), (0, _)]) dX9_dueNow_33 rfl (inc_eq (by decide)) (by decide) rfl ?_
  refine v_goto C 4 dX9_dueNow_36 (by decide) ?_
  refine v_sub [2, 1, 0] (ll' := [(0, _), (1, _), (2, _)]) rfl ?_
  cases hF
  exact hK
set_option maxRecDepth 20000 in
set_option maxHeartbeats 2000000 in
theorem W_X9_dueNow_4 {Δ : DD} {Γ : GG} {d : Nat} {q : Int32} {x0 : Nat} {σ : Mem} (C : Cx Δ Γ RX9 cX9_dueNow 3 d (some .int)) (hq : RetQ Δ Γ (some (.int q)) σ) (h0 : isK 9 x0 = true) (hd : 1 ≤ d) {s : Int32 × Int32} (hF : F_X9_dueNow_4 x0 σ s = some q) : V Δ Γ 3 4 [(0, rf Δ (x0)), (1, .int (s.1)), (2, .int (s.2))] [] σ := by
  have hF : F_X9_dueNow_4 x0 σ s = some q := hF
  refine lp_V (W := fun (s : Int32 × Int32) => V Δ Γ 3 4 [(0, rf Δ (x0)), (1, .int (s.1)), (2, .int (s.2))] [] σ) (K := fun t => t = q) (K' := K_X9_dueNow_4 Δ Γ q x0 σ) (fun _ h => h) (fun _ h => h) ?_ s q hF rfl
  clear hF
  intro s z hF hK
  refine v_iload_n C 2 2 dX9_dueNow_4 rfl rfl ?_
  refine v_aload_n C 0 0 dX9_dueNow_5 rfl rfl ?_
  obtain ⟨p2, g1, hF⟩ := bnd hF
  refine v_gR C fu_X9_7 g1 dX9_dueNow_6 ?_
  refine v_iconst C (0) dX9_dueNow_9 (by decide) ?_
  obtain ⟨v3, g4, hF⟩ := bnd hF
  refine v_aI C g4 dX9_dueNow_10 ?_
  refine v_icmp_ge C 39 dX9_dueNow_11 (by decide) (fun c5 => ?_) (fun c5 => ?_)
  · have hF := ifp hF c5
    refine v_iload_n C 1 1 dX9_dueNow_39 rfl rfl ?_
    cases hF
    exact v_iretP C hq hK dX9_dueNow_40
  · have hF := ifn hF c5
    refine v_iload_n C 1 1 dX9_dueNow_14 rfl rfl ?_
    refine v_aload_n C 0 0 dX9_dueNow_15 rfl rfl ?_
    refine v_iconst C (0) dX9_dueNow_16 (by decide) ?_
    refine v_iload_n C 2 2 dX9_dueNow_17 rfl rfl ?_
    obtain ⟨q6, g7, hF⟩ := bnd hF
    refine v_cVi C mw_X9_isDue lk_X9_136 _ (M_X9_isDue (by omega) h0 g7) h0 rfl rfl (Nat.le_of_ble_eq_true rfl) dX9_dueNow_18 ?_
    refine v_if_eq C 30 dX9_dueNow_21 (by decide) (fun c8 => ?_) (fun c8 => ?_)
    · have hF := ifp hF c8
      refine v_iconst C (0) dX9_dueNow_30 (by decide) ?_
      refine v_sub [0, 2] (ll' := [(0, _), (2, _)]) rfl ?_
      exact W_X9_dueNow_31 C hq h0 hd hF hK
    · have hF := ifn hF c8
      refine v_iconst C (1) dX9_dueNow_24 (by decide) ?_
      refine v_iload_n C 2 2 dX9_dueNow_25 rfl rfl ?_
      refine v_ishl C dX9_dueNow_26 ?_
      refine v_goto C 31 dX9_dueNow_27 (by decide) ?_
      refine v_sub [0, 2] (ll' := [(0, _), (2, _)]) rfl ?_
      exact W_X9_dueNow_31 C hq h0 hd hF hK
set_option maxRecDepth 20000 in
set_option maxHeartbeats 2000000 in
theorem M_X9_dueNow {Δ : DD} {d : Nat} {x0 : Nat} {σ : Mem} {q : Int32} (hd : 2 ≤ d) (h0 : isK 9 x0 = true) (hF : F_X9_dueNow x0 σ = some q) : Mt Δ d yX9_dueNow cX9_dueNow 3 (some .int) [rf Δ x0] σ (some (.int q)) σ := by
  obtain ⟨d, rfl⟩ : ∃ e, d = e + 1 := ⟨d - 1, by omega⟩
  have hd : 1 ≤ d := by omega
  refine mt_of (by decide) rfl (Nat.le_of_ble_eq_true rfl) (fun Γ C hq => ?_)
  unfold F_X9_dueNow at hF
  show V Δ Γ 3 0 [(0, rf Δ (x0))] [] σ
  refine v_iconst C (0) dX9_dueNow_0 (by decide) ?_
  refine v_istore_n C 1 (ll' := [(1, _), (0, _)]) dX9_dueNow_1 rfl (by decide) rfl ?_
  refine v_iconst C (0) dX9_dueNow_2 (by decide) ?_
  refine v_istore_n C 2 (ll' := [(2, _), (1, _), (0, _)]) dX9_dueNow_3 rfl (by decide) rfl ?_
  refine v_sub [2, 1, 0] (ll' := [(0, _), (1, _), (2, _)]) rfl ?_
  exact W_X9_dueNow_4 C hq h0 hd hF
def K_X9_waysOf_6 (Δ : DD) (Γ : GG) (q : Int64) (x0 : Nat) (x1 : Int32) (x2 : Int32) (x3 : Int32) (σ : Mem) (y : (Int64 × Int32) ⊕ Int64) : Prop := match y with
  | .inl s => V Δ Γ 7 6 [(0, rf Δ (x0)), (1, .int (x1)), (2, .int (x2)), (3, .int (x3)), (4, .long (s.1)), (6, .int (s.2))] [] σ
  | .inr t => (t = q)
set_option maxRecDepth 20000 in
set_option maxHeartbeats 2000000 in
theorem W_X9_waysOf_51 {Δ : DD} {Γ : GG} {d : Nat} {q : Int64} {x0 : Nat} {x1 : Int32} {x2 : Int32} {x3 : Int32} {x6 : Int32} {y0 : Int64} {y1 : Int64} {σ : Mem} {y : ((Int64 × Int32) ⊕ Int64)} (C : Cx Δ Γ RX9 cX9_waysOf 7 d (some .long)) (hq : RetQ Δ Γ (some (.long q)) σ) (h0 : isK 9 x0 = true) (hd : 1 ≤ d) (hF : F_X9_waysOf_51 x0 x1 x2 x3 x6 y0 y1 σ = some y) (hK : (K_X9_waysOf_6 Δ Γ q x0 x1 x2 x3 σ y)) : V Δ Γ 7 51 [(0, rf Δ (x0)), (1, .int (x1)), (2, .int (x2)), (3, .int (x3)), (6, .int (x6))] [.long (y0), .long (y1)] σ := by
  unfold F_X9_waysOf_51 at hF
  refine v_lmul C dX9_waysOf_51 ?_
  refine v_lstore C 4 (ll' := [(4, _), (0, _), (1, _), (2, _), (3, _), (6, _)]) dX9_waysOf_52 (by decide) rfl ?_
  refine v_iinc C (_ + (1 : Int32)) 5 (ll' := [(6, _), (4, _), (0, _), (1, _), (2, _), (3, _)]) dX9_waysOf_54 rfl (inc_eq (by decide)) (by decide) rfl ?_
  refine v_goto C 6 dX9_waysOf_57 (by decide) ?_
  refine v_sub [2, 3, 4, 5, 1, 0] (ll' := [(0, _), (1, _), (2, _), (3, _), (4, _), (6, _)]) rfl ?_
  cases hF
  exact hK
set_option maxRecDepth 20000 in
set_option maxHeartbeats 2000000 in
theorem W_X9_waysOf_6 {Δ : DD} {Γ : GG} {d : Nat} {q : Int64} {x0 : Nat} {x1 : Int32} {x2 : Int32} {x3 : Int32} {σ : Mem} (C : Cx Δ Γ RX9 cX9_waysOf 7 d (some .long)) (hq : RetQ Δ Γ (some (.long q)) σ) (h0 : isK 9 x0 = true) (hd : 1 ≤ d) {s : Int64 × Int32} (hF : F_X9_waysOf_6 x0 x1 x2 x3 σ s = some q) : V Δ Γ 7 6 [(0, rf Δ (x0)), (1, .int (x1)), (2, .int (x2)), (3, .int (x3)), (4, .long (s.1)), (6, .int (s.2))] [] σ := by
  have hF : F_X9_waysOf_6 x0 x1 x2 x3 σ s = some q := hF
  refine lp_V (W := fun (s : Int64 × Int32) => V Δ Γ 7 6 [(0, rf Δ (x0)), (1, .int (x1)), (2, .int (x2)), (3, .int (x3)), (4, .long (s.1)), (6, .int (s.2))] [] σ) (K := fun t => t = q) (K' := K_X9_waysOf_6 Δ Γ q x0 x1 x2 x3 σ) (fun _ h => h) (fun _ h => h) ?_ s q hF rfl
  clear hF
  intro s z hF hK
  refine v_iload C 6 5 dX9_waysOf_6 rfl ?_
  refine v_aload_n C 0 0 dX9_waysOf_8 rfl rfl ?_
  obtain ⟨p2, g1, hF⟩ := bnd hF
  refine v_gR C fu_X9_7 g1 dX9_waysOf_9 ?_
  refine v_iconst C (0) dX9_waysOf_12 (by decide) ?_
  obtain ⟨v3, g4, hF⟩ := bnd hF
  refine v_aI C g4 dX9_waysOf_13 ?_
  refine v_icmp_ge C 60 dX9_waysOf_14 (by decide) (fun c5 => ?_) (fun c5 => ?_)
  · have hF := ifp hF c5
    refine v_lload C 4 4 dX9_waysOf_60 rfl ?_
    cases hF
    exact v_lretP C hq hK dX9_waysOf_62
  · have hF := ifn hF c5
    refine v_lload C 4 4 dX9_waysOf_17 rfl ?_
    refine v_iload_n C 1 1 dX9_waysOf_19 rfl rfl ?_
    refine v_iload C 6 5 dX9_waysOf_20 rfl ?_
    obtain ⟨q6, g7, hF⟩ := bnd hF
    refine v_cSi C mw_X9_has lk_X9_200 _ (M_X9_has (by omega) g7) rfl rfl (Nat.le_of_ble_eq_true rfl) dX9_waysOf_22 ?_
    refine v_if_ne C 32 dX9_waysOf_25 (by decide) (fun c8 => ?_) (fun c8 => ?_)
    · have hF := ifn hF c8
      refine v_iload_n C 2 2 dX9_waysOf_32 rfl rfl ?_
      refine v_iload C 6 5 dX9_waysOf_33 rfl ?_
      obtain ⟨q9, g10, hF⟩ := bnd hF
      refine v_cSi C mw_X9_has lk_X9_200 _ (M_X9_has (by omega) g10) rfl rfl (Nat.le_of_ble_eq_true rfl) dX9_waysOf_35 ?_
      refine v_if_eq C 46 dX9_waysOf_38 (by decide) (fun c11 => ?_) (fun c11 => ?_)
      · have hF := ifp hF c11
        refine v_bipush C (12) dX9_waysOf_46 (by decide) ?_
        refine v_iload_n C 3 3 dX9_waysOf_48 rfl rfl ?_
        refine v_isub C dX9_waysOf_49 ?_
        refine v_i2l C dX9_waysOf_50 ?_
        refine v_sub [0, 1, 2, 3, 5] (ll' := [(0, _), (1, _), (2, _), (3, _), (6, _)]) rfl ?_
        exact W_X9_waysOf_51 C hq h0 hd hF hK
      · have hF := ifn hF c11
        refine v_iload_n C 3 3 dX9_waysOf_41 rfl rfl ?_
        refine v_i2l C dX9_waysOf_42 ?_
        refine v_goto C 51 dX9_waysOf_43 (by decide) ?_
        refine v_sub [0, 1, 2, 3, 5] (ll' := [(0, _), (1, _), (2, _), (3, _), (6, _)]) rfl ?_
        exact W_X9_waysOf_51 C hq h0 hd hF hK
    · have hF := ifp hF c8
      refine v_lconst C 1 dX9_waysOf_28 (by decide) ?_
      refine v_goto C 51 dX9_waysOf_29 (by decide) ?_
      refine v_sub [0, 1, 2, 3, 5] (ll' := [(0, _), (1, _), (2, _), (3, _), (6, _)]) rfl ?_
      exact W_X9_waysOf_51 C hq h0 hd hF hK
set_option maxRecDepth 20000 in
set_option maxHeartbeats 2000000 in
theorem M_X9_waysOf {Δ : DD} {d : Nat} {x0 : Nat} {x1 : Int32} {x2 : Int32} {x3 : Int32} {σ : Mem} {q : Int64} (hd : 2 ≤ d) (h0 : isK 9 x0 = true) (hF : F_X9_waysOf x0 x1 x2 x3 σ = some q) : Mt Δ d yX9_waysOf cX9_waysOf 7 (some .long) [rf Δ x0, .int x1, .int x2, .int x3] σ (some (.long q)) σ := by
  obtain ⟨d, rfl⟩ : ∃ e, d = e + 1 := ⟨d - 1, by omega⟩
  have hd : 1 ≤ d := by omega
  refine mt_of (by decide) rfl (Nat.le_of_ble_eq_true rfl) (fun Γ C hq => ?_)
  unfold F_X9_waysOf at hF
  show V Δ Γ 7 0 [(0, rf Δ (x0)), (1, .int (x1)), (2, .int (x2)), (3, .int (x3))] [] σ
  refine v_lconst C 1 dX9_waysOf_0 (by decide) ?_
  refine v_lstore C 4 (ll' := [(4, _), (0, _), (1, _), (2, _), (3, _)]) dX9_waysOf_1 (by decide) rfl ?_
  refine v_iconst C (0) dX9_waysOf_3 (by decide) ?_
  refine v_istore C 6 (ll' := [(6, _), (4, _), (0, _), (1, _), (2, _), (3, _)]) dX9_waysOf_4 (by decide) rfl ?_
  refine v_sub [2, 3, 4, 5, 1, 0] (ll' := [(0, _), (1, _), (2, _), (3, _), (4, _), (6, _)]) rfl ?_
  exact W_X9_waysOf_6 C hq h0 hd hF

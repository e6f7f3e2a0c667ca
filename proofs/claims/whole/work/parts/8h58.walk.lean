def K_X9_duel_38 (Δ : DD) (Γ : GG) (q : (Int32 × Mem)) (x0 : Nat) (x1 : Int32) (x2 : Int32) (σ : Mem) (y : (Int32 × Int32) ⊕ (Int32 × Mem)) : Prop := match y with
  | .inl s => V Δ Γ 11 38 [(0, rf Δ (x0)), (1, .int (x1)), (2, .int (x2)), (3, .int (s.1)), (4, .int (s.2))] [] σ
  | .inr t => (t = q)
theorem KE_X9_duel_38 {Δ : DD} {Γ : GG} {q : (Int32 × Mem)} {x0 : Nat} {x1 : Int32} {x2 : Int32} {σ : Mem} {a0 : Int32} {a1 : Int32} (h : K_X9_duel_38 Δ Γ q x0 x1 x2 σ (.inl (a0, a1))) : V Δ Γ 11 38 [(0, rf Δ (x0)), (1, .int (x1)), (2, .int (x2)), (3, .int (a0)), (4, .int (a1))] [] σ := h
theorem KR_X9_duel_38 {Δ : DD} {Γ : GG} {q : (Int32 × Mem)} {x0 : Nat} {x1 : Int32} {x2 : Int32} {σ : Mem} {t : (Int32 × Mem)} (h : K_X9_duel_38 Δ Γ q x0 x1 x2 σ (.inr t)) : (t = q) := h
def K_X9_duel_57 (Δ : DD) (Γ : GG) (q : (Int32 × Mem)) (x0 : Nat) (x1 : Int32) (x2 : Int32) (x3 : Int32) (y : (Int32 × Mem) ⊕ (Int32 × Mem)) : Prop := match y with
  | .inl s => V Δ Γ 11 57 [(0, rf Δ (x0)), (1, .int (x1)), (2, .int (x2)), (3, .int (x3)), (4, .int (s.1))] [] s.2
  | .inr t => (t = q)
theorem KE_X9_duel_57 {Δ : DD} {Γ : GG} {q : (Int32 × Mem)} {x0 : Nat} {x1 : Int32} {x2 : Int32} {x3 : Int32} {a0 : Int32} {a1 : Mem} (h : K_X9_duel_57 Δ Γ q x0 x1 x2 x3  (.inl (a0, a1))) : V Δ Γ 11 57 [(0, rf Δ (x0)), (1, .int (x1)), (2, .int (x2)), (3, .int (x3)), (4, .int (a0))] [] a1 := h
theorem KR_X9_duel_57 {Δ : DD} {Γ : GG} {q : (Int32 × Mem)} {x0 : Nat} {x1 : Int32} {x2 : Int32} {x3 : Int32} {t : (Int32 × Mem)} (h : K_X9_duel_57 Δ Γ q x0 x1 x2 x3  (.inr t)) : (t = q) := h
def K_X9_duel_238 (Δ : DD) (Γ : GG) (q : (Int32 × Mem)) (x0 : Nat) (x2 : Int32) (y : (Int32 × Int32 × Mem) ⊕ (Int32 × Mem)) : Prop := match y with
  | .inl s => V Δ Γ 11 238 [(0, rf Δ (x0)), (2, .int (x2)), (4, .int (s.1)), (5, .int (s.2.1))] [] s.2.2
  | .inr t => (t = q)
theorem KE_X9_duel_238 {Δ : DD} {Γ : GG} {q : (Int32 × Mem)} {x0 : Nat} {x2 : Int32} {a0 : Int32} {a1 : Int32} {a2 : Mem} (h : K_X9_duel_238 Δ Γ q x0 x2  (.inl (a0, a1, a2))) : V Δ Γ 11 238 [(0, rf Δ (x0)), (2, .int (x2)), (4, .int (a0)), (5, .int (a1))] [] a2 := h
theorem KR_X9_duel_238 {Δ : DD} {Γ : GG} {q : (Int32 × Mem)} {x0 : Nat} {x2 : Int32} {t : (Int32 × Mem)} (h : K_X9_duel_238 Δ Γ q x0 x2  (.inr t)) : (t = q) := h
def K_X9_duel_79 (Δ : DD) (Γ : GG) (q : (Int32 × Mem)) (x0 : Nat) (x1 : Int32) (x2 : Int32) (x3 : Int32) (x4 : Int32) (y : (Int32 × Int32 × Int32 × Int32 × Mem) ⊕ ((Int32 × Mem) ⊕ (Int32 × Mem))) : Prop := match y with
  | .inl s => V Δ Γ 11 79 [(0, rf Δ (x0)), (1, .int (x1)), (2, .int (x2)), (3, .int (x3)), (4, .int (x4)), (5, .int (s.1)), (6, .int (s.2.1)), (7, .int (s.2.2.1)), (8, .int (s.2.2.2.1))] [] s.2.2.2.2
  | .inr t => (K_X9_duel_57 Δ Γ q x0 x1 x2 x3 t)
theorem KE_X9_duel_79 {Δ : DD} {Γ : GG} {q : (Int32 × Mem)} {x0 : Nat} {x1 : Int32} {x2 : Int32} {x3 : Int32} {x4 : Int32} {a0 : Int32} {a1 : Int32} {a2 : Int32} {a3 : Int32} {a4 : Mem} (h : K_X9_duel_79 Δ Γ q x0 x1 x2 x3 x4  (.inl (a0, a1, a2, a3, a4))) : V Δ Γ 11 79 [(0, rf Δ (x0)), (1, .int (x1)), (2, .int (x2)), (3, .int (x3)), (4, .int (x4)), (5, .int (a0)), (6, .int (a1)), (7, .int (a2)), (8, .int (a3))] [] a4 := h
theorem KR_X9_duel_79 {Δ : DD} {Γ : GG} {q : (Int32 × Mem)} {x0 : Nat} {x1 : Int32} {x2 : Int32} {x3 : Int32} {x4 : Int32} {t : ((Int32 × Mem) ⊕ (Int32 × Mem))} (h : K_X9_duel_79 Δ Γ q x0 x1 x2 x3 x4  (.inr t)) : (K_X9_duel_57 Δ Γ q x0 x1 x2 x3 t) := h
def K_X9_duel_252 (Δ : DD) (Γ : GG) (q : (Int32 × Mem)) (x0 : Nat) (x2 : Int32) (x4 : Int32) (x5 : Int32) (y : (Int32 × Mem) ⊕ ((Int32 × Int32 × Mem) ⊕ (Int32 × Mem))) : Prop := match y with
  | .inl s => V Δ Γ 11 252 [(0, rf Δ (x0)), (2, .int (x2)), (4, .int (x4)), (5, .int (x5)), (6, .int (s.1))] [] s.2
  | .inr t => (K_X9_duel_238 Δ Γ q x0 x2 t)
theorem KE_X9_duel_252 {Δ : DD} {Γ : GG} {q : (Int32 × Mem)} {x0 : Nat} {x2 : Int32} {x4 : Int32} {x5 : Int32} {a0 : Int32} {a1 : Mem} (h : K_X9_duel_252 Δ Γ q x0 x2 x4 x5  (.inl (a0, a1))) : V Δ Γ 11 252 [(0, rf Δ (x0)), (2, .int (x2)), (4, .int (x4)), (5, .int (x5)), (6, .int (a0))] [] a1 := h
theorem KR_X9_duel_252 {Δ : DD} {Γ : GG} {q : (Int32 × Mem)} {x0 : Nat} {x2 : Int32} {x4 : Int32} {x5 : Int32} {t : ((Int32 × Int32 × Mem) ⊕ (Int32 × Mem))} (h : K_X9_duel_252 Δ Γ q x0 x2 x4 x5  (.inr t)) : (K_X9_duel_238 Δ Γ q x0 x2 t) := h
def K_X9_duel_265 (Δ : DD) (Γ : GG) (q : (Int32 × Mem)) (x0 : Nat) (x2 : Int32) (x4 : Int32) (x5 : Int32) (x6 : Int32) (σ : Mem) (y : (Int32 × Int32) ⊕ ((Int32 × Mem) ⊕ ((Int32 × Int32 × Mem) ⊕ (Int32 × Mem)))) : Prop := match y with
  | .inl s => V Δ Γ 11 265 [(0, rf Δ (x0)), (2, .int (x2)), (4, .int (x4)), (5, .int (x5)), (6, .int (x6)), (7, .int (s.1)), (8, .int (s.2))] [] σ
  | .inr t => (K_X9_duel_252 Δ Γ q x0 x2 x4 x5 t)
theorem KE_X9_duel_265 {Δ : DD} {Γ : GG} {q : (Int32 × Mem)} {x0 : Nat} {x2 : Int32} {x4 : Int32} {x5 : Int32} {x6 : Int32} {σ : Mem} {a0 : Int32} {a1 : Int32} (h : K_X9_duel_265 Δ Γ q x0 x2 x4 x5 x6 σ (.inl (a0, a1))) : V Δ Γ 11 265 [(0, rf Δ (x0)), (2, .int (x2)), (4, .int (x4)), (5, .int (x5)), (6, .int (x6)), (7, .int (a0)), (8, .int (a1))] [] σ := h
theorem KR_X9_duel_265 {Δ : DD} {Γ : GG} {q : (Int32 × Mem)} {x0 : Nat} {x2 : Int32} {x4 : Int32} {x5 : Int32} {x6 : Int32} {σ : Mem} {t : ((Int32 × Mem) ⊕ ((Int32 × Int32 × Mem) ⊕ (Int32 × Mem)))} (h : K_X9_duel_265 Δ Γ q x0 x2 x4 x5 x6 σ (.inr t)) : (K_X9_duel_252 Δ Γ q x0 x2 x4 x5 t) := h
set_option maxRecDepth 20000 in
set_option maxHeartbeats 2000000 in
theorem W_X9_duel_130 {Δ : DD} {Γ : GG} {d : Nat} {q : (Int32 × Mem)} {x0 : Nat} {x1 : Int32} {x2 : Int32} {x3 : Int32} {x4 : Int32} {x6 : Int32} {x7 : Int32} {x8 : Int32} {y0 : Int32} {y1 : Int32} {σ : Mem} {y : ((Int32 × Int32 × Int32 × Int32 × Mem) ⊕ ((Int32 × Mem) ⊕ (Int32 × Mem)))} (C : Cx Δ Γ RX9 cX9_duel 11 d (some .int)) (hq : RetQ Δ Γ (some (.int q.1)) q.2) (h0 : isK 9 x0 = true) (hd : 4 ≤ d) (hF : F_X9_duel_130 x0 x1 x2 x3 x4 x6 x7 x8 y0 y1 σ = some y) (hK : (K_X9_duel_79 Δ Γ q x0 x1 x2 x3 x4 y)) : V Δ Γ 11 130 [(0, rf Δ (x0)), (1, .int (x1)), (2, .int (x2)), (3, .int (x3)), (4, .int (x4)), (6, .int (x6)), (7, .int (x7)), (8, .int (x8))] [.int (y0), .int (y1)] σ := by
  unfold F_X9_duel_130 at hF
  refine v_iadd C dX9_duel_130 ?_
  refine v_istore C 5 (ll' := [(5, _), (0, _), (1, _), (2, _), (3, _), (4, _), (6, _), (7, _), (8, _)]) dX9_duel_131 (by decide) rfl ?_
  refine v_goto C 200 dX9_duel_133 (by decide) ?_
  refine v_iinc C (_ + (1 : Int32)) 8 (ll' := [(8, _), (5, _), (0, _), (1, _), (2, _), (3, _), (4, _), (6, _), (7, _)]) dX9_duel_200 rfl (inc_eq (by decide)) (by decide) rfl ?_
  refine v_goto C 79 dX9_duel_203 (by decide) ?_
  refine v_sub [2, 3, 4, 5, 6, 1, 7, 8, 0] (ll' := [(0, _), (1, _), (2, _), (3, _), (4, _), (5, _), (6, _), (7, _), (8, _)]) rfl ?_
  cases hF
  exact KE_X9_duel_79 hK
set_option maxRecDepth 20000 in
set_option maxHeartbeats 2000000 in
theorem W_X9_duel_192 {Δ : DD} {Γ : GG} {d : Nat} {q : (Int32 × Mem)} {x0 : Nat} {x1 : Int32} {x2 : Int32} {x3 : Int32} {x4 : Int32} {x5 : Int32} {x6 : Int32} {x7 : Int32} {x8 : Int32}  {σ : Mem} {y : ((Int32 × Int32 × Int32 × Int32 × Mem) ⊕ ((Int32 × Mem) ⊕ (Int32 × Mem)))} (C : Cx Δ Γ RX9 cX9_duel 11 d (some .int)) (hq : RetQ Δ Γ (some (.int q.1)) q.2) (h0 : isK 9 x0 = true) (hd : 4 ≤ d) (hF : F_X9_duel_192 x0 x1 x2 x3 x4 x5 x6 x7 x8  σ = some y) (hK : (K_X9_duel_79 Δ Γ q x0 x1 x2 x3 x4 y)) : V Δ Γ 11 192 [(0, rf Δ (x0)), (1, .int (x1)), (2, .int (x2)), (3, .int (x3)), (4, .int (x4)), (5, .int (x5)), (6, .int (x6)), (7, .int (x7)), (8, .int (x8))] [] σ := by
  unfold F_X9_duel_192 at hF
  refine v_aload_n C 0 0 dX9_duel_192 rfl rfl ?_
  refine v_sipush C (7260) dX9_duel_193 (by decide) ?_
  obtain ⟨q32, g33, hF⟩ := bnd hF
  refine v_cVi C mw_X9_passes lk_X9_160 _ (M_X9_passes (by omega) h0 g33) h0 rfl rfl (Nat.le_of_ble_eq_true rfl) dX9_duel_196 ?_
  refine v_pop C dX9_duel_199 rfl ?_
  refine v_iinc C (_ + (1 : Int32)) 8 (ll' := [(8, _), (0, _), (1, _), (2, _), (3, _), (4, _), (5, _), (6, _), (7, _)]) dX9_duel_200 rfl (inc_eq (by decide)) (by decide) rfl ?_
  refine v_goto C 79 dX9_duel_203 (by decide) ?_
  refine v_sub [1, 2, 3, 4, 5, 6, 7, 8, 0] (ll' := [(0, _), (1, _), (2, _), (3, _), (4, _), (5, _), (6, _), (7, _), (8, _)]) rfl ?_
  cases hF
  exact KE_X9_duel_79 hK
set_option maxRecDepth 20000 in
set_option maxHeartbeats 2000000 in
theorem W_X9_duel_165 {Δ : DD} {Γ : GG} {d : Nat} {q : (Int32 × Mem)} {x0 : Nat} {x1 : Int32} {x2 : Int32} {x3 : Int32} {x4 : Int32} {x5 : Int32} {x6 : Int32} {x8 : Int32} {x9 : Int32} {y0 : Int32} {σ : Mem} {y : ((Int32 × Int32 × Int32 × Int32 × Mem) ⊕ ((Int32 × Mem) ⊕ (Int32 × Mem)))} (C : Cx Δ Γ RX9 cX9_duel 11 d (some .int)) (hq : RetQ Δ Γ (some (.int q.1)) q.2) (h0 : isK 9 x0 = true) (hd : 4 ≤ d) (hF : F_X9_duel_165 x0 x1 x2 x3 x4 x5 x6 x8 x9 y0 σ = some y) (hK : (K_X9_duel_79 Δ Γ q x0 x1 x2 x3 x4 y)) : V Δ Γ 11 165 [(0, rf Δ (x0)), (1, .int (x1)), (2, .int (x2)), (3, .int (x3)), (4, .int (x4)), (5, .int (x5)), (6, .int (x6)), (8, .int (x8)), (9, .int (x9))] [.int (y0)] σ := by
  unfold F_X9_duel_165 at hF
  refine v_istore C 7 (ll' := [(7, _), (0, _), (1, _), (2, _), (3, _), (4, _), (5, _), (6, _), (8, _), (9, _)]) dX9_duel_165 (by decide) rfl ?_
  refine v_iload C 7 0 dX9_duel_167 rfl ?_
  refine v_if_eq C 192 dX9_duel_169 (by decide) (fun c24 => ?_) (fun c24 => ?_)
  · have hF := ifp hF c24
    refine v_sub [1, 2, 3, 4, 5, 6, 7, 0, 8] (ll' := [(0, _), (1, _), (2, _), (3, _), (4, _), (5, _), (6, _), (7, _), (8, _)]) rfl ?_
    exact W_X9_duel_192 C hq h0 hd hF hK
  · have hF := ifn hF c24
    refine v_iload C 9 9 dX9_duel_172 rfl ?_
    refine v_if_lt C 192 dX9_duel_174 (by decide) (fun c25 => ?_) (fun c25 => ?_)
    · have hF := ifp hF c25
      refine v_sub [1, 2, 3, 4, 5, 6, 7, 0, 8] (ll' := [(0, _), (1, _), (2, _), (3, _), (4, _), (5, _), (6, _), (7, _), (8, _)]) rfl ?_
      exact W_X9_duel_192 C hq h0 hd hF hK
    · have hF := ifn hF c25
      refine v_aload_n C 0 1 dX9_duel_177 rfl rfl ?_
      obtain ⟨p27, g26, hF⟩ := bnd hF
      refine v_gR C fu_X9_7 g26 dX9_duel_178 ?_
      refine v_sipush C (7281) dX9_duel_181 (by decide) ?_
      refine v_iload C 9 9 dX9_duel_184 rfl ?_
      refine v_iadd C dX9_duel_186 ?_
      refine v_dup2 C dX9_duel_187 rfl rfl ?_
      obtain ⟨v28, g29, hF⟩ := bnd hF
      refine v_aI C g29 dX9_duel_188 ?_
      refine v_iconst C (1) dX9_duel_189 (by decide) ?_
      refine v_isub C dX9_duel_190 ?_
      obtain ⟨m30, g31, hF⟩ := bnd hF
      refine v_sI C g31 dX9_duel_191 ?_
      refine v_sub [1, 2, 3, 4, 5, 6, 7, 0, 8] (ll' := [(0, _), (1, _), (2, _), (3, _), (4, _), (5, _), (6, _), (7, _), (8, _)]) rfl ?_
      exact W_X9_duel_192 C hq h0 hd hF hK
set_option maxRecDepth 20000 in
set_option maxHeartbeats 2000000 in
theorem W_X9_duel_160 {Δ : DD} {Γ : GG} {d : Nat} {q : (Int32 × Mem)} {x0 : Nat} {x1 : Int32} {x2 : Int32} {x3 : Int32} {x4 : Int32} {x5 : Int32} {x6 : Int32} {x8 : Int32} {x9 : Int32}  {σ : Mem} {y : ((Int32 × Int32 × Int32 × Int32 × Mem) ⊕ ((Int32 × Mem) ⊕ (Int32 × Mem)))} (C : Cx Δ Γ RX9 cX9_duel 11 d (some .int)) (hq : RetQ Δ Γ (some (.int q.1)) q.2) (h0 : isK 9 x0 = true) (hd : 4 ≤ d) (hF : F_X9_duel_160 x0 x1 x2 x3 x4 x5 x6 x8 x9  σ = some y) (hK : (K_X9_duel_79 Δ Γ q x0 x1 x2 x3 x4 y)) : V Δ Γ 11 160 [(0, rf Δ (x0)), (1, .int (x1)), (2, .int (x2)), (3, .int (x3)), (4, .int (x4)), (5, .int (x5)), (6, .int (x6)), (8, .int (x8)), (9, .int (x9))] [] σ := by
  unfold F_X9_duel_160 at hF
  refine v_iconst C (1) dX9_duel_160 (by decide) ?_
  refine v_goto C 165 dX9_duel_161 (by decide) ?_
  exact W_X9_duel_165 C hq h0 hd hF hK
set_option maxRecDepth 20000 in
set_option maxHeartbeats 2000000 in
theorem W_X9_duel_164 {Δ : DD} {Γ : GG} {d : Nat} {q : (Int32 × Mem)} {x0 : Nat} {x1 : Int32} {x2 : Int32} {x3 : Int32} {x4 : Int32} {x5 : Int32} {x6 : Int32} {x8 : Int32} {x9 : Int32}  {σ : Mem} {y : ((Int32 × Int32 × Int32 × Int32 × Mem) ⊕ ((Int32 × Mem) ⊕ (Int32 × Mem)))} (C : Cx Δ Γ RX9 cX9_duel 11 d (some .int)) (hq : RetQ Δ Γ (some (.int q.1)) q.2) (h0 : isK 9 x0 = true) (hd : 4 ≤ d) (hF : F_X9_duel_164 x0 x1 x2 x3 x4 x5 x6 x8 x9  σ = some y) (hK : (K_X9_duel_79 Δ Γ q x0 x1 x2 x3 x4 y)) : V Δ Γ 11 164 [(0, rf Δ (x0)), (1, .int (x1)), (2, .int (x2)), (3, .int (x3)), (4, .int (x4)), (5, .int (x5)), (6, .int (x6)), (8, .int (x8)), (9, .int (x9))] [] σ := by
  unfold F_X9_duel_164 at hF
  refine v_iconst C (0) dX9_duel_164 (by decide) ?_
  exact W_X9_duel_165 C hq h0 hd hF hK
set_option maxRecDepth 20000 in
set_option maxHeartbeats 2000000 in
theorem W_X9_duel_223 {Δ : DD} {Γ : GG} {d : Nat} {q : (Int32 × Mem)} {x0 : Nat} {x1 : Int32} {x2 : Int32} {x3 : Int32} {x4 : Int32} {y0 : Int32} {y1 : Int32} {y2 : Nat} {σ : Mem} {y : ((Int32 × Mem) ⊕ (Int32 × Mem))} (C : Cx Δ Γ RX9 cX9_duel 11 d (some .int)) (hq : RetQ Δ Γ (some (.int q.1)) q.2) (h0 : isK 9 x0 = true) (hd : 4 ≤ d) (hF : F_X9_duel_223 x0 x1 x2 x3 x4 y0 y1 y2 σ = some y) (hK : (K_X9_duel_57 Δ Γ q x0 x1 x2 x3 y)) : V Δ Γ 11 223 [(0, rf Δ (x0)), (1, .int (x1)), (2, .int (x2)), (3, .int (x3)), (4, .int (x4))] [.int (y0), .int (y1), rf Δ (y2)] σ := by
  unfold F_X9_duel_223 at hF
  obtain ⟨m34, g35, hF⟩ := bnd hF
  refine v_sI C g35 dX9_duel_223 ?_
  refine v_iinc C (_ + (1 : Int32)) 4 (ll' := [(4, _), (0, _), (1, _), (2, _), (3, _)]) dX9_duel_224 rfl (inc_eq (by decide)) (by decide) rfl ?_
  refine v_goto C 57 dX9_duel_227 (by decide) ?_
  refine v_sub [1, 2, 3, 4, 0] (ll' := [(0, _), (1, _), (2, _), (3, _), (4, _)]) rfl ?_
  cases hF
  exact KE_X9_duel_57 hK
set_option maxRecDepth 20000 in
set_option maxHeartbeats 2000000 in
theorem W_X9_duel_79 {Δ : DD} {Γ : GG} {d : Nat} {q : (Int32 × Mem)} {x0 : Nat} {x1 : Int32} {x2 : Int32} {x3 : Int32} {x4 : Int32} (C : Cx Δ Γ RX9 cX9_duel 11 d (some .int)) (hq : RetQ Δ Γ (some (.int q.1)) q.2) (h0 : isK 9 x0 = true) (hd : 4 ≤ d) {s : Int32 × Int32 × Int32 × Int32 × Mem} {y : ((Int32 × Mem) ⊕ (Int32 × Mem))} (hF : F_X9_duel_79 x0 x1 x2 x3 x4  s = some y) (hK : (K_X9_duel_57 Δ Γ q x0 x1 x2 x3 y)) : V Δ Γ 11 79 [(0, rf Δ (x0)), (1, .int (x1)), (2, .int (x2)), (3, .int (x3)), (4, .int (x4)), (5, .int (s.1)), (6, .int (s.2.1)), (7, .int (s.2.2.1)), (8, .int (s.2.2.2.1))] [] s.2.2.2.2 := by
  refine lp_V (W := fun (s : Int32 × Int32 × Int32 × Int32 × Mem) => V Δ Γ 11 79 [(0, rf Δ (x0)), (1, .int (x1)), (2, .int (x2)), (3, .int (x3)), (4, .int (x4)), (5, .int (s.1)), (6, .int (s.2.1)), (7, .int (s.2.2.1)), (8, .int (s.2.2.2.1))] [] s.2.2.2.2) (K := fun (t : ((Int32 × Mem) ⊕ (Int32 × Mem))) => (K_X9_duel_57 Δ Γ q x0 x1 x2 x3 t)) (K' := K_X9_duel_79 Δ Γ q x0 x1 x2 x3 x4 ) (fun _ h => h) (fun _ h => h) ?_ s y hF hK
  clear hF hK
  intro s z hF hK
  refine v_iload C 8 8 dX9_duel_79 rfl ?_
  refine v_iload_n C 1 1 dX9_duel_81 rfl rfl ?_
  refine v_icmp_ge C 206 dX9_duel_82 (by decide) (fun c5 => ?_) (fun c5 => ?_)
  · have hF := ifp hF c5
    refine v_aload_n C 0 0 dX9_duel_206 rfl rfl ?_
    obtain ⟨p7, g6, hF⟩ := bnd hF
    refine v_gR C fu_X9_41 g6 dX9_duel_207 ?_
    refine v_iload C 4 4 dX9_duel_210 rfl ?_
    refine v_iload C 7 7 dX9_duel_212 rfl ?_
    refine v_if_eq C 222 dX9_duel_214 (by decide) (fun c8 => ?_) (fun c8 => ?_)
    · have hF := ifp hF c8
      refine v_iconst C (-1) dX9_duel_222 (by decide) ?_
      refine v_sub [0, 1, 2, 3, 4] (ll' := [(0, _), (1, _), (2, _), (3, _), (4, _)]) rfl ?_
      obtain ⟨z, hz, e⟩ := mapd hF
      subst e
      exact W_X9_duel_223 C hq h0 hd hz hK
    · have hF := ifn hF c8
      refine v_iload C 5 5 dX9_duel_217 rfl ?_
      refine v_goto C 223 dX9_duel_219 (by decide) ?_
      refine v_sub [0, 1, 2, 3, 4] (ll' := [(0, _), (1, _), (2, _), (3, _), (4, _)]) rfl ?_
      obtain ⟨z, hz, e⟩ := mapd hF
      subst e
      exact W_X9_duel_223 C hq h0 hd hz hK
  · have hF := ifn hF c5
    refine v_iload C 6 6 dX9_duel_85 rfl ?_
    refine v_iload_n C 2 2 dX9_duel_87 rfl rfl ?_
    obtain ⟨_, g9, hF⟩ := bnd hF
    refine v_idiv C dX9_duel_88 (nz_ne g9) ?_
    refine v_istore C 6 (ll' := [(6, _), (0, _), (1, _), (2, _), (3, _), (4, _), (5, _), (7, _), (8, _)]) dX9_duel_89 (by decide) rfl ?_
    refine v_iload C 4 5 dX9_duel_91 rfl ?_
    refine v_iload C 6 0 dX9_duel_93 rfl ?_
    obtain ⟨_, g10, hF⟩ := bnd hF
    refine v_idiv C dX9_duel_95 (nz_ne g10) ?_
    refine v_iload_n C 2 3 dX9_duel_96 rfl rfl ?_
    obtain ⟨_, g11, hF⟩ := bnd hF
    refine v_irem C dX9_duel_97 (nz_ne g11) ?_
    refine v_iconst C (1) dX9_duel_98 (by decide) ?_
    refine v_isub C dX9_duel_99 ?_
    refine v_istore C 9 (ll' := [(9, _), (6, _), (0, _), (1, _), (2, _), (3, _), (4, _), (5, _), (7, _), (8, _)]) dX9_duel_100 (by decide) rfl ?_
    refine v_iload C 8 9 dX9_duel_102 rfl ?_
    refine v_iconst C (2) dX9_duel_104 (by decide) ?_
    refine v_irem C dX9_duel_105 (by decide) ?_
    refine v_iconst C (1) dX9_duel_106 (by decide) ?_
    refine v_icmp_ne C 136 dX9_duel_107 (by decide) (fun c13 => ?_) (fun c13 => ?_)
    · have hF := ifn hF c13
      refine v_iload C 7 8 dX9_duel_136 rfl ?_
      refine v_if_eq C 164 dX9_duel_138 (by decide) (fun c14 => ?_) (fun c14 => ?_)
      · have hF := ifp hF c14
        refine v_sub [2, 3, 4, 5, 6, 7, 1, 9, 0] (ll' := [(0, _), (1, _), (2, _), (3, _), (4, _), (5, _), (6, _), (8, _), (9, _)]) rfl ?_
        exact W_X9_duel_164 C hq h0 hd hF hK
      · have hF := ifn hF c14
        refine v_iload C 9 0 dX9_duel_141 rfl ?_
        refine v_if_lt C 160 dX9_duel_143 (by decide) (fun c15 => ?_) (fun c15 => ?_)
        · have hF := ifp hF c15
          refine v_sub [2, 3, 4, 5, 6, 7, 1, 9, 0] (ll' := [(0, _), (1, _), (2, _), (3, _), (4, _), (5, _), (6, _), (8, _), (9, _)]) rfl ?_
          exact W_X9_duel_160 C hq h0 hd hF hK
        · have hF := ifn hF c15
          refine v_aload_n C 0 2 dX9_duel_146 rfl rfl ?_
          obtain ⟨p17, g16, hF⟩ := bnd hF
          refine v_gR C fu_X9_7 g16 dX9_duel_147 ?_
          refine v_sipush C (7281) dX9_duel_150 (by decide) ?_
          refine v_iload C 9 0 dX9_duel_153 rfl ?_
          refine v_iadd C dX9_duel_155 ?_
          obtain ⟨v18, g19, hF⟩ := bnd hF
          refine v_aI C g19 dX9_duel_156 ?_
          refine v_if_le C 164 dX9_duel_157 (by decide) (fun c20 => ?_) (fun c20 => ?_)
          · have hF := ifp hF c20
            refine v_sub [2, 3, 4, 5, 6, 7, 1, 9, 0] (ll' := [(0, _), (1, _), (2, _), (3, _), (4, _), (5, _), (6, _), (8, _), (9, _)]) rfl ?_
            exact W_X9_duel_164 C hq h0 hd hF hK
          · have hF := ifn hF c20
            refine v_sub [2, 3, 4, 5, 6, 7, 1, 9, 0] (ll' := [(0, _), (1, _), (2, _), (3, _), (4, _), (5, _), (6, _), (8, _), (9, _)]) rfl ?_
            exact W_X9_duel_160 C hq h0 hd hF hK
    · have hF := ifp hF c13
      refine v_iload C 5 7 dX9_duel_110 rfl ?_
      refine v_iload C 9 0 dX9_duel_112 rfl ?_
      refine v_if_ge C 121 dX9_duel_114 (by decide) (fun c21 => ?_) (fun c21 => ?_)
      · have hF := ifp hF c21
        refine v_aload_n C 0 2 dX9_duel_121 rfl rfl ?_
        refine v_sipush C (7260) dX9_duel_122 (by decide) ?_
        refine v_iload C 9 0 dX9_duel_125 rfl ?_
        obtain ⟨q22, g23, hF⟩ := bnd hF
        refine v_cVi C mw_X9_inspects lk_X9_163 _ (M_X9_inspects (by omega) h0 g23) h0 rfl rfl (Nat.le_of_ble_eq_true rfl) dX9_duel_127 ?_
        refine v_sub [2, 3, 4, 5, 6, 1, 8, 9] (ll' := [(0, _), (1, _), (2, _), (3, _), (4, _), (6, _), (7, _), (8, _)]) rfl ?_
        exact W_X9_duel_130 C hq h0 hd hF hK
      · have hF := ifn hF c21
        refine v_iconst C (0) dX9_duel_117 (by decide) ?_
        refine v_goto C 130 dX9_duel_118 (by decide) ?_
        refine v_sub [2, 3, 4, 5, 6, 1, 8, 9] (ll' := [(0, _), (1, _), (2, _), (3, _), (4, _), (6, _), (7, _), (8, _)]) rfl ?_
        exact W_X9_duel_130 C hq h0 hd hF hK
set_option maxRecDepth 20000 in
set_option maxHeartbeats 2000000 in
theorem W_X9_duel_325 {Δ : DD} {Γ : GG} {d : Nat} {q : (Int32 × Mem)} {x0 : Nat} {x2 : Int32} {x4 : Int32} {x5 : Int32} {x6 : Int32} {x7 : Int32} {x8 : Int32} {x9 : Int32} {y0 : Int32} {σ : Mem} {y : ((Int32 × Int32) ⊕ ((Int32 × Mem) ⊕ ((Int32 × Int32 × Mem) ⊕ (Int32 × Mem))))} (C : Cx Δ Γ RX9 cX9_duel 11 d (some .int)) (hq : RetQ Δ Γ (some (.int q.1)) q.2) (h0 : isK 9 x0 = true) (hd : 4 ≤ d) (hF : F_X9_duel_325 x0 x2 x4 x5 x6 x7 x8 x9 y0 σ = some y) (hK : (K_X9_duel_265 Δ Γ q x0 x2 x4 x5 x6 σ y)) : V Δ Γ 11 325 [(0, rf Δ (x0)), (2, .int (x2)), (4, .int (x4)), (5, .int (x5)), (6, .int (x6)), (7, .int (x7)), (8, .int (x8)), (9, .int (x9))] [.int (y0)] σ := by
  unfold F_X9_duel_325 at hF
  refine v_istore C 10 (ll' := [(10, _), (0, _), (2, _), (4, _), (5, _), (6, _), (7, _), (8, _), (9, _)]) dX9_duel_325 (by decide) rfl ?_
  refine v_iload C 10 0 dX9_duel_327 rfl ?_
  refine v_if_eq C 337 dX9_duel_329 (by decide) (fun c57 => ?_) (fun c57 => ?_)
  · have hF := ifp hF c57
    refine v_iload C 7 6 dX9_duel_337 rfl ?_
    refine v_istore C 7 (ll' := [(7, _), (10, _), (0, _), (2, _), (4, _), (5, _), (6, _), (8, _), (9, _)]) dX9_duel_339 (by decide) rfl ?_
    refine v_iinc C (_ + (1 : Int32)) 7 (ll' := [(8, _), (7, _), (10, _), (0, _), (2, _), (4, _), (5, _), (6, _), (9, _)]) dX9_duel_341 rfl (inc_eq (by decide)) (by decide) rfl ?_
    refine v_goto C 265 dX9_duel_344 (by decide) ?_
    refine v_sub [3, 4, 5, 6, 7, 1, 0] (ll' := [(0, _), (2, _), (4, _), (5, _), (6, _), (7, _), (8, _)]) rfl ?_
    cases hF
    exact KE_X9_duel_265 hK
  · have hF := ifn hF c57
    refine v_iload C 9 8 dX9_duel_332 rfl ?_
    refine v_goto C 339 dX9_duel_334 (by decide) ?_
    refine v_istore C 7 (ll' := [(7, _), (10, _), (0, _), (2, _), (4, _), (5, _), (6, _), (8, _), (9, _)]) dX9_duel_339 (by decide) rfl ?_
    refine v_iinc C (_ + (1 : Int32)) 7 (ll' := [(8, _), (7, _), (10, _), (0, _), (2, _), (4, _), (5, _), (6, _), (9, _)]) dX9_duel_341 rfl (inc_eq (by decide)) (by decide) rfl ?_
    refine v_goto C 265 dX9_duel_344 (by decide) ?_
    refine v_sub [3, 4, 5, 6, 7, 1, 0] (ll' := [(0, _), (2, _), (4, _), (5, _), (6, _), (7, _), (8, _)]) rfl ?_
    cases hF
    exact KE_X9_duel_265 hK
set_option maxRecDepth 20000 in
set_option maxHeartbeats 2000000 in
theorem W_X9_duel_320 {Δ : DD} {Γ : GG} {d : Nat} {q : (Int32 × Mem)} {x0 : Nat} {x2 : Int32} {x4 : Int32} {x5 : Int32} {x6 : Int32} {x7 : Int32} {x8 : Int32} {x9 : Int32}  {σ : Mem} {y : ((Int32 × Int32) ⊕ ((Int32 × Mem) ⊕ ((Int32 × Int32 × Mem) ⊕ (Int32 × Mem))))} (C : Cx Δ Γ RX9 cX9_duel 11 d (some .int)) (hq : RetQ Δ Γ (some (.int q.1)) q.2) (h0 : isK 9 x0 = true) (hd : 4 ≤ d) (hF : F_X9_duel_320 x0 x2 x4 x5 x6 x7 x8 x9  σ = some y) (hK : (K_X9_duel_265 Δ Γ q x0 x2 x4 x5 x6 σ y)) : V Δ Γ 11 320 [(0, rf Δ (x0)), (2, .int (x2)), (4, .int (x4)), (5, .int (x5)), (6, .int (x6)), (7, .int (x7)), (8, .int (x8)), (9, .int (x9))] [] σ := by
  unfold F_X9_duel_320 at hF
  refine v_iconst C (1) dX9_duel_320 (by decide) ?_
  refine v_goto C 325 dX9_duel_321 (by decide) ?_
  exact W_X9_duel_325 C hq h0 hd hF hK
set_option maxRecDepth 20000 in
set_option maxHeartbeats 2000000 in
theorem W_X9_duel_324 {Δ : DD} {Γ : GG} {d : Nat} {q : (Int32 × Mem)} {x0 : Nat} {x2 : Int32} {x4 : Int32} {x5 : Int32} {x6 : Int32} {x7 : Int32} {x8 : Int32} {x9 : Int32}  {σ : Mem} {y : ((Int32 × Int32) ⊕ ((Int32 × Mem) ⊕ ((Int32 × Int32 × Mem) ⊕ (Int32 × Mem))))} (C : Cx Δ Γ RX9 cX9_duel 11 d (some .int)) (hq : RetQ Δ Γ (some (.int q.1)) q.2) (h0 : isK 9 x0 = true) (hd : 4 ≤ d) (hF : F_X9_duel_324 x0 x2 x4 x5 x6 x7 x8 x9  σ = some y) (hK : (K_X9_duel_265 Δ Γ q x0 x2 x4 x5 x6 σ y)) : V Δ Γ 11 324 [(0, rf Δ (x0)), (2, .int (x2)), (4, .int (x4)), (5, .int (x5)), (6, .int (x6)), (7, .int (x7)), (8, .int (x8)), (9, .int (x9))] [] σ := by
  unfold F_X9_duel_324 at hF
  refine v_iconst C (0) dX9_duel_324 (by decide) ?_
  exact W_X9_duel_325 C hq h0 hd hF hK
set_option maxRecDepth 20000 in
set_option maxHeartbeats 2000000 in
theorem W_X9_duel_265 {Δ : DD} {Γ : GG} {d : Nat} {q : (Int32 × Mem)} {x0 : Nat} {x2 : Int32} {x4 : Int32} {x5 : Int32} {x6 : Int32} {σ : Mem} (C : Cx Δ Γ RX9 cX9_duel 11 d (some .int)) (hq : RetQ Δ Γ (some (.int q.1)) q.2) (h0 : isK 9 x0 = true) (hd : 4 ≤ d) {s : Int32 × Int32} {y : ((Int32 × Mem) ⊕ ((Int32 × Int32 × Mem) ⊕ (Int32 × Mem)))} (hF : F_X9_duel_265 x0 x2 x4 x5 x6 σ s = some y) (hK : (K_X9_duel_252 Δ Γ q x0 x2 x4 x5 y)) : V Δ Γ 11 265 [(0, rf Δ (x0)), (2, .int (x2)), (4, .int (x4)), (5, .int (x5)), (6, .int (x6)), (7, .int (s.1)), (8, .int (s.2))] [] σ := by
  refine lp_V (W := fun (s : Int32 × Int32) => V Δ Γ 11 265 [(0, rf Δ (x0)), (2, .int (x2)), (4, .int (x4)), (5, .int (x5)), (6, .int (x6)), (7, .int (s.1)), (8, .int (s.2))] [] σ) (K := fun (t : ((Int32 × Mem) ⊕ ((Int32 × Int32 × Mem) ⊕ (Int32 × Mem)))) => (K_X9_duel_252 Δ Γ q x0 x2 x4 x5 t)) (K' := K_X9_duel_265 Δ Γ q x0 x2 x4 x5 x6 σ) (fun _ h => h) (fun _ h => h) ?_ s y hF hK
  clear hF hK
  intro s z hF hK
  refine v_iload C 8 6 dX9_duel_265 rfl ?_
  refine v_iload_n C 2 1 dX9_duel_267 rfl rfl ?_
  refine v_icmp_ge C 347 dX9_duel_268 (by decide) (fun c43 => ?_) (fun c43 => ?_)
  · have hF := ifp hF c43
    refine v_aload_n C 0 0 dX9_duel_347 rfl rfl ?_
    obtain ⟨p45, g44, hF⟩ := bnd hF
    refine v_gR C fu_X9_41 g44 dX9_duel_348 ?_
    refine v_iload C 6 4 dX9_duel_351 rfl ?_
    refine v_iload C 7 5 dX9_duel_353 rfl ?_
    obtain ⟨m46, g47, hF⟩ := bnd hF
    refine v_sI C g47 dX9_duel_355 ?_
    refine v_iinc C (_ + (1 : Int32)) 4 (ll' := [(6, _), (0, _), (2, _), (4, _), (5, _), (7, _), (8, _)]) dX9_duel_356 rfl (inc_eq (by decide)) (by decide) rfl ?_
    refine v_goto C 252 dX9_duel_359 (by decide) ?_
    refine v_sub [1, 2, 3, 4, 0] (ll' := [(0, _), (2, _), (4, _), (5, _), (6, _)]) rfl ?_
    cases hF
    exact KE_X9_duel_252 (KR_X9_duel_265 hK)
  · have hF := ifn hF c43
    refine v_aload_n C 0 0 dX9_duel_271 rfl rfl ?_
    obtain ⟨p49, g48, hF⟩ := bnd hF
    refine v_gR C fu_X9_41 g48 dX9_duel_272 ?_
    refine v_iload_n C 2 1 dX9_duel_275 rfl rfl ?_
    refine v_iload C 6 4 dX9_duel_276 rfl ?_
    refine v_imul C dX9_duel_278 ?_
    refine v_iload C 8 6 dX9_duel_279 rfl ?_
    refine v_iadd C dX9_duel_281 ?_
    obtain ⟨v50, g51, hF⟩ := bnd hF
    refine v_aI C g51 dX9_duel_282 ?_
    refine v_istore C 9 (ll' := [(9, _), (0, _), (2, _), (4, _), (5, _), (6, _), (7, _), (8, _)]) dX9_duel_283 (by decide) rfl ?_
    refine v_iload C 9 0 dX9_duel_285 rfl ?_
    refine v_if_lt C 324 dX9_duel_287 (by decide) (fun c52 => ?_) (fun c52 => ?_)
    · have hF := ifp hF c52
      refine v_sub [1, 2, 3, 4, 5, 6, 7, 0] (ll' := [(0, _), (2, _), (4, _), (5, _), (6, _), (7, _), (8, _), (9, _)]) rfl ?_
      exact W_X9_duel_324 C hq h0 hd hF hK
    · have hF := ifn hF c52
      refine v_iload C 7 6 dX9_duel_290 rfl ?_
      refine v_if_lt C 320 dX9_duel_292 (by decide) (fun c53 => ?_) (fun c53 => ?_)
      · have hF := ifp hF c53
        refine v_sub [1, 2, 3, 4, 5, 6, 7, 0] (ll' := [(0, _), (2, _), (4, _), (5, _), (6, _), (7, _), (8, _), (9, _)]) rfl ?_
        exact W_X9_duel_320 C hq h0 hd hF hK
      · have hF := ifn hF c53
        refine v_iload C 5 4 dX9_duel_295 rfl ?_
        refine v_iconst C (2) dX9_duel_297 (by decide) ?_
        refine v_irem C dX9_duel_298 (by decide) ?_
        refine v_iconst C (1) dX9_duel_299 (by decide) ?_
        refine v_icmp_ne C 313 dX9_duel_300 (by decide) (fun c54 => ?_) (fun c54 => ?_)
        · have hF := ifn hF c54
          refine v_iload C 9 0 dX9_duel_313 rfl ?_
          refine v_iload C 7 6 dX9_duel_315 rfl ?_
          refine v_icmp_ge C 324 dX9_duel_317 (by decide) (fun c55 => ?_) (fun c55 => ?_)
          · have hF := ifp hF c55
            refine v_sub [1, 2, 3, 4, 5, 6, 7, 0] (ll' := [(0, _), (2, _), (4, _), (5, _), (6, _), (7, _), (8, _), (9, _)]) rfl ?_
            exact W_X9_duel_324 C hq h0 hd hF hK
          · have hF := ifn hF c55
            refine v_sub [1, 2, 3, 4, 5, 6, 7, 0] (ll' := [(0, _), (2, _), (4, _), (5, _), (6, _), (7, _), (8, _), (9, _)]) rfl ?_
            exact W_X9_duel_320 C hq h0 hd hF hK
        · have hF := ifp hF c54
          refine v_iload C 9 0 dX9_duel_303 rfl ?_
          refine v_iload C 7 6 dX9_duel_305 rfl ?_
          refine v_icmp_le C 324 dX9_duel_307 (by decide) (fun c56 => ?_) (fun c56 => ?_)
          · have hF := ifp hF c56
            refine v_sub [1, 2, 3, 4, 5, 6, 7, 0] (ll' := [(0, _), (2, _), (4, _), (5, _), (6, _), (7, _), (8, _), (9, _)]) rfl ?_
            exact W_X9_duel_324 C hq h0 hd hF hK
          · have hF := ifn hF c56
            refine v_goto C 320 dX9_duel_310 (by decide) ?_
            refine v_sub [1, 2, 3, 4, 5, 6, 7, 0] (ll' := [(0, _), (2, _), (4, _), (5, _), (6, _), (7, _), (8, _), (9, _)]) rfl ?_
            exact W_X9_duel_320 C hq h0 hd hF hK
set_option maxRecDepth 20000 in
set_option maxHeartbeats 2000000 in
theorem W_X9_duel_252 {Δ : DD} {Γ : GG} {d : Nat} {q : (Int32 × Mem)} {x0 : Nat} {x2 : Int32} {x4 : Int32} {x5 : Int32} (C : Cx Δ Γ RX9 cX9_duel 11 d (some .int)) (hq : RetQ Δ Γ (some (.int q.1)) q.2) (h0 : isK 9 x0 = true) (hd : 4 ≤ d) {s : Int32 × Mem} {y : ((Int32 × Int32 × Mem) ⊕ (Int32 × Mem))} (hF : F_X9_duel_252 x0 x2 x4 x5  s = some y) (hK : (K_X9_duel_238 Δ Γ q x0 x2 y)) : V Δ Γ 11 252 [(0, rf Δ (x0)), (2, .int (x2)), (4, .int (x4)), (5, .int (x5)), (6, .int (s.1))] [] s.2 := by
  refine lp_V (W := fun (s : Int32 × Mem) => V Δ Γ 11 252 [(0, rf Δ (x0)), (2, .int (x2)), (4, .int (x4)), (5, .int (x5)), (6, .int (s.1))] [] s.2) (K := fun (t : ((Int32 × Int32 × Mem) ⊕ (Int32 × Mem))) => (K_X9_duel_238 Δ Γ q x0 x2 t)) (K' := K_X9_duel_252 Δ Γ q x0 x2 x4 x5 ) (fun _ h => h) (fun _ h => h) ?_ s y hF hK
  clear hF hK
  intro s z hF hK
  refine v_iload C 6 4 dX9_duel_252 rfl ?_
  refine v_iload C 4 2 dX9_duel_254 rfl ?_
  refine v_icmp_ge C 362 dX9_duel_256 (by decide) (fun c42 => ?_) (fun c42 => ?_)
  · have hF := ifp hF c42
    refine v_iinc C (_ + (-1 : Int32)) 3 (ll' := [(5, _), (0, _), (2, _), (4, _), (6, _)]) dX9_duel_362 rfl (inc_eq (by decide)) (by decide) rfl ?_
    refine v_goto C 238 dX9_duel_365 (by decide) ?_
    refine v_sub [1, 2, 3, 0] (ll' := [(0, _), (2, _), (4, _), (5, _)]) rfl ?_
    cases hF
    exact KE_X9_duel_238 (KR_X9_duel_252 hK)
  · have hF := ifn hF c42
    refine v_iconst C (-1) dX9_duel_259 (by decide) ?_
    refine v_istore C 7 (ll' := [(7, _), (0, _), (2, _), (4, _), (5, _), (6, _)]) dX9_duel_260 (by decide) rfl ?_
    refine v_iconst C (0) dX9_duel_262 (by decide) ?_
    refine v_istore C 8 (ll' := [(8, _), (7, _), (0, _), (2, _), (4, _), (5, _), (6, _)]) dX9_duel_263 (by decide) rfl ?_
    refine v_sub [2, 3, 4, 5, 6, 1, 0] (ll' := [(0, _), (2, _), (4, _), (5, _), (6, _), (7, _), (8, _)]) rfl ?_
    exact W_X9_duel_265 C hq h0 hd hF hK
set_option maxRecDepth 20000 in
set_option maxHeartbeats 2000000 in
theorem W_X9_duel_238 {Δ : DD} {Γ : GG} {d : Nat} {q : (Int32 × Mem)} {x0 : Nat} {x2 : Int32} (C : Cx Δ Γ RX9 cX9_duel 11 d (some .int)) (hq : RetQ Δ Γ (some (.int q.1)) q.2) (h0 : isK 9 x0 = true) (hd : 4 ≤ d) {s : Int32 × Int32 × Mem} (hF : F_X9_duel_238 x0 x2  s = some q) : V Δ Γ 11 238 [(0, rf Δ (x0)), (2, .int (x2)), (4, .int (s.1)), (5, .int (s.2.1))] [] s.2.2 := by
  have hF : F_X9_duel_238 x0 x2  s = some q := hF
  refine lp_V (W := fun (s : Int32 × Int32 × Mem) => V Δ Γ 11 238 [(0, rf Δ (x0)), (2, .int (x2)), (4, .int (s.1)), (5, .int (s.2.1))] [] s.2.2) (K := fun t => t = q) (K' := K_X9_duel_238 Δ Γ q x0 x2 ) (fun _ h => h) (fun _ h => h) ?_ s q hF rfl
  clear hF
  intro s z hF hK
  refine v_iload C 5 3 dX9_duel_238 rfl ?_
  refine v_if_lt C 368 dX9_duel_240 (by decide) (fun c36 => ?_) (fun c36 => ?_)
  · have hF := ifp hF c36
    refine v_aload_n C 0 0 dX9_duel_368 rfl rfl ?_
    obtain ⟨p38, g37, hF⟩ := bnd hF
    refine v_gR C fu_X9_41 g37 dX9_duel_369 ?_
    refine v_iconst C (0) dX9_duel_372 (by decide) ?_
    obtain ⟨v39, g40, hF⟩ := bnd hF
    refine v_aI C g40 dX9_duel_373 ?_
    cases hF
    exact v_iretF C hq hK dX9_duel_374
  · have hF := ifn hF c36
    refine v_iload C 4 2 dX9_duel_243 rfl ?_
    refine v_iload_n C 2 1 dX9_duel_245 rfl rfl ?_
    obtain ⟨_, g41, hF⟩ := bnd hF
    refine v_idiv C dX9_duel_246 (nz_ne g41) ?_
    refine v_istore C 4 (ll' := [(4, _), (0, _), (2, _), (5, _)]) dX9_duel_247 (by decide) rfl ?_
    refine v_iconst C (0) dX9_duel_249 (by decide) ?_
    refine v_istore C 6 (ll' := [(6, _), (4, _), (0, _), (2, _), (5, _)]) dX9_duel_250 (by decide) rfl ?_
    refine v_sub [2, 3, 1, 4, 0] (ll' := [(0, _), (2, _), (4, _), (5, _), (6, _)]) rfl ?_
    exact W_X9_duel_252 C hq h0 hd hF hK
set_option maxRecDepth 20000 in
set_option maxHeartbeats 2000000 in
theorem W_X9_duel_57 {Δ : DD} {Γ : GG} {d : Nat} {q : (Int32 × Mem)} {x0 : Nat} {x1 : Int32} {x2 : Int32} {x3 : Int32} (C : Cx Δ Γ RX9 cX9_duel 11 d (some .int)) (hq : RetQ Δ Γ (some (.int q.1)) q.2) (h0 : isK 9 x0 = true) (hd : 4 ≤ d) {s : Int32 × Mem} (hF : F_X9_duel_57 x0 x1 x2 x3  s = some q) : V Δ Γ 11 57 [(0, rf Δ (x0)), (1, .int (x1)), (2, .int (x2)), (3, .int (x3)), (4, .int (s.1))] [] s.2 := by
  have hF : F_X9_duel_57 x0 x1 x2 x3  s = some q := hF
  refine lp_V (W := fun (s : Int32 × Mem) => V Δ Γ 11 57 [(0, rf Δ (x0)), (1, .int (x1)), (2, .int (x2)), (3, .int (x3)), (4, .int (s.1))] [] s.2) (K := fun t => t = q) (K' := K_X9_duel_57 Δ Γ q x0 x1 x2 x3 ) (fun _ h => h) (fun _ h => h) ?_ s q hF rfl
  clear hF
  intro s z hF hK
  refine v_iload C 4 4 dX9_duel_57 rfl ?_
  refine v_iload_n C 3 3 dX9_duel_59 rfl rfl ?_
  refine v_icmp_ge C 230 dX9_duel_60 (by decide) (fun c2 => ?_) (fun c2 => ?_)
  · have hF := ifp hF c2
    refine v_iload_n C 3 3 dX9_duel_230 rfl rfl ?_
    refine v_istore C 4 (ll' := [(4, _), (0, _), (1, _), (2, _), (3, _)]) dX9_duel_231 (by decide) rfl ?_
    refine v_iload_n C 1 2 dX9_duel_233 rfl rfl ?_
    refine v_iconst C (1) dX9_duel_234 (by decide) ?_
    refine v_isub C dX9_duel_235 ?_
    refine v_istore C 5 (ll' := [(5, _), (4, _), (0, _), (1, _), (2, _), (3, _)]) dX9_duel_236 (by decide) rfl ?_
    refine v_sub [2, 4, 1, 0] (ll' := [(0, _), (2, _), (4, _), (5, _)]) rfl ?_
    obtain ⟨z, hz, e⟩ := mapd hF
    subst e
    exact W_X9_duel_238 C hq h0 hd (hz.trans (congrArg some hK))
  · have hF := ifn hF c2
    refine v_aload_n C 0 0 dX9_duel_63 rfl rfl ?_
    obtain ⟨q3, g4, hF⟩ := bnd hF
    refine v_cVv C mw_X9_tries lk_X9_173 _ (M_X9_tries (by omega) h0 g4) h0 rfl rfl (Nat.le_of_ble_eq_true rfl) dX9_duel_64 ?_
    refine v_iconst C (0) dX9_duel_67 (by decide) ?_
    refine v_istore C 5 (ll' := [(5, _), (0, _), (1, _), (2, _), (3, _), (4, _)]) dX9_duel_68 (by decide) rfl ?_
    refine v_iload_n C 3 4 dX9_duel_70 rfl rfl ?_
    refine v_istore C 6 (ll' := [(6, _), (5, _), (0, _), (1, _), (2, _), (3, _), (4, _)]) dX9_duel_71 (by decide) rfl ?_
    refine v_iconst C (1) dX9_duel_73 (by decide) ?_
    refine v_istore C 7 (ll' := [(7, _), (6, _), (5, _), (0, _), (1, _), (2, _), (3, _), (4, _)]) dX9_duel_74 (by decide) rfl ?_
    refine v_iconst C (0) dX9_duel_76 (by decide) ?_
    refine v_istore C 8 (ll' := [(8, _), (7, _), (6, _), (5, _), (0, _), (1, _), (2, _), (3, _), (4, _)]) dX9_duel_77 (by decide) rfl ?_
    refine v_sub [4, 5, 6, 7, 8, 3, 2, 1, 0] (ll' := [(0, _), (1, _), (2, _), (3, _), (4, _), (5, _), (6, _), (7, _), (8, _)]) rfl ?_
    exact W_X9_duel_79 C hq h0 hd hF hK
set_option maxRecDepth 20000 in
set_option maxHeartbeats 2000000 in
theorem W_X9_duel_38 {Δ : DD} {Γ : GG} {d : Nat} {q : (Int32 × Mem)} {x0 : Nat} {x1 : Int32} {x2 : Int32} {σ : Mem} (C : Cx Δ Γ RX9 cX9_duel 11 d (some .int)) (hq : RetQ Δ Γ (some (.int q.1)) q.2) (h0 : isK 9 x0 = true) (hd : 4 ≤ d) {s : Int32 × Int32} (hF : F_X9_duel_38 x0 x1 x2 σ s = some q) : V Δ Γ 11 38 [(0, rf Δ (x0)), (1, .int (x1)), (2, .int (x2)), (3, .int (s.1)), (4, .int (s.2))] [] σ := by
  have hF : F_X9_duel_38 x0 x1 x2 σ s = some q := hF
  refine lp_V (W := fun (s : Int32 × Int32) => V Δ Γ 11 38 [(0, rf Δ (x0)), (1, .int (x1)), (2, .int (x2)), (3, .int (s.1)), (4, .int (s.2))] [] σ) (K := fun t => t = q) (K' := K_X9_duel_38 Δ Γ q x0 x1 x2 σ) (fun _ h => h) (fun _ h => h) ?_ s q hF rfl
  clear hF
  intro s z hF hK
  refine v_iload C 4 4 dX9_duel_38 rfl ?_
  refine v_iload_n C 1 1 dX9_duel_40 rfl rfl ?_
  refine v_icmp_ge C 54 dX9_duel_41 (by decide) (fun c1 => ?_) (fun c1 => ?_)
  · have hF := ifp hF c1
    refine v_iconst C (0) dX9_duel_54 (by decide) ?_
    refine v_istore C 4 (ll' := [(4, _), (0, _), (1, _), (2, _), (3, _)]) dX9_duel_55 (by decide) rfl ?_
    refine v_sub [1, 2, 3, 4, 0] (ll' := [(0, _), (1, _), (2, _), (3, _), (4, _)]) rfl ?_
    obtain ⟨z, hz, e⟩ := mapd hF
    subst e
    exact W_X9_duel_57 C hq h0 hd (hz.trans (congrArg some hK))
  · have hF := ifn hF c1
    refine v_iload_n C 3 3 dX9_duel_44 rfl rfl ?_
    refine v_iload_n C 2 2 dX9_duel_45 rfl rfl ?_
    refine v_imul C dX9_duel_46 ?_
    refine v_istore_n C 3 (ll' := [(3, _), (0, _), (1, _), (2, _), (4, _)]) dX9_duel_47 rfl (by decide) rfl ?_
    refine v_iinc C (_ + (1 : Int32)) 4 (ll' := [(4, _), (3, _), (0, _), (1, _), (2, _)]) dX9_duel_48 rfl (inc_eq (by decide)) (by decide) rfl ?_
    refine v_goto C 38 dX9_duel_51 (by decide) ?_
    refine v_sub [2, 3, 4, 1, 0] (ll' := [(0, _), (1, _), (2, _), (3, _), (4, _)]) rfl ?_
    cases hF
    exact KE_X9_duel_38 hK
set_option maxRecDepth 20000 in
set_option maxHeartbeats 2000000 in
theorem M_X9_duel {Δ : DD} {d : Nat} {x0 : Nat} {x1 : Int32} {σ : Mem} {q : (Int32 × Mem)} (hd : 5 ≤ d) (h0 : isK 9 x0 = true) (hF : F_X9_duel x0 x1 σ = some q) : Mt Δ d yX9_duel cX9_duel 11 (some .int) [rf Δ x0, .int x1] σ (some (.int q.1)) q.2 := by
  obtain ⟨d, rfl⟩ : ∃ e, d = e + 1 := ⟨d - 1, by omega⟩
  have hd : 4 ≤ d := by omega
  refine mt_of (by decide) rfl (Nat.le_of_ble_eq_true rfl) (fun Γ C hq => ?_)
  unfold F_X9_duel at hF
  show V Δ Γ 11 0 [(0, rf Δ (x0)), (1, .int (x1))] [] σ
  refine v_iload_n C 1 1 dX9_duel_0 rfl rfl ?_
  refine v_i2l C dX9_duel_1 ?_
  refine v_lconst C 0 dX9_duel_2 (by decide) ?_
  refine v_ldc2 C (4) kl_X9_179 dX9_duel_3 ?_
  obtain ⟨q58, g59, hF⟩ := bnd hF
  refine v_cSi C mw_X9_in lk_X9_53 _ (M_X9_in (by omega) g59) rfl rfl (Nat.le_of_ble_eq_true rfl) dX9_duel_6 ?_
  refine v_if_ne C 14 dX9_duel_9 (by decide) (fun c60 => ?_) (fun c60 => ?_)
  · have hF := ifn hF c60
    refine v_aload_n C 0 0 dX9_duel_14 rfl rfl ?_
    obtain ⟨q61, g62, hF⟩ := bnd hF
    refine v_cVi C mw_X9_isTown lk_X9_153 _ (M_X9_isTown (by omega) h0 g62) h0 rfl rfl (Nat.le_of_ble_eq_true rfl) dX9_duel_15 ?_
    refine v_if_ne C 24 dX9_duel_18 (by decide) (fun c63 => ?_) (fun c63 => ?_)
    · have hF := ifn hF c63
      refine v_aload_n C 0 0 dX9_duel_24 rfl rfl ?_
      obtain ⟨p65, g64, hF⟩ := bnd hF
      refine v_gR C fu_X9_7 g64 dX9_duel_25 ?_
      refine v_iconst C (0) dX9_duel_28 (by decide) ?_
      obtain ⟨v66, g67, hF⟩ := bnd hF
      refine v_aI C g67 dX9_duel_29 ?_
      refine v_iconst C (1) dX9_duel_30 (by decide) ?_
      refine v_iadd C dX9_duel_31 ?_
      refine v_istore_n C 2 (ll' := [(2, _), (0, _), (1, _)]) dX9_duel_32 rfl (by decide) rfl ?_
      refine v_iconst C (1) dX9_duel_33 (by decide) ?_
      refine v_istore_n C 3 (ll' := [(3, _), (2, _), (0, _), (1, _)]) dX9_duel_34 rfl (by decide) rfl ?_
      refine v_iconst C (0) dX9_duel_35 (by decide) ?_
      refine v_istore C 4 (ll' := [(4, _), (3, _), (2, _), (0, _), (1, _)]) dX9_duel_36 (by decide) rfl ?_
      refine v_sub [3, 4, 2, 1, 0] (ll' := [(0, _), (1, _), (2, _), (3, _), (4, _)]) rfl ?_
      exact W_X9_duel_38 C hq h0 hd hF
    · have hF := ifp hF c63
      refine v_bipush C (-4) dX9_duel_21 (by decide) ?_
      exact v_iretF C hq (Option.some.inj hF) dX9_duel_23
  · have hF := ifp hF c60
    refine v_iconst C (-1) dX9_duel_12 (by decide) ?_
    exact v_iretF C hq (Option.some.inj hF) dX9_duel_13
def K_X9_tellsParts_6 (Δ : DD) (Γ : GG) (q : (Int32 × Mem)) (x0 : Nat) (x1 : Int64) (x3 : Int64) (σ : Mem) (y : (Int64 × Int64) ⊕ (Int32 × Mem)) : Prop := match y with
  | .inl s => V Δ Γ 11 6 [(0, rf Δ (x0)), (1, .long (x1)), (3, .long (x3)), (5, .long (s.1)), (7, .long (s.2))] [] σ
  | .inr t => (t = q)
set_option maxRecDepth 20000 in
set_option maxHeartbeats 2000000 in
theorem W_X9_tellsParts_6 {Δ : DD} {Γ : GG} {d : Nat} {q : (Int32 × Mem)} {x0 : Nat} {x1 : Int64} {x3 : Int64} {σ : Mem} (C : Cx Δ Γ RX9 cX9_tellsParts 11 d (some .int)) (hq : RetQ Δ Γ (some (.int q.1)) q.2) (h0 : isK 9 x0 = true) (hd : 0 ≤ d) {s : Int64 × Int64} (hF : F_X9_tellsParts_6 x0 x1 x3 σ s = some q) : V Δ Γ 11 6 [(0, rf Δ (x0)), (1, .long (x1)), (3, .long (x3)), (5, .long (s.1)), (7, .long (s.2))] [] σ := by
  have hF : F_X9_tellsParts_6 x0 x1 x3 σ s = some q := hF
  refine lp_V (W := fun (s : Int64 × Int64) => V Δ Γ 11 6 [(0, rf Δ (x0)), (1, .long (x1)), (3, .long (x3)), (5, .long (s.1)), (7, .long (s.2))] [] σ) (K := fun t => t = q) (K' := K_X9_tellsParts_6 Δ Γ q x0 x1 x3 σ) (fun _ h => h) (fun _ h => h) ?_ s q hF rfl
  clear hF
  intro s z hF hK
  refine v_lload C 7 4 dX9_tellsParts_6 rfl ?_
  refine v_lconst C 0 dX9_tellsParts_8 (by decide) ?_
  refine v_lcmp C dX9_tellsParts_9 ?_
  refine v_if_eq C 31 dX9_tellsParts_10 (by decide) (fun c1 => ?_) (fun c1 => ?_)
  · have hF := ifp hF c1
    refine v_aload_n C 0 0 dX9_tellsParts_31 rfl rfl ?_
    refine v_lload_n C 1 1 dX9_tellsParts_32 rfl rfl ?_
    refine v_lload C 5 3 dX9_tellsParts_33 rfl ?_
    obtain ⟨_, g2, hF⟩ := bnd hF
    refine v_ldiv C dX9_tellsParts_35 (nzL_ne g2) ?_
    obtain ⟨m4, g3, hF⟩ := bnd hF
    refine v_pL C fp_X9_197 g3 dX9_tellsParts_36 ?_
    refine v_aload_n C 0 0 dX9_tellsParts_39 rfl rfl ?_
    refine v_lload_n C 3 2 dX9_tellsParts_40 rfl rfl ?_
    refine v_lload C 5 3 dX9_tellsParts_41 rfl ?_
    obtain ⟨_, g5, hF⟩ := bnd hF
    refine v_ldiv C dX9_tellsParts_43 (nzL_ne g5) ?_
    obtain ⟨m7, g6, hF⟩ := bnd hF
    refine v_pL C fp_X9_34 g6 dX9_tellsParts_44 ?_
    refine v_iconst C (1) dX9_tellsParts_47 (by decide) ?_
    cases hF
    exact v_iretF C hq hK dX9_tellsParts_48
  · have hF := ifn hF c1
    refine v_lload C 5 3 dX9_tellsParts_13 rfl ?_
    refine v_lload C 7 4 dX9_tellsParts_15 rfl ?_
    obtain ⟨_, g8, hF⟩ := bnd hF
    refine v_lrem C dX9_tellsParts_17 (nzL_ne g8) ?_
    refine v_lstore C 9 (ll' := [(9, _), (0, _), (1, _), (3, _), (5, _), (7, _)]) dX9_tellsParts_18 (by decide) rfl ?_
    refine v_lload C 7 5 dX9_tellsParts_20 rfl ?_
    refine v_lstore C 5 (ll' := [(5, _), (9, _), (0, _), (1, _), (3, _), (7, _)]) dX9_tellsParts_22 (by decide) rfl ?_
    refine v_lload C 9 1 dX9_tellsParts_24 rfl ?_
    refine v_lstore C 7 (ll' := [(7, _), (5, _), (9, _), (0, _), (1, _), (3, _)]) dX9_tellsParts_26 (by decide) rfl ?_
    refine v_goto C 6 dX9_tellsParts_28 (by decide) ?_
    refine v_sub [3, 4, 5, 1, 0] (ll' := [(0, _), (1, _), (3, _), (5, _), (7, _)]) rfl ?_
    cases hF
    exact hK
set_option maxRecDepth 20000 in
set_option maxHeartbeats 2000000 in
theorem M_X9_tellsParts {Δ : DD} {d : Nat} {x0 : Nat} {x1 : Int64} {x3 : Int64} {σ : Mem} {q : (Int32 × Mem)} (hd : 1 ≤ d) (h0 : isK 9 x0 = true) (hF : F_X9_tellsParts x0 x1 x3 σ = some q) : Mt Δ d yX9_tellsParts cX9_tellsParts 11 (some .int) [rf Δ x0, .long x1, .long x3] σ (some (.int q.1)) q.2 := by
  obtain ⟨d, rfl⟩ : ∃ e, d = e + 1 := ⟨d - 1, by omega⟩
  have hd : 0 ≤ d := by omega
  refine mt_of (by decide) rfl (Nat.le_of_ble_eq_true rfl) (fun Γ C hq => ?_)
  unfold F_X9_tellsParts at hF
  show V Δ Γ 11 0 [(0, rf Δ (x0)), (1, .long (x1)), (3, .long (x3))] [] σ
  refine v_lload_n C 1 1 dX9_tellsParts_0 rfl rfl ?_
  refine v_lstore C 5 (ll' := [(5, _), (0, _), (1, _), (3, _)]) dX9_tellsParts_1 (by decide) rfl ?_
  refine v_lload_n C 3 3 dX9_tellsParts_3 rfl rfl ?_
  refine v_lstore C 7 (ll' := [(7, _), (5, _), (0, _), (1, _), (3, _)]) dX9_tellsParts_4 (by decide) rfl ?_
  refine v_sub [2, 3, 4, 1, 0] (ll' := [(0, _), (1, _), (3, _), (5, _), (7, _)]) rfl ?_
  exact W_X9_tellsParts_6 C hq h0 hd hF
def K_X9_dueNow_4 (Δ : DD) (Γ : GG) (q : Int32) (x0 : Nat) (σ : Mem) (y : (Int32 × Int32) ⊕ Int32) : Prop := match y with
  | .inl s => V Δ Γ 3 4 [(0, rf Δ (x0)), (1, .int (s.1)), (2, .int (s.2))] [] σ
  | .inr t => (t = q)
set_option maxRecDepth 20000 in
set_option maxHeartbeats 2000000 in
theorem W_X9_dueNow_31 {Δ : DD} {Γ : GG} {d : Nat} {q : Int32} {x0 : Nat} {x2 : Int32} {y0 : Int32} {y1 : Int32} {σ : Mem} {y : ((Int32 × Int32) ⊕ Int32)} (C : Cx Δ Γ RX9 cX9_dueNow 3 d (some .int)) (hq : RetQ Δ Γ (some (.int q)) σ) (h0 : isK 9 x0 = true) (hd : 1 ≤ d) (hF : F_X9_dueNow_31 x0 x2 y0 y1 σ = some y) (hK : (K_X9_dueNow_4 Δ Γ q x0 σ y)) : V Δ Γ 3 31 [(0, rf Δ (x0)), (2, .int (x2))] [.int (y0), .int (y1)] σ := by
  unfold F_X9_dueNow_31 at hF
  refine v_ior C dX9_dueNow_31 ?_
  refine v_istore_n C 1 (ll' := [(1, _), (0, _), (2, _)]) dX9_dueNow_32 rfl (by decide) rfl ?_
  refine v_iinc C (_ + (1 : Int32)) 2 (ll' := [(2, _), (1, _), (0, _)]) dX9_dueNow_33 rfl (inc_eq (by decide)) (by decide) rfl ?_
  refine v_goto C 4 dX9_dueNow_36 (by decide) ?_
  refine v_sub [2, 1, 0] (ll' := [(0, _), (1, _), (2, _)]) rfl ?_
  cases hF
  exact hK
set_option maxRecDepth 20000 in
set_option maxHeartbeats 2000000 in
theorem W_X9_dueNow_4 {Δ : DD} {Γ : GG} {d : Nat} {q : Int32} {x0 : Nat} {σ : Mem} (C : Cx Δ Γ RX9 cX9_dueNow 3 d (some .int)) (hq : RetQ Δ Γ (some (.int q)) σ) (h0 : isK 9 x0 = true) (hd : 1 ≤ d) {s : Int32 × Int32} (hF : F_X9_dueNow_4 x0 σ s = some q) : V Δ Γ 3 4 [(0, rf Δ (x0)), (1, .int (s.1)), (2, .int (s.2))] [] σ := by
  have hF : F_X9_dueNow_4 x0 σ s = some q := hF
  refine lp_V (W := fun (s : Int32 × Int32) => V Δ Γ 3 4 [(0, rf Δ (x0)), (1, .int (s.1)), (2, .int (s.2))] [] σ) (K := fun t => t = q) (K' := K_X9_dueNow_4 Δ Γ q x0 σ) (fun _ h => h) (fun _ h => h) ?_ s q hF rfl
  clear hF
  intro s z hF hK
  refine v_iload_n C 2 2 dX9_dueNow_4 rfl rfl ?_
  refine v_aload_n C 0 0 dX9_dueNow_5 rfl rfl ?_
  obtain ⟨p2, g1, hF⟩ := bnd hF
  refine v_gR C fu_X9_7 g1 dX9_dueNow_6 ?_
  refine v_iconst C (0) dX9_dueNow_9 (by decide) ?_
  obtain ⟨v3, g4, hF⟩ := bnd hF
  refine v_aI C g4 dX9_dueNow_10 ?_
  refine v_icmp_ge C 39 dX9_dueNow_11 (by decide) (fun c5 => ?_) (fun c5 => ?_)
  · have hF := ifp hF c5
    refine v_iload_n C 1 1 dX9_dueNow_39 rfl rfl ?_
    cases hF
    exact v_iretP C hq hK dX9_dueNow_40
  · have hF := ifn hF c5
    refine v_iload_n C 1 1 dX9_dueNow_14 rfl rfl ?_
    refine v_aload_n C 0 0 dX9_dueNow_15 rfl rfl ?_
    refine v_iconst C (0) dX9_dueNow_16 (by decide) ?_
    refine v_iload_n C 2 2 dX9_dueNow_17 rfl rfl ?_
    obtain ⟨q6, g7, hF⟩ := bnd hF
    refine v_cVi C mw_X9_isDue lk_X9_136 _ (M_X9_isDue (by omega) h0 g7) h0 rfl rfl (Nat.le_of_ble_eq_true rfl) dX9_dueNow_18 ?_
    refine v_if_eq C 30 dX9_dueNow_21 (by decide) (fun c8 => ?_) (fun c8 => ?_)
    · have hF := ifp hF c8
      refine v_iconst C (0) dX9_dueNow_30 (by decide) ?_
      refine v_sub [0, 2] (ll' := [(0, _), (2, _)]) rfl ?_
      exact W_X9_dueNow_31 C hq h0 hd hF hK
    · have hF := ifn hF c8
      refine v_iconst C (1) dX9_dueNow_24 (by decide) ?_
      refine v_iload_n C 2 2 dX9_dueNow_25 rfl rfl ?_
      refine v_ishl C dX9_dueNow_26 ?_
      refine v_goto C 31 dX9_dueNow_27 (by decide) ?_
      refine v_sub [0, 2] (ll' := [(0, _), (2, _)]) rfl ?_
      exact W_X9_dueNow_31 C hq h0 hd hF hK
set_option maxRecDepth 20000 in
set_option maxHeartbeats 2000000 in
theorem M_X9_dueNow {Δ : DD} {d : Nat} {x0 : Nat} {σ : Mem} {q : Int32} (hd : 2 ≤ d) (h0 : isK 9 x0 = true) (hF : F_X9_dueNow x0 σ = some q) : Mt Δ d yX9_dueNow cX9_dueNow 3 (some .int) [rf Δ x0] σ (some (.int q)) σ := by
  obtain ⟨d, rfl⟩ : ∃ e, d = e + 1 := ⟨d - 1, by omega⟩
  have hd : 1 ≤ d := by omega
  refine mt_of (by decide) rfl (Nat.le_of_ble_eq_true rfl) (fun Γ C hq => ?_)
  unfold F_X9_dueNow at hF
  show V Δ Γ 3 0 [(0, rf Δ (x0))] [] σ
  refine v_iconst C (0) dX9_dueNow_0 (by decide) ?_
  refine v_istore_n C 1 (ll' := [(1, _), (0, _)]) dX9_dueNow_1 rfl (by decide) rfl ?_
  refine v_iconst C (0) dX9_dueNow_2 (by decide) ?_
  refine v_istore_n C 2 (ll' := [(2, _), (1, _), (0, _)]) dX9_dueNow_3 rfl (by decide) rfl ?_
  refine v_sub [2, 1, 0] (ll' := [(0, _), (1, _), (2, _)]) rfl ?_
  exact W_X9_dueNow_4 C hq h0 hd hF
def K_X9_waysOf_6 (Δ : DD) (Γ : GG) (q : Int64) (x0 : Nat) (x1 : Int32) (x2 : Int32) (x3 : Int32) (σ : Mem) (y : (Int64 × Int32) ⊕ Int64) : Prop := match y with
  | .inl s => V Δ Γ 7 6 [(0, rf Δ (x0)), (1, .int (x1)), (2, .int (x2)), (3, .int (x3)), (4, .long (s.1)), (6, .int (s.2))] [] σ
  | .inr t => (t = q)
set_option maxRecDepth 20000 in
set_option maxHeartbeats 2000000 in
theorem W_X9_waysOf_51 {Δ : DD} {Γ : GG} {d : Nat} {q : Int64} {x0 : Nat} {x1 : Int32} {x2 : Int32} {x3 : Int32} {x6 : Int32} {y0 : Int64} {y1 : Int64} {σ : Mem} {y : ((Int64 × Int32) ⊕ Int64)} (C : Cx Δ Γ RX9 cX9_waysOf 7 d (some .long)) (hq : RetQ Δ Γ (some (.long q)) σ) (h0 : isK 9 x0 = true) (hd : 1 ≤ d) (hF : F_X9_waysOf_51 x0 x1 x2 x3 x6 y0 y1 σ = some y) (hK : (K_X9_waysOf_6 Δ Γ q x0 x1 x2 x3 σ y)) : V Δ Γ 7 51 [(0, rf Δ (x0)), (1, .int (x1)), (2, .int (x2)), (3, .int (x3)), (6, .int (x6))] [.long (y0), .long (y1)] σ := by
  unfold F_X9_waysOf_51 at hF
  refine v_lmul C dX9_waysOf_51 ?_
  refine v_lstore C 4 (ll' := [(4, _), (0, _), (1, _), (2, _), (3, _), (6, _)]) dX9_waysOf_52 (by decide) rfl ?_
  refine v_iinc C (_ + (1 : Int32)) 5 (ll' := [(6, _), (4, _), (0, _), (1, _), (2, _), (3, _)]) dX9_waysOf_54 rfl (inc_eq (by decide)) (by decide) rfl ?_
  refine v_goto C 6 dX9_waysOf_57 (by decide) ?_
  refine v_sub [2, 3, 4, 5, 1, 0] (ll' := [(0, _), (1, _), (2, _), (3, _), (4, _), (6, _)]) rfl ?_
  cases hF
  exact hK
set_option maxRecDepth 20000 in
set_option maxHeartbeats 2000000 in
theorem W_X9_waysOf_6 {Δ : DD} {Γ : GG} {d : Nat} {q : Int64} {x0 : Nat} {x1 : Int32} {x2 : Int32} {x3 : Int32} {σ : Mem} (C : Cx Δ Γ RX9 cX9_waysOf 7 d (some .long)) (hq : RetQ Δ Γ (some (.long q)) σ) (h0 : isK 9 x0 = true) (hd : 1 ≤ d) {s : Int64 × Int32} (hF : F_X9_waysOf_6 x0 x1 x2 x3 σ s = some q) : V Δ Γ 7 6 [(0, rf Δ (x0)), (1, .int (x1)), (2, .int (x2)), (3, .int (x3)), (4, .long (s.1)), (6, .int (s.2))] [] σ := by
  have hF : F_X9_waysOf_6 x0 x1 x2 x3 σ s = some q := hF
  refine lp_V (W := fun (s : Int64 × Int32) => V Δ Γ 7 6 [(0, rf Δ (x0)), (1, .int (x1)), (2, .int (x2)), (3, .int (x3)), (4, .long (s.1)), (6, .int (s.2))] [] σ) (K := fun t => t = q) (K' := K_X9_waysOf_6 Δ Γ q x0 x1 x2 x3 σ) (fun _ h => h) (fun _ h => h) ?_ s q hF rfl
  clear hF
  intro s z hF hK
  refine v_iload C 6 5 dX9_waysOf_6 rfl ?_
  refine v_aload_n C 0 0 dX9_waysOf_8 rfl rfl ?_
  obtain ⟨p2, g1, hF⟩ := bnd hF
  refine v_gR C fu_X9_7 g1 dX9_waysOf_9 ?_
  refine v_iconst C (0) dX9_waysOf_12 (by decide) ?_
  obtain ⟨v3, g4, hF⟩ := bnd hF
  refine v_aI C g4 dX9_waysOf_13 ?_
  refine v_icmp_ge C 60 dX9_waysOf_14 (by decide) (fun c5 => ?_) (fun c5 => ?_)
  · have hF := ifp hF c5
    refine v_lload C 4 4 dX9_waysOf_60 rfl ?_
    cases hF
    exact v_lretP C hq hK dX9_waysOf_62
  · have hF := ifn hF c5
    refine v_lload C 4 4 dX9_waysOf_17 rfl ?_
    refine v_iload_n C 1 1 dX9_waysOf_19 rfl rfl ?_
    refine v_iload C 6 5 dX9_waysOf_20 rfl ?_
    obtain ⟨q6, g7, hF⟩ := bnd hF
    refine v_cSi C mw_X9_has lk_X9_200 _ (M_X9_has (by omega) g7) rfl rfl (Nat.le_of_ble_eq_true rfl) dX9_waysOf_22 ?_
    refine v_if_ne C 32 dX9_waysOf_25 (by decide) (fun c8 => ?_) (fun c8 => ?_)
    · have hF := ifn hF c8
      refine v_iload_n C 2 2 dX9_waysOf_32 rfl rfl ?_
      refine v_iload C 6 5 dX9_waysOf_33 rfl ?_
      obtain ⟨q9, g10, hF⟩ := bnd hF
      refine v_cSi C mw_X9_has lk_X9_200 _ (M_X9_has (by omega) g10) rfl rfl (Nat.le_of_ble_eq_true rfl) dX9_waysOf_35 ?_
      refine v_if_eq C 46 dX9_waysOf_38 (by decide) (fun c11 => ?_) (fun c11 => ?_)
      · have hF := ifp hF c11
        refine v_bipush C (12) dX9_waysOf_46 (by decide) ?_
        refine v_iload_n C 3 3 dX9_waysOf_48 rfl rfl ?_
        refine v_isub C dX9_waysOf_49 ?_
        refine v_i2l C dX9_waysOf_50 ?_
        refine v_sub [0, 1, 2, 3, 5] (ll' := [(0, _), (1, _), (2, _), (3, _), (6, _)]) rfl ?_
        exact W_X9_waysOf_51 C hq h0 hd hF hK
      · have hF := ifn hF c11
        refine v_iload_n C 3 3 dX9_waysOf_41 rfl rfl ?_
        refine v_i2l C dX9_waysOf_42 ?_
        refine v_goto C 51 dX9_waysOf_43 (by decide) ?_
        refine v_sub [0, 1, 2, 3, 5] (ll' := [(0, _), (1, _), (2, _), (3, _), (6, _)]) rfl ?_
        exact W_X9_waysOf_51 C hq h0 hd hF hK
    · have hF := ifp hF c8
      refine v_lconst C 1 dX9_waysOf_28 (by decide) ?_
      refine v_goto C 51 dX9_waysOf_29 (by decide) ?_
      refine v_sub [0, 1, 2, 3, 5] (ll' := [(0, _), (1, _), (2, _), (3, _), (6, _)]) rfl ?_
      exact W_X9_waysOf_51 C hq h0 hd hF hK
set_option maxRecDepth 20000 in
set_option maxHeartbeats 2000000 in
theorem M_X9_waysOf {Δ : DD} {d : Nat} {x0 : Nat} {x1 : Int32} {x2 : Int32} {x3 : Int32} {σ : Mem} {q : Int64} (hd : 2 ≤ d) (h0 : isK 9 x0 = true) (hF : F_X9_waysOf x0 x1 x2 x3 σ = some q) : Mt Δ d yX9_waysOf cX9_waysOf 7 (some .long) [rf Δ x0, .int x1, .int x2, .int x3] σ (some (.long q)) σ := by
  obtain ⟨d, rfl⟩ : ∃ e, d = e + 1 := ⟨d - 1, by omega⟩
  have hd : 1 ≤ d := by omega
  refine mt_of (by decide) rfl (Nat.le_of_ble_eq_true rfl) (fun Γ C hq => ?_)
  unfold F_X9_waysOf at hF
  show V Δ Γ 7 0 [(0, rf Δ (x0)), (1, .int (x1)), (2, .int (x2)), (3, .int (x3))] [] σ
  refine v_lconst C 1 dX9_waysOf_0 (by decide) ?_
  refine v_lstore C 4 (ll' := [(4, _), (0, _), (1, _), (2, _), (3, _)]) dX9_waysOf_1 (by decide) rfl ?_
  refine v_iconst C (0) dX9_waysOf_3 (by decide) ?_
  refine v_istore C 6 (ll' := [(6, _), (4, _), (0, _), (1, _), (2, _), (3, _)]) dX9_waysOf_4 (by decide) rfl ?_
  refine v_sub [2, 3, 4, 5, 1, 0] (ll' := [(0, _), (1, _), (2, _), (3, _), (4, _), (6, _)]) rfl ?_
  exact W_X9_waysOf_6 C hq h0 hd hF
def K_X9_allWays_8 (Δ : DD) (Γ : GG) (q : Int64)  (σ : Mem) (y : (Int64 × Int32) ⊕ Int64) : Prop := match y with
  | .inl s => V Δ Γ 5 8 [(2, .long (s.1)), (4, .int (s.2))] [] σ
  | .inr t => (t = q)
set_option maxRecDepth 20000 in
set_option maxHeartbeats 2000000 in
theorem W_X9_allWays_8 {Δ : DD} {Γ : GG} {d : Nat} {q : Int64}  {σ : Mem} (C : Cx Δ Γ RX9 cX9_allWays 5 d (some .long)) (hq : RetQ Δ Γ (some (.long q)) σ) (hd : 1 ≤ d) {s : Int64 × Int32} (hF : F_X9_allWays_8  σ s = some q) : V Δ Γ 5 8 [(2, .long (s.1)), (4, .int (s.2))] [] σ := by
  have hF : F_X9_allWays_8  σ s = some q := hF
  refine lp_V (W := fun (s : Int64 × Int32) => V Δ Γ 5 8 [(2, .long (s.1)), (4, .int (s.2))] [] σ) (K := fun t => t = q) (K' := K_X9_allWays_8 Δ Γ q  σ) (fun _ h => h) (fun _ h => h) ?_ s q hF rfl
  clear hF
  intro s z hF hK
  refine v_iload C 4 1 dX9_allWays_8 rfl ?_
  refine v_if_le C 25 dX9_allWays_10 (by decide) (fun c1 => ?_) (fun c1 => ?_)
  · have hF := ifp hF c1
    refine v_lload_n C 2 0 dX9_allWays_25 rfl rfl ?_
    cases hF
    exact v_lretP C hq hK dX9_allWays_26
  · have hF := ifn hF c1
    refine v_lload_n C 2 0 dX9_allWays_13 rfl rfl ?_
    refine v_ldc2 C (12) kl_X9_206 dX9_allWays_14 ?_
    refine v_lmul C dX9_allWays_17 ?_
    refine v_lstore_n C 2 (ll' := [(2, _), (4, _)]) dX9_allWays_18 rfl (by decide) rfl ?_
    refine v_iinc C (_ + (-1 : Int32)) 1 (ll' := [(4, _), (2, _)]) dX9_allWays_19 rfl (inc_eq (by decide)) (by decide) rfl ?_
    refine v_goto C 8 dX9_allWays_22 (by decide) ?_
    refine v_sub [1, 0] (ll' := [(2, _), (4, _)]) rfl ?_
    cases hF
    exact hK
set_option maxRecDepth 20000 in
set_option maxHeartbeats 2000000 in
theorem M_X9_allWays {Δ : DD} {d : Nat} {x0 : Nat} {x1 : Int32} {σ : Mem} {q : Int64} (hd : 2 ≤ d) (h0 : isK 9 x0 = true) (hF : F_X9_allWays x0 x1 σ = some q) : Mt Δ d yX9_allWays cX9_allWays 5 (some .long) [rf Δ x0, .int x1] σ (some (.long q)) σ := by
  obtain ⟨d, rfl⟩ : ∃ e, d = e + 1 := ⟨d - 1, by omega⟩
  have hd : 1 ≤ d := by omega
  refine mt_of (by decide) rfl (Nat.le_of_ble_eq_true rfl) (fun Γ C hq => ?_)
  unfold F_X9_allWays at hF
  show V Δ Γ 5 0 [(0, rf Δ (x0)), (1, .int (x1))] [] σ
  refine v_lconst C 1 dX9_allWays_0 (by decide) ?_
  refine v_lstore_n C 2 (ll' := [(2, _), (0, _), (1, _)]) dX9_allWays_1 rfl (by decide) rfl ?_
  refine v_iload_n C 1 2 dX9_allWays_2 rfl rfl ?_
  obtain ⟨q2, g3, hF⟩ := bnd hF
  refine v_cSi C mw_X9_ones lk_X9_203 _ (M_X9_ones (by omega) g3) rfl rfl (Nat.le_of_ble_eq_true rfl) dX9_allWays_3 ?_
  refine v_istore C 4 (ll' := [(4, _), (2, _), (0, _), (1, _)]) dX9_allWays_6 (by decide) rfl ?_
  refine v_sub [1, 0] (ll' := [(2, _), (4, _)]) rfl ?_
  exact W_X9_allWays_8 C hq hd hF
def K_X9_odds_47 (Δ : DD) (Γ : GG) (q : (Int32 × Mem)) (x0 : Nat) (x1 : Int32) (x2 : Int32) (x3 : Int32) (σ : Mem) (y : (Int64 × Int32) ⊕ (Int32 × Mem)) : Prop := match y with
  | .inl s => V Δ Γ 7 47 [(0, rf Δ (x0)), (1, .int (x1)), (2, .int (x2)), (3, .int (x3)), (4, .long (s.1)), (6, .int (s.2))] [] σ
  | .inr t => (t = q)
set_option maxRecDepth 20000 in
set_option maxHeartbeats 2000000 in
theorem W_X9_odds_86 {Δ : DD} {Γ : GG} {d : Nat} {q : (Int32 × Mem)} {x0 : Nat} {x1 : Int32} {x2 : Int32} {x3 : Int32} {x6 : Int32} {y0 : Int64} {y1 : Int64} {σ : Mem} {y : ((Int64 × Int32) ⊕ (Int32 × Mem))} (C : Cx Δ Γ RX9 cX9_odds 7 d (some .int)) (hq : RetQ Δ Γ (some (.int q.1)) q.2) (h0 : isK 9 x0 = true) (hd : 2 ≤ d) (hF : F_X9_odds_86 x0 x1 x2 x3 x6 y0 y1 σ = some y) (hK : (K_X9_odds_47 Δ Γ q x0 x1 x2 x3 σ y)) : V Δ Γ 7 86 [(0, rf Δ (x0)), (1, .int (x1)), (2, .int (x2)), (3, .int (x3)), (6, .int (x6))] [.long (y0), .long (y1)] σ := by
  unfold F_X9_odds_86 at hF
  refine v_ladd C dX9_odds_86 ?_
  refine v_lstore C 4 (ll' := [(4, _), (0, _), (1, _), (2, _), (3, _), (6, _)]) dX9_odds_87 (by decide) rfl ?_
  refine v_iinc C (_ + (1 : Int32)) 5 (ll' := [(6, _), (4, _), (0, _), (1, _), (2, _), (3, _)]) dX9_odds_89 rfl (inc_eq (by decide)) (by decide) rfl ?_
  refine v_goto C 47 dX9_odds_92 (by decide) ?_
  refine v_sub [2, 3, 4, 5, 1, 0] (ll' := [(0, _), (1, _), (2, _), (3, _), (4, _), (6, _)]) rfl ?_
  cases hF
  exact hK
set_option maxRecDepth 20000 in
set_option maxHeartbeats 2000000 in
theorem W_X9_odds_85 {Δ : DD} {Γ : GG} {d : Nat} {q : (Int32 × Mem)} {x0 : Nat} {x1 : Int32} {x2 : Int32} {x3 : Int32} {x6 : Int32} {y0 : Int64} {σ : Mem} {y : ((Int64 × Int32) ⊕ (Int32 × Mem))} (C : Cx Δ Γ RX9 cX9_odds 7 d (some .int)) (hq : RetQ Δ Γ (some (.int q.1)) q.2) (h0 : isK 9 x0 = true) (hd : 2 ≤ d) (hF : F_X9_odds_85 x0 x1 x2 x3 x6 y0 σ = some y) (hK : (K_X9_odds_47 Δ Γ q x0 x1 x2 x3 σ y)) : V Δ Γ 7 85 [(0, rf Δ (x0)), (1, .int (x1)), (2, .int (x2)), (3, .int (x3)), (6, .int (x6))] [.long (y0)] σ := by
  unfold F_X9_odds_85 at hF
  refine v_lconst C 0 dX9_odds_85 (by decide) ?_
  exact W_X9_odds_86 C hq h0 hd hF hK
set_option maxRecDepth 20000 in
set_option maxHeartbeats 2000000 in
theorem W_X9_odds_47 {Δ : DD} {Γ : GG} {d : Nat} {q : (Int32 × Mem)} {x0 : Nat} {x1 : Int32} {x2 : Int32} {x3 : Int32} {σ : Mem} (C : Cx Δ Γ RX9 cX9_odds 7 d (some .int)) (hq : RetQ Δ Γ (some (.int q.1)) q.2) (h0 : isK 9 x0 = true) (hd : 2 ≤ d) {s : Int64 × Int32} (hF : F_X9_odds_47 x0 x1 x2 x3 σ s = some q) : V Δ Γ 7 47 [(0, rf Δ (x0)), (1, .int (x1)), (2, .int (x2)), (3, .int (x3)), (4, .long (s.1)), (6, .int (s.2))] [] σ := by
  have hF : F_X9_odds_47 x0 x1 x2 x3 σ s = some q := hF
  refine lp_V (W := fun (s : Int64 × Int32) => V Δ Γ 7 47 [(0, rf Δ (x0)), (1, .int (x1)), (2, .int (x2)), (3, .int (x3)), (4, .long (s.1)), (6, .int (s.2))] [] σ) (K := fun t => t = q) (K' := K_X9_odds_47 Δ Γ q x0 x1 x2 x3 σ) (fun _ h => h) (fun _ h => h) ?_ s q hF rfl
  clear hF
  intro s z hF hK
  refine v_iload C 6 5 dX9_odds_47 rfl ?_
  refine v_bipush C (64) dX9_odds_49 (by decide) ?_
  refine v_icmp_ge C 95 dX9_odds_51 (by decide) (fun c1 => ?_) (fun c1 => ?_)
  · have hF := ifp hF c1
    refine v_aload_n C 0 0 dX9_odds_95 rfl rfl ?_
    refine v_lload C 4 4 dX9_odds_96 rfl ?_
    refine v_aload_n C 0 0 dX9_odds_98 rfl rfl ?_
    refine v_iload_n C 3 3 dX9_odds_99 rfl rfl ?_
    obtain ⟨q2, g3, hF⟩ := bnd hF
    refine v_cVl C mw_X9_allWays lk_X9_218 _ (M_X9_allWays (by omega) h0 g3) h0 rfl rfl (Nat.le_of_ble_eq_true rfl) dX9_odds_100 ?_
    obtain ⟨q4, g5, hF⟩ := bnd hF
    refine v_cVi C mw_X9_tellsParts lk_X9_222 _ (M_X9_tellsParts (by omega) h0 g5) h0 rfl rfl (Nat.le_of_ble_eq_true rfl) dX9_odds_103 ?_
    cases hF
    exact v_iretF C hq hK dX9_odds_106
  · have hF := ifn hF c1
    refine v_lload C 4 4 dX9_odds_54 rfl ?_
    refine v_iload C 6 5 dX9_odds_56 rfl ?_
    refine v_iload_n C 3 3 dX9_odds_58 rfl rfl ?_
    refine v_iconst C (-1) dX9_odds_59 (by decide) ?_
    refine v_ixor C dX9_odds_60 ?_
    refine v_iand C dX9_odds_61 ?_
    refine v_if_ne C 85 dX9_odds_62 (by decide) (fun c6 => ?_) (fun c6 => ?_)
    · have hF := ifn hF c6
      refine v_sub [0, 1, 2, 3, 5] (ll' := [(0, _), (1, _), (2, _), (3, _), (6, _)]) rfl ?_
      exact W_X9_odds_85 C hq h0 hd hF hK
    · have hF := ifp hF c6
      refine v_iload C 6 5 dX9_odds_65 rfl ?_
      obtain ⟨q7, g8, hF⟩ := bnd hF
      refine v_cSi C mw_X9_ones lk_X9_203 _ (M_X9_ones (by omega) g8) rfl rfl (Nat.le_of_ble_eq_true rfl) dX9_odds_67 ?_
      refine v_iload_n C 1 1 dX9_odds_70 rfl rfl ?_
      refine v_icmp_lt C 85 dX9_odds_71 (by decide) (fun c9 => ?_) (fun c9 => ?_)
      · have hF := ifp hF c9
        refine v_sub [0, 1, 2, 3, 5] (ll' := [(0, _), (1, _), (2, _), (3, _), (6, _)]) rfl ?_
        exact W_X9_odds_85 C hq h0 hd hF hK
      · have hF := ifn hF c9
        refine v_aload_n C 0 0 dX9_odds_74 rfl rfl ?_
        refine v_iload_n C 3 3 dX9_odds_75 rfl rfl ?_
        refine v_iload C 6 5 dX9_odds_76 rfl ?_
        refine v_iload_n C 2 2 dX9_odds_78 rfl rfl ?_
        obtain ⟨q10, g11, hF⟩ := bnd hF
        refine v_cVl C mw_X9_waysOf lk_X9_214 _ (M_X9_waysOf (by omega) h0 g11) h0 rfl rfl (Nat.le_of_ble_eq_true rfl) dX9_odds_79 ?_
        refine v_goto C 86 dX9_odds_82 (by decide) ?_
        refine v_sub [0, 1, 2, 3, 5] (ll' := [(0, _), (1, _), (2, _), (3, _), (6, _)]) rfl ?_
        exact W_X9_odds_86 C hq h0 hd hF hK
set_option maxRecDepth 20000 in
set_option maxHeartbeats 2000000 in
theorem M_X9_odds {Δ : DD} {d : Nat} {x0 : Nat} {x1 : Int32} {x2 : Int32} {σ : Mem} {q : (Int32 × Mem)} (hd : 3 ≤ d) (h0 : isK 9 x0 = true) (hF : F_X9_odds x0 x1 x2 σ = some q) : Mt Δ d yX9_odds cX9_odds 7 (some .int) [rf Δ x0, .int x1, .int x2] σ (some (.int q.1)) q.2 := by
  obtain ⟨d, rfl⟩ : ∃ e, d = e + 1 := ⟨d - 1, by omega⟩
  have hd : 2 ≤ d := by omega
  refine mt_of (by decide) rfl (Nat.le_of_ble_eq_true rfl) (fun Γ C hq => ?_)
  unfold F_X9_odds at hF
  show V Δ Γ 7 0 [(0, rf Δ (x0)), (1, .int (x1)), (2, .int (x2))] [] σ
  refine v_iload_n C 1 1 dX9_odds_0 rfl rfl ?_
  refine v_i2l C dX9_odds_1 ?_
  refine v_lconst C 0 dX9_odds_2 (by decide) ?_
  refine v_ldc2 C (6) kl_X9_208 dX9_odds_3 ?_
  obtain ⟨q12, g13, hF⟩ := bnd hF
  refine v_cSi C mw_X9_in lk_X9_53 _ (M_X9_in (by omega) g13) rfl rfl (Nat.le_of_ble_eq_true rfl) dX9_odds_6 ?_
  refine v_if_eq C 24 dX9_odds_9 (by decide) (fun c14 => ?_) (fun c14 => ?_)
  · have hF := ifp hF c14
    refine v_iconst C (-1) dX9_odds_24 (by decide) ?_
    exact v_iretF C hq (Option.some.inj hF) dX9_odds_25
  · have hF := ifn hF c14
    refine v_iload_n C 2 2 dX9_odds_12 rfl rfl ?_
    refine v_i2l C dX9_odds_13 ?_
    refine v_lconst C 0 dX9_odds_14 (by decide) ?_
    refine v_ldc2 C (12) kl_X9_206 dX9_odds_15 ?_
    obtain ⟨q15, g16, hF⟩ := bnd hF
    refine v_cSi C mw_X9_in lk_X9_53 _ (M_X9_in (by omega) g16) rfl rfl (Nat.le_of_ble_eq_true rfl) dX9_odds_18 ?_
    refine v_if_ne C 26 dX9_odds_21 (by decide) (fun c17 => ?_) (fun c17 => ?_)
    · have hF := ifn hF c17
      refine v_aload_n C 0 0 dX9_odds_26 rfl rfl ?_
      obtain ⟨q18, g19, hF⟩ := bnd hF
      refine v_cVi C mw_X9_isTown lk_X9_153 _ (M_X9_isTown (by omega) h0 g19) h0 rfl rfl (Nat.le_of_ble_eq_true rfl) dX9_odds_27 ?_
      refine v_if_ne C 36 dX9_odds_30 (by decide) (fun c20 => ?_) (fun c20 => ?_)
      · have hF := ifn hF c20
        refine v_aload_n C 0 0 dX9_odds_36 rfl rfl ?_
        obtain ⟨q21, g22, hF⟩ := bnd hF
        refine v_cVi C mw_X9_dueNow lk_X9_210 _ (M_X9_dueNow (by omega) h0 g22) h0 rfl rfl (Nat.le_of_ble_eq_true rfl) dX9_odds_37 ?_
        refine v_istore_n C 3 (ll' := [(3, _), (0, _), (1, _), (2, _)]) dX9_odds_40 rfl (by decide) rfl ?_
        refine v_lconst C 0 dX9_odds_41 (by decide) ?_
        refine v_lstore C 4 (ll' := [(4, _), (3, _), (0, _), (1, _), (2, _)]) dX9_odds_42 (by decide) rfl ?_
        refine v_iconst C (0) dX9_odds_44 (by decide) ?_
        refine v_istore C 6 (ll' := [(6, _), (4, _), (3, _), (0, _), (1, _), (2, _)]) dX9_odds_45 (by decide) rfl ?_
        refine v_sub [3, 4, 5, 2, 1, 0] (ll' := [(0, _), (1, _), (2, _), (3, _), (4, _), (6, _)]) rfl ?_
        exact W_X9_odds_47 C hq h0 hd hF
      · have hF := ifp hF c20
        refine v_bipush C (-4) dX9_odds_33 (by decide) ?_
        exact v_iretF C hq (Option.some.inj hF) dX9_odds_35
    · have hF := ifp hF c17
      refine v_iconst C (-1) dX9_odds_24 (by decide) ?_
      exact v_iretF C hq (Option.some.inj hF) dX9_odds_25
def K_X9_mid_34 (Δ : DD) (Γ : GG) (q : (Int32 × Mem)) (x0 : Nat) (x1 : Int32) (x2 : Int32) (σ : Mem) (y : (Int64 × Int32) ⊕ (Int32 × Mem)) : Prop := match y with
  | .inl s => V Δ Γ 8 34 [(0, rf Δ (x0)), (1, .int (x1)), (2, .int (x2)), (3, .long (s.1)), (5, .int (s.2))] [] σ
  | .inr t => (t = q)
def K_X9_mid_47 (Δ : DD) (Γ : GG) (q : (Int32 × Mem)) (x0 : Nat) (x1 : Int32) (x2 : Int32) (x3 : Int64) (x5 : Int32) (σ : Mem) (y : (Int32 × Int32) ⊕ ((Int64 × Int32) ⊕ (Int32 × Mem))) : Prop := match y with
  | .inl s => V Δ Γ 8 47 [(0, rf Δ (x0)), (1, .int (x1)), (2, .int (x2)), (3, .long (x3)), (5, .int (x5)), (6, .int (s.1)), (7, .int (s.2))] [] σ
  | .inr t => (K_X9_mid_34 Δ Γ q x0 x1 x2 σ t)
set_option maxRecDepth 20000 in
set_option maxHeartbeats 2000000 in
theorem W_X9_mid_98 {Δ : DD} {Γ : GG} {d : Nat} {q : (Int32 × Mem)} {x0 : Nat} {x1 : Int32} {x2 : Int32} {x3 : Int64} {x5 : Int32} {x6 : Int32} {x7 : Int32}  {σ : Mem} {y : ((Int32 × Int32) ⊕ ((Int64 × Int32) ⊕ (Int32 × Mem)))} (C : Cx Δ Γ RX9 cX9_mid 8 d (some .int)) (hq : RetQ Δ Γ (some (.int q.1)) q.2) (h0 : isK 9 x0 = true) (hd : 2 ≤ d) (hF : F_X9_mid_98 x0 x1 x2 x3 x5 x6 x7  σ = some y) (hK : (K_X9_mid_47 Δ Γ q x0 x1 x2 x3 x5 σ y)) : V Δ Γ 8 98 [(0, rf Δ (x0)), (1, .int (x1)), (2, .int (x2)), (3, .long (x3)), (5, .int (x5)), (6, .int (x6)), (7, .int (x7))] [] σ := by
  unfold F_X9_mid_98 at hF
  refine v_iload C 6 5 dX9_mid_98 rfl ?_
  refine v_istore C 6 (ll' := [(6, _), (0, _), (1, _), (2, _), (3, _), (5, _), (7, _)]) dX9_mid_100 (by decide) rfl ?_
  refine v_iinc C (_ + (1 : Int32)) 6 (ll' := [(7, _), (6, _), (0, _), (1, _), (2, _), (3, _), (5, _)]) dX9_mid_102 rfl (inc_eq (by decide)) (by decide) rfl ?_
  refine v_goto C 47 dX9_mid_105 (by decide) ?_
  refine v_sub [2, 3, 4, 5, 6, 1, 0] (ll' := [(0, _), (1, _), (2, _), (3, _), (5, _), (6, _), (7, _)]) rfl ?_
  cases hF
  exact hK
set_option maxRecDepth 20000 in
set_option maxHeartbeats 2000000 in
theorem W_X9_mid_134 {Δ : DD} {Γ : GG} {d : Nat} {q : (Int32 × Mem)} {x0 : Nat} {x1 : Int32} {x2 : Int32} {x5 : Int32} {y0 : Int64} {y1 : Int64} {σ : Mem} {y : ((Int64 × Int32) ⊕ (Int32 × Mem))} (C : Cx Δ Γ RX9 cX9_mid 8 d (some .int)) (hq : RetQ Δ Γ (some (.int q.1)) q.2) (h0 : isK 9 x0 = true) (hd : 2 ≤ d) (hF : F_X9_mid_134 x0 x1 x2 x5 y0 y1 σ = some y) (hK : (K_X9_mid_34 Δ Γ q x0 x1 x2 σ y)) : V Δ Γ 8 134 [(0, rf Δ (x0)), (1, .int (x1)), (2, .int (x2)), (5, .int (x5))] [.long (y0), .long (y1)] σ := by
  unfold F_X9_mid_134 at hF
  refine v_ladd C dX9_mid_134 ?_
  refine v_lstore_n C 3 (ll' := [(3, _), (0, _), (1, _), (2, _), (5, _)]) dX9_mid_135 rfl (by decide) rfl ?_
  refine v_iinc C (_ + (1 : Int32)) 4 (ll' := [(5, _), (3, _), (0, _), (1, _), (2, _)]) dX9_mid_136 rfl (inc_eq (by decide)) (by decide) rfl ?_
  refine v_goto C 34 dX9_mid_139 (by decide) ?_
  refine v_sub [2, 3, 4, 1, 0] (ll' := [(0, _), (1, _), (2, _), (3, _), (5, _)]) rfl ?_
  cases hF
  exact hK
set_option maxRecDepth 20000 in
set_option maxHeartbeats 2000000 in
theorem W_X9_mid_47 {Δ : DD} {Γ : GG} {d : Nat} {q : (Int32 × Mem)} {x0 : Nat} {x1 : Int32} {x2 : Int32} {x3 : Int64} {x5 : Int32} {σ : Mem} (C : Cx Δ Γ RX9 cX9_mid 8 d (some .int)) (hq : RetQ Δ Γ (some (.int q.1)) q.2) (h0 : isK 9 x0 = true) (hd : 2 ≤ d) {s : Int32 × Int32} {y : ((Int64 × Int32) ⊕ (Int32 × Mem))} (hF : F_X9_mid_47 x0 x1 x2 x3 x5 σ s = some y) (hK : (K_X9_mid_34 Δ Γ q x0 x1 x2 σ y)) : V Δ Γ 8 47 [(0, rf Δ (x0)), (1, .int (x1)), (2, .int (x2)), (3, .long (x3)), (5, .int (x5)), (6, .int (s.1)), (7, .int (s.2))] [] σ := by
  refine lp_V (W := fun (s : Int32 × Int32) => V Δ Γ 8 47 [(0, rf Δ (x0)), (1, .int (x1)), (2, .int (x2)), (3, .long (x3)), (5, .int (x5)), (6, .int (s.1)), (7, .int (s.2))] [] σ) (K := fun (t : ((Int64 × Int32) ⊕ (Int32 × Mem))) => (K_X9_mid_34 Δ Γ q x0 x1 x2 σ t)) (K' := K_X9_mid_47 Δ Γ q x0 x1 x2 x3 x5 σ) (fun _ h => h) (fun _ h => h) ?_ s y hF hK
  clear hF hK
  intro s z hF hK
  refine v_iload C 7 6 dX9_mid_47 rfl ?_
  refine v_aload_n C 0 0 dX9_mid_49 rfl rfl ?_
  obtain ⟨p7, g6, hF⟩ := bnd hF
  refine v_gR C fu_X9_7 g6 dX9_mid_50 ?_
  refine v_iconst C (0) dX9_mid_53 (by decide) ?_
  obtain ⟨v8, g9, hF⟩ := bnd hF
  refine v_aI C g9 dX9_mid_54 ?_
  refine v_icmp_ge C 108 dX9_mid_55 (by decide) (fun c10 => ?_) (fun c10 => ?_)
  · have hF := ifp hF c10
    refine v_lload_n C 3 3 dX9_mid_108 rfl rfl ?_
    refine v_iload C 5 4 dX9_mid_109 rfl ?_
    refine v_iload_n C 2 2 dX9_mid_111 rfl rfl ?_
    refine v_iconst C (-1) dX9_mid_112 (by decide) ?_
    refine v_ixor C dX9_mid_113 ?_
    refine v_iand C dX9_mid_114 ?_
    refine v_if_ne C 133 dX9_mid_115 (by decide) (fun c11 => ?_) (fun c11 => ?_)
    · have hF := ifn hF c11
      refine v_lconst C 0 dX9_mid_133 (by decide) ?_
      refine v_sub [0, 1, 2, 4] (ll' := [(0, _), (1, _), (2, _), (5, _)]) rfl ?_
      obtain ⟨z, hz, e⟩ := mapd hF
      subst e
      exact W_X9_mid_134 C hq h0 hd hz hK
    · have hF := ifp hF c11
      refine v_iload C 6 5 dX9_mid_118 rfl ?_
      refine v_i2l C dX9_mid_120 ?_
      refine v_aload_n C 0 0 dX9_mid_121 rfl rfl ?_
      refine v_iload_n C 2 2 dX9_mid_122 rfl rfl ?_
      refine v_iload C 5 4 dX9_mid_123 rfl ?_
      refine v_iload_n C 1 1 dX9_mid_125 rfl rfl ?_
      obtain ⟨q12, g13, hF⟩ := bnd hF
      refine v_cVl C mw_X9_waysOf lk_X9_214 _ (M_X9_waysOf (by omega) h0 g13) h0 rfl rfl (Nat.le_of_ble_eq_true rfl) dX9_mid_126 ?_
      refine v_lmul C dX9_mid_129 ?_
      refine v_goto C 134 dX9_mid_130 (by decide) ?_
      refine v_sub [0, 1, 2, 4] (ll' := [(0, _), (1, _), (2, _), (5, _)]) rfl ?_
      obtain ⟨z, hz, e⟩ := mapd hF
      subst e
      exact W_X9_mid_134 C hq h0 hd hz hK
  · have hF := ifn hF c10
    refine v_iload C 5 4 dX9_mid_58 rfl ?_
    refine v_iload_n C 2 2 dX9_mid_60 rfl rfl ?_
    refine v_iand C dX9_mid_61 ?_
    refine v_iload C 7 6 dX9_mid_62 rfl ?_
    obtain ⟨q14, g15, hF⟩ := bnd hF
    refine v_cSi C mw_X9_has lk_X9_200 _ (M_X9_has (by omega) g15) rfl rfl (Nat.le_of_ble_eq_true rfl) dX9_mid_64 ?_
    refine v_if_eq C 98 dX9_mid_67 (by decide) (fun c16 => ?_) (fun c16 => ?_)
    · have hF := ifp hF c16
      exact W_X9_mid_98 C hq h0 hd hF hK
    · have hF := ifn hF c16
      refine v_aload_n C 0 0 dX9_mid_70 rfl rfl ?_
      obtain ⟨p18, g17, hF⟩ := bnd hF
      refine v_gR C fu_X9_7 g17 dX9_mid_71 ?_
      refine v_bipush C (27) dX9_mid_74 (by decide) ?_
      refine v_iload C 7 6 dX9_mid_76 rfl ?_
      refine v_iadd C dX9_mid_78 ?_
      obtain ⟨v19, g20, hF⟩ := bnd hF
      refine v_aI C g20 dX9_mid_79 ?_
      refine v_iload C 6 5 dX9_mid_80 rfl ?_
      refine v_icmp_le C 98 dX9_mid_82 (by decide) (fun c21 => ?_) (fun c21 => ?_)
      · have hF := ifp hF c21
        exact W_X9_mid_98 C hq h0 hd hF hK
      · have hF := ifn hF c21
        refine v_aload_n C 0 0 dX9_mid_85 rfl rfl ?_
        obtain ⟨p23, g22, hF⟩ := bnd hF
        refine v_gR C fu_X9_7 g22 dX9_mid_86 ?_
        refine v_bipush C (27) dX9_mid_89 (by decide) ?_
        refine v_iload C 7 6 dX9_mid_91 rfl ?_
        refine v_iadd C dX9_mid_93 ?_
        obtain ⟨v24, g25, hF⟩ := bnd hF
        refine v_aI C g25 dX9_mid_94 ?_
        refine v_goto C 100 dX9_mid_95 (by decide) ?_
        refine v_istore C 6 (ll' := [(6, _), (0, _), (1, _), (2, _), (3, _), (5, _), (7, _)]) dX9_mid_100 (by decide) rfl ?_
        refine v_iinc C (_ + (1 : Int32)) 6 (ll' := [(7, _), (6, _), (0, _), (1, _), (2, _), (3, _), (5, _)]) dX9_mid_102 rfl (inc_eq (by decide)) (by decide) rfl ?_
        refine v_goto C 47 dX9_mid_105 (by decide) ?_
        refine v_sub [2, 3, 4, 5, 6, 1, 0] (ll' := [(0, _), (1, _), (2, _), (3, _), (5, _), (6, _), (7, _)]) rfl ?_
        cases hF
        exact hK
set_option maxRecDepth 20000 in
set_option maxHeartbeats 2000000 in
theorem W_X9_mid_34 {Δ : DD} {Γ : GG} {d : Nat} {q : (Int32 × Mem)} {x0 : Nat} {x1 : Int32} {x2 : Int32} {σ : Mem} (C : Cx Δ Γ RX9 cX9_mid 8 d (some .int)) (hq : RetQ Δ Γ (some (.int q.1)) q.2) (h0 : isK 9 x0 = true) (hd : 2 ≤ d) {s : Int64 × Int32} (hF : F_X9_mid_34 x0 x1 x2 σ s = some q) : V Δ Γ 8 34 [(0, rf Δ (x0)), (1, .int (x1)), (2, .int (x2)), (3, .long (s.1)), (5, .int (s.2))] [] σ := by
  have hF : F_X9_mid_34 x0 x1 x2 σ s = some q := hF
  refine lp_V (W := fun (s : Int64 × Int32) => V Δ Γ 8 34 [(0, rf Δ (x0)), (1, .int (x1)), (2, .int (x2)), (3, .long (s.1)), (5, .int (s.2))] [] σ) (K := fun t => t = q) (K' := K_X9_mid_34 Δ Γ q x0 x1 x2 σ) (fun _ h => h) (fun _ h => h) ?_ s q hF rfl
  clear hF
  intro s z hF hK
  refine v_iload C 5 4 dX9_mid_34 rfl ?_
  refine v_bipush C (64) dX9_mid_36 (by decide) ?_
  refine v_icmp_ge C 142 dX9_mid_38 (by decide) (fun c1 => ?_) (fun c1 => ?_)
  · have hF := ifp hF c1
    refine v_aload_n C 0 0 dX9_mid_142 rfl rfl ?_
    refine v_lload_n C 3 3 dX9_mid_143 rfl rfl ?_
    refine v_aload_n C 0 0 dX9_mid_144 rfl rfl ?_
    refine v_iload_n C 2 2 dX9_mid_145 rfl rfl ?_
    obtain ⟨q2, g3, hF⟩ := bnd hF
    refine v_cVl C mw_X9_allWays lk_X9_218 _ (M_X9_allWays (by omega) h0 g3) h0 rfl rfl (Nat.le_of_ble_eq_true rfl) dX9_mid_146 ?_
    obtain ⟨q4, g5, hF⟩ := bnd hF
    refine v_cVi C mw_X9_tellsParts lk_X9_222 _ (M_X9_tellsParts (by omega) h0 g5) h0 rfl rfl (Nat.le_of_ble_eq_true rfl) dX9_mid_149 ?_
    cases hF
    exact v_iretF C hq hK dX9_mid_152
  · have hF := ifn hF c1
    refine v_iconst C (0) dX9_mid_41 (by decide) ?_
    refine v_istore C 6 (ll' := [(6, _), (0, _), (1, _), (2, _), (3, _), (5, _)]) dX9_mid_42 (by decide) rfl ?_
    refine v_iconst C (0) dX9_mid_44 (by decide) ?_
    refine v_istore C 7 (ll' := [(7, _), (6, _), (0, _), (1, _), (2, _), (3, _), (5, _)]) dX9_mid_45 (by decide) rfl ?_
    refine v_sub [2, 3, 4, 5, 6, 1, 0] (ll' := [(0, _), (1, _), (2, _), (3, _), (5, _), (6, _), (7, _)]) rfl ?_
    exact W_X9_mid_47 C hq h0 hd hF hK
set_option maxRecDepth 20000 in
set_option maxHeartbeats 2000000 in
theorem M_X9_mid {Δ : DD} {d : Nat} {x0 : Nat} {x1 : Int32} {σ : Mem} {q : (Int32 × Mem)} (hd : 3 ≤ d) (h0 : isK 9 x0 = true) (hF : F_X9_mid x0 x1 σ = some q) : Mt Δ d yX9_mid cX9_mid 8 (some .int) [rf Δ x0, .int x1] σ (some (.int q.1)) q.2 := by
  obtain ⟨d, rfl⟩ : ∃ e, d = e + 1 := ⟨d - 1, by omega⟩
  have hd : 2 ≤ d := by omega
  refine mt_of (by decide) rfl (Nat.le_of_ble_eq_true rfl) (fun Γ C hq => ?_)
  unfold F_X9_mid at hF
  show V Δ Γ 8 0 [(0, rf Δ (x0)), (1, .int (x1))] [] σ
  refine v_iload_n C 1 1 dX9_mid_0 rfl rfl ?_
  refine v_i2l C dX9_mid_1 ?_
  refine v_lconst C 0 dX9_mid_2 (by decide) ?_
  refine v_ldc2 C (12) kl_X9_206 dX9_mid_3 ?_
  obtain ⟨q26, g27, hF⟩ := bnd hF
  refine v_cSi C mw_X9_in lk_X9_53 _ (M_X9_in (by omega) g27) rfl rfl (Nat.le_of_ble_eq_true rfl) dX9_mid_6 ?_
  refine v_if_ne C 14 dX9_mid_9 (by decide) (fun c28 => ?_) (fun c28 => ?_)
  · have hF := ifn hF c28
    refine v_aload_n C 0 0 dX9_mid_14 rfl rfl ?_
    obtain ⟨q29, g30, hF⟩ := bnd hF
    refine v_cVi C mw_X9_isTown lk_X9_153 _ (M_X9_isTown (by omega) h0 g30) h0 rfl rfl (Nat.le_of_ble_eq_true rfl) dX9_mid_15 ?_
    refine v_if_ne C 24 dX9_mid_18 (by decide) (fun c31 => ?_) (fun c31 => ?_)
    · have hF := ifn hF c31
      refine v_aload_n C 0 0 dX9_mid_24 rfl rfl ?_
      obtain ⟨q32, g33, hF⟩ := bnd hF
      refine v_cVi C mw_X9_dueNow lk_X9_210 _ (M_X9_dueNow (by omega) h0 g33) h0 rfl rfl (Nat.le_of_ble_eq_true rfl) dX9_mid_25 ?_
      refine v_istore_n C 2 (ll' := [(2, _), (0, _), (1, _)]) dX9_mid_28 rfl (by decide) rfl ?_
      refine v_lconst C 0 dX9_mid_29 (by decide) ?_
      refine v_lstore_n C 3 (ll' := [(3, _), (2, _), (0, _), (1, _)]) dX9_mid_30 rfl (by decide) rfl ?_
      refine v_iconst C (0) dX9_mid_31 (by decide) ?_
      refine v_istore C 5 (ll' := [(5, _), (3, _), (2, _), (0, _), (1, _)]) dX9_mid_32 (by decide) rfl ?_
      refine v_sub [3, 4, 2, 1, 0] (ll' := [(0, _), (1, _), (2, _), (3, _), (5, _)]) rfl ?_
      exact W_X9_mid_34 C hq h0 hd hF
    · have hF := ifp hF c31
      refine v_bipush C (-4) dX9_mid_21 (by decide) ?_
      exact v_iretF C hq (Option.some.inj hF) dX9_mid_23
  · have hF := ifp hF c28
    refine v_iconst C (-1) dX9_mid_12 (by decide) ?_
    exact v_iretF C hq (Option.some.inj hF) dX9_mid_13
def K_X9_lots_59 (Δ : DD) (Γ : GG) (q : (Int32 × Mem)) (x0 : Nat) (x1 : Int32) (y : (Int64 × Int32 × Int32 × Mem) ⊕ (Int32 × Mem)) : Prop := match y with
  | .inl s => V Δ Γ 9 59 [(0, rf Δ (x0)), (1, .int (x1)), (3, .long (s.1)), (5, .int (s.2.1)), (6, .int (s.2.2.1))] [] s.2.2.2
  | .inr t => (t = q)
set_option maxRecDepth 20000 in
set_option maxHeartbeats 2000000 in
theorem W_X9_lots_168 {Δ : DD} {Γ : GG} {d : Nat} {q : (Int32 × Mem)} {x0 : Nat} {x1 : Int32} {x3 : Int64} {x5 : Int32} {x6 : Int32} {y0 : Int32} {y1 : Int32} {y2 : Int32} {y3 : Nat} {σ : Mem} {y : ((Int64 × Int32 × Int32 × Mem) ⊕ (Int32 × Mem))} (C : Cx Δ Γ RX9 cX9_lots 9 d (some .int)) (hq : RetQ Δ Γ (some (.int q.1)) q.2) (h0 : isK 9 x0 = true) (hd : 4 ≤ d) (hF : F_X9_lots_168 x0 x1 x3 x5 x6 y0 y1 y2 y3 σ = some y) (hK : (K_X9_lots_59 Δ Γ q x0 x1 y)) : V Δ Γ 9 168 [(0, rf Δ (x0)), (1, .int (x1)), (3, .long (x3)), (5, .int (x5)), (6, .int (x6))] [.int (y0), .int (y1), .int (y2), rf Δ (y3)] σ := by
  unfold F_X9_lots_168 at hF
  refine v_isub C dX9_lots_168 ?_
  obtain ⟨m26, g27, hF⟩ := bnd hF
  refine v_sI C g27 dX9_lots_169 ?_
  refine v_iinc C (_ + (1 : Int32)) 4 (ll' := [(6, _), (0, _), (1, _), (3, _), (5, _)]) dX9_lots_170 rfl (inc_eq (by decide)) (by decide) rfl ?_
  refine v_goto C 59 dX9_lots_173 (by decide) ?_
  refine v_sub [1, 2, 3, 4, 0] (ll' := [(0, _), (1, _), (3, _), (5, _), (6, _)]) rfl ?_
  cases hF
  exact hK
set_option maxRecDepth 20000 in
set_option maxHeartbeats 2000000 in
theorem W_X9_lots_59 {Δ : DD} {Γ : GG} {d : Nat} {q : (Int32 × Mem)} {x0 : Nat} {x1 : Int32} (C : Cx Δ Γ RX9 cX9_lots 9 d (some .int)) (hq : RetQ Δ Γ (some (.int q.1)) q.2) (h0 : isK 9 x0 = true) (hd : 4 ≤ d) {s : Int64 × Int32 × Int32 × Mem} (hF : F_X9_lots_59 x0 x1  s = some q) : V Δ Γ 9 59 [(0, rf Δ (x0)), (1, .int (x1)), (3, .long (s.1)), (5, .int (s.2.1)), (6, .int (s.2.2.1))] [] s.2.2.2 := by
  have hF : F_X9_lots_59 x0 x1  s = some q := hF
  refine lp_V (W := fun (s : Int64 × Int32 × Int32 × Mem) => V Δ Γ 9 59 [(0, rf Δ (x0)), (1, .int (x1)), (3, .long (s.1)), (5, .int (s.2.1)), (6, .int (s.2.2.1))] [] s.2.2.2) (K := fun t => t = q) (K' := K_X9_lots_59 Δ Γ q x0 x1 ) (fun _ h => h) (fun _ h => h) ?_ s q hF rfl
  clear hF
  intro s z hF hK
  refine v_iload C 6 4 dX9_lots_59 rfl ?_
  refine v_iload_n C 1 1 dX9_lots_61 rfl rfl ?_
  refine v_icmp_ge C 176 dX9_lots_62 (by decide) (fun c1 => ?_) (fun c1 => ?_)
  · have hF := ifp hF c1
    refine v_iload C 5 3 dX9_lots_176 rfl ?_
    cases hF
    exact v_iretF C hq hK dX9_lots_178
  · have hF := ifn hF c1
    refine v_lload_n C 3 2 dX9_lots_65 rfl rfl ?_
    refine v_ldc2 C (48271) kl_X9_230 dX9_lots_66 ?_
    refine v_lmul C dX9_lots_69 ?_
    refine v_ldc2 C (2147483647) kl_X9_232 dX9_lots_70 ?_
    refine v_lrem C dX9_lots_73 (by decide) ?_
    refine v_lstore_n C 3 (ll' := [(3, _), (0, _), (1, _), (5, _), (6, _)]) dX9_lots_74 rfl (by decide) rfl ?_
    refine v_lload_n C 3 0 dX9_lots_75 rfl rfl ?_
    refine v_ldc2 C (4) kl_X9_179 dX9_lots_76 ?_
    refine v_lrem C dX9_lots_79 (by decide) ?_
    refine v_l2i C dX9_lots_80 ?_
    refine v_istore C 7 (ll' := [(7, _), (3, _), (0, _), (1, _), (5, _), (6, _)]) dX9_lots_81 (by decide) rfl ?_
    refine v_lload_n C 3 1 dX9_lots_83 rfl rfl ?_
    refine v_ldc2 C (8) kl_X9_234 dX9_lots_84 ?_
    refine v_ldiv C dX9_lots_87 (by decide) ?_
    refine v_aload_n C 0 2 dX9_lots_88 rfl rfl ?_
    obtain ⟨p4, g3, hF⟩ := bnd hF
    refine v_gR C fu_X9_7 g3 dX9_lots_89 ?_
    refine v_iconst C (0) dX9_lots_92 (by decide) ?_
    obtain ⟨v5, g6, hF⟩ := bnd hF
    refine v_aI C g6 dX9_lots_93 ?_
    refine v_i2l C dX9_lots_94 ?_
    obtain ⟨_, g7, hF⟩ := bnd hF
    refine v_lrem C dX9_lots_95 (nzL_ne g7) ?_
    refine v_l2i C dX9_lots_96 ?_
    refine v_istore C 8 (ll' := [(8, _), (7, _), (3, _), (0, _), (1, _), (5, _), (6, _)]) dX9_lots_97 (by decide) rfl ?_
    refine v_aload_n C 0 3 dX9_lots_99 rfl rfl ?_
    obtain ⟨q9, g10, hF⟩ := bnd hF
    refine v_cVv C mw_X9_minds lk_X9_157 _ (M_X9_minds (by omega) h0 g10) h0 rfl rfl (Nat.le_of_ble_eq_true rfl) dX9_lots_100 ?_
    refine v_iload C 7 1 dX9_lots_103 rfl ?_
    refine v_iconst C (2) dX9_lots_105 (by decide) ?_
    refine v_icmp_ge C 118 dX9_lots_106 (by decide) (fun c11 => ?_) (fun c11 => ?_)
    · have hF := ifp hF c11
      refine v_iload C 7 1 dX9_lots_118 rfl ?_
      refine v_iconst C (2) dX9_lots_120 (by decide) ?_
      refine v_icmp_ne C 139 dX9_lots_121 (by decide) (fun c12 => ?_) (fun c12 => ?_)
      · have hF := ifn hF c12
        refine v_aload_n C 0 3 dX9_lots_139 rfl rfl ?_
        obtain ⟨p14, g13, hF⟩ := bnd hF
        refine v_gR C fu_X9_7 g13 dX9_lots_140 ?_
        refine v_bipush C (21) dX9_lots_143 (by decide) ?_
        refine v_iload C 8 0 dX9_lots_145 rfl ?_
        refine v_iadd C dX9_lots_147 ?_
        refine v_dup2 C dX9_lots_148 rfl rfl ?_
        obtain ⟨v15, g16, hF⟩ := bnd hF
        refine v_aI C g16 dX9_lots_149 ?_
        refine v_aload_n C 0 3 dX9_lots_150 rfl rfl ?_
        obtain ⟨p18, g17, hF⟩ := bnd hF
        refine v_gR C fu_X9_7 g17 dX9_lots_151 ?_
        refine v_bipush C (21) dX9_lots_154 (by decide) ?_
        refine v_iload C 8 0 dX9_lots_156 rfl ?_
        refine v_iadd C dX9_lots_158 ?_
        obtain ⟨v19, g20, hF⟩ := bnd hF
        refine v_aI C g20 dX9_lots_159 ?_
        refine v_if_le C 167 dX9_lots_160 (by decide) (fun c21 => ?_) (fun c21 => ?_)
        · have hF := ifp hF c21
          refine v_iconst C (0) dX9_lots_167 (by decide) ?_
          refine v_sub [3, 4, 2, 5, 6] (ll' := [(0, _), (1, _), (3, _), (5, _), (6, _)]) rfl ?_
          exact W_X9_lots_168 C hq h0 hd hF hK
        · have hF := ifn hF c21
          refine v_iconst C (1) dX9_lots_163 (by decide) ?_
          refine v_goto C 168 dX9_lots_164 (by decide) ?_
          refine v_sub [3, 4, 2, 5, 6] (ll' := [(0, _), (1, _), (3, _), (5, _), (6, _)]) rfl ?_
          exact W_X9_lots_168 C hq h0 hd hF hK
      · have hF := ifp hF c12
        refine v_iload C 5 5 dX9_lots_124 rfl ?_
        refine v_aload_n C 0 3 dX9_lots_126 rfl rfl ?_
        refine v_iconst C (0) dX9_lots_127 (by decide) ?_
        refine v_iload C 8 0 dX9_lots_128 rfl ?_
        obtain ⟨q22, g23, hF⟩ := bnd hF
        refine v_cVi C mw_X9_inspects lk_X9_163 _ (M_X9_inspects (by omega) h0 g23) h0 rfl rfl (Nat.le_of_ble_eq_true rfl) dX9_lots_130 ?_
        refine v_iadd C dX9_lots_133 ?_
        refine v_istore C 5 (ll' := [(5, _), (8, _), (7, _), (3, _), (0, _), (1, _), (6, _)]) dX9_lots_134 (by decide) rfl ?_
        refine v_goto C 170 dX9_lots_136 (by decide) ?_
        refine v_iinc C (_ + (1 : Int32)) 6 (ll' := [(6, _), (5, _), (8, _), (7, _), (3, _), (0, _), (1, _)]) dX9_lots_170 rfl (inc_eq (by decide)) (by decide) rfl ?_
        refine v_goto C 59 dX9_lots_173 (by decide) ?_
        refine v_sub [5, 6, 4, 1, 0] (ll' := [(0, _), (1, _), (3, _), (5, _), (6, _)]) rfl ?_
        cases hF
        exact hK
    · have hF := ifn hF c11
      refine v_aload_n C 0 3 dX9_lots_109 rfl rfl ?_
      refine v_iconst C (0) dX9_lots_110 (by decide) ?_
      obtain ⟨q24, g25, hF⟩ := bnd hF
      refine v_cVi C mw_X9_passes lk_X9_160 _ (M_X9_passes (by omega) h0 g25) h0 rfl rfl (Nat.le_of_ble_eq_true rfl) dX9_lots_111 ?_
      refine v_pop C dX9_lots_114 rfl ?_
      refine v_goto C 170 dX9_lots_115 (by decide) ?_
      refine v_iinc C (_ + (1 : Int32)) 6 (ll' := [(6, _), (8, _), (7, _), (3, _), (0, _), (1, _), (5, _)]) dX9_lots_170 rfl (inc_eq (by decide)) (by decide) rfl ?_
      refine v_goto C 59 dX9_lots_173 (by decide) ?_
      refine v_sub [4, 5, 3, 6, 0] (ll' := [(0, _), (1, _), (3, _), (5, _), (6, _)]) rfl ?_
      cases hF
      exact hK
set_option maxRecDepth 20000 in
set_option maxHeartbeats 2000000 in
theorem M_X9_lots {Δ : DD} {d : Nat} {x0 : Nat} {x1 : Int32} {x2 : Int32} {σ : Mem} {q : (Int32 × Mem)} (hd : 5 ≤ d) (h0 : isK 9 x0 = true) (hF : F_X9_lots x0 x1 x2 σ = some q) : Mt Δ d yX9_lots cX9_lots 9 (some .int) [rf Δ x0, .int x1, .int x2] σ (some (.int q.1)) q.2 := by
  obtain ⟨d, rfl⟩ : ∃ e, d = e + 1 := ⟨d - 1, by omega⟩
  have hd : 4 ≤ d := by omega
  refine mt_of (by decide) rfl (Nat.le_of_ble_eq_true rfl) (fun Γ C hq => ?_)
  unfold F_X9_lots at hF
  show V Δ Γ 9 0 [(0, rf Δ (x0)), (1, .int (x1)), (2, .int (x2))] [] σ
  refine v_iload_n C 1 1 dX9_lots_0 rfl rfl ?_
  refine v_i2l C dX9_lots_1 ?_
  refine v_lconst C 1 dX9_lots_2 (by decide) ?_
  refine v_ldc2 C (20) kl_X9_226 dX9_lots_3 ?_
  obtain ⟨q28, g29, hF⟩ := bnd hF
  refine v_cSi C mw_X9_in lk_X9_53 _ (M_X9_in (by omega) g29) rfl rfl (Nat.le_of_ble_eq_true rfl) dX9_lots_6 ?_
  refine v_if_eq C 24 dX9_lots_9 (by decide) (fun c30 => ?_) (fun c30 => ?_)
  · have hF := ifp hF c30
    refine v_iconst C (-1) dX9_lots_24 (by decide) ?_
    exact v_iretF C hq (Option.some.inj hF) dX9_lots_25
  · have hF := ifn hF c30
    refine v_iload_n C 2 2 dX9_lots_12 rfl rfl ?_
    refine v_i2l C dX9_lots_13 ?_
    refine v_lconst C 1 dX9_lots_14 (by decide) ?_
    refine v_ldc2 C (2147483646) kl_X9_228 dX9_lots_15 ?_
    obtain ⟨q31, g32, hF⟩ := bnd hF
    refine v_cSi C mw_X9_in lk_X9_53 _ (M_X9_in (by omega) g32) rfl rfl (Nat.le_of_ble_eq_true rfl) dX9_lots_18 ?_
    refine v_if_ne C 26 dX9_lots_21 (by decide) (fun c33 => ?_) (fun c33 => ?_)
    · have hF := ifn hF c33
      refine v_aload_n C 0 0 dX9_lots_26 rfl rfl ?_
      obtain ⟨q34, g35, hF⟩ := bnd hF
      refine v_cVi C mw_X9_isTown lk_X9_153 _ (M_X9_isTown (by omega) h0 g35) h0 rfl rfl (Nat.le_of_ble_eq_true rfl) dX9_lots_27 ?_
      refine v_if_ne C 36 dX9_lots_30 (by decide) (fun c36 => ?_) (fun c36 => ?_)
      · have hF := ifn hF c36
        refine v_aload_n C 0 0 dX9_lots_36 rfl rfl ?_
        obtain ⟨v38, g37, hF⟩ := bnd hF
        refine v_gI C fu_X9_117 g37 dX9_lots_37 ?_
        refine v_iload_n C 1 1 dX9_lots_40 rfl rfl ?_
        refine v_iadd C dX9_lots_41 ?_
        refine v_bipush C (40) dX9_lots_42 (by decide) ?_
        refine v_icmp_le C 50 dX9_lots_44 (by decide) (fun c39 => ?_) (fun c39 => ?_)
        · have hF := ifp hF c39
          refine v_iload_n C 2 2 dX9_lots_50 rfl rfl ?_
          refine v_i2l C dX9_lots_51 ?_
          refine v_lstore_n C 3 (ll' := [(3, _), (0, _), (1, _), (2, _)]) dX9_lots_52 rfl (by decide) rfl ?_
          refine v_iconst C (0) dX9_lots_53 (by decide) ?_
          refine v_istore C 5 (ll' := [(5, _), (3, _), (0, _), (1, _), (2, _)]) dX9_lots_54 (by decide) rfl ?_
          refine v_iconst C (0) dX9_lots_56 (by decide) ?_
          refine v_istore C 6 (ll' := [(6, _), (5, _), (3, _), (0, _), (1, _), (2, _)]) dX9_lots_57 (by decide) rfl ?_
          refine v_sub [3, 4, 2, 1, 0] (ll' := [(0, _), (1, _), (3, _), (5, _), (6, _)]) rfl ?_
          exact W_X9_lots_59 C hq h0 hd hF
        · have hF := ifn hF c39
          refine v_bipush C (-2) dX9_lots_47 (by decide) ?_
          exact v_iretF C hq (Option.some.inj hF) dX9_lots_49
      · have hF := ifp hF c36
        refine v_bipush C (-4) dX9_lots_33 (by decide) ?_
        exact v_iretF C hq (Option.some.inj hF) dX9_lots_35
    · have hF := ifp hF c33
      refine v_iconst C (-1) dX9_lots_24 (by decide) ?_
      exact v_iretF C hq (Option.some.inj hF) dX9_lots_25
set_option maxRecDepth 20000 in
set_option maxHeartbeats 2000000 in
theorem M_X9_asked {Δ : DD} {d : Nat} {x0 : Nat} {σ : Mem} {q : Int32} (hd : 1 ≤ d) (h0 : isK 9 x0 = true) (hF : F_X9_asked x0 σ = some q) : Mt Δ d yX9_asked cX9_asked 1 (some .int) [rf Δ x0] σ (some (.int q)) σ := by
  obtain ⟨d, rfl⟩ : ∃ e, d = e + 1 := ⟨d - 1, by omega⟩
  have hd : 0 ≤ d := by omega
  refine mt_of (by decide) rfl (Nat.le_of_ble_eq_true rfl) (fun Γ C hq => ?_)
  unfold F_X9_asked at hF
  show V Δ Γ 1 0 [(0, rf Δ (x0))] [] σ
  refine v_aload_n C 0 0 dX9_asked_0 rfl rfl ?_
  obtain ⟨v2, g1, hF⟩ := bnd hF
  refine v_gI C fu_X9_48 g1 dX9_asked_1 ?_
  exact v_iretP C hq (Option.some.inj hF) dX9_asked_4
set_option maxRecDepth 20000 in
set_option maxHeartbeats 2000000 in
theorem M_X9_upper {Δ : DD} {d : Nat} {x0 : Nat} {σ : Mem} {q : Int64} (hd : 1 ≤ d) (h0 : isK 9 x0 = true) (hF : F_X9_upper x0 σ = some q) : Mt Δ d yX9_upper cX9_upper 1 (some .long) [rf Δ x0] σ (some (.long q)) σ := by
  obtain ⟨d, rfl⟩ : ∃ e, d = e + 1 := ⟨d - 1, by omega⟩
  have hd : 0 ≤ d := by omega
  refine mt_of (by decide) rfl (Nat.le_of_ble_eq_true rfl) (fun Γ C hq => ?_)
  unfold F_X9_upper at hF
  show V Δ Γ 1 0 [(0, rf Δ (x0))] [] σ
  refine v_aload_n C 0 0 dX9_upper_0 rfl rfl ?_
  obtain ⟨v2, g1, hF⟩ := bnd hF
  refine v_gL C fu_X9_197 g1 dX9_upper_1 ?_
  exact v_lretP C hq (Option.some.inj hF) dX9_upper_4
set_option maxRecDepth 20000 in
set_option maxHeartbeats 2000000 in
theorem M_X9_lower {Δ : DD} {d : Nat} {x0 : Nat} {σ : Mem} {q : Int64} (hd : 1 ≤ d) (h0 : isK 9 x0 = true) (hF : F_X9_lower x0 σ = some q) : Mt Δ d yX9_lower cX9_lower 1 (some .long) [rf Δ x0] σ (some (.long q)) σ := by
  obtain ⟨d, rfl⟩ : ∃ e, d = e + 1 := ⟨d - 1, by omega⟩
  have hd : 0 ≤ d := by omega
  refine mt_of (by decide) rfl (Nat.le_of_ble_eq_true rfl) (fun Γ C hq => ?_)
  unfold F_X9_lower at hF
  show V Δ Γ 1 0 [(0, rf Δ (x0))] [] σ
  refine v_aload_n C 0 0 dX9_lower_0 rfl rfl ?_
  obtain ⟨v2, g1, hF⟩ := bnd hF
  refine v_gL C fu_X9_34 g1 dX9_lower_1 ?_
  exact v_lretP C hq (Option.some.inj hF) dX9_lower_4
def K_X9_countOf_84 (Δ : DD) (Γ : GG) (q : Int32) (x0 : Nat) (σ : Mem) (y : (Int32 × Int32) ⊕ Int32) : Prop := match y with
  | .inl s => V Δ Γ 4 84 [(0, rf Δ (x0)), (2, .int (s.1)), (3, .int (s.2))] [] σ
  | .inr t => (t = q)
def K_X9_countOf_149 (Δ : DD) (Γ : GG) (q : Int32) (x0 : Nat) (σ : Mem) (y : (Int32 × Int32) ⊕ Int32) : Prop := match y with
  | .inl s => V Δ Γ 4 149 [(0, rf Δ (x0)), (2, .int (s.1)), (3, .int (s.2))] [] σ
  | .inr t => (t = q)
def K_X9_countOf_201 (Δ : DD) (Γ : GG) (q : Int32) (x0 : Nat) (σ : Mem) (y : (Int32 × Int32) ⊕ Int32) : Prop := match y with
  | .inl s => V Δ Γ 4 201 [(0, rf Δ (x0)), (2, .int (s.1)), (3, .int (s.2))] [] σ
  | .inr t => (t = q)
def K_X9_countOf_234 (Δ : DD) (Γ : GG) (q : Int32) (x0 : Nat) (σ : Mem) (y : (Int32 × Int32) ⊕ Int32) : Prop := match y with
  | .inl s => V Δ Γ 4 234 [(0, rf Δ (x0)), (2, .int (s.1)), (3, .int (s.2))] [] σ
  | .inr t => (t = q)
def K_X9_countOf_266 (Δ : DD) (Γ : GG) (q : Int32) (x0 : Nat) (σ : Mem) (y : (Int32 × Int32) ⊕ Int32) : Prop := match y with
  | .inl s => V Δ Γ 4 266 [(0, rf Δ (x0)), (2, .int (s.1)), (3, .int (s.2))] [] σ
  | .inr t => (t = q)
set_option maxRecDepth 20000 in
set_option maxHeartbeats 2000000 in
theorem W_X9_countOf_84 {Δ : DD} {Γ : GG} {d : Nat} {q : Int32} {x0 : Nat} {σ : Mem} (C : Cx Δ Γ RX9 cX9_countOf 4 d (some .int)) (hq : RetQ Δ Γ (some (.int q)) σ) (h0 : isK 9 x0 = true) (hd : 2 ≤ d) {s : Int32 × Int32} (hF : F_X9_countOf_84 x0 σ s = some q) : V Δ Γ 4 84 [(0, rf Δ (x0)), (2, .int (s.1)), (3, .int (s.2))] [] σ := by
  have hF : F_X9_countOf_84 x0 σ s = some q := hF
  refine lp_V (W := fun (s : Int32 × Int32) => V Δ Γ 4 84 [(0, rf Δ (x0)), (2, .int (s.1)), (3, .int (s.2))] [] σ) (K := fun t => t = q) (K' := K_X9_countOf_84 Δ Γ q x0 σ) (fun _ h => h) (fun _ h => h) ?_ s q hF rfl
  clear hF
  intro s z hF hK
  refine v_iload_n C 3 2 dX9_countOf_84 rfl rfl ?_
  refine v_aload_n C 0 0 dX9_countOf_85 rfl rfl ?_
  obtain ⟨p2, g1, hF⟩ := bnd hF
  refine v_gR C fu_X9_7 g1 dX9_countOf_86 ?_
  refine v_iconst C (0) dX9_countOf_89 (by decide) ?_
  obtain ⟨v3, g4, hF⟩ := bnd hF
  refine v_aI C g4 dX9_countOf_90 ?_
  refine v_icmp_ge C 112 dX9_countOf_91 (by decide) (fun c5 => ?_) (fun c5 => ?_)
  · have hF := ifp hF c5
    refine v_iload_n C 2 1 dX9_countOf_112 rfl rfl ?_
    cases hF
    exact v_iretP C hq hK dX9_countOf_113
  · have hF := ifn hF c5
    refine v_iload_n C 2 1 dX9_countOf_94 rfl rfl ?_
    refine v_aload_n C 0 0 dX9_countOf_95 rfl rfl ?_
    obtain ⟨p7, g6, hF⟩ := bnd hF
    refine v_gR C fu_X9_7 g6 dX9_countOf_96 ?_
    refine v_bipush C (27) dX9_countOf_99 (by decide) ?_
    refine v_iload_n C 3 2 dX9_countOf_101 rfl rfl ?_
    refine v_iadd C dX9_countOf_102 ?_
    obtain ⟨v8, g9, hF⟩ := bnd hF
    refine v_aI C g9 dX9_countOf_103 ?_
    refine v_iadd C dX9_countOf_104 ?_
    refine v_istore_n C 2 (ll' := [(2, _), (0, _), (3, _)]) dX9_countOf_105 rfl (by decide) rfl ?_
    refine v_iinc C (_ + (1 : Int32)) 2 (ll' := [(3, _), (2, _), (0, _)]) dX9_countOf_106 rfl (inc_eq (by decide)) (by decide) rfl ?_
    refine v_goto C 84 dX9_countOf_109 (by decide) ?_
    refine v_sub [2, 1, 0] (ll' := [(0, _), (2, _), (3, _)]) rfl ?_
    cases hF
    exact hK
set_option maxRecDepth 20000 in
set_option maxHeartbeats 2000000 in
theorem W_X9_countOf_189 {Δ : DD} {Γ : GG} {d : Nat} {q : Int32} {x0 : Nat} {x3 : Int32} {y0 : Int32} {y1 : Int32} {σ : Mem} {y : ((Int32 × Int32) ⊕ Int32)} (C : Cx Δ Γ RX9 cX9_countOf 4 d (some .int)) (hq : RetQ Δ Γ (some (.int q)) σ) (h0 : isK 9 x0 = true) (hd : 2 ≤ d) (hF : F_X9_countOf_189 x0 x3 y0 y1 σ = some y) (hK : (K_X9_countOf_149 Δ Γ q x0 σ y)) : V Δ Γ 4 189 [(0, rf Δ (x0)), (3, .int (x3))] [.int (y0), .int (y1)] σ := by
  unfold F_X9_countOf_189 at hF
  refine v_iadd C dX9_countOf_189 ?_
  refine v_istore_n C 2 (ll' := [(2, _), (0, _), (3, _)]) dX9_countOf_190 rfl (by decide) rfl ?_
  refine v_iinc C (_ + (1 : Int32)) 2 (ll' := [(3, _), (2, _), (0, _)]) dX9_countOf_191 rfl (inc_eq (by decide)) (by decide) rfl ?_
  refine v_goto C 149 dX9_countOf_194 (by decide) ?_
  refine v_sub [2, 1, 0] (ll' := [(0, _), (2, _), (3, _)]) rfl ?_
  cases hF
  exact hK
set_option maxRecDepth 20000 in
set_option maxHeartbeats 2000000 in
theorem W_X9_countOf_184 {Δ : DD} {Γ : GG} {d : Nat} {q : Int32} {x0 : Nat} {x3 : Int32} {y0 : Int32} {σ : Mem} {y : ((Int32 × Int32) ⊕ Int32)} (C : Cx Δ Γ RX9 cX9_countOf 4 d (some .int)) (hq : RetQ Δ Γ (some (.int q)) σ) (h0 : isK 9 x0 = true) (hd : 2 ≤ d) (hF : F_X9_countOf_184 x0 x3 y0 σ = some y) (hK : (K_X9_countOf_149 Δ Γ q x0 σ y)) : V Δ Γ 4 184 [(0, rf Δ (x0)), (3, .int (x3))] [.int (y0)] σ := by
  unfold F_X9_countOf_184 at hF
  refine v_iconst C (1) dX9_countOf_184 (by decide) ?_
  refine v_goto C 189 dX9_countOf_185 (by decide) ?_
  exact W_X9_countOf_189 C hq h0 hd hF hK
set_option maxRecDepth 20000 in
set_option maxHeartbeats 2000000 in
theorem W_X9_countOf_149 {Δ : DD} {Γ : GG} {d : Nat} {q : Int32} {x0 : Nat} {σ : Mem} (C : Cx Δ Γ RX9 cX9_countOf 4 d (some .int)) (hq : RetQ Δ Γ (some (.int q)) σ) (h0 : isK 9 x0 = true) (hd : 2 ≤ d) {s : Int32 × Int32} (hF : F_X9_countOf_149 x0 σ s = some q) : V Δ Γ 4 149 [(0, rf Δ (x0)), (2, .int (s.1)), (3, .int (s.2))] [] σ := by
  have hF : F_X9_countOf_149 x0 σ s = some q := hF
  refine lp_V (W := fun (s : Int32 × Int32) => V Δ Γ 4 149 [(0, rf Δ (x0)), (2, .int (s.1)), (3, .int (s.2))] [] σ) (K := fun t => t = q) (K' := K_X9_countOf_149 Δ Γ q x0 σ) (fun _ h => h) (fun _ h => h) ?_ s q hF rfl
  clear hF
  intro s z hF hK
  refine v_iload_n C 3 2 dX9_countOf_149 rfl rfl ?_
  refine v_aload_n C 0 0 dX9_countOf_150 rfl rfl ?_
  obtain ⟨p11, g10, hF⟩ := bnd hF
  refine v_gR C fu_X9_7 g10 dX9_countOf_151 ?_
  refine v_iconst C (0) dX9_countOf_154 (by decide) ?_
  obtain ⟨v12, g13, hF⟩ := bnd hF
  refine v_aI C g13 dX9_countOf_155 ?_
  refine v_icmp_ge C 197 dX9_countOf_156 (by decide) (fun c14 => ?_) (fun c14 => ?_)
  · have hF := ifp hF c14
    refine v_iload_n C 2 1 dX9_countOf_197 rfl rfl ?_
    cases hF
    exact v_iretP C hq hK dX9_countOf_198
  · have hF := ifn hF c14
    refine v_iload_n C 2 1 dX9_countOf_159 rfl rfl ?_
    refine v_aload_n C 0 0 dX9_countOf_160 rfl rfl ?_
    obtain ⟨p16, g15, hF⟩ := bnd hF
    refine v_gR C fu_X9_7 g15 dX9_countOf_161 ?_
    refine v_iconst C (3) dX9_countOf_164 (by decide) ?_
    refine v_iload_n C 3 2 dX9_countOf_165 rfl rfl ?_
    refine v_iadd C dX9_countOf_166 ?_
    obtain ⟨v17, g18, hF⟩ := bnd hF
    refine v_aI C g18 dX9_countOf_167 ?_
    refine v_iconst C (2) dX9_countOf_168 (by decide) ?_
    refine v_icmp_eq C 184 dX9_countOf_169 (by decide) (fun c19 => ?_) (fun c19 => ?_)
    · have hF := ifp hF c19
      refine v_sub [0, 2] (ll' := [(0, _), (3, _)]) rfl ?_
      exact W_X9_countOf_184 C hq h0 hd hF hK
    · have hF := ifn hF c19
      refine v_aload_n C 0 0 dX9_countOf_172 rfl rfl ?_
      obtain ⟨p21, g20, hF⟩ := bnd hF
      refine v_gR C fu_X9_7 g20 dX9_countOf_173 ?_
      refine v_iconst C (3) dX9_countOf_176 (by decide) ?_
      refine v_iload_n C 3 2 dX9_countOf_177 rfl rfl ?_
      refine v_iadd C dX9_countOf_178 ?_
      obtain ⟨v22, g23, hF⟩ := bnd hF
      refine v_aI C g23 dX9_countOf_179 ?_
      refine v_iconst C (4) dX9_countOf_180 (by decide) ?_
      refine v_icmp_ne C 188 dX9_countOf_181 (by decide) (fun c24 => ?_) (fun c24 => ?_)
      · have hF := ifn hF c24
        refine v_iconst C (0) dX9_countOf_188 (by decide) ?_
        refine v_sub [0, 2] (ll' := [(0, _), (3, _)]) rfl ?_
        exact W_X9_countOf_189 C hq h0 hd hF hK
      · have hF := ifp hF c24
        refine v_sub [0, 2] (ll' := [(0, _), (3, _)]) rfl ?_
        exact W_X9_countOf_184 C hq h0 hd hF hK
set_option maxRecDepth 20000 in
set_option maxHeartbeats 2000000 in
theorem W_X9_countOf_222 {Δ : DD} {Γ : GG} {d : Nat} {q : Int32} {x0 : Nat} {x3 : Int32} {y0 : Int32} {y1 : Int32} {σ : Mem} {y : ((Int32 × Int32) ⊕ Int32)} (C : Cx Δ Γ RX9 cX9_countOf 4 d (some .int)) (hq : RetQ Δ Γ (some (.int q)) σ) (h0 : isK 9 x0 = true) (hd : 2 ≤ d) (hF : F_X9_countOf_222 x0 x3 y0 y1 σ = some y) (hK : (K_X9_countOf_201 Δ Γ q x0 σ y)) : V Δ Γ 4 222 [(0, rf Δ (x0)), (3, .int (x3))] [.int (y0), .int (y1)] σ := by
  unfold F_X9_countOf_222 at hF
  refine v_iadd C dX9_countOf_222 ?_
  refine v_istore_n C 2 (ll' := [(2, _), (0, _), (3, _)]) dX9_countOf_223 rfl (by decide) rfl ?_
  refine v_iinc C (_ + (1 : Int32)) 2 (ll' := [(3, _), (2, _), (0, _)]) dX9_countOf_224 rfl (inc_eq (by decide)) (by decide) rfl ?_
  refine v_goto C 201 dX9_countOf_227 (by decide) ?_
  refine v_sub [2, 1, 0] (ll' := [(0, _), (2, _), (3, _)]) rfl ?_
  cases hF
  exact hK
set_option maxRecDepth 20000 in
set_option maxHeartbeats 2000000 in
theorem W_X9_countOf_201 {Δ : DD} {Γ : GG} {d : Nat} {q : Int32} {x0 : Nat} {σ : Mem} (C : Cx Δ Γ RX9 cX9_countOf 4 d (some .int)) (hq : RetQ Δ Γ (some (.int q)) σ) (h0 : isK 9 x0 = true) (hd : 2 ≤ d) {s : Int32 × Int32} (hF : F_X9_countOf_201 x0 σ s = some q) : V Δ Γ 4 201 [(0, rf Δ (x0)), (2, .int (s.1)), (3, .int (s.2))] [] σ := by
  have hF : F_X9_countOf_201 x0 σ s = some q := hF
  refine lp_V (W := fun (s : Int32 × Int32) => V Δ Γ 4 201 [(0, rf Δ (x0)), (2, .int (s.1)), (3, .int (s.2))] [] σ) (K := fun t => t = q) (K' := K_X9_countOf_201 Δ Γ q x0 σ) (fun _ h => h) (fun _ h => h) ?_ s q hF rfl
  clear hF
  intro s z hF hK
  refine v_iload_n C 3 2 dX9_countOf_201 rfl rfl ?_
  refine v_bipush C (6) dX9_countOf_202 (by decide) ?_
  refine v_icmp_ge C 230 dX9_countOf_204 (by decide) (fun c25 => ?_) (fun c25 => ?_)
  · have hF := ifp hF c25
    refine v_iload_n C 2 1 dX9_countOf_230 rfl rfl ?_
    cases hF
    exact v_iretP C hq hK dX9_countOf_231
  · have hF := ifn hF c25
    refine v_iload_n C 2 1 dX9_countOf_207 rfl rfl ?_
    refine v_aload_n C 0 0 dX9_countOf_208 rfl rfl ?_
    obtain ⟨p27, g26, hF⟩ := bnd hF
    refine v_gR C fu_X9_19 g26 dX9_countOf_209 ?_
    refine v_iload_n C 3 2 dX9_countOf_212 rfl rfl ?_
    obtain ⟨v28, g29, hF⟩ := bnd hF
    refine v_aI C g29 dX9_countOf_213 ?_
    refine v_if_ge C 221 dX9_countOf_214 (by decide) (fun c30 => ?_) (fun c30 => ?_)
    · have hF := ifp hF c30
      refine v_iconst C (1) dX9_countOf_221 (by decide) ?_
      refine v_sub [0, 2] (ll' := [(0, _), (3, _)]) rfl ?_
      exact W_X9_countOf_222 C hq h0 hd hF hK
    · have hF := ifn hF c30
      refine v_iconst C (0) dX9_countOf_217 (by decide) ?_
      refine v_goto C 222 dX9_countOf_218 (by decide) ?_
      refine v_sub [0, 2] (ll' := [(0, _), (3, _)]) rfl ?_
      exact W_X9_countOf_222 C hq h0 hd hF hK
set_option maxRecDepth 20000 in
set_option maxHeartbeats 2000000 in
theorem W_X9_countOf_254 {Δ : DD} {Γ : GG} {d : Nat} {q : Int32} {x0 : Nat} {x3 : Int32} {y0 : Int32} {y1 : Int32} {σ : Mem} {y : ((Int32 × Int32) ⊕ Int32)} (C : Cx Δ Γ RX9 cX9_countOf 4 d (some .int)) (hq : RetQ Δ Γ (some (.int q)) σ) (h0 : isK 9 x0 = true) (hd : 2 ≤ d) (hF : F_X9_countOf_254 x0 x3 y0 y1 σ = some y) (hK : (K_X9_countOf_234 Δ Γ q x0 σ y)) : V Δ Γ 4 254 [(0, rf Δ (x0)), (3, .int (x3))] [.int (y0), .int (y1)] σ := by
  unfold F_X9_countOf_254 at hF
  refine v_iadd C dX9_countOf_254 ?_
  refine v_istore_n C 2 (ll' := [(2, _), (0, _), (3, _)]) dX9_countOf_255 rfl (by decide) rfl ?_
  refine v_iinc C (_ + (1 : Int32)) 2 (ll' := [(3, _), (2, _), (0, _)]) dX9_countOf_256 rfl (inc_eq (by decide)) (by decide) rfl ?_
  refine v_goto C 234 dX9_countOf_259 (by decide) ?_
  refine v_sub [2, 1, 0] (ll' := [(0, _), (2, _), (3, _)]) rfl ?_
  cases hF
  exact hK
set_option maxRecDepth 20000 in
set_option maxHeartbeats 2000000 in
theorem W_X9_countOf_234 {Δ : DD} {Γ : GG} {d : Nat} {q : Int32} {x0 : Nat} {σ : Mem} (C : Cx Δ Γ RX9 cX9_countOf 4 d (some .int)) (hq : RetQ Δ Γ (some (.int q)) σ) (h0 : isK 9 x0 = true) (hd : 2 ≤ d) {s : Int32 × Int32} (hF : F_X9_countOf_234 x0 σ s = some q) : V Δ Γ 4 234 [(0, rf Δ (x0)), (2, .int (s.1)), (3, .int (s.2))] [] σ := by
  have hF : F_X9_countOf_234 x0 σ s = some q := hF
  refine lp_V (W := fun (s : Int32 × Int32) => V Δ Γ 4 234 [(0, rf Δ (x0)), (2, .int (s.1)), (3, .int (s.2))] [] σ) (K := fun t => t = q) (K' := K_X9_countOf_234 Δ Γ q x0 σ) (fun _ h => h) (fun _ h => h) ?_ s q hF rfl
  clear hF
  intro s z hF hK
  refine v_iload_n C 3 2 dX9_countOf_234 rfl rfl ?_
  refine v_iconst C (4) dX9_countOf_235 (by decide) ?_
  refine v_icmp_ge C 262 dX9_countOf_236 (by decide) (fun c31 => ?_) (fun c31 => ?_)
  · have hF := ifp hF c31
    refine v_iload_n C 2 1 dX9_countOf_262 rfl rfl ?_
    cases hF
    exact v_iretP C hq hK dX9_countOf_263
  · have hF := ifn hF c31
    refine v_iload_n C 2 1 dX9_countOf_239 rfl rfl ?_
    refine v_aload_n C 0 0 dX9_countOf_240 rfl rfl ?_
    obtain ⟨p33, g32, hF⟩ := bnd hF
    refine v_gR C fu_X9_25 g32 dX9_countOf_241 ?_
    refine v_iload_n C 3 2 dX9_countOf_244 rfl rfl ?_
    obtain ⟨v34, g35, hF⟩ := bnd hF
    refine v_aI C g35 dX9_countOf_245 ?_
    refine v_if_ge C 253 dX9_countOf_246 (by decide) (fun c36 => ?_) (fun c36 => ?_)
    · have hF := ifp hF c36
      refine v_iconst C (1) dX9_countOf_253 (by decide) ?_
      refine v_sub [0, 2] (ll' := [(0, _), (3, _)]) rfl ?_
      exact W_X9_countOf_254 C hq h0 hd hF hK
    · have hF := ifn hF c36
      refine v_iconst C (0) dX9_countOf_249 (by decide) ?_
      refine v_goto C 254 dX9_countOf_250 (by decide) ?_
      refine v_sub [0, 2] (ll' := [(0, _), (3, _)]) rfl ?_
      exact W_X9_countOf_254 C hq h0 hd hF hK
set_option maxRecDepth 20000 in
set_option maxHeartbeats 2000000 in
theorem W_X9_countOf_286 {Δ : DD} {Γ : GG} {d : Nat} {q : Int32} {x0 : Nat} {x3 : Int32} {y0 : Int32} {y1 : Int32} {σ : Mem} {y : ((Int32 × Int32) ⊕ Int32)} (C : Cx Δ Γ RX9 cX9_countOf 4 d (some .int)) (hq : RetQ Δ Γ (some (.int q)) σ) (h0 : isK 9 x0 = true) (hd : 2 ≤ d) (hF : F_X9_countOf_286 x0 x3 y0 y1 σ = some y) (hK : (K_X9_countOf_266 Δ Γ q x0 σ y)) : V Δ Γ 4 286 [(0, rf Δ (x0)), (3, .int (x3))] [.int (y0), .int (y1)] σ := by
  unfold F_X9_countOf_286 at hF
  refine v_iadd C dX9_countOf_286 ?_
  refine v_istore_n C 2 (ll' := [(2, _), (0, _), (3, _)]) dX9_countOf_287 rfl (by decide) rfl ?_
  refine v_iinc C (_ + (1 : Int32)) 2 (ll' := [(3, _), (2, _), (0, _)]) dX9_countOf_288 rfl (inc_eq (by decide)) (by decide) rfl ?_
  refine v_goto C 266 dX9_countOf_291 (by decide) ?_
  refine v_sub [2, 1, 0] (ll' := [(0, _), (2, _), (3, _)]) rfl ?_
  cases hF
  exact hK
set_option maxRecDepth 20000 in
set_option maxHeartbeats 2000000 in
theorem W_X9_countOf_266 {Δ : DD} {Γ : GG} {d : Nat} {q : Int32} {x0 : Nat} {σ : Mem} (C : Cx Δ Γ RX9 cX9_countOf 4 d (some .int)) (hq : RetQ Δ Γ (some (.int q)) σ) (h0 : isK 9 x0 = true) (hd : 2 ≤ d) {s : Int32 × Int32} (hF : F_X9_countOf_266 x0 σ s = some q) : V Δ Γ 4 266 [(0, rf Δ (x0)), (2, .int (s.1)), (3, .int (s.2))] [] σ := by
  have hF : F_X9_countOf_266 x0 σ s = some q := hF
  refine lp_V (W := fun (s : Int32 × Int32) => V Δ Γ 4 266 [(0, rf Δ (x0)), (2, .int (s.1)), (3, .int (s.2))] [] σ) (K := fun t => t = q) (K' := K_X9_countOf_266 Δ Γ q x0 σ) (fun _ h => h) (fun _ h => h) ?_ s q hF rfl
  clear hF
  intro s z hF hK
  refine v_iload_n C 3 2 dX9_countOf_266 rfl rfl ?_
  refine v_iconst C (3) dX9_countOf_267 (by decide) ?_
  refine v_icmp_ge C 294 dX9_countOf_268 (by decide) (fun c37 => ?_) (fun c37 => ?_)
  · have hF := ifp hF c37
    refine v_iload_n C 2 1 dX9_countOf_294 rfl rfl ?_
    cases hF
    exact v_iretP C hq hK dX9_countOf_295
  · have hF := ifn hF c37
    refine v_iload_n C 2 1 dX9_countOf_271 rfl rfl ?_
    refine v_aload_n C 0 0 dX9_countOf_272 rfl rfl ?_
    obtain ⟨p39, g38, hF⟩ := bnd hF
    refine v_gR C fu_X9_13 g38 dX9_countOf_273 ?_
    refine v_iload_n C 3 2 dX9_countOf_276 rfl rfl ?_
    obtain ⟨v40, g41, hF⟩ := bnd hF
    refine v_aI C g41 dX9_countOf_277 ?_
    refine v_if_ge C 285 dX9_countOf_278 (by decide) (fun c42 => ?_) (fun c42 => ?_)
    · have hF := ifp hF c42
      refine v_iconst C (1) dX9_countOf_285 (by decide) ?_
      refine v_sub [0, 2] (ll' := [(0, _), (3, _)]) rfl ?_
      exact W_X9_countOf_286 C hq h0 hd hF hK
    · have hF := ifn hF c42
      refine v_iconst C (0) dX9_countOf_281 (by decide) ?_
      refine v_goto C 286 dX9_countOf_282 (by decide) ?_
      refine v_sub [0, 2] (ll' := [(0, _), (3, _)]) rfl ?_
      exact W_X9_countOf_286 C hq h0 hd hF hK
set_option maxRecDepth 20000 in
set_option maxHeartbeats 2000000 in
theorem M_X9_countOf {Δ : DD} {d : Nat} {x0 : Nat} {x1 : Int32} {σ : Mem} {q : Int32} (hd : 3 ≤ d) (h0 : isK 9 x0 = true) (hF : F_X9_countOf x0 x1 σ = some q) : Mt Δ d yX9_countOf cX9_countOf 4 (some .int) [rf Δ x0, .int x1] σ (some (.int q)) σ := by
  obtain ⟨d, rfl⟩ : ∃ e, d = e + 1 := ⟨d - 1, by omega⟩
  have hd : 2 ≤ d := by omega
  refine mt_of (by decide) rfl (Nat.le_of_ble_eq_true rfl) (fun Γ C hq => ?_)
  unfold F_X9_countOf at hF
  show V Δ Γ 4 0 [(0, rf Δ (x0)), (1, .int (x1))] [] σ
  refine v_iconst C (0) dX9_countOf_0 (by decide) ?_
  refine v_istore_n C 2 (ll' := [(2, _), (0, _), (1, _)]) dX9_countOf_1 rfl (by decide) rfl ?_
  refine v_iload_n C 1 2 dX9_countOf_2 rfl rfl ?_
  rcases ifc hF with ⟨c43, hF⟩ | ⟨c43, hF⟩
  · refine v_tableEq C 56 (0) (53) dX9_countOf_3 c43 (by decide) (by decide) (by decide) (by decide) ?_
    refine v_aload_n C 0 1 dX9_countOf_56 rfl rfl ?_
    obtain ⟨p45, g44, hF⟩ := bnd hF
    refine v_gR C fu_X9_7 g44 dX9_countOf_57 ?_
    refine v_iconst C (0) dX9_countOf_60 (by decide) ?_
    obtain ⟨v46, g47, hF⟩ := bnd hF
    refine v_aI C g47 dX9_countOf_61 ?_
    exact v_iretP C hq (Option.some.inj hF) dX9_countOf_62
  · skip
    rcases ifc hF with ⟨c48, hF⟩ | ⟨c48, hF⟩
    · refine v_tableEq C 63 (1) (60) dX9_countOf_3 c48 (by decide) (by decide) (by decide) (by decide) ?_
      refine v_aload_n C 0 1 dX9_countOf_63 rfl rfl ?_
      obtain ⟨p50, g49, hF⟩ := bnd hF
      refine v_gR C fu_X9_7 g49 dX9_countOf_64 ?_
      refine v_iconst C (1) dX9_countOf_67 (by decide) ?_
      obtain ⟨v51, g52, hF⟩ := bnd hF
      refine v_aI C g52 dX9_countOf_68 ?_
      exact v_iretP C hq (Option.some.inj hF) dX9_countOf_69
    · skip
      rcases ifc hF with ⟨c53, hF⟩ | ⟨c53, hF⟩
      · refine v_tableEq C 70 (2) (67) dX9_countOf_3 c53 (by decide) (by decide) (by decide) (by decide) ?_
        refine v_aload_n C 0 1 dX9_countOf_70 rfl rfl ?_
        obtain ⟨v55, g54, hF⟩ := bnd hF
        refine v_gI C fu_X9_117 g54 dX9_countOf_71 ?_
        exact v_iretP C hq (Option.some.inj hF) dX9_countOf_74
      · skip
        rcases ifc hF with ⟨c56, hF⟩ | ⟨c56, hF⟩
        · refine v_tableEq C 75 (3) (72) dX9_countOf_3 c56 (by decide) (by decide) (by decide) (by decide) ?_
          refine v_aload_n C 0 1 dX9_countOf_75 rfl rfl ?_
          obtain ⟨p58, g57, hF⟩ := bnd hF
          refine v_gR C fu_X9_7 g57 dX9_countOf_76 ?_
          refine v_iconst C (2) dX9_countOf_79 (by decide) ?_
          obtain ⟨v59, g60, hF⟩ := bnd hF
          refine v_aI C g60 dX9_countOf_80 ?_
          exact v_iretP C hq (Option.some.inj hF) dX9_countOf_81
        · skip
          rcases ifc hF with ⟨c61, hF⟩ | ⟨c61, hF⟩
          · refine v_tableEq C 82 (4) (79) dX9_countOf_3 c61 (by decide) (by decide) (by decide) (by decide) ?_
            refine v_iconst C (0) dX9_countOf_82 (by decide) ?_
            refine v_istore_n C 3 (ll' := [(3, _), (2, _), (0, _), (1, _)]) dX9_countOf_83 rfl (by decide) rfl ?_
            refine v_sub [2, 1, 0] (ll' := [(0, _), (2, _), (3, _)]) rfl ?_
            exact W_X9_countOf_84 C hq h0 hd hF
          · skip
            rcases ifc hF with ⟨c62, hF⟩ | ⟨c62, hF⟩
            · refine v_tableEq C 114 (5) (111) dX9_countOf_3 c62 (by decide) (by decide) (by decide) (by decide) ?_
              refine v_aload_n C 0 1 dX9_countOf_114 rfl rfl ?_
              obtain ⟨q63, g64, hF⟩ := bnd hF
              refine v_cVi C mw_X9_dueNow lk_X9_210 _ (M_X9_dueNow (by omega) h0 g64) h0 rfl rfl (Nat.le_of_ble_eq_true rfl) dX9_countOf_115 ?_
              exact v_iretP C hq (Option.some.inj hF) dX9_countOf_118
            · skip
              rcases ifc hF with ⟨c65, hF⟩ | ⟨c65, hF⟩
              · refine v_tableEq C 119 (6) (116) dX9_countOf_3 c65 (by decide) (by decide) (by decide) (by decide) ?_
                refine v_aload_n C 0 1 dX9_countOf_119 rfl rfl ?_
                obtain ⟨q66, g67, hF⟩ := bnd hF
                refine v_cVi C mw_X9_isTown lk_X9_153 _ (M_X9_isTown (by omega) h0 g67) h0 rfl rfl (Nat.le_of_ble_eq_true rfl) dX9_countOf_120 ?_
                refine v_if_eq C 145 dX9_countOf_123 (by decide) (fun c68 => ?_) (fun c68 => ?_)
                · have hF := ifp hF c68
                  refine v_iconst C (0) dX9_countOf_145 (by decide) ?_
                  exact v_iretP C hq (Option.some.inj hF) dX9_countOf_146
                · have hF := ifn hF c68
                  refine v_aload_n C 0 1 dX9_countOf_126 rfl rfl ?_
                  obtain ⟨p70, g69, hF⟩ := bnd hF
                  refine v_gR C fu_X9_7 g69 dX9_countOf_127 ?_
                  refine v_bipush C (39) dX9_countOf_130 (by decide) ?_
                  refine v_aload_n C 0 1 dX9_countOf_132 rfl rfl ?_
                  obtain ⟨p72, g71, hF⟩ := bnd hF
                  refine v_gR C fu_X9_7 g71 dX9_countOf_133 ?_
                  refine v_iconst C (1) dX9_countOf_136 (by decide) ?_
                  obtain ⟨v73, g74, hF⟩ := bnd hF
                  refine v_aI C g74 dX9_countOf_137 ?_
                  refine v_iconst C (4) dX9_countOf_138 (by decide) ?_
                  refine v_irem C dX9_countOf_139 (by decide) ?_
                  refine v_iadd C dX9_countOf_140 ?_
                  obtain ⟨v75, g76, hF⟩ := bnd hF
                  refine v_aI C g76 dX9_countOf_141 ?_
                  refine v_goto C 146 dX9_countOf_142 (by decide) ?_
                  exact v_iretP C hq (Option.some.inj hF) dX9_countOf_146
              · skip
                rcases ifc hF with ⟨c77, hF⟩ | ⟨c77, hF⟩
                · refine v_tableEq C 147 (7) (144) dX9_countOf_3 c77 (by decide) (by decide) (by decide) (by decide) ?_
                  refine v_iconst C (0) dX9_countOf_147 (by decide) ?_
                  refine v_istore_n C 3 (ll' := [(3, _), (2, _), (0, _), (1, _)]) dX9_countOf_148 rfl (by decide) rfl ?_
                  refine v_sub [2, 1, 0] (ll' := [(0, _), (2, _), (3, _)]) rfl ?_
                  exact W_X9_countOf_149 C hq h0 hd hF
                · skip
                  rcases ifc hF with ⟨c78, hF⟩ | ⟨c78, hF⟩
                  · refine v_tableEq C 199 (8) (196) dX9_countOf_3 c78 (by decide) (by decide) (by decide) (by decide) ?_
                    refine v_iconst C (0) dX9_countOf_199 (by decide) ?_
                    refine v_istore_n C 3 (ll' := [(3, _), (2, _), (0, _), (1, _)]) dX9_countOf_200 rfl (by decide) rfl ?_
                    refine v_sub [2, 1, 0] (ll' := [(0, _), (2, _), (3, _)]) rfl ?_
                    exact W_X9_countOf_201 C hq h0 hd hF
                  · skip
                    rcases ifc hF with ⟨c79, hF⟩ | ⟨c79, hF⟩
                    · refine v_tableEq C 232 (9) (229) dX9_countOf_3 c79 (by decide) (by decide) (by decide) (by decide) ?_
                      refine v_iconst C (0) dX9_countOf_232 (by decide) ?_
                      refine v_istore_n C 3 (ll' := [(3, _), (2, _), (0, _), (1, _)]) dX9_countOf_233 rfl (by decide) rfl ?_
                      refine v_sub [2, 1, 0] (ll' := [(0, _), (2, _), (3, _)]) rfl ?_
                      exact W_X9_countOf_234 C hq h0 hd hF
                    · skip
                      have c43 := lv_neT c43 (a := 0) (by decide)
                      have c48 := lv_neT c48 (a := 1) (by decide)
                      have c53 := lv_neT c53 (a := 2) (by decide)
                      have c56 := lv_neT c56 (a := 3) (by decide)
                      have c61 := lv_neT c61 (a := 4) (by decide)
                      have c62 := lv_neT c62 (a := 5) (by decide)
                      have c65 := lv_neT c65 (a := 6) (by decide)
                      have c77 := lv_neT c77 (a := 7) (by decide)
                      have c78 := lv_neT c78 (a := 8) (by decide)
                      have c79 := lv_neT c79 (a := 9) (by decide)
                      refine v_tableOut C 264 dX9_countOf_3 (by omega) (by decide) ?_
                      refine v_iconst C (0) dX9_countOf_264 (by decide) ?_
                      refine v_istore_n C 3 (ll' := [(3, _), (2, _), (0, _), (1, _)]) dX9_countOf_265 rfl (by decide) rfl ?_
                      refine v_sub [2, 1, 0] (ll' := [(0, _), (2, _), (3, _)]) rfl ?_
                      exact W_X9_countOf_266 C hq h0 hd hF
set_option maxRecDepth 20000 in
set_option maxHeartbeats 2000000 in
theorem M_X9_count {Δ : DD} {d : Nat} {x0 : Nat} {x1 : Int32} {σ : Mem} {q : Int32} (hd : 4 ≤ d) (h0 : isK 9 x0 = true) (hF : F_X9_count x0 x1 σ = some q) : Mt Δ d yX9_count cX9_count 2 (some .int) [rf Δ x0, .int x1] σ (some (.int q)) σ := by
  obtain ⟨d, rfl⟩ : ∃ e, d = e + 1 := ⟨d - 1, by omega⟩
  have hd : 3 ≤ d := by omega
  refine mt_of (by decide) rfl (Nat.le_of_ble_eq_true rfl) (fun Γ C hq => ?_)
  unfold F_X9_count at hF
  show V Δ Γ 2 0 [(0, rf Δ (x0)), (1, .int (x1))] [] σ
  refine v_iload_n C 1 1 dX9_count_0 rfl rfl ?_
  refine v_i2l C dX9_count_1 ?_
  refine v_lconst C 0 dX9_count_2 (by decide) ?_
  refine v_ldc2 C (10) kl_X9_236 dX9_count_3 ?_
  obtain ⟨q1, g2, hF⟩ := bnd hF
  refine v_cSi C mw_X9_in lk_X9_53 _ (M_X9_in (by omega) g2) rfl rfl (Nat.le_of_ble_eq_true rfl) dX9_count_6 ?_
  refine v_if_eq C 20 dX9_count_9 (by decide) (fun c3 => ?_) (fun c3 => ?_)
  · have hF := ifp hF c3
    refine v_iconst C (-1) dX9_count_20 (by decide) ?_
    exact v_iretP C hq (Option.some.inj hF) dX9_count_21
  · have hF := ifn hF c3
    refine v_aload_n C 0 0 dX9_count_12 rfl rfl ?_
    refine v_iload_n C 1 1 dX9_count_13 rfl rfl ?_
    obtain ⟨q4, g5, hF⟩ := bnd hF
    refine v_cVi C mw_X9_countOf lk_X9_238 _ (M_X9_countOf (by omega) h0 g5) h0 rfl rfl (Nat.le_of_ble_eq_true rfl) dX9_count_14 ?_
    refine v_goto C 21 dX9_count_17 (by decide) ?_
    exact v_iretP C hq (Option.some.inj hF) dX9_count_21
set_option maxRecDepth 20000 in
set_option maxHeartbeats 2000000 in
theorem M_X9_finding {Δ : DD} {d : Nat} {x0 : Nat} {σ : Mem} {q : Int32} (hd : 1 ≤ d) (h0 : isK 9 x0 = true) (hF : F_X9_finding x0 σ = some q) : Mt Δ d yX9_finding cX9_finding 1 (some .int) [rf Δ x0] σ (some (.int q)) σ := by
  obtain ⟨d, rfl⟩ : ∃ e, d = e + 1 := ⟨d - 1, by omega⟩
  have hd : 0 ≤ d := by omega
  refine mt_of (by decide) rfl (Nat.le_of_ble_eq_true rfl) (fun Γ C hq => ?_)
  unfold F_X9_finding at hF
  show V Δ Γ 1 0 [(0, rf Δ (x0))] [] σ
  refine v_aload_n C 0 0 dX9_finding_0 rfl rfl ?_
  obtain ⟨v2, g1, hF⟩ := bnd hF
  refine v_gI C fu_X9_44 g1 dX9_finding_1 ?_
  exact v_iretP C hq (Option.some.inj hF) dX9_finding_4
set_option maxRecDepth 20000 in
set_option maxHeartbeats 2000000 in
theorem M_X9_findings {Δ : DD} {d : Nat} {x0 : Nat} {x1 : Int32} {σ : Mem} {q : Int32} (hd : 2 ≤ d) (h0 : isK 9 x0 = true) (hF : F_X9_findings x0 x1 σ = some q) : Mt Δ d yX9_findings cX9_findings 2 (some .int) [rf Δ x0, .int x1] σ (some (.int q)) σ := by
  obtain ⟨d, rfl⟩ : ∃ e, d = e + 1 := ⟨d - 1, by omega⟩
  have hd : 1 ≤ d := by omega
  refine mt_of (by decide) rfl (Nat.le_of_ble_eq_true rfl) (fun Γ C hq => ?_)
  unfold F_X9_findings at hF
  show V Δ Γ 2 0 [(0, rf Δ (x0)), (1, .int (x1))] [] σ
  refine v_iload_n C 1 1 dX9_findings_0 rfl rfl ?_
  refine v_i2l C dX9_findings_1 ?_
  refine v_lconst C 1 dX9_findings_2 (by decide) ?_
  refine v_ldc2 C (5) kl_X9_51 dX9_findings_3 ?_
  obtain ⟨q1, g2, hF⟩ := bnd hF
  refine v_cSi C mw_X9_in lk_X9_53 _ (M_X9_in (by omega) g2) rfl rfl (Nat.le_of_ble_eq_true rfl) dX9_findings_6 ?_
  refine v_if_eq C 21 dX9_findings_9 (by decide) (fun c3 => ?_) (fun c3 => ?_)
  · have hF := ifp hF c3
    refine v_iconst C (-1) dX9_findings_21 (by decide) ?_
    exact v_iretP C hq (Option.some.inj hF) dX9_findings_22
  · have hF := ifn hF c3
    refine v_aload_n C 0 0 dX9_findings_12 rfl rfl ?_
    obtain ⟨p5, g4, hF⟩ := bnd hF
    refine v_gR C fu_X9_31 g4 dX9_findings_13 ?_
    refine v_iload_n C 1 1 dX9_findings_16 rfl rfl ?_
    obtain ⟨v6, g7, hF⟩ := bnd hF
    refine v_aI C g7 dX9_findings_17 ?_
    refine v_goto C 22 dX9_findings_18 (by decide) ?_
    exact v_iretP C hq (Option.some.inj hF) dX9_findings_22
set_option maxRecDepth 20000 in
set_option maxHeartbeats 2000000 in
theorem M_X9_mix {Δ : DD} {d : Nat} {x0 : Nat} {x1 : Int64} {σ : Mem} {q : Mem} (hd : 1 ≤ d) (h0 : isK 9 x0 = true) (hF : F_X9_mix x0 x1 σ = some q) : Mt Δ d yX9_mix cX9_mix 3 none [rf Δ x0, .long x1] σ none q := by
  obtain ⟨d, rfl⟩ : ∃ e, d = e + 1 := ⟨d - 1, by omega⟩
  have hd : 0 ≤ d := by omega
  refine mt_of (by decide) rfl (Nat.le_of_ble_eq_true rfl) (fun Γ C hq => ?_)
  unfold F_X9_mix at hF
  show V Δ Γ 3 0 [(0, rf Δ (x0)), (1, .long (x1))] [] σ
  refine v_aload_n C 0 0 dX9_mix_0 rfl rfl ?_
  refine v_ldc2 C (31) kl_X9_241 dX9_mix_1 ?_
  refine v_aload_n C 0 0 dX9_mix_4 rfl rfl ?_
  obtain ⟨v2, g1, hF⟩ := bnd hF
  refine v_gL C fu_X9_243 g1 dX9_mix_5 ?_
  refine v_lmul C dX9_mix_8 ?_
  refine v_lload_n C 1 1 dX9_mix_9 rfl rfl ?_
  refine v_ladd C dX9_mix_10 ?_
  obtain ⟨m4, g3, hF⟩ := bnd hF
  refine v_pL C fp_X9_243 g3 dX9_mix_11 ?_
  exact v_vretF C hq (Option.some.inj hF) dX9_mix_14
def K_X9_digest_9 (Δ : DD) (Γ : GG) (q : (Int64 × Mem)) (x0 : Nat) (y : (Int32 × Mem) ⊕ (Int64 × Mem)) : Prop := match y with
  | .inl s => V Δ Γ 3 9 [(0, rf Δ (x0)), (1, .int (s.1))] [] s.2
  | .inr t => (t = q)
def K_X9_digest_33 (Δ : DD) (Γ : GG) (q : (Int64 × Mem)) (x0 : Nat) (y : (Int32 × Mem) ⊕ (Int64 × Mem)) : Prop := match y with
  | .inl s => V Δ Γ 3 33 [(0, rf Δ (x0)), (1, .int (s.1))] [] s.2
  | .inr t => (t = q)
def K_X9_digest_76 (Δ : DD) (Γ : GG) (q : (Int64 × Mem)) (x0 : Nat) (y : (Int32 × Mem) ⊕ (Int64 × Mem)) : Prop := match y with
  | .inl s => V Δ Γ 3 76 [(0, rf Δ (x0)), (1, .int (s.1))] [] s.2
  | .inr t => (t = q)
def K_X9_digest_100 (Δ : DD) (Γ : GG) (q : (Int64 × Mem)) (x0 : Nat) (y : (Int32 × Mem) ⊕ (Int64 × Mem)) : Prop := match y with
  | .inl s => V Δ Γ 3 100 [(0, rf Δ (x0)), (1, .int (s.1))] [] s.2
  | .inr t => (t = q)
def K_X9_digest_159 (Δ : DD) (Γ : GG) (q : (Int64 × Mem)) (x0 : Nat) (y : (Int32 × Mem) ⊕ (Int64 × Mem)) : Prop := match y with
  | .inl s => V Δ Γ 3 159 [(0, rf Δ (x0)), (1, .int (s.1))] [] s.2
  | .inr t => (t = q)
def K_X9_digest_45 (Δ : DD) (Γ : GG) (q : (Int64 × Mem)) (x0 : Nat) (x1 : Int32) (y : (Int32 × Mem) ⊕ ((Int32 × Mem) ⊕ (Int64 × Mem))) : Prop := match y with
  | .inl s => V Δ Γ 3 45 [(0, rf Δ (x0)), (1, .int (x1)), (2, .int (s.1))] [] s.2
  | .inr t => (K_X9_digest_33 Δ Γ q x0 t)
def K_X9_digest_119 (Δ : DD) (Γ : GG) (q : (Int64 × Mem)) (x0 : Nat) (x1 : Int32) (y : (Int32 × Mem) ⊕ ((Int32 × Mem) ⊕ (Int64 × Mem))) : Prop := match y with
  | .inl s => V Δ Γ 3 119 [(0, rf Δ (x0)), (1, .int (x1)), (2, .int (s.1))] [] s.2
  | .inr t => (K_X9_digest_100 Δ Γ q x0 t)
def K_X9_digest_177 (Δ : DD) (Γ : GG) (q : (Int64 × Mem)) (x0 : Nat) (x1 : Int32) (y : (Int32 × Mem) ⊕ ((Int32 × Mem) ⊕ (Int64 × Mem))) : Prop := match y with
  | .inl s => V Δ Γ 3 177 [(0, rf Δ (x0)), (1, .int (x1)), (2, .int (s.1))] [] s.2
  | .inr t => (K_X9_digest_159 Δ Γ q x0 t)
set_option maxRecDepth 20000 in
set_option maxHeartbeats 2000000 in
theorem W_X9_digest_45 {Δ : DD} {Γ : GG} {d : Nat} {q : (Int64 × Mem)} {x0 : Nat} {x1 : Int32} (C : Cx Δ Γ RX9 cX9_digest 3 d (some .long)) (hq : RetQ Δ Γ (some (.long q.1)) q.2) (h0 : isK 9 x0 = true) (hd : 4 ≤ d) {s : Int32 × Mem} {y : ((Int32 × Mem) ⊕ (Int64 × Mem))} (hF : F_X9_digest_45 x0 x1  s = some y) (hK : (K_X9_digest_33 Δ Γ q x0 y)) : V Δ Γ 3 45 [(0, rf Δ (x0)), (1, .int (x1)), (2, .int (s.1))] [] s.2 := by
  refine lp_V (W := fun (s : Int32 × Mem) => V Δ Γ 3 45 [(0, rf Δ (x0)), (1, .int (x1)), (2, .int (s.1))] [] s.2) (K := fun (t : ((Int32 × Mem) ⊕ (Int64 × Mem))) => (K_X9_digest_33 Δ Γ q x0 t)) (K' := K_X9_digest_45 Δ Γ q x0 x1 ) (fun _ h => h) (fun _ h => h) ?_ s y hF hK
  clear hF hK
  intro s z hF hK
  refine v_iload_n C 2 2 dX9_digest_45 rfl rfl ?_
  refine v_bipush C (8) dX9_digest_46 (by decide) ?_
  refine v_icmp_ge C 68 dX9_digest_48 (by decide) (fun c11 => ?_) (fun c11 => ?_)
  · have hF := ifp hF c11
    refine v_iinc C (_ + (1 : Int32)) 1 (ll' := [(1, _), (0, _), (2, _)]) dX9_digest_68 rfl (inc_eq (by decide)) (by decide) rfl ?_
    refine v_goto C 33 dX9_digest_71 (by decide) ?_
    refine v_sub [1, 0] (ll' := [(0, _), (1, _)]) rfl ?_
    cases hF
    exact hK
  · have hF := ifn hF c11
    refine v_aload_n C 0 0 dX9_digest_51 rfl rfl ?_
    refine v_aload_n C 0 0 dX9_digest_52 rfl rfl ?_
    refine v_iload_n C 1 1 dX9_digest_53 rfl rfl ?_
    refine v_iload_n C 2 2 dX9_digest_54 rfl rfl ?_
    obtain ⟨q12, g13, hF⟩ := bnd hF
    refine v_cVi C mw_X9_bedTells lk_X9_145 _ (M_X9_bedTells (by omega) h0 g13) h0 rfl rfl (Nat.le_of_ble_eq_true rfl) dX9_digest_55 ?_
    refine v_i2l C dX9_digest_58 ?_
    obtain ⟨q14, g15, hF⟩ := bnd hF
    refine v_cVv C mw_X9_mix lk_X9_248 _ (M_X9_mix (by omega) h0 g15) h0 rfl rfl (Nat.le_of_ble_eq_true rfl) dX9_digest_59 ?_
    refine v_iinc C (_ + (1 : Int32)) 2 (ll' := [(2, _), (0, _), (1, _)]) dX9_digest_62 rfl (inc_eq (by decide)) (by decide) rfl ?_
    refine v_goto C 45 dX9_digest_65 (by decide) ?_
    refine v_sub [1, 2, 0] (ll' := [(0, _), (1, _), (2, _)]) rfl ?_
    cases hF
    exact hK
set_option maxRecDepth 20000 in
set_option maxHeartbeats 2000000 in
theorem W_X9_digest_119 {Δ : DD} {Γ : GG} {d : Nat} {q : (Int64 × Mem)} {x0 : Nat} {x1 : Int32} (C : Cx Δ Γ RX9 cX9_digest 3 d (some .long)) (hq : RetQ Δ Γ (some (.long q.1)) q.2) (h0 : isK 9 x0 = true) (hd : 4 ≤ d) {s : Int32 × Mem} {y : ((Int32 × Mem) ⊕ (Int64 × Mem))} (hF : F_X9_digest_119 x0 x1  s = some y) (hK : (K_X9_digest_100 Δ Γ q x0 y)) : V Δ Γ 3 119 [(0, rf Δ (x0)), (1, .int (x1)), (2, .int (s.1))] [] s.2 := by
  refine lp_V (W := fun (s : Int32 × Mem) => V Δ Γ 3 119 [(0, rf Δ (x0)), (1, .int (x1)), (2, .int (s.1))] [] s.2) (K := fun (t : ((Int32 × Mem) ⊕ (Int64 × Mem))) => (K_X9_digest_100 Δ Γ q x0 t)) (K' := K_X9_digest_119 Δ Γ q x0 x1 ) (fun _ h => h) (fun _ h => h) ?_ s y hF hK
  clear hF hK
  intro s z hF hK
  refine v_iload_n C 2 2 dX9_digest_119 rfl rfl ?_
  refine v_aload_n C 0 0 dX9_digest_120 rfl rfl ?_
  obtain ⟨p31, g30, hF⟩ := bnd hF
  refine v_gR C fu_X9_19 g30 dX9_digest_121 ?_
  refine v_iload_n C 1 1 dX9_digest_124 rfl rfl ?_
  obtain ⟨v32, g33, hF⟩ := bnd hF
  refine v_aI C g33 dX9_digest_125 ?_
  refine v_icmp_ge C 151 dX9_digest_126 (by decide) (fun c34 => ?_) (fun c34 => ?_)
  · have hF := ifp hF c34
    refine v_iinc C (_ + (1 : Int32)) 1 (ll' := [(1, _), (0, _), (2, _)]) dX9_digest_151 rfl (inc_eq (by decide)) (by decide) rfl ?_
    refine v_goto C 100 dX9_digest_154 (by decide) ?_
    refine v_sub [1, 0] (ll' := [(0, _), (1, _)]) rfl ?_
    cases hF
    exact hK
  · have hF := ifn hF c34
    refine v_aload_n C 0 0 dX9_digest_129 rfl rfl ?_
    refine v_aload_n C 0 0 dX9_digest_130 rfl rfl ?_
    obtain ⟨p36, g35, hF⟩ := bnd hF
    refine v_gR C fu_X9_16 g35 dX9_digest_131 ?_
    refine v_bipush C (40) dX9_digest_134 (by decide) ?_
    refine v_iload_n C 1 1 dX9_digest_136 rfl rfl ?_
    refine v_imul C dX9_digest_137 ?_
    refine v_iload_n C 2 2 dX9_digest_138 rfl rfl ?_
    refine v_iadd C dX9_digest_139 ?_
    obtain ⟨v37, g38, hF⟩ := bnd hF
    refine v_aI C g38 dX9_digest_140 ?_
    refine v_i2l C dX9_digest_141 ?_
    obtain ⟨q39, g40, hF⟩ := bnd hF
    refine v_cVv C mw_X9_mix lk_X9_248 _ (M_X9_mix (by omega) h0 g40) h0 rfl rfl (Nat.le_of_ble_eq_true rfl) dX9_digest_142 ?_
    refine v_iinc C (_ + (1 : Int32)) 2 (ll' := [(2, _), (0, _), (1, _)]) dX9_digest_145 rfl (inc_eq (by decide)) (by decide) rfl ?_
    refine v_goto C 119 dX9_digest_148 (by decide) ?_
    refine v_sub [1, 2, 0] (ll' := [(0, _), (1, _), (2, _)]) rfl ?_
    cases hF
    exact hK
set_option maxRecDepth 20000 in
set_option maxHeartbeats 2000000 in
theorem W_X9_digest_177 {Δ : DD} {Γ : GG} {d : Nat} {q : (Int64 × Mem)} {x0 : Nat} {x1 : Int32} (C : Cx Δ Γ RX9 cX9_digest 3 d (some .long)) (hq : RetQ Δ Γ (some (.long q.1)) q.2) (h0 : isK 9 x0 = true) (hd : 4 ≤ d) {s : Int32 × Mem} {y : ((Int32 × Mem) ⊕ (Int64 × Mem))} (hF : F_X9_digest_177 x0 x1  s = some y) (hK : (K_X9_digest_159 Δ Γ q x0 y)) : V Δ Γ 3 177 [(0, rf Δ (x0)), (1, .int (x1)), (2, .int (s.1))] [] s.2 := by
  refine lp_V (W := fun (s : Int32 × Mem) => V Δ Γ 3 177 [(0, rf Δ (x0)), (1, .int (x1)), (2, .int (s.1))] [] s.2) (K := fun (t : ((Int32 × Mem) ⊕ (Int64 × Mem))) => (K_X9_digest_159 Δ Γ q x0 t)) (K' := K_X9_digest_177 Δ Γ q x0 x1 ) (fun _ h => h) (fun _ h => h) ?_ s y hF hK
  clear hF hK
  intro s z hF hK
  refine v_iload_n C 2 2 dX9_digest_177 rfl rfl ?_
  refine v_aload_n C 0 0 dX9_digest_178 rfl rfl ?_
  obtain ⟨p51, g50, hF⟩ := bnd hF
  refine v_gR C fu_X9_25 g50 dX9_digest_179 ?_
  refine v_iload_n C 1 1 dX9_digest_182 rfl rfl ?_
  obtain ⟨v52, g53, hF⟩ := bnd hF
  refine v_aI C g53 dX9_digest_183 ?_
  refine v_icmp_ge C 209 dX9_digest_184 (by decide) (fun c54 => ?_) (fun c54 => ?_)
  · have hF := ifp hF c54
    refine v_iinc C (_ + (1 : Int32)) 1 (ll' := [(1, _), (0, _), (2, _)]) dX9_digest_209 rfl (inc_eq (by decide)) (by decide) rfl ?_
    refine v_goto C 159 dX9_digest_212 (by decide) ?_
    refine v_sub [1, 0] (ll' := [(0, _), (1, _)]) rfl ?_
    cases hF
    exact hK
  · have hF := ifn hF c54
    refine v_aload_n C 0 0 dX9_digest_187 rfl rfl ?_
    refine v_aload_n C 0 0 dX9_digest_188 rfl rfl ?_
    obtain ⟨p56, g55, hF⟩ := bnd hF
    refine v_gR C fu_X9_22 g55 dX9_digest_189 ?_
    refine v_bipush C (60) dX9_digest_192 (by decide) ?_
    refine v_iload_n C 1 1 dX9_digest_194 rfl rfl ?_
    refine v_imul C dX9_digest_195 ?_
    refine v_iload_n C 2 2 dX9_digest_196 rfl rfl ?_
    refine v_iadd C dX9_digest_197 ?_
    obtain ⟨v57, g58, hF⟩ := bnd hF
    refine v_aI C g58 dX9_digest_198 ?_
    refine v_i2l C dX9_digest_199 ?_
    obtain ⟨q59, g60, hF⟩ := bnd hF
    refine v_cVv C mw_X9_mix lk_X9_248 _ (M_X9_mix (by omega) h0 g60) h0 rfl rfl (Nat.le_of_ble_eq_true rfl) dX9_digest_200 ?_
    refine v_iinc C (_ + (1 : Int32)) 2 (ll' := [(2, _), (0, _), (1, _)]) dX9_digest_203 rfl (inc_eq (by decide)) (by decide) rfl ?_
    refine v_goto C 177 dX9_digest_206 (by decide) ?_
    refine v_sub [1, 2, 0] (ll' := [(0, _), (1, _), (2, _)]) rfl ?_
    cases hF
    exact hK
set_option maxRecDepth 20000 in
set_option maxHeartbeats 2000000 in
theorem W_X9_digest_159 {Δ : DD} {Γ : GG} {d : Nat} {q : (Int64 × Mem)} {x0 : Nat} (C : Cx Δ Γ RX9 cX9_digest 3 d (some .long)) (hq : RetQ Δ Γ (some (.long q.1)) q.2) (h0 : isK 9 x0 = true) (hd : 4 ≤ d) {s : Int32 × Mem} (hF : F_X9_digest_159 x0  s = some q) : V Δ Γ 3 159 [(0, rf Δ (x0)), (1, .int (s.1))] [] s.2 := by
  have hF : F_X9_digest_159 x0  s = some q := hF
  refine lp_V (W := fun (s : Int32 × Mem) => V Δ Γ 3 159 [(0, rf Δ (x0)), (1, .int (s.1))] [] s.2) (K := fun t => t = q) (K' := K_X9_digest_159 Δ Γ q x0 ) (fun _ h => h) (fun _ h => h) ?_ s q hF rfl
  clear hF
  intro s z hF hK
  refine v_iload_n C 1 1 dX9_digest_159 rfl rfl ?_
  refine v_iconst C (4) dX9_digest_160 (by decide) ?_
  refine v_icmp_ge C 215 dX9_digest_161 (by decide) (fun c41 => ?_) (fun c41 => ?_)
  · have hF := ifp hF c41
    refine v_aload_n C 0 0 dX9_digest_215 rfl rfl ?_
    obtain ⟨v43, g42, hF⟩ := bnd hF
    refine v_gL C fu_X9_243 g42 dX9_digest_216 ?_
    cases hF
    exact v_lretF C hq hK dX9_digest_219
  · have hF := ifn hF c41
    refine v_aload_n C 0 0 dX9_digest_164 rfl rfl ?_
    refine v_aload_n C 0 0 dX9_digest_165 rfl rfl ?_
    obtain ⟨p45, g44, hF⟩ := bnd hF
    refine v_gR C fu_X9_25 g44 dX9_digest_166 ?_
    refine v_iload_n C 1 1 dX9_digest_169 rfl rfl ?_
    obtain ⟨v46, g47, hF⟩ := bnd hF
    refine v_aI C g47 dX9_digest_170 ?_
    refine v_i2l C dX9_digest_171 ?_
    obtain ⟨q48, g49, hF⟩ := bnd hF
    refine v_cVv C mw_X9_mix lk_X9_248 _ (M_X9_mix (by omega) h0 g49) h0 rfl rfl (Nat.le_of_ble_eq_true rfl) dX9_digest_172 ?_
    refine v_iconst C (0) dX9_digest_175 (by decide) ?_
    refine v_istore_n C 2 (ll' := [(2, _), (0, _), (1, _)]) dX9_digest_176 rfl (by decide) rfl ?_
    refine v_sub [1, 2, 0] (ll' := [(0, _), (1, _), (2, _)]) rfl ?_
    exact W_X9_digest_177 C hq h0 hd hF hK
set_option maxRecDepth 20000 in
set_option maxHeartbeats 2000000 in
theorem W_X9_digest_100 {Δ : DD} {Γ : GG} {d : Nat} {q : (Int64 × Mem)} {x0 : Nat} (C : Cx Δ Γ RX9 cX9_digest 3 d (some .long)) (hq : RetQ Δ Γ (some (.long q.1)) q.2) (h0 : isK 9 x0 = true) (hd : 4 ≤ d) {s : Int32 × Mem} (hF : F_X9_digest_100 x0  s = some q) : V Δ Γ 3 100 [(0, rf Δ (x0)), (1, .int (s.1))] [] s.2 := by
  have hF : F_X9_digest_100 x0  s = some q := hF
  refine lp_V (W := fun (s : Int32 × Mem) => V Δ Γ 3 100 [(0, rf Δ (x0)), (1, .int (s.1))] [] s.2) (K := fun t => t = q) (K' := K_X9_digest_100 Δ Γ q x0 ) (fun _ h => h) (fun _ h => h) ?_ s q hF rfl
  clear hF
  intro s z hF hK
  refine v_iload_n C 1 1 dX9_digest_100 rfl rfl ?_
  refine v_bipush C (6) dX9_digest_101 (by decide) ?_
  refine v_icmp_ge C 157 dX9_digest_103 (by decide) (fun c23 => ?_) (fun c23 => ?_)
  · have hF := ifp hF c23
    refine v_iconst C (0) dX9_digest_157 (by decide) ?_
    refine v_istore_n C 1 (ll' := [(1, _), (0, _)]) dX9_digest_158 rfl (by decide) rfl ?_
    refine v_sub [1, 0] (ll' := [(0, _), (1, _)]) rfl ?_
    obtain ⟨z, hz, e⟩ := mapd hF
    subst e
    exact W_X9_digest_159 C hq h0 hd (hz.trans (congrArg some hK))
  · have hF := ifn hF c23
    refine v_aload_n C 0 0 dX9_digest_106 rfl rfl ?_
    refine v_aload_n C 0 0 dX9_digest_107 rfl rfl ?_
    obtain ⟨p25, g24, hF⟩ := bnd hF
    refine v_gR C fu_X9_19 g24 dX9_digest_108 ?_
    refine v_iload_n C 1 1 dX9_digest_111 rfl rfl ?_
    obtain ⟨v26, g27, hF⟩ := bnd hF
    refine v_aI C g27 dX9_digest_112 ?_
    refine v_i2l C dX9_digest_113 ?_
    obtain ⟨q28, g29, hF⟩ := bnd hF
    refine v_cVv C mw_X9_mix lk_X9_248 _ (M_X9_mix (by omega) h0 g29) h0 rfl rfl (Nat.le_of_ble_eq_true rfl) dX9_digest_114 ?_
    refine v_iconst C (0) dX9_digest_117 (by decide) ?_
    refine v_istore_n C 2 (ll' := [(2, _), (0, _), (1, _)]) dX9_digest_118 rfl (by decide) rfl ?_
    refine v_sub [1, 2, 0] (ll' := [(0, _), (1, _), (2, _)]) rfl ?_
    exact W_X9_digest_119 C hq h0 hd hF hK
set_option maxRecDepth 20000 in
set_option maxHeartbeats 2000000 in
theorem W_X9_digest_76 {Δ : DD} {Γ : GG} {d : Nat} {q : (Int64 × Mem)} {x0 : Nat} (C : Cx Δ Γ RX9 cX9_digest 3 d (some .long)) (hq : RetQ Δ Γ (some (.long q.1)) q.2) (h0 : isK 9 x0 = true) (hd : 4 ≤ d) {s : Int32 × Mem} (hF : F_X9_digest_76 x0  s = some q) : V Δ Γ 3 76 [(0, rf Δ (x0)), (1, .int (s.1))] [] s.2 := by
  have hF : F_X9_digest_76 x0  s = some q := hF
  refine lp_V (W := fun (s : Int32 × Mem) => V Δ Γ 3 76 [(0, rf Δ (x0)), (1, .int (s.1))] [] s.2) (K := fun t => t = q) (K' := K_X9_digest_76 Δ Γ q x0 ) (fun _ h => h) (fun _ h => h) ?_ s q hF rfl
  clear hF
  intro s z hF hK
  refine v_iload_n C 1 1 dX9_digest_76 rfl rfl ?_
  refine v_iconst C (3) dX9_digest_77 (by decide) ?_
  refine v_icmp_ge C 98 dX9_digest_78 (by decide) (fun c16 => ?_) (fun c16 => ?_)
  · have hF := ifp hF c16
    refine v_iconst C (0) dX9_digest_98 (by decide) ?_
    refine v_istore_n C 1 (ll' := [(1, _), (0, _)]) dX9_digest_99 rfl (by decide) rfl ?_
    refine v_sub [1, 0] (ll' := [(0, _), (1, _)]) rfl ?_
    obtain ⟨z, hz, e⟩ := mapd hF
    subst e
    exact W_X9_digest_100 C hq h0 hd (hz.trans (congrArg some hK))
  · have hF := ifn hF c16
    refine v_aload_n C 0 0 dX9_digest_81 rfl rfl ?_
    refine v_aload_n C 0 0 dX9_digest_82 rfl rfl ?_
    obtain ⟨p18, g17, hF⟩ := bnd hF
    refine v_gR C fu_X9_13 g17 dX9_digest_83 ?_
    refine v_iload_n C 1 1 dX9_digest_86 rfl rfl ?_
    obtain ⟨v19, g20, hF⟩ := bnd hF
    refine v_aI C g20 dX9_digest_87 ?_
    refine v_i2l C dX9_digest_88 ?_
    obtain ⟨q21, g22, hF⟩ := bnd hF
    refine v_cVv C mw_X9_mix lk_X9_248 _ (M_X9_mix (by omega) h0 g22) h0 rfl rfl (Nat.le_of_ble_eq_true rfl) dX9_digest_89 ?_
    refine v_iinc C (_ + (1 : Int32)) 1 (ll' := [(1, _), (0, _)]) dX9_digest_92 rfl (inc_eq (by decide)) (by decide) rfl ?_
    refine v_goto C 76 dX9_digest_95 (by decide) ?_
    refine v_sub [1, 0] (ll' := [(0, _), (1, _)]) rfl ?_
    cases hF
    exact hK
set_option maxRecDepth 20000 in
set_option maxHeartbeats 2000000 in
theorem W_X9_digest_33 {Δ : DD} {Γ : GG} {d : Nat} {q : (Int64 × Mem)} {x0 : Nat} (C : Cx Δ Γ RX9 cX9_digest 3 d (some .long)) (hq : RetQ Δ Γ (some (.long q.1)) q.2) (h0 : isK 9 x0 = true) (hd : 4 ≤ d) {s : Int32 × Mem} (hF : F_X9_digest_33 x0  s = some q) : V Δ Γ 3 33 [(0, rf Δ (x0)), (1, .int (s.1))] [] s.2 := by
  have hF : F_X9_digest_33 x0  s = some q := hF
  refine lp_V (W := fun (s : Int32 × Mem) => V Δ Γ 3 33 [(0, rf Δ (x0)), (1, .int (s.1))] [] s.2) (K := fun t => t = q) (K' := K_X9_digest_33 Δ Γ q x0 ) (fun _ h => h) (fun _ h => h) ?_ s q hF rfl
  clear hF
  intro s z hF hK
  refine v_iload_n C 1 1 dX9_digest_33 rfl rfl ?_
  refine v_aload_n C 0 0 dX9_digest_34 rfl rfl ?_
  obtain ⟨p7, g6, hF⟩ := bnd hF
  refine v_gR C fu_X9_7 g6 dX9_digest_35 ?_
  refine v_iconst C (0) dX9_digest_38 (by decide) ?_
  obtain ⟨v8, g9, hF⟩ := bnd hF
  refine v_aI C g9 dX9_digest_39 ?_
  refine v_icmp_ge C 74 dX9_digest_40 (by decide) (fun c10 => ?_) (fun c10 => ?_)
  · have hF := ifp hF c10
    refine v_iconst C (0) dX9_digest_74 (by decide) ?_
    refine v_istore_n C 1 (ll' := [(1, _), (0, _)]) dX9_digest_75 rfl (by decide) rfl ?_
    refine v_sub [1, 0] (ll' := [(0, _), (1, _)]) rfl ?_
    obtain ⟨z, hz, e⟩ := mapd hF
    subst e
    exact W_X9_digest_76 C hq h0 hd (hz.trans (congrArg some hK))
  · have hF := ifn hF c10
    refine v_iconst C (0) dX9_digest_43 (by decide) ?_
    refine v_istore_n C 2 (ll' := [(2, _), (0, _), (1, _)]) dX9_digest_44 rfl (by decide) rfl ?_
    refine v_sub [1, 2, 0] (ll' := [(0, _), (1, _), (2, _)]) rfl ?_
    exact W_X9_digest_45 C hq h0 hd hF hK
set_option maxRecDepth 20000 in
set_option maxHeartbeats 2000000 in
theorem W_X9_digest_9 {Δ : DD} {Γ : GG} {d : Nat} {q : (Int64 × Mem)} {x0 : Nat} (C : Cx Δ Γ RX9 cX9_digest 3 d (some .long)) (hq : RetQ Δ Γ (some (.long q.1)) q.2) (h0 : isK 9 x0 = true) (hd : 4 ≤ d) {s : Int32 × Mem} (hF : F_X9_digest_9 x0  s = some q) : V Δ Γ 3 9 [(0, rf Δ (x0)), (1, .int (s.1))] [] s.2 := by
  have hF : F_X9_digest_9 x0  s = some q := hF
  refine lp_V (W := fun (s : Int32 × Mem) => V Δ Γ 3 9 [(0, rf Δ (x0)), (1, .int (s.1))] [] s.2) (K := fun t => t = q) (K' := K_X9_digest_9 Δ Γ q x0 ) (fun _ h => h) (fun _ h => h) ?_ s q hF rfl
  clear hF
  intro s z hF hK
  refine v_iload_n C 1 1 dX9_digest_9 rfl rfl ?_
  refine v_bipush C (11) dX9_digest_10 (by decide) ?_
  refine v_icmp_ge C 31 dX9_digest_12 (by decide) (fun c1 => ?_) (fun c1 => ?_)
  · have hF := ifp hF c1
    refine v_iconst C (0) dX9_digest_31 (by decide) ?_
    refine v_istore_n C 1 (ll' := [(1, _), (0, _)]) dX9_digest_32 rfl (by decide) rfl ?_
    refine v_sub [1, 0] (ll' := [(0, _), (1, _)]) rfl ?_
    obtain ⟨z, hz, e⟩ := mapd hF
    subst e
    exact W_X9_digest_33 C hq h0 hd (hz.trans (congrArg some hK))
  · have hF := ifn hF c1
    refine v_aload_n C 0 0 dX9_digest_15 rfl rfl ?_
    refine v_aload_n C 0 0 dX9_digest_16 rfl rfl ?_
    refine v_iload_n C 1 1 dX9_digest_17 rfl rfl ?_
    obtain ⟨q2, g3, hF⟩ := bnd hF
    refine v_cVi C mw_X9_countOf lk_X9_238 _ (M_X9_countOf (by omega) h0 g3) h0 rfl rfl (Nat.le_of_ble_eq_true rfl) dX9_digest_18 ?_
    refine v_i2l C dX9_digest_21 ?_
    obtain ⟨q4, g5, hF⟩ := bnd hF
    refine v_cVv C mw_X9_mix lk_X9_248 _ (M_X9_mix (by omega) h0 g5) h0 rfl rfl (Nat.le_of_ble_eq_true rfl) dX9_digest_22 ?_
    refine v_iinc C (_ + (1 : Int32)) 1 (ll' := [(1, _), (0, _)]) dX9_digest_25 rfl (inc_eq (by decide)) (by decide) rfl ?_
    refine v_goto C 9 dX9_digest_28 (by decide) ?_
    refine v_sub [1, 0] (ll' := [(0, _), (1, _)]) rfl ?_
    cases hF
    exact hK
set_option maxRecDepth 20000 in
set_option maxHeartbeats 2000000 in
theorem M_X9_digest {Δ : DD} {d : Nat} {x0 : Nat} {σ : Mem} {q : (Int64 × Mem)} (hd : 5 ≤ d) (h0 : isK 9 x0 = true) (hF : F_X9_digest x0 σ = some q) : Mt Δ d yX9_digest cX9_digest 3 (some .long) [rf Δ x0] σ (some (.long q.1)) q.2 := by
  obtain ⟨d, rfl⟩ : ∃ e, d = e + 1 := ⟨d - 1, by omega⟩
  have hd : 4 ≤ d := by omega
  refine mt_of (by decide) rfl (Nat.le_of_ble_eq_true rfl) (fun Γ C hq => ?_)
  unfold F_X9_digest at hF
  show V Δ Γ 3 0 [(0, rf Δ (x0))] [] σ
  refine v_aload_n C 0 0 dX9_digest_0 rfl rfl ?_
  refine v_ldc2 C (17) kl_X9_246 dX9_digest_1 ?_
  obtain ⟨m62, g61, hF⟩ := bnd hF
  refine v_pL C fp_X9_243 g61 dX9_digest_4 ?_
  refine v_iconst C (0) dX9_digest_7 (by decide) ?_
  refine v_istore_n C 1 (ll' := [(1, _), (0, _)]) dX9_digest_8 rfl (by decide) rfl ?_
  refine v_sub [1, 0] (ll' := [(0, _), (1, _)]) rfl ?_
  exact W_X9_digest_9 C hq h0 hd hF

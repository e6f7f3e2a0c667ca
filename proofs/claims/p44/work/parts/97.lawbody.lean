/-- what stands behind the law's return -/
def EndQ2 (Δ : DD2) (Γ : GG) (q : Int32 × Mem2) : Prop := ∀ (pc : Nat) (ll : List (Nat × Value)) (σ : Mem2), decode cL_law pc = .ok (.ireturn, 1) → V2 Δ Γ 10 pc ll [.int q.1] σ
theorem e_zretF {Δ : DD2} {Γ : GG} {d pc : Nat} {ll : List (Nat × Value)} {σ : Mem2} (_C : Cx2 Δ Γ RL cL_law 10 d (some .boolean)) {q : Int32 × Mem2} {v : Int32} (hq : EndQ2 Δ Γ q) (hK : (v, σ) = q) (_hv : narrow .boolean (.int v) = .int v) (hdg : decode cL_law pc = .ok (.ireturn, 1)) : V2 Δ Γ 10 pc ll [.int v] σ := by
  subst hK
  exact hq _ _ _ hdg
def K_L_law_103 (Δ : DD2) (Γ : GG) (q : (Int32 × Mem2)) (x0 : Nat) (x1 : Nat) (x2 : Nat) (y : (Int32 × Int32 × Mem2) ⊕ (Int32 × Mem2)) : Prop := match y with
  | .inl s => V2 Δ Γ 10 103 [(0, rf2 Δ (x0)), (1, rf2 Δ (x1)), (2, rf2 Δ (x2)), (5, .int (s.1)), (6, .int (s.2.1))] [] s.2.2
  | .inr t => (t = q)
set_option maxRecDepth 20000 in
set_option maxHeartbeats 4000000 in
theorem W_L_law_235 {Δ : DD2} {Γ : GG} {d : Nat} {q : (Int32 × Mem2)} {x0 : Nat} {x1 : Nat} {x2 : Nat} {x6 : Int32}  {σ : Mem2} {y : ((Int32 × Int32 × Mem2) ⊕ (Int32 × Mem2))} (C : Cx2 Δ Γ RL cL_law 10 d (some .boolean)) (hq : EndQ2 Δ Γ q) (hd : 25 ≤ d) (hF : F_L_law_235 x0 x1 x2 x6  σ = some y) (hK : (K_L_law_103 Δ Γ q x0 x1 x2 y)) : V2 Δ Γ 10 235 [(0, rf2 Δ (x0)), (1, rf2 Δ (x1)), (2, rf2 Δ (x2)), (6, .int (x6))] [] σ := by
  unfold F_L_law_235 at hF
  refine w_iconst C (0) dL_law_235 (by decide) ?_
  refine w_istore C 5 (ll' := [(5, _), (0, _), (1, _), (2, _), (6, _)]) dL_law_236 (by decide) rfl ?_
  refine w_iinc C (_ + (1 : Int32)) 4 (ll' := [(6, _), (5, _), (0, _), (1, _), (2, _)]) dL_law_238 rfl (inc_eq (by decide)) (by decide) rfl ?_
  refine w_goto C 103 dL_law_241 (by decide) ?_
  refine w_sub [2, 3, 4, 1, 0] (ll' := [(0, _), (1, _), (2, _), (5, _), (6, _)]) rfl ?_
  cases hF
  exact hK
set_option maxRecDepth 20000 in
set_option maxHeartbeats 4000000 in
theorem W_L_law_209 {Δ : DD2} {Γ : GG} {d : Nat} {q : (Int32 × Mem2)} {x0 : Nat} {x1 : Nat} {x2 : Nat} {x6 : Int32} {x8 : Int32} {y0 : Int32} {y1 : Int32} {σ : Mem2} {y : ((Int32 × Int32 × Mem2) ⊕ (Int32 × Mem2))} (C : Cx2 Δ Γ RL cL_law 10 d (some .boolean)) (hq : EndQ2 Δ Γ q) (hd : 25 ≤ d) (hF : F_L_law_209 x0 x1 x2 x6 x8 y0 y1 σ = some y) (hK : (K_L_law_103 Δ Γ q x0 x1 x2 y)) : V2 Δ Γ 10 209 [(0, rf2 Δ (x0)), (1, rf2 Δ (x1)), (2, rf2 Δ (x2)), (6, .int (x6)), (8, .int (x8))] [.int (y0), .int (y1)] σ := by
  unfold F_L_law_209 at hF
  refine w_iadd C dL_law_209 ?_
  refine w_istore C 9 (ll' := [(9, _), (0, _), (1, _), (2, _), (6, _), (8, _)]) dL_law_210 (by decide) rfl ?_
  refine w_aload_n C 2 3 dL_law_212 rfl rfl ?_
  refine w_iload C 8 5 dL_law_213 rfl ?_
  obtain ⟨_, g29, hF⟩ := bnd hF
  obtain ⟨q30, g31, hF⟩ := bnd hF
  refine w_cVi C mw_X8_undo lk_L_73 _ (N_X8_undo (by omega) (chk2_k g29) g31) (chk2_k g29) rfl rfl (Nat.le_of_ble_eq_true rfl) dL_law_215 ?_
  refine w_iload C 9 0 dL_law_218 rfl ?_
  refine w_icmp_ne C 235 dL_law_220 (by decide) (fun c32 => ?_) (fun c32 => ?_)
  · have hF := ifn hF c32
    refine w_sub [1, 2, 3, 4] (ll' := [(0, _), (1, _), (2, _), (6, _)]) rfl ?_
    exact W_L_law_235 C hq hd hF hK
  · have hF := ifp hF c32
    refine w_aload_n C 1 2 dL_law_223 rfl rfl ?_
    refine w_aload_n C 2 3 dL_law_224 rfl rfl ?_
    obtain ⟨q33, g34, hF⟩ := bnd hF
    refine w_cSi C mw_L_areAlike lk_L_176 _ (M_L_areAlike (by omega) g34) rfl rfl (Nat.le_of_ble_eq_true rfl) dL_law_225 ?_
    refine w_if_eq C 235 dL_law_228 (by decide) (fun c35 => ?_) (fun c35 => ?_)
    · have hF := ifp hF c35
      refine w_sub [1, 2, 3, 4] (ll' := [(0, _), (1, _), (2, _), (6, _)]) rfl ?_
      exact W_L_law_235 C hq hd hF hK
    · have hF := ifn hF c35
      refine w_iconst C (1) dL_law_231 (by decide) ?_
      refine w_goto C 236 dL_law_232 (by decide) ?_
      refine w_istore C 5 (ll' := [(5, _), (9, _), (0, _), (1, _), (2, _), (6, _), (8, _)]) dL_law_236 (by decide) rfl ?_
      refine w_iinc C (_ + (1 : Int32)) 5 (ll' := [(6, _), (5, _), (9, _), (0, _), (1, _), (2, _), (8, _)]) dL_law_238 rfl (inc_eq (by decide)) (by decide) rfl ?_
      refine w_goto C 103 dL_law_241 (by decide) ?_
      refine w_sub [3, 4, 5, 1, 0] (ll' := [(0, _), (1, _), (2, _), (5, _), (6, _)]) rfl ?_
      cases hF
      exact hK
set_option maxRecDepth 20000 in
set_option maxHeartbeats 4000000 in
theorem W_L_law_197 {Δ : DD2} {Γ : GG} {d : Nat} {q : (Int32 × Mem2)} {x0 : Nat} {x1 : Nat} {x2 : Nat} {x6 : Int32} {x8 : Int32} {y0 : Int32} {σ : Mem2} {y : ((Int32 × Int32 × Mem2) ⊕ (Int32 × Mem2))} (C : Cx2 Δ Γ RL cL_law 10 d (some .boolean)) (hq : EndQ2 Δ Γ q) (hd : 25 ≤ d) (hF : F_L_law_197 x0 x1 x2 x6 x8 y0 σ = some y) (hK : (K_L_law_103 Δ Γ q x0 x1 x2 y)) : V2 Δ Γ 10 197 [(0, rf2 Δ (x0)), (1, rf2 Δ (x1)), (2, rf2 Δ (x2)), (6, .int (x6)), (8, .int (x8))] [.int (y0)] σ := by
  unfold F_L_law_197 at hF
  refine w_aload_n C 2 2 dL_law_197 rfl rfl ?_
  obtain ⟨_, g25, hF⟩ := bnd hF
  obtain ⟨q26, g27, hF⟩ := bnd hF
  refine w_cVi C mw_X8_night lk_L_61 _ (N_X8_night (by omega) (chk2_k g25) g27) (chk2_k g25) rfl rfl (Nat.le_of_ble_eq_true rfl) dL_law_198 ?_
  refine w_if_lt C 208 dL_law_201 (by decide) (fun c28 => ?_) (fun c28 => ?_)
  · have hF := ifp hF c28
    refine w_iconst C (0) dL_law_208 (by decide) ?_
    exact W_L_law_209 C hq hd hF hK
  · have hF := ifn hF c28
    refine w_iconst C (1) dL_law_204 (by decide) ?_
    refine w_goto C 209 dL_law_205 (by decide) ?_
    exact W_L_law_209 C hq hd hF hK
set_option maxRecDepth 20000 in
set_option maxHeartbeats 4000000 in
theorem W_L_law_164 {Δ : DD2} {Γ : GG} {d : Nat} {q : (Int32 × Mem2)} {x0 : Nat} {x1 : Nat} {x2 : Nat} {x6 : Int32} {y0 : Int32} {σ : Mem2} {y : ((Int32 × Int32 × Mem2) ⊕ (Int32 × Mem2))} (C : Cx2 Δ Γ RL cL_law 10 d (some .boolean)) (hq : EndQ2 Δ Γ q) (hd : 25 ≤ d) (hF : F_L_law_164 x0 x1 x2 x6 y0 σ = some y) (hK : (K_L_law_103 Δ Γ q x0 x1 x2 y)) : V2 Δ Γ 10 164 [(0, rf2 Δ (x0)), (1, rf2 Δ (x1)), (2, rf2 Δ (x2)), (6, .int (x6))] [.int (y0)] σ := by
  unfold F_L_law_164 at hF
  refine w_istore C 5 (ll' := [(5, _), (0, _), (1, _), (2, _), (6, _)]) dL_law_164 (by decide) rfl ?_
  refine w_aload_n C 2 3 dL_law_166 rfl rfl ?_
  refine w_iconst C (2) dL_law_167 (by decide) ?_
  obtain ⟨_, g16, hF⟩ := bnd hF
  obtain ⟨q17, g18, hF⟩ := bnd hF
  refine w_cVi C mw_X8_count lk_L_149 _ (N_X8_count (by omega) (chk2_k g16) g18) (chk2_k g16) rfl rfl (Nat.le_of_ble_eq_true rfl) dL_law_168 ?_
  refine w_istore C 8 (ll' := [(8, _), (5, _), (0, _), (1, _), (2, _), (6, _)]) dL_law_171 (by decide) rfl ?_
  refine w_iload C 5 1 dL_law_173 rfl ?_
  refine w_if_eq C 238 dL_law_175 (by decide) (fun c19 => ?_) (fun c19 => ?_)
  · have hF := ifp hF c19
    refine w_iinc C (_ + (1 : Int32)) 5 (ll' := [(6, _), (8, _), (5, _), (0, _), (1, _), (2, _)]) dL_law_238 rfl (inc_eq (by decide)) (by decide) rfl ?_
    refine w_goto C 103 dL_law_241 (by decide) ?_
    refine w_sub [3, 4, 5, 2, 0] (ll' := [(0, _), (1, _), (2, _), (5, _), (6, _)]) rfl ?_
    cases hF
    exact hK
  · have hF := ifn hF c19
    refine w_iload C 8 0 dL_law_178 rfl ?_
    refine w_bipush C (39) dL_law_180 (by decide) ?_
    refine w_icmp_ge C 238 dL_law_182 (by decide) (fun c20 => ?_) (fun c20 => ?_)
    · have hF := ifp hF c20
      refine w_iinc C (_ + (1 : Int32)) 5 (ll' := [(6, _), (8, _), (5, _), (0, _), (1, _), (2, _)]) dL_law_238 rfl (inc_eq (by decide)) (by decide) rfl ?_
      refine w_goto C 103 dL_law_241 (by decide) ?_
      refine w_sub [3, 4, 5, 2, 0] (ll' := [(0, _), (1, _), (2, _), (5, _), (6, _)]) rfl ?_
      cases hF
      exact hK
    · have hF := ifn hF c20
      refine w_aload_n C 2 4 dL_law_185 rfl rfl ?_
      obtain ⟨_, g21, hF⟩ := bnd hF
      obtain ⟨q22, g23, hF⟩ := bnd hF
      refine w_cVi C mw_X8_night lk_L_61 _ (N_X8_night (by omega) (chk2_k g21) g23) (chk2_k g21) rfl rfl (Nat.le_of_ble_eq_true rfl) dL_law_186 ?_
      refine w_if_lt C 196 dL_law_189 (by decide) (fun c24 => ?_) (fun c24 => ?_)
      · have hF := ifp hF c24
        refine w_iconst C (0) dL_law_196 (by decide) ?_
        refine w_sub [2, 3, 4, 5, 0] (ll' := [(0, _), (1, _), (2, _), (6, _), (8, _)]) rfl ?_
        exact W_L_law_197 C hq hd hF hK
      · have hF := ifn hF c24
        refine w_iconst C (1) dL_law_192 (by decide) ?_
        refine w_goto C 197 dL_law_193 (by decide) ?_
        refine w_sub [2, 3, 4, 5, 0] (ll' := [(0, _), (1, _), (2, _), (6, _), (8, _)]) rfl ?_
        exact W_L_law_197 C hq hd hF hK
set_option maxRecDepth 20000 in
set_option maxHeartbeats 4000000 in
theorem W_L_law_163 {Δ : DD2} {Γ : GG} {d : Nat} {q : (Int32 × Mem2)} {x0 : Nat} {x1 : Nat} {x2 : Nat} {x6 : Int32}  {σ : Mem2} {y : ((Int32 × Int32 × Mem2) ⊕ (Int32 × Mem2))} (C : Cx2 Δ Γ RL cL_law 10 d (some .boolean)) (hq : EndQ2 Δ Γ q) (hd : 25 ≤ d) (hF : F_L_law_163 x0 x1 x2 x6  σ = some y) (hK : (K_L_law_103 Δ Γ q x0 x1 x2 y)) : V2 Δ Γ 10 163 [(0, rf2 Δ (x0)), (1, rf2 Δ (x1)), (2, rf2 Δ (x2)), (6, .int (x6))] [] σ := by
  unfold F_L_law_163 at hF
  refine w_iconst C (0) dL_law_163 (by decide) ?_
  exact W_L_law_164 C hq hd hF hK
set_option maxRecDepth 20000 in
set_option maxHeartbeats 4000000 in
theorem W_L_law_334 {Δ : DD2} {Γ : GG} {d : Nat} {q : (Int32 × Mem2)} {x1 : Nat} {x2 : Nat} {y0 : Int32} {σ : Mem2} (C : Cx2 Δ Γ RL cL_law 10 d (some .boolean)) (hq : EndQ2 Δ Γ q) (hd : 25 ≤ d) (hF : F_L_law_334 x1 x2 y0 σ = some q) : V2 Δ Γ 10 334 [(1, rf2 Δ (x1)), (2, rf2 Δ (x2))] [.int (y0)] σ := by
  unfold F_L_law_334 at hF
  refine w_istore C 5 (ll' := [(5, _), (1, _), (2, _)]) dL_law_334 (by decide) rfl ?_
  refine w_iload C 5 0 dL_law_336 rfl ?_
  refine w_if_eq C 370 dL_law_338 (by decide) (fun c74 => ?_) (fun c74 => ?_)
  · have hF := ifp hF c74
    refine w_iconst C (0) dL_law_370 (by decide) ?_
    exact e_zretF C hq (Option.some.inj hF) rfl dL_law_371
  · have hF := ifn hF c74
    refine w_aload_n C 1 1 dL_law_341 rfl rfl ?_
    obtain ⟨_, g75, hF⟩ := bnd hF
    obtain ⟨q76, g77, hF⟩ := bnd hF
    refine w_cVl C mw_X8_digest lk_L_155 _ (N_X8_digest (by omega) (chk2_k g75) g77) (chk2_k g75) rfl rfl (Nat.le_of_ble_eq_true rfl) dL_law_342 ?_
    refine w_aload_n C 2 2 dL_law_345 rfl rfl ?_
    obtain ⟨_, g78, hF⟩ := bnd hF
    obtain ⟨q79, g80, hF⟩ := bnd hF
    refine w_cVl C mw_X8_digest lk_L_155 _ (N_X8_digest (by omega) (chk2_k g78) g80) (chk2_k g78) rfl rfl (Nat.le_of_ble_eq_true rfl) dL_law_346 ?_
    refine w_lcmp C dL_law_349 ?_
    refine w_if_ne C 370 dL_law_350 (by decide) (fun c81 => ?_) (fun c81 => ?_)
    · have hF := ifn hF c81
      refine w_iconst C (0) dL_law_370 (by decide) ?_
      exact e_zretF C hq (Option.some.inj hF) rfl dL_law_371
    · have hF := ifp hF c81
      refine w_aload_n C 1 1 dL_law_353 rfl rfl ?_
      refine w_iconst C (2) dL_law_354 (by decide) ?_
      obtain ⟨_, g82, hF⟩ := bnd hF
      obtain ⟨q83, g84, hF⟩ := bnd hF
      refine w_cVi C mw_X8_duel lk_L_143 _ (N_X8_duel (by omega) (chk2_k g82) g84) (chk2_k g82) rfl rfl (Nat.le_of_ble_eq_true rfl) dL_law_355 ?_
      refine w_aload_n C 2 2 dL_law_358 rfl rfl ?_
      refine w_iconst C (2) dL_law_359 (by decide) ?_
      obtain ⟨_, g85, hF⟩ := bnd hF
      obtain ⟨q86, g87, hF⟩ := bnd hF
      refine w_cVi C mw_X8_duel lk_L_143 _ (N_X8_duel (by omega) (chk2_k g85) g87) (chk2_k g85) rfl rfl (Nat.le_of_ble_eq_true rfl) dL_law_360 ?_
      refine w_icmp_ne C 370 dL_law_363 (by decide) (fun c88 => ?_) (fun c88 => ?_)
      · have hF := ifn hF c88
        refine w_iconst C (0) dL_law_370 (by decide) ?_
        exact e_zretF C hq (Option.some.inj hF) rfl dL_law_371
      · have hF := ifp hF c88
        refine w_iconst C (1) dL_law_366 (by decide) ?_
        refine w_goto C 371 dL_law_367 (by decide) ?_
        exact e_zretF C hq (Option.some.inj hF) rfl dL_law_371
set_option maxRecDepth 20000 in
set_option maxHeartbeats 4000000 in
theorem W_L_law_333 {Δ : DD2} {Γ : GG} {d : Nat} {q : (Int32 × Mem2)} {x1 : Nat} {x2 : Nat}  {σ : Mem2} (C : Cx2 Δ Γ RL cL_law 10 d (some .boolean)) (hq : EndQ2 Δ Γ q) (hd : 25 ≤ d) (hF : F_L_law_333 x1 x2  σ = some q) : V2 Δ Γ 10 333 [(1, rf2 Δ (x1)), (2, rf2 Δ (x2))] [] σ := by
  unfold F_L_law_333 at hF
  refine w_iconst C (0) dL_law_333 (by decide) ?_
  exact W_L_law_334 C hq hd hF
set_option maxRecDepth 20000 in
set_option maxHeartbeats 4000000 in
theorem W_L_law_244 {Δ : DD2} {Γ : GG} {d : Nat} {q : (Int32 × Mem2)} {x1 : Nat} {x2 : Nat} {x5 : Int32}  {σ : Mem2} (C : Cx2 Δ Γ RL cL_law 10 d (some .boolean)) (hq : EndQ2 Δ Γ q) (hd : 25 ≤ d) (hF : F_L_law_244 x1 x2 x5  σ = some q) : V2 Δ Γ 10 244 [(1, rf2 Δ (x1)), (2, rf2 Δ (x2)), (5, .int (x5))] [] σ := by
  unfold F_L_law_244 at hF
  refine w_aload_n C 2 1 dL_law_244 rfl rfl ?_
  refine w_iconst C (2) dL_law_245 (by decide) ?_
  obtain ⟨_, g36, hF⟩ := bnd hF
  obtain ⟨q37, g38, hF⟩ := bnd hF
  refine w_cVi C mw_X8_count lk_L_149 _ (N_X8_count (by omega) (chk2_k g36) g38) (chk2_k g36) rfl rfl (Nat.le_of_ble_eq_true rfl) dL_law_246 ?_
  refine w_istore C 6 (ll' := [(6, _), (1, _), (2, _), (5, _)]) dL_law_249 (by decide) rfl ?_
  refine w_iload C 5 3 dL_law_251 rfl ?_
  refine w_if_eq C 333 dL_law_253 (by decide) (fun c39 => ?_) (fun c39 => ?_)
  · have hF := ifp hF c39
    refine w_sub [1, 2] (ll' := [(1, _), (2, _)]) rfl ?_
    exact W_L_law_333 C hq hd hF
  · have hF := ifn hF c39
    refine w_aload_n C 2 2 dL_law_256 rfl rfl ?_
    refine w_iconst C (2) dL_law_257 (by decide) ?_
    obtain ⟨_, g40, hF⟩ := bnd hF
    obtain ⟨q41, g42, hF⟩ := bnd hF
    refine w_cVi C mw_X8_keep lk_L_79 _ (N_X8_keep (by omega) (chk2_k g40) g42) (chk2_k g40) rfl rfl (Nat.le_of_ble_eq_true rfl) dL_law_258 ?_
    refine w_aload_n C 1 1 dL_law_261 rfl rfl ?_
    refine w_iconst C (2) dL_law_262 (by decide) ?_
    obtain ⟨_, g43, hF⟩ := bnd hF
    obtain ⟨q44, g45, hF⟩ := bnd hF
    refine w_cVi C mw_X8_keep lk_L_79 _ (N_X8_keep (by omega) (chk2_k g43) g45) (chk2_k g43) rfl rfl (Nat.le_of_ble_eq_true rfl) dL_law_263 ?_
    refine w_icmp_ne C 333 dL_law_266 (by decide) (fun c46 => ?_) (fun c46 => ?_)
    · have hF := ifn hF c46
      refine w_sub [1, 2] (ll' := [(1, _), (2, _)]) rfl ?_
      exact W_L_law_333 C hq hd hF
    · have hF := ifp hF c46
      refine w_aload_n C 2 2 dL_law_269 rfl rfl ?_
      obtain ⟨_, g47, hF⟩ := bnd hF
      obtain ⟨q48, g49, hF⟩ := bnd hF
      refine w_cVi C mw_X8_night lk_L_61 _ (N_X8_night (by omega) (chk2_k g47) g49) (chk2_k g47) rfl rfl (Nat.le_of_ble_eq_true rfl) dL_law_270 ?_
      refine w_bipush C (-4) dL_law_273 (by decide) ?_
      refine w_icmp_lt C 333 dL_law_275 (by decide) (fun c50 => ?_) (fun c50 => ?_)
      · have hF := ifp hF c50
        refine w_sub [1, 2] (ll' := [(1, _), (2, _)]) rfl ?_
        exact W_L_law_333 C hq hd hF
      · have hF := ifn hF c50
        refine w_aload_n C 2 2 dL_law_278 rfl rfl ?_
        refine w_iconst C (0) dL_law_279 (by decide) ?_
        obtain ⟨_, g51, hF⟩ := bnd hF
        obtain ⟨q52, g53, hF⟩ := bnd hF
        refine w_cVi C mw_X8_inspect lk_L_64 _ (N_X8_inspect (by omega) (chk2_k g51) g53) (chk2_k g51) rfl rfl (Nat.le_of_ble_eq_true rfl) dL_law_280 ?_
        refine w_bipush C (-4) dL_law_283 (by decide) ?_
        refine w_icmp_lt C 333 dL_law_285 (by decide) (fun c54 => ?_) (fun c54 => ?_)
        · have hF := ifp hF c54
          refine w_sub [1, 2] (ll' := [(1, _), (2, _)]) rfl ?_
          exact W_L_law_333 C hq hd hF
        · have hF := ifn hF c54
          refine w_aload_n C 2 2 dL_law_288 rfl rfl ?_
          refine w_iconst C (0) dL_law_289 (by decide) ?_
          obtain ⟨_, g55, hF⟩ := bnd hF
          obtain ⟨q56, g57, hF⟩ := bnd hF
          refine w_cVi C mw_X8_thin lk_L_67 _ (N_X8_thin (by omega) (chk2_k g55) g57) (chk2_k g55) rfl rfl (Nat.le_of_ble_eq_true rfl) dL_law_290 ?_
          refine w_bipush C (-4) dL_law_293 (by decide) ?_
          refine w_icmp_lt C 333 dL_law_295 (by decide) (fun c58 => ?_) (fun c58 => ?_)
          · have hF := ifp hF c58
            refine w_sub [1, 2] (ll' := [(1, _), (2, _)]) rfl ?_
            exact W_L_law_333 C hq hd hF
          · have hF := ifn hF c58
            refine w_aload_n C 2 2 dL_law_298 rfl rfl ?_
            refine w_iconst C (0) dL_law_299 (by decide) ?_
            obtain ⟨_, g59, hF⟩ := bnd hF
            obtain ⟨q60, g61, hF⟩ := bnd hF
            refine w_cVi C mw_X8_undo lk_L_73 _ (N_X8_undo (by omega) (chk2_k g59) g61) (chk2_k g59) rfl rfl (Nat.le_of_ble_eq_true rfl) dL_law_300 ?_
            refine w_if_lt C 333 dL_law_303 (by decide) (fun c62 => ?_) (fun c62 => ?_)
            · have hF := ifp hF c62
              refine w_sub [1, 2] (ll' := [(1, _), (2, _)]) rfl ?_
              exact W_L_law_333 C hq hd hF
            · have hF := ifn hF c62
              refine w_aload_n C 2 2 dL_law_306 rfl rfl ?_
              refine w_iconst C (2) dL_law_307 (by decide) ?_
              obtain ⟨_, g63, hF⟩ := bnd hF
              obtain ⟨q64, g65, hF⟩ := bnd hF
              refine w_cVi C mw_X8_on lk_L_82 _ (N_X8_on (by omega) (chk2_k g63) g65) (chk2_k g63) rfl rfl (Nat.le_of_ble_eq_true rfl) dL_law_308 ?_
              refine w_aload_n C 1 1 dL_law_311 rfl rfl ?_
              refine w_iconst C (2) dL_law_312 (by decide) ?_
              obtain ⟨_, g66, hF⟩ := bnd hF
              obtain ⟨q67, g68, hF⟩ := bnd hF
              refine w_cVi C mw_X8_on lk_L_82 _ (N_X8_on (by omega) (chk2_k g66) g68) (chk2_k g66) rfl rfl (Nat.le_of_ble_eq_true rfl) dL_law_313 ?_
              refine w_icmp_ne C 333 dL_law_316 (by decide) (fun c69 => ?_) (fun c69 => ?_)
              · have hF := ifn hF c69
                refine w_sub [1, 2] (ll' := [(1, _), (2, _)]) rfl ?_
                exact W_L_law_333 C hq hd hF
              · have hF := ifp hF c69
                refine w_aload_n C 2 2 dL_law_319 rfl rfl ?_
                refine w_iconst C (2) dL_law_320 (by decide) ?_
                obtain ⟨_, g70, hF⟩ := bnd hF
                obtain ⟨q71, g72, hF⟩ := bnd hF
                refine w_cVi C mw_X8_count lk_L_149 _ (N_X8_count (by omega) (chk2_k g70) g72) (chk2_k g70) rfl rfl (Nat.le_of_ble_eq_true rfl) dL_law_321 ?_
                refine w_iload C 6 0 dL_law_324 rfl ?_
                refine w_icmp_ne C 333 dL_law_326 (by decide) (fun c73 => ?_) (fun c73 => ?_)
                · have hF := ifn hF c73
                  refine w_sub [1, 2] (ll' := [(1, _), (2, _)]) rfl ?_
                  exact W_L_law_333 C hq hd hF
                · have hF := ifp hF c73
                  refine w_iconst C (1) dL_law_329 (by decide) ?_
                  refine w_goto C 334 dL_law_330 (by decide) ?_
                  refine w_sub [1, 2] (ll' := [(1, _), (2, _)]) rfl ?_
                  exact W_L_law_334 C hq hd hF
set_option maxRecDepth 20000 in
set_option maxHeartbeats 4000000 in
theorem W_L_law_103 {Δ : DD2} {Γ : GG} {d : Nat} {q : (Int32 × Mem2)} {x0 : Nat} {x1 : Nat} {x2 : Nat} (C : Cx2 Δ Γ RL cL_law 10 d (some .boolean)) (hq : EndQ2 Δ Γ q) (hd : 25 ≤ d) {s : Int32 × Int32 × Mem2} (hF : F_L_law_103 x0 x1 x2  s = some q) : V2 Δ Γ 10 103 [(0, rf2 Δ (x0)), (1, rf2 Δ (x1)), (2, rf2 Δ (x2)), (5, .int (s.1)), (6, .int (s.2.1))] [] s.2.2 := by
  have hF : F_L_law_103 x0 x1 x2  s = some q := hF
  refine lp_V (W := fun (s : Int32 × Int32 × Mem2) => V2 Δ Γ 10 103 [(0, rf2 Δ (x0)), (1, rf2 Δ (x1)), (2, rf2 Δ (x2)), (5, .int (s.1)), (6, .int (s.2.1))] [] s.2.2) (K := fun t => t = q) (K' := K_L_law_103 Δ Γ q x0 x1 x2 ) (fun _ h => h) (fun _ h => h) ?_ s q hF rfl
  clear hF
  intro s z hF hK
  refine w_iload C 6 4 dL_law_103 rfl ?_
  refine w_bipush C (20) dL_law_105 (by decide) ?_
  refine w_icmp_ge C 244 dL_law_107 (by decide) (fun c1 => ?_) (fun c1 => ?_)
  · have hF := ifp hF c1
    refine w_sub [1, 2, 3] (ll' := [(1, _), (2, _), (5, _)]) rfl ?_
    obtain ⟨z, hz, e⟩ := mapd hF
    subst e
    exact W_L_law_244 C hq hd (hz.trans (congrArg some hK))
  · have hF := ifn hF c1
    refine w_iload C 5 3 dL_law_110 rfl ?_
    refine w_if_eq C 244 dL_law_112 (by decide) (fun c2 => ?_) (fun c2 => ?_)
    · have hF := ifp hF c2
      refine w_sub [1, 2, 3] (ll' := [(1, _), (2, _), (5, _)]) rfl ?_
      obtain ⟨z, hz, e⟩ := mapd hF
      subst e
      exact W_L_law_244 C hq hd (hz.trans (congrArg some hK))
    · have hF := ifn hF c2
      refine w_aload_n C 0 0 dL_law_115 rfl rfl ?_
      refine w_iconst C (4) dL_law_116 (by decide) ?_
      refine w_iload C 6 4 dL_law_117 rfl ?_
      refine w_iadd C dL_law_119 ?_
      obtain ⟨q3, g4, hF⟩ := bnd hF
      refine w_cSi C mw_L_cell lk_L_15 _ (M_L_cell (by omega) g4) rfl rfl (Nat.le_of_ble_eq_true rfl) dL_law_120 ?_
      refine w_istore C 7 (ll' := [(7, _), (0, _), (1, _), (2, _), (5, _), (6, _)]) dL_law_123 (by decide) rfl ?_
      refine w_aload_n C 1 2 dL_law_125 rfl rfl ?_
      refine w_iload C 7 0 dL_law_126 rfl ?_
      obtain ⟨q5, g6, hF⟩ := bnd hF
      refine w_cSi C mw_L_act lk_L_183 _ (M_L_act (by omega) g6) rfl rfl (Nat.le_of_ble_eq_true rfl) dL_law_128 ?_
      refine w_aload_n C 2 3 dL_law_131 rfl rfl ?_
      refine w_iload C 7 0 dL_law_132 rfl ?_
      obtain ⟨q7, g8, hF⟩ := bnd hF
      refine w_cSi C mw_L_act lk_L_183 _ (M_L_act (by omega) g8) rfl rfl (Nat.le_of_ble_eq_true rfl) dL_law_134 ?_
      refine w_icmp_ne C 163 dL_law_137 (by decide) (fun c9 => ?_) (fun c9 => ?_)
      · have hF := ifn hF c9
        refine w_sub [1, 2, 3, 5] (ll' := [(0, _), (1, _), (2, _), (6, _)]) rfl ?_
        exact W_L_law_163 C hq hd hF hK
      · have hF := ifp hF c9
        refine w_aload_n C 2 3 dL_law_140 rfl rfl ?_
        refine w_iload C 7 0 dL_law_141 rfl ?_
        refine w_iconst C (3) dL_law_143 (by decide) ?_
        refine w_ishr C dL_law_144 ?_
        obtain ⟨q10, g11, hF⟩ := bnd hF
        refine w_cSi C mw_L_isLeft lk_L_172 _ (M_L_isLeft (by omega) g11) rfl rfl (Nat.le_of_ble_eq_true rfl) dL_law_145 ?_
        refine w_if_eq C 163 dL_law_148 (by decide) (fun c12 => ?_) (fun c12 => ?_)
        · have hF := ifp hF c12
          refine w_sub [1, 2, 3, 5] (ll' := [(0, _), (1, _), (2, _), (6, _)]) rfl ?_
          exact W_L_law_163 C hq hd hF hK
        · have hF := ifn hF c12
          refine w_aload_n C 1 2 dL_law_151 rfl rfl ?_
          refine w_aload_n C 2 3 dL_law_152 rfl rfl ?_
          obtain ⟨q13, g14, hF⟩ := bnd hF
          refine w_cSi C mw_L_areAlike lk_L_176 _ (M_L_areAlike (by omega) g14) rfl rfl (Nat.le_of_ble_eq_true rfl) dL_law_153 ?_
          refine w_if_eq C 163 dL_law_156 (by decide) (fun c15 => ?_) (fun c15 => ?_)
          · have hF := ifp hF c15
            refine w_sub [1, 2, 3, 5] (ll' := [(0, _), (1, _), (2, _), (6, _)]) rfl ?_
            exact W_L_law_163 C hq hd hF hK
          · have hF := ifn hF c15
            refine w_iconst C (1) dL_law_159 (by decide) ?_
            refine w_goto C 164 dL_law_160 (by decide) ?_
            refine w_sub [1, 2, 3, 5] (ll' := [(0, _), (1, _), (2, _), (6, _)]) rfl ?_
            exact W_L_law_164 C hq hd hF hK
set_option maxRecDepth 20000 in
set_option maxHeartbeats 4000000 in
theorem W_L_law_98 {Δ : DD2} {Γ : GG} {d : Nat} {q : (Int32 × Mem2)} {x0 : Nat} {x1 : Nat} {x2 : Nat} {y0 : Int32} {σ : Mem2} (C : Cx2 Δ Γ RL cL_law 10 d (some .boolean)) (hq : EndQ2 Δ Γ q) (hd : 25 ≤ d) (hF : F_L_law_98 x0 x1 x2 y0 σ = some q) : V2 Δ Γ 10 98 [(0, rf2 Δ (x0)), (1, rf2 Δ (x1)), (2, rf2 Δ (x2))] [.int (y0)] σ := by
  unfold F_L_law_98 at hF
  refine w_istore C 5 (ll' := [(5, _), (0, _), (1, _), (2, _)]) dL_law_98 (by decide) rfl ?_
  refine w_iconst C (0) dL_law_100 (by decide) ?_
  refine w_istore C 6 (ll' := [(6, _), (5, _), (0, _), (1, _), (2, _)]) dL_law_101 (by decide) rfl ?_
  refine w_sub [2, 3, 4, 1, 0] (ll' := [(0, _), (1, _), (2, _), (5, _), (6, _)]) rfl ?_
  exact W_L_law_103 C hq hd hF
set_option maxRecDepth 20000 in
set_option maxHeartbeats 4000000 in
theorem W_L_law_97 {Δ : DD2} {Γ : GG} {d : Nat} {q : (Int32 × Mem2)} {x0 : Nat} {x1 : Nat} {x2 : Nat}  {σ : Mem2} (C : Cx2 Δ Γ RL cL_law 10 d (some .boolean)) (hq : EndQ2 Δ Γ q) (hd : 25 ≤ d) (hF : F_L_law_97 x0 x1 x2  σ = some q) : V2 Δ Γ 10 97 [(0, rf2 Δ (x0)), (1, rf2 Δ (x1)), (2, rf2 Δ (x2))] [] σ := by
  unfold F_L_law_97 at hF
  refine w_iconst C (0) dL_law_97 (by decide) ?_
  exact W_L_law_98 C hq hd hF
set_option maxRecDepth 20000 in
set_option maxHeartbeats 4000000 in
theorem V_L_law {Δ : DD2} {Γ : GG} {d : Nat} {x0 x1 x2 x3 x4 : Nat} {σ : Mem2} {q : Int32 × Mem2} (C : Cx2 Δ Γ RL cL_law 10 d (some .boolean)) (hq : EndQ2 Δ Γ q) (hd : 25 ≤ d) (hF : F_L_law x0 x1 x2 x3 x4 σ = some q) : V2 Δ Γ 10 27 [(0, rf2 Δ (x0)), (1, rf2 Δ (x1)), (2, rf2 Δ (x2)), (3, rf2 Δ (x3)), (4, rf2 Δ (x4))] [] σ := by
  unfold F_L_law at hF
  refine w_aload_n C 2 2 dL_law_27 rfl rfl ?_
  refine w_aload_n C 0 0 dL_law_28 rfl rfl ?_
  refine w_iconst C (1) dL_law_29 (by decide) ?_
  obtain ⟨q89, g90, hF⟩ := bnd hF
  refine w_cSi C mw_L_cell lk_L_15 _ (M_L_cell (by omega) g90) rfl rfl (Nat.le_of_ble_eq_true rfl) dL_law_30 ?_
  obtain ⟨q91, g92, hF⟩ := bnd hF
  refine w_cSi C mw_L_isLeft lk_L_172 _ (M_L_isLeft (by omega) g92) rfl rfl (Nat.le_of_ble_eq_true rfl) dL_law_33 ?_
  refine w_if_eq C 97 dL_law_36 (by decide) (fun c93 => ?_) (fun c93 => ?_)
  · have hF := ifp hF c93
    refine w_sub [0, 1, 2] (ll' := [(0, _), (1, _), (2, _)]) rfl ?_
    exact W_L_law_97 C hq hd hF
  · have hF := ifn hF c93
    refine w_aload_n C 1 1 dL_law_39 rfl rfl ?_
    refine w_aload_n C 2 2 dL_law_40 rfl rfl ?_
    obtain ⟨q94, g95, hF⟩ := bnd hF
    refine w_cSi C mw_L_areAlike lk_L_176 _ (M_L_areAlike (by omega) g95) rfl rfl (Nat.le_of_ble_eq_true rfl) dL_law_41 ?_
    refine w_if_eq C 97 dL_law_44 (by decide) (fun c96 => ?_) (fun c96 => ?_)
    · have hF := ifp hF c96
      refine w_sub [0, 1, 2] (ll' := [(0, _), (1, _), (2, _)]) rfl ?_
      exact W_L_law_97 C hq hd hF
    · have hF := ifn hF c96
      refine w_aload_n C 1 1 dL_law_47 rfl rfl ?_
      refine w_aload_n C 0 0 dL_law_48 rfl rfl ?_
      refine w_bipush C (6) dL_law_49 (by decide) ?_
      refine w_aload_n C 3 3 dL_law_51 rfl rfl ?_
      refine w_aload C 4 4 dL_law_52 rfl ?_
      obtain ⟨q97, g98, hF⟩ := bnd hF
      refine w_cSi C mw_L_town lk_L_180 _ (M_L_town (by omega) g98) rfl rfl (Nat.le_of_ble_eq_true rfl) dL_law_54 ?_
      refine w_if_eq C 97 dL_law_57 (by decide) (fun c99 => ?_) (fun c99 => ?_)
      · have hF := ifp hF c99
        refine w_sub [0, 1, 2] (ll' := [(0, _), (1, _), (2, _)]) rfl ?_
        exact W_L_law_97 C hq hd hF
      · have hF := ifn hF c99
        refine w_aload_n C 2 2 dL_law_60 rfl rfl ?_
        refine w_aload_n C 0 0 dL_law_61 rfl rfl ?_
        refine w_bipush C (6) dL_law_62 (by decide) ?_
        refine w_aload_n C 3 3 dL_law_64 rfl rfl ?_
        refine w_aload C 4 4 dL_law_65 rfl ?_
        obtain ⟨q100, g101, hF⟩ := bnd hF
        refine w_cSi C mw_L_town lk_L_180 _ (M_L_town (by omega) g101) rfl rfl (Nat.le_of_ble_eq_true rfl) dL_law_67 ?_
        refine w_if_eq C 97 dL_law_70 (by decide) (fun c102 => ?_) (fun c102 => ?_)
        · have hF := ifp hF c102
          refine w_sub [0, 1, 2] (ll' := [(0, _), (1, _), (2, _)]) rfl ?_
          exact W_L_law_97 C hq hd hF
        · have hF := ifn hF c102
          refine w_aload_n C 2 2 dL_law_73 rfl rfl ?_
          refine w_aload_n C 0 0 dL_law_74 rfl rfl ?_
          refine w_iconst C (0) dL_law_75 (by decide) ?_
          obtain ⟨q103, g104, hF⟩ := bnd hF
          refine w_cSi C mw_L_cell lk_L_15 _ (M_L_cell (by omega) g104) rfl rfl (Nat.le_of_ble_eq_true rfl) dL_law_76 ?_
          obtain ⟨q105, g106, hF⟩ := bnd hF
          refine w_cSi C mw_L_isLeft lk_L_172 _ (M_L_isLeft (by omega) g106) rfl rfl (Nat.le_of_ble_eq_true rfl) dL_law_79 ?_
          refine w_if_eq C 97 dL_law_82 (by decide) (fun c107 => ?_) (fun c107 => ?_)
          · have hF := ifp hF c107
            refine w_sub [0, 1, 2] (ll' := [(0, _), (1, _), (2, _)]) rfl ?_
            exact W_L_law_97 C hq hd hF
          · have hF := ifn hF c107
            refine w_aload_n C 1 1 dL_law_85 rfl rfl ?_
            refine w_aload_n C 2 2 dL_law_86 rfl rfl ?_
            obtain ⟨q108, g109, hF⟩ := bnd hF
            refine w_cSi C mw_L_areAlike lk_L_176 _ (M_L_areAlike (by omega) g109) rfl rfl (Nat.le_of_ble_eq_true rfl) dL_law_87 ?_
            refine w_if_eq C 97 dL_law_90 (by decide) (fun c110 => ?_) (fun c110 => ?_)
            · have hF := ifp hF c110
              refine w_sub [0, 1, 2] (ll' := [(0, _), (1, _), (2, _)]) rfl ?_
              exact W_L_law_97 C hq hd hF
            · have hF := ifn hF c110
              refine w_iconst C (1) dL_law_93 (by decide) ?_
              refine w_goto C 98 dL_law_94 (by decide) ?_
              refine w_sub [0, 1, 2] (ll' := [(0, _), (1, _), (2, _)]) rfl ?_
              exact W_L_law_98 C hq hd hF

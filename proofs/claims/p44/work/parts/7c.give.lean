/-! ===== marry: the class's side ===== -/
def costT (T : Tn) (i j : Nat) : Nat := crN (T (3 + i)) (gapT T i j) (T (21 + i)) (T 1) (T (39 + T 1 % 4))
theorem cost_le {B : Nat} {T : Tn} (hw : wfT B T) : ∀ i j, i < T 0 → j < T 0 → costT T i j ≤ 19 := fun i j hi hj => crN_le (gapT_le (hw.2.2.1 i hi).2.1 (hw.2.2.1 j hj).2.2.1) (hw.2.2.2.1 _ (Nat.mod_lt _ (by decide)))
def FrW (σ σ' : Mem) : Prop := (∀ a b, (a < 90 ∨ 92 < a) → σ'.1 a b = σ.1 a b) ∧ σ'.2 = σ.2
theorem FrW.rf {σ : Mem} : FrW σ σ := ⟨fun _ _ _ => rfl, rfl⟩
theorem FrW.tr {σ σ' σ'' : Mem} (h : FrW σ σ') (h2 : FrW σ' σ'') : FrW σ σ'' := ⟨fun a b q => (h2.1 a b q).trans (h.1 a b q), h2.2.trans h.2⟩
theorem FrW.set {a j : Nat} {v : Int32} {σ : Mem} (h1 : 90 ≤ a) (h2 : a ≤ 92) : FrW σ (setI σ a j v) := ⟨fun x y q => by rw [setI_1, if_neg (by omega)], rfl⟩
theorem FrW.o {σ σ' : Mem} (h : FrW σ σ') : FrO σ σ' := ⟨fun a b q => h.1 a b (by omega), h.2⟩
/-- the fewest, the first of them, the way so far -/
def WM (σ : Mem) (n : Nat) (s : Nat × Nat) (i P : Nat) : Prop := s.2 ≤ 1000000 ∧ σ.1 90 2 = nI s.2 ∧ (s.2 = 1000000 ∨ ∀ k, k < n → σ.1 91 k = nI (dg n n s.1 k)) ∧ ∀ k, k < i → σ.1 92 k = nI (dg n i P k)
theorem C_give {T : Tn} {B n : Nat} (hw : wfT B T) (hB : B ≤ 100000) (hn : n = T 0) (h0 : 0 < n) : ∀ D dep, D < dep → ∀ i P s σ, i + D = n → popN (gN n i P) = i → CT σ 18 T → WM σ n s i P → ∃ σ', F_X3_give dep 90 18 (nI i) (nI (gN n i P)) (nI (gs n (costT T) i P)) σ = some σ' ∧ WM σ' n (fo n (costT T) s (P * n ^ D) (n ^ D)) i P ∧ FrW σ σ' := by
  have h6 : n ≤ 6 := by rw [hn]; exact hw.1
  have hc : ∀ i j, i < n → j < n → costT T i j ≤ 19 := by rw [hn]; exact cost_le hw
  intro D
  induction D with
  | zero =>
    intro dep hd i P s σ hi hp h hW
    obtain ⟨w1, w2, w3, w4⟩ := hW
    have hgs := gs_le h0 hc i P (by omega)
    obtain ⟨m, rfl⟩ : ∃ m, dep = m + 1 := ⟨dep - 1, by omega⟩
    have hin : i = n := by omega
    subst hin
    show ∃ σ', B_X3_give (F_X3_give m) 90 18 (nI i) (nI (gN i i P)) (nI (gs i (costT T) i P)) σ = some σ' ∧ _
    unfold B_X3_give
    rw [gI_90_2, ob_some, w2]
    by_cases q : gs i (costT T) i P < s.2
    · rw [if_pos (nI_lt q (by omega)), C_isT h, ob_some, if_neg (nI_nlt (by omega) (by omega)), pI_90_2, ob_some, gR_90_1, ob_some, gR_90_0, ob_some, blk_one hp q]
      obtain ⟨σ', e, c1, c2, c3⟩ := cp_step (σ := setI σ 90 2 (nI (gs i (costT T) i P))) sh_92 sh_91 (by decide) (by decide) (by decide)
      rw [e, ob_some]
      refine ⟨σ', rfl, ⟨by show gs i (costT T) i P ≤ _; omega, ?_, Or.inr (fun k hk => ?_), fun k hk => ?_⟩, fun a b q2 => ?_, ?_⟩
      · show σ'.1 90 2 = nI (gs i (costT T) i P)
        rw [c2 _ _ (by omega), setI_1, if_pos ⟨rfl, rfl⟩]
      · rw [c1 k (by omega), setI_1, if_neg (by omega)]; exact w4 k hk
      · rw [c2 _ _ (by omega), setI_1, if_neg (by omega)]; exact w4 k hk
      · rw [c2 _ _ (by omega), setI_1, if_neg (by omega)]
      · rw [c3]; rfl
    · rw [if_neg (nI_nlt (by omega) (by omega)), blk_cut (i := i) h0 (Nat.add_zero i) (by omega)]
      exact ⟨σ, rfl, ⟨w1, w2, w3, w4⟩, FrW.rf⟩
  | succ D ih =>
    intro dep hd i P s σ hi hp h hW
    obtain ⟨w1, w2, w3, w4⟩ := hW
    have hgs := gs_le h0 hc i P (by omega)
    have g64 := gN_64 h0 h6 i P
    obtain ⟨m, rfl⟩ : ∃ m, dep = m + 1 := ⟨dep - 1, by omega⟩
    show ∃ σ', B_X3_give (F_X3_give m) 90 18 (nI i) (nI (gN n i P)) (nI (gs n (costT T) i P)) σ = some σ' ∧ _
    unfold B_X3_give
    rw [gI_90_2, ob_some, w2]
    by_cases q : gs n (costT T) i P < s.2
    · rw [if_pos (nI_lt q (by omega)), C_isT h, ob_some, if_pos (nI_lt (by omega) (by omega))]
      have key : ∃ t, F_X3_giveEach_3 (F_X3_give m) 90 18 (nI i) (nI (gN n i P)) (nI (gs n (costT T) i P)) ((0 : Int32), σ) = some t ∧ WM t n (fo n (costT T) s (P * n ^ (D + 1)) (n ^ (D + 1))) i P ∧ FrW σ t := by
        unfold F_X3_giveEach_3
        refine lp_inv (fun w (u : Int32 × Mem) => u.1 = nI w ∧ WM u.2 n (fo n (costT T) s (P * n ^ (D + 1)) (w * n ^ D)) i P ∧ FrW σ u.2) n ?_ ?_ _ ⟨rfl, ?_, FrW.rf⟩
        · intro w u hwn ⟨a1, a2, a3⟩
          have hu : CT u.2 18 T := h.kept (fun a b p q => a3.1 a b (by omega))
          obtain ⟨x1, x2, x3, x4⟩ := a2
          have eQ : (P * n + w) / n = P := by rw [Nat.add_comm, Nat.add_mul_div_right _ _ h0, Nat.div_eq_of_lt hwn, Nat.zero_add]
          have eM : (P * n + w) % n = w := by rw [Nat.add_comm, Nat.add_mul_mod_self_right, Nat.mod_eq_of_lt hwn]
          have eG : gN n (i + 1) (P * n + w) = ins (gN n i P) w := by
            show ins (gN n i ((P * n + w) / n)) ((P * n + w) % n) = _
            rw [eQ, eM]
          have eS : gs n (costT T) (i + 1) (P * n + w) = gs n (costT T) i P + costT T i w := by
            show gs n (costT T) i ((P * n + w) / n) + costT T i ((P * n + w) % n) = _
            rw [eQ, eM]
          have hin := ins_get (gN n i P) g64 w (by omega)
          have b1 := bN_le (gN n i P) w
          rw [a1, C_isT hu, ob_some, if_neg (nI_ge (by omega) (by omega)), get_bN _ g64 w (by omega), blk_next]
          by_cases z : bN (gN n i P) w = 1
          · rw [z, if_neg (by decide), nI_1]
            have eF : fo n (costT T) (fo n (costT T) s (P * n ^ (D + 1)) (w * n ^ D)) ((P * n + w) * n ^ D) (n ^ D) = fo n (costT T) s (P * n ^ (D + 1)) (w * n ^ D) := blk_twice (i := i + 1) h0 h6 (by omega) (by rw [eG, hin.2.1, if_pos z]; omega)
            rw [eF]
            exact ⟨_, rfl, rfl, ⟨x1, x2, x3, x4⟩, a3⟩
          · rw [show bN (gN n i P) w = 0 by omega, if_pos (show nI 0 = (0 : Int32) from rfl), gR_90_1, ob_some, wr_eq (by decide) sh_92 (by omega) (by decide), ob_some, tC tw_18, ob_some]
            have fr2 : FrW u.2 (setI u.2 92 i (nI w)) := FrW.set (by decide) (by decide)
            have hu2 : CT (setI u.2 92 i (nI w)) 18 T := hu.kept (fun a b p q => fr2.1 a b (by omega))
            have ec := C_crossesWith (σ := setI u.2 92 i (nI w)) tw_18 hu2 hw hB (show i < T 0 by omega) (show w < T 0 by omega)
            have hW2 : WM (setI u.2 92 i (nI w)) n (fo n (costT T) s (P * n ^ (D + 1)) (w * n ^ D)) (i + 1) (P * n + w) := by
              refine ⟨x1, ?_, ?_, fun k hk => ?_⟩
              · rw [setI_1, if_neg (by omega)]; exact x2
              · rcases x3 with x3 | x3
                · exact Or.inl x3
                · exact Or.inr (fun k hk => by rw [setI_1, if_neg (by omega)]; exact x3 k hk)
              · show (setI u.2 92 i (nI w)).1 92 k = nI (if k = i then (P * n + w) % n else dg n i ((P * n + w) / n) k)
                rw [setI_1, eQ, eM]
                by_cases y : k = i
                · rw [if_pos ⟨rfl, y⟩, if_pos y]
                · rw [if_neg (fun v => y v.2), if_neg y]; exact x4 k (by omega)
            obtain ⟨σ', e, r1, r2⟩ := ih m (by omega) (i + 1) (P * n + w) (fo n (costT T) s (P * n ^ (D + 1)) (w * n ^ D)) (setI u.2 92 i (nI w)) (by omega) (by rw [eG, hin.2.1, if_neg z]; omega) hu2 hW2
            rw [eG, eS] at e
            have ec' : F_X7_crossesWith 18 (nI i) (nI w) (setI u.2 92 i (nI w)) = some (nI (costT T i w)) := ec
            rw [ec', ob_some, nI_1, hin.1, nI_add, e, ob_some, nI_1]
            refine ⟨_, rfl, rfl, ⟨r1.1, r1.2.1, r1.2.2.1, fun k hk => ?_⟩, a3.tr (fr2.tr r2)⟩
            have r4 := r1.2.2.2 k (by omega)
            have r4 : σ'.1 92 k = nI (if k = i then (P * n + w) % n else dg n i ((P * n + w) / n) k) := r4
            rw [if_neg (by omega), eQ] at r4
            exact r4
        · intro u ⟨a1, a2, a3⟩
          have hu : CT u.2 18 T := h.kept (fun a b p q => a3.1 a b (by omega))
          rw [show n * n ^ D = n ^ (D + 1) by rw [Nat.pow_succ, Nat.mul_comm]] at a2
          exact ⟨u.2, by rw [a1, C_isT hu, ob_some, if_pos (nI_le (by omega) (by omega))], a2, a3⟩
        · show WM σ n (fo n (costT T) s (P * n ^ (D + 1)) (0 * n ^ D)) i P
          rw [Nat.zero_mul]
          exact ⟨w1, w2, w3, w4⟩
      obtain ⟨t, et, rt⟩ := key
      refine ⟨t, ?_, rt⟩
      unfold F_X3_giveEach
      rw [et, ob_some]
    · rw [if_neg (nI_nlt (by omega) (by omega)), blk_cut h0 (by omega) (by omega)]
      exact ⟨σ, rfl, ⟨w1, w2, w3, w4⟩, FrW.rf⟩

theorem nI_n9 {n : Nat} (h : n < 2 ^ 31) : ¬ nI n = (-9 : Int32) := fun z => by
  have := congrArg Int32.toInt z
  rw [nI_toInt h, show (-9 : Int32).toInt = -9 from rfl] at this
  omega
theorem moE_le {T : Tn} {i p m : Nat} {f : Nat → Int32} : moE T i f p m ≤ 60 := mosE_le 60
theorem C_telling {σ : Mem} {T : Tn} {B i p : Nat} {f : Nat → Int32} (h : CT σ 18 T) (hw : wfT B T) (hi : i < T 0) (hP : PC σ f p) (hp : p ≤ 20) : ∃ σ', FrO σ σ' ∧ (((∀ e, e < 60 → ¬ FE T i f p e) ∧ F_X0_tellingNight 93 18 (nI i) σ = some (-9, σ')) ∨ ((¬ ∀ e, e < 60 → ¬ FE T i f p e) ∧ F_X0_tellingNight 93 18 (nI i) σ = some (nI (bstE (moE T i f p) 8).1, σ') ∧ σ'.1 93 5 = nI (bstE (moE T i f p) 8).2)) := by
  have key : ∃ t, F_X0_tellingNight_5 93 18 (nI i) ((0 : Int32), (0 : Int32), σ) = some t ∧ (FrO σ t.2 ∧ (((∀ e, e < 60 → ¬ FE T i f p e) ∧ t.1 = -9) ∨ ((¬ ∀ e, e < 60 → ¬ FE T i f p e) ∧ t.1 = nI (bstE (moE T i f p) 8).1 ∧ t.2.1 93 5 = nI (bstE (moE T i f p) 8).2))) := by
    unfold F_X0_tellingNight_5
    refine lp_inv (fun kd (s : Int32 × Int32 × Mem) => s.2.1 = nI kd ∧ (s.1 = 0 ↔ ∀ e, e < 10 * kd → ¬ FE T i f p e) ∧ (∀ k, k < kd → s.2.2.1 96 k = bitI (fun th => fitP T i k th f p) 10) ∧ (∀ a b, a ≠ 96 → s.2.2.1 a b = σ.1 a b) ∧ s.2.2.2 = σ.2) 6 ?_ ?_ _ ⟨rfl, ⟨fun _ e he => absurd he (by omega), fun _ => rfl⟩, fun v hv => absurd hv (by omega), fun _ _ _ => rfl, rfl⟩
    · intro kd s hk ⟨a1, a2, a3, a4, a5⟩
      have hN : CT s.2.2 18 T := h.kept (fun a b p q => a4 a b (by omega))
      have hP2 : PC s.2.2 f p := hP.kept (fun a b q => a4 a b (by omega))
      have ba := bit_any (P := fun th => fitP T i kd th f p) 10 (by omega)
      refine ⟨(s.1 ||| bitI (fun th => fitP T i kd th f p) 10, nI (kd + 1), setI s.2.2 96 kd (bitI (fun th => fitP T i kd th f p) 10)), ?_, rfl, ?_, fun k hk2 => ?_, fun a b q => ?_, a5⟩
      · rw [a1, if_neg (show ¬ (6 : Int32) ≤ nI kd from nI_ge (b := 6) hk (by decide)), C_thicksF hN hw hi hP2 hp hk, ob_some, gR_93_2, ob_some, wr_eq (by decide) sh_96 hk (by decide), ob_some, nI_1]
      · show (s.1 ||| _) = 0 ↔ _
        rw [Int32.or_eq_zero_iff, a2, ba]
        constructor
        · intro ⟨z1, z2⟩ e he
          rcases Nat.lt_or_ge e (10 * kd) with y | y
          · exact z1 e y
          · show ¬ fitP T i (e / 10) (e % 10) f p
            rw [show e / 10 = kd by omega]
            exact z2 (e % 10) (by omega)
        · intro z
          refine ⟨fun e he => z e (by omega), fun th ht => ?_⟩
          have := z (10 * kd + th) (by omega)
          have d1 : (10 * kd + th) / 10 = kd := by omega
          have d2 : (10 * kd + th) % 10 = th := by omega
          have this : ¬ fitP T i ((10 * kd + th) / 10) ((10 * kd + th) % 10) f p := this
          rw [d1, d2] at this
          exact this
      · show (setI s.2.2 96 kd (bitI (fun th => fitP T i kd th f p) 10)).1 96 k = _
        rw [setI_1]
        by_cases y : k = kd
        · rw [if_pos ⟨rfl, y⟩, y]
        · rw [if_neg (fun z => y z.2)]; exact a3 k (by omega)
      · show (setI s.2.2 96 kd (bitI (fun th => fitP T i kd th f p) 10)).1 a b = _
        rw [setI_1, if_neg (fun z => q z.1)]; exact a4 a b q
    · intro s ⟨a1, a2, a3, a4, a5⟩
      have fr : FrO σ s.2.2 := ⟨fun a b q => a4 a b (by omega), a5⟩
      rw [a1, if_pos (show (6 : Int32) ≤ nI 6 by decide)]
      by_cases z : s.1 = 0
      · exact ⟨((-9 : Int32), s.2.2), by rw [if_pos z], fr, Or.inl ⟨fun e he => a2.mp z e (by omega), rfl⟩⟩
      · have inner : ∃ t, F_X0_tellingNight_63 93 18 (nI i) ((0 : Int32), (0 : Int32), setI s.2.2 93 5 (1000000 : Int32)) = some t ∧ (FrO σ t.2 ∧ t.1 = nI (bstE (moE T i f p) 8).1 ∧ t.2.1 93 5 = nI (bstE (moE T i f p) 8).2) := by
          unfold F_X0_tellingNight_63
          refine lp_inv (fun m (s : Int32 × Int32 × Mem) => s.2.1 = nI m ∧ s.1 = nI (bstE (moE T i f p) m).1 ∧ s.2.2.1 93 5 = nI (bstE (moE T i f p) m).2 ∧ (∀ k, k < 6 → s.2.2.1 96 k = bitI (fun th => fitP T i k th f p) 10) ∧ FrO σ s.2.2) 8 ?_ ?_ _ ⟨rfl, rfl, by rw [setI_1, if_pos ⟨rfl, rfl⟩]; rfl, fun k hk => by rw [setI_1, if_neg (by omega)]; exact a3 k hk, fr.tr (FrO.set (by decide) (by decide) (by decide))⟩
          · intro m u hm ⟨c1, c2, c3, c4, c5⟩
            have hN : CT u.2.2 18 T := h.kept (fun a b p q => c5.1 a b (by omega))
            obtain ⟨σ', e, g1, g2⟩ := C_gp (m := m) hN hw hi c4 hm
            have lb := bstE_le (mo := moE T i f p) (fun _ => moE_le) m
            have lm := moE_le (T := T) (i := i) (p := p) (m := m) (f := f)
            have v5 : σ'.1 93 5 = nI (bstE (moE T i f p) m).2 := (g1 _ _ (by decide)).trans c3
            have fo : FrO u.2.2 σ' := ⟨fun a b q => g1 a b (by omega), g2⟩
            rw [c1, c2, if_neg (show ¬ (8 : Int32) ≤ nI m from nI_ge (b := 8) hm (by decide)), e, ob_some, gI_93_5, ob_some, v5]
            by_cases y : moE T i f p m < (bstE (moE T i f p) m).2
            · rw [if_neg (nI_ge y (by omega)), pI_93_5, ob_some, nI_1]
              refine ⟨_, rfl, rfl, ?_, ?_, fun k hk => ?_, c5.tr (fo.tr (FrO.set (by decide) (by decide) (by decide)))⟩
              · rw [bstE_yes y]
              · rw [bstE_yes y, setI_1, if_pos ⟨rfl, rfl⟩]
              · rw [setI_1, if_neg (by omega), g1 _ _ (by decide)]; exact c4 k hk
            · rw [if_pos (nI_le (by omega) (by omega)), nI_1]
              refine ⟨_, rfl, rfl, ?_, ?_, fun k hk => ?_, c5.tr fo⟩
              · rw [bstE_no y]
              · rw [bstE_no y]; exact v5
              · rw [g1 _ _ (by decide)]; exact c4 k hk
          · intro u ⟨c1, c2, c3, c4, c5⟩
            exact ⟨(u.1, u.2.2), by rw [c1, if_pos (show (8 : Int32) ≤ nI 8 by decide)], c5, c2, c3⟩
        obtain ⟨t, e, k1, k2⟩ := inner
        refine ⟨t, ?_, k1, Or.inr ⟨fun y => z (a2.mpr (fun e he => y e (by omega))), k2⟩⟩
        rw [if_neg z, pI_93_5, ob_some, e]
        rfl
  obtain ⟨⟨t1, t2⟩, e, k1, k2⟩ := key
  have eF : F_X0_tellingNight 93 18 (nI i) σ = some (t1, t2) := by unfold F_X0_tellingNight; exact e
  refine ⟨t2, k1, ?_⟩
  rcases k2 with ⟨p1, p2⟩ | ⟨p1, p2, p3⟩
  · exact Or.inl ⟨p1, by rw [eF, show t1 = -9 from p2]⟩
  · exact Or.inr ⟨p1, by rw [eF, show t1 = _ from p2], p3⟩

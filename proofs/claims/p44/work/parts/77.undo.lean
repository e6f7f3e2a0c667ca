/-! ===== undo ===== -/
/-- the class's town again, deed by deed -/
theorem C_redo {σ : Mem} {S : Tn} {ds : Nat → Nat} {n : Nat} (hS : CT σ 10 S) (hw : wfT 0 S) (hn : σ.1 0 7 = nI n) (h40 : n ≤ 40) (hd : ∀ d, d < n → σ.1 34 d = nI (ds d)) (ok : ∀ d, d < n → okD (S 0) (ds d)) : ∃ σ', F_X8_redoFromStart 0 σ = some σ' ∧ CT σ' 18 (runD S ds n) ∧ FrK 18 σ σ' := by
  obtain ⟨σ1, e1, c1, f1⟩ := C_copy tw_18 (k2 := 10) tw_10 (by decide) hw.1 hS
  unfold F_X8_redoFromStart
  rw [gR_0_4, ob_some, gR_0_3, ob_some, tC tw_18, ob_some, e1, ob_some]
  unfold F_X8_redoFromStart_13
  refine lp_inv (Q := fun s : Mem => CT s 18 (runD S ds n) ∧ FrK 18 σ s) (fun i (s : Int32 × Mem) => s.1 = nI i ∧ CT s.2 18 (runD S ds i) ∧ FrK 18 σ s.2) n ?_ ?_ _ ⟨rfl, c1, f1⟩
  · intro i s hi ⟨a1, a2, a3⟩
    have hw2 := wf_run hw i (fun d hd => ok d (by omega))
    obtain ⟨σ2, e2, c2, f2⟩ := C_carry tw_18 a2 hw2.1 (by omega) (c := ds i) (by rw [hw2.2]; exact ok i hi)
    refine ⟨(nI (i + 1), σ2), ?_, rfl, c2, a3.tr f2⟩
    rw [gI_0_7, ob_some, a3.1 _ _ (by decide), hn, a1, if_neg (nI_ge hi (by omega)), gR_0_4, ob_some, gR_0_6, ob_some, rd_eq (by decide) sh_34 (by omega) (by decide), ob_some, a3.1 _ _ (by decide), hd i hi, tC tw_18, ob_some, e2, ob_some, nI_1]
  · intro s ⟨a1, a2, a3⟩
    exact ⟨s.2, by rw [gI_0_7, ob_some, a3.1 _ _ (by decide), hn, a1, if_pos (nI_le (Nat.le_refl _) (by omega))], a2, a3⟩
/-- the deeds up to n -/
def cutD (D : De) (n : Nat) : De := (D.1, n, D.2.2)
theorem cut_ok {tb : Prop} {D : De} {n : Nat} (h : okDe tb D) (hn : n ≤ D.2.1) : okDe tb (cutD D n) := ⟨h.1, Nat.le_trans hn h.2.1, fun d hd => h.2.2.1 d (Nat.lt_of_lt_of_le hd hn), h.2.2.2.1, fun q => ⟨Nat.le_zero.mp (Nat.le_trans hn (Nat.le_of_eq (h.2.2.2.2 q).1)), (h.2.2.2.2 q).2⟩⟩
theorem cut_self {D : De} : cutD D D.2.1 = D := rfl
theorem in_upto {n : Nat} {x : Int32} {σ : Mem} (hn : n ≤ 50) : F_X9_in x.toInt64 (0 : Int64) (nI n).toInt64 σ = some (if x < 0 ∨ nI (n + 1) ≤ x then 0 else 1) := by
  have e : nI n = nI (n + 1) - (1 : Int32) := (pk_sub (a := n + 1) (b := 1) (by omega)).symm
  rw [e]; exact in_row (n := n + 1) (by omega)
theorem sim_undo (x : Int32) : Sim (F_X8_undo 0 x) (F_X9_undo 134 x) := by
  refine sim_of fun A hA => ?_
  have hdc := hA.2.1
  rcases ixc x (n := A.2.2.2.2.1 + 1) (by omega) with hx | ⟨i, hi, rfl⟩
  · refine ⟨-1, A, hA, C_same fun σ h => ?_, M_same fun σ h => ?_⟩
    · unfold F_X8_undo
      by_cases q : x < 0
      · rw [if_pos q]
      · rw [if_neg q, gI_0_7, ob_some, h.dc, if_neg]
        intro z
        have hx := hx.resolve_left q
        rw [Int32.le_iff_toInt_le, nI_toInt (by omega)] at z hx
        omega
    · unfold F_X9_undo
      rw [gI_134_1, ob_some, h.dc, in_upto (by omega), if_pos hx, ob_some, if_pos rfl]
  · have es : nI A.2.2.2.2.1 - nI i = nI (A.2.2.2.2.1 - i) := pk_sub (by omega)
    refine ⟨nI (A.2.2.2.2.1 - i), deA A (cutD A.2.2.2 i), cut_ok hA (by omega), fun σ h => ?_, fun σ h => ?_⟩
    · obtain ⟨t1, t2, t3, t4, t5⟩ := h.2.2.2
      obtain ⟨σ', g1, g2, g3⟩ := C_redo (σ := setI σ 0 7 (nI i)) (S := A.2.2.2.1) (ds := A.2.2.2.2.2.1) (n := i) (t1.kept (fun a b p q => by rw [setI_1, if_neg (by omega)])) hA.1 (by rw [setI_1, if_pos ⟨rfl, rfl⟩]) (by omega) (fun d hd => by rw [setI_1, if_neg (by omega)]; exact t4 d (by omega)) (fun d hd => hA.2.2.1 d (by omega))
      have keep : ∀ a b, (a < 18 ∨ 25 < a) → (a ≠ 0 ∨ b ≠ 7) → σ'.1 a b = σ.1 a b := fun a b q1 q3 => by
        rw [g3.1 a b (by omega), setI_1, if_neg (by omega)]
      refine ⟨σ', ?_, ⟨h.1.kept (fun a b p q => keep a b (by omega) (by omega)), h.2.1.kept (fun a b p q => keep a b (by omega) (by omega)), h.2.2.1.kept (keep _ _ (by decide) (by decide)) (keep _ _ (by decide) (by decide)) (fun f => keep _ _ (by decide) (by omega)) (fun b => by rw [g3.2]; rfl), t1.kept (fun a b p q => keep a b (by omega) (by omega)), g2, ?_, fun d hd => ?_, t5.kept (fun a b p q => keep a b (by omega) (by omega))⟩, fun a b q => keep a b (by omega) (by omega), fun a b q => by rw [g3.2]; rfl⟩
      · unfold F_X8_undo
        rw [if_neg (nI_pos (by omega)), gI_0_7, ob_some, h.dc, if_pos (nI_le (by omega) (by omega)), ob_some, pI_0_7, ob_some, g1, ob_some, es]
      · show σ'.1 0 7 = nI i
        rw [g3.1 _ _ (by omega), setI_1, if_pos ⟨rfl, rfl⟩]
      · rw [keep _ _ (by decide) (by omega)]; exact t4 d (by have : d < i := hd; omega)
    · by_cases q : i = A.2.2.2.2.1
      · subst q
        refine ⟨σ, ?_, h, FM.rf⟩
        unfold F_X9_undo
        rw [gI_134_1, ob_some, h.dc, in_upto (by omega), if_neg (nb_in hi (by omega)), ob_some, if_neg (by decide), ob_some, es, if_pos (by rw [Nat.sub_self]; decide)]
      · obtain ⟨u1, u2, u3, u4⟩ := h.2.2.2
        obtain ⟨σ1, e1, c1, c2, c3⟩ := M_cp (σ := σ) (f := 44 * (1 + i)) (t := 0) (n := 44) (by omega) (by omega) (by omega)
        have e1' : F_X9_copyAll 134 ((44 : Int32) * ((1 : Int32) + nI i)) (0 : Int32) (44 : Int32) σ = some σ1 := by
          rw [show (44 : Int32) * ((1 : Int32) + nI i) = nI (44 * (1 + i)) by rw [show (1 : Int32) = nI 1 from rfl, nI_add, show (44 : Int32) = nI 44 from rfl, pk_mul]]
          exact e1
        have keep : ∀ a b, (a ≠ 135 ∨ 44 ≤ b) → (a ≠ 134 ∨ b ≠ 1) → (setI σ1 134 1 (nI i)).1 a b = σ.1 a b := fun a b q1 q3 => by
          rw [setI_1, if_neg (by omega), c2 a b (by omega)]
        refine ⟨setI σ1 134 1 (nI i), ?_, ⟨h.1.kept (fun a j q => keep a j (by omega) (by omega)), h.2.1.kept (fun a j q => keep a j (by omega) (by omega)), h.2.2.1.kept (keep _ _ (by decide) (by decide)) (keep _ _ (by decide) (by decide)) (fun f => keep _ _ (by omega) (by omega)) (by show σ1.2 _ _ = _; rw [c3]) (by show σ1.2 _ _ = _; rw [c3]), fun j hj => ?_, fun d hd => ?_, ?_, fun k hk => ?_⟩, fun a b q => keep a b (by omega) (by omega), fun a b q => by show σ1.2 _ _ = _; rw [c3]⟩
        · have en : ¬ nI (A.2.2.2.2.1 - i) ≤ (0 : Int32) := fun z => by
            have := (nI_leI (b := 0) (by omega) (by decide)).mp z
            omega
          unfold F_X9_undo
          rw [gI_134_1, ob_some, h.dc, in_upto (by omega), if_neg (nb_in hi (by omega)), ob_some, if_neg (by decide), ob_some, es, if_neg en, e1', ob_some, pI_134_1, ob_some]
        · have hz := c1 j hj
          rw [setI_1, if_neg (by omega), hz]
          exact u2 i (by omega) j hj
        · have hd : d < i := hd
          exact (u2 d (by omega)).kept (fun b p1 p2 => keep _ _ (by omega) (by omega))
        · rw [setI_1, if_pos ⟨rfl, rfl⟩]; rfl
        · have h2 := u4 k hk
          show match A.2.2.2.2.2.2.1 k with
            | none => (setI σ1 134 1 (nI i)).1 136 k = -1
            | some n => (setI σ1 134 1 (nI i)).1 136 k = nI n ∧ MT (setI σ1 134 1 (nI i)) (1804 * (1 + k)) (runD A.2.2.2.1 (A.2.2.2.2.2.2.2 k) n) ∧ ∀ d, d < n → MT (setI σ1 134 1 (nI i)) (1804 * (1 + k) + 44 * (1 + d)) (runD A.2.2.2.1 (A.2.2.2.2.2.2.2 k) d)
          cases e : A.2.2.2.2.2.2.1 k with
          | none => rw [e] at h2; exact (keep _ _ (by omega) (by omega)).trans h2
          | some n =>
            rw [e] at h2
            exact ⟨(keep _ _ (by omega) (by omega)).trans h2.1, h2.2.1.kept (fun b p1 p2 => keep _ _ (by omega) (by omega)), fun d hd => (h2.2.2 d hd).kept (fun b p1 p2 => keep _ _ (by omega) (by omega))⟩

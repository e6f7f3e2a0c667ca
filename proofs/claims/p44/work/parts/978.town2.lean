theorem An.town {m : Nat} {w : Nat → Int32} {D : Tn} (hm : m ≤ 60) (hr : resT w m = .inr D) : An (txA m w) (F_X8_town 0 0) (nI (D 0)) (deA (txA m w) (newD D)) := by
  have ht : 0 < 4 := by decide
  have a9 := ansT_9 (o := resT w m) (n := m + 10) (fun r e => resT_le e) (by omega)
  have p9 : ansT (resT w m) = -9 := a9.mpr ⟨D, hr⟩
  obtain ⟨hp, h0⟩ := resT_ok hr
  have hw := okP_wf hp
  generalize hA : txA m w = A
  have hs : A.2.1.1 0 = some m := by rw [← hA]; rfl
  have hv : A.2.1.2 0 = w := by rw [← hA]; rfl
  rw [← hv] at hr p9
  intro σ h hD
  have k : ∃ σ', F_X8_town 0 (nI 0) σ = some (nI (D 0), σ') ∧ RC (deA A (newD D)) σ' ∧ FC σ σ' := by
    obtain ⟨hn, g1, g2⟩ := h.2.1.row ht hs
    obtain ⟨σ1, e1, f1, c1⟩ := C_readTown (t := 0) ht hs σ h
    obtain ⟨h1, fc1⟩ := h.side f1.o
    have ct := CD_CT (c1 D hr) (hD.keptC fc1) hp
    obtain ⟨σ2, e2, c2, f2⟩ := C_copy (k := 10) (k2 := 36) tw_10 tw_36 (by decide) hw.1 ct
    obtain ⟨σ3, e3, c3, f3⟩ := C_copy (k := 18) (k2 := 10) tw_18 tw_10 (by decide) hw.1 c2
    obtain ⟨σ4, e4, k4, f4, z4⟩ := fill_8 (σ := setI σ3 0 7 (0 : Int32))
    have keep : ∀ a b, (a < 8 ∨ a = 9 ∨ 26 ≤ a) → (a ≠ 0 ∨ b ≠ 7) → σ4.1 a b = σ1.1 a b := fun a b q1 q2 => by
      rw [f4 a b (by omega), setI_1, if_neg (by omega), f3.1 a b (by omega), f2.1 a b (by omega)]
    have k2 : σ4.2 = σ1.2 := by
      rw [z4]
      show σ3.2 = _
      rw [f3.2, f2.2]
    have ct18 : CT σ4 18 D := c3.kept (fun a b p q => by rw [f4 a b (by omega), setI_1, if_neg (by omega)])
    have ct10 : CT σ4 10 D := c2.kept (fun a b p q => by rw [f4 a b (by omega), setI_1, if_neg (by omega), f3.1 a b (by omega)])
    have r7 : σ4.1 0 7 = nI 0 := by rw [f4 _ _ (by decide), setI_1, if_pos ⟨rfl, rfl⟩]; rfl
    have r70 : σ4.1 7 0 = nI 40 := (keep _ _ (by decide) (by decide)).trans h1.2.2.2.2.2.2.2.1
    have hRC : RC (deA A (newD D)) σ4 := ⟨h1.1.kept (fun a b p q => keep a b (by omega) (by omega)), h1.2.1.kept (fun a b p q => keep a b (by omega) (by omega)), h1.2.2.1.kept (keep _ _ (by decide) (by decide)) (keep _ _ (by decide) (by decide)) (fun f => keep _ _ (by decide) (by omega)) (fun j => by rw [k2]), ct10, ct18, r7, fun d hd => absurd hd (Nat.not_lt_zero d), r70, fun r hr => k4 r hr⟩
    refine ⟨σ4, ?_, hRC, fc1.tr ⟨fun a b q => keep a b (by omega) (by omega), fun a b q => by rw [k2]⟩⟩
    unfold F_X8_town
    rw [gR_0_1, ob_some, Rm_some sf_4 ht hn g1, ob_some, if_pos rfl, gR_0_8, ob_some, ob_some, ck_35, ob_some, e1, ob_some, if_pos p9, gR_0_3, ob_some, ob_some, gR_35_0, ob_some, tC tw_10, ob_some, e2, ob_some, gR_0_4, ob_some, ob_some, tC tw_18, ob_some, e3, ob_some, pI_0_7, ob_some, gR_0_2, ob_some, ck_7, ob_some, e4, ob_some, ob_some, C_isT ct18, ob_some]
  obtain ⟨σ', e, c, f⟩ := k
  exact ⟨σ', e, c, hD.keptC f⟩
/-! the law's puts -/
def ot (k : Nat) (Z : Mem2) : Mem := if k = 0 then Z.2.1 else Z.1
theorem pk_pt {k : Nat} {Z : Mem2} {σ : Mem} (hk : K01 k) : pk k (pt k Z σ) = σ := by rcases hk with rfl | rfl <;> rfl
theorem ot_pt {k : Nat} {Z : Mem2} {σ : Mem} (hk : K01 k) : ot k (pt k Z σ) = ot k Z := by rcases hk with rfl | rfl <;> rfl
theorem pt_rest {k : Nat} {Z : Mem2} {σ : Mem} (hk : K01 k) : (pt k Z σ).2.2 = Z.2.2 := by rcases hk with rfl | rfl <;> rfl
theorem pk_setV {k j : Nat} {Z : Mem2} {x : Int32} : pk k (setV Z j x) = pk k Z := rfl
theorem pk_setU {k j : Nat} {Z : Mem2} {x : Int32} : pk k (setU Z j x) = pk k Z := rfl
theorem ot_setV {k j : Nat} {Z : Mem2} {x : Int32} : ot k (setV Z j x) = ot k Z := rfl
theorem ot_setU {k j : Nat} {Z : Mem2} {x : Int32} : ot k (setU Z j x) = ot k Z := rfl
theorem sv_at {Z : Mem2} {j : Nat} {x : Int32} (a : Nat) : (setV Z j x).2.2.1 a = if a = j then x else Z.2.2.1 a := rfl
theorem su_at {Z : Mem2} {j : Nat} {x : Int32} (a : Nat) : (setU Z j x).2.2.2.1 a = if a = j then x else Z.2.2.2.1 a := rfl
theorem aJ_v {Z : Mem2} {i : Nat} (h : i < 64) : aJ2 2 (nI i) Z = some (Z.2.2.1 i) := by
  unfold aJ2
  rw [if_pos rfl, if_pos ⟨by rw [nI_toInt (by omega)]; omega, by rw [nI_toInt (by omega)]; omega⟩, nI_clamp (by omega)]
theorem sJ_v {Z : Mem2} {i : Nat} {x : Int32} (h : i < 64) : sJ2 2 (nI i) x Z = some (setV Z i x) := by
  unfold sJ2
  rw [if_pos rfl, if_pos ⟨by rw [nI_toInt (by omega)]; omega, by rw [nI_toInt (by omega)]; omega⟩, nI_clamp (by omega)]
theorem aJ_u {Z : Mem2} {i : Nat} (h : i < 64) : aJ2 3 (nI i) Z = some (Z.2.2.2.1 i) := by
  unfold aJ2
  rw [if_neg (by decide), if_pos rfl, if_pos ⟨by rw [nI_toInt (by omega)]; omega, by rw [nI_toInt (by omega)]; omega⟩, nI_clamp (by omega)]
theorem sJ_u {Z : Mem2} {i : Nat} {x : Int32} (h : i < 64) : sJ2 3 (nI i) x Z = some (setU Z i x) := by
  unfold sJ2
  rw [if_neg (by decide), if_pos rfl, if_pos ⟨by rw [nI_toInt (by omega)]; omega, by rw [nI_toInt (by omega)]; omega⟩, nI_clamp (by omega)]
abbrev setVV (Z : Mem2) (j : Nat) (x : Int32) : Mem2 := setV Z j x
/-- what is put: the first j bytes, blanks behind -/
def wS (sc : Nat × (Nat → Int32)) (j : Nat) : Nat → Int32 := fun i => if i < j then cB sc i else 32
theorem wS_s {sc : Nat × (Nat → Int32)} {j : Nat} : (fun i => if i = j then cB sc j else wS sc j i) = wS sc (j + 1) := by
  funext i
  unfold wS
  by_cases q : i = j
  · subst q; rw [if_pos rfl, if_pos (by omega)]
  · rw [if_neg q]
    by_cases z : i < j
    · rw [if_pos z, if_pos (by omega)]
    · rw [if_neg z, if_neg (by omega)]
def mN (sc : Nat × (Nat → Int32)) : Nat := 6 + 4 * nbN sc
theorem mN_b {sc : Nat × (Nat → Int32)} : mN sc ≤ 30 := by have := nbN_b (sc := sc); unfold mN; omega
/-- the state behind j bytes -/
def TQ (k : Nat) (sc : Nat × (Nat → Int32)) (O : Mem) (j : Nat) (Z : Mem2) : Prop := RC (txA (mN sc) (wS sc j)) (pk k Z) ∧ Dr (pk k Z) ∧ Z.2.2.1 60 = nI j ∧ Z.2.2.1 0 = nI (nbN sc) ∧ Z.2.2.1 17 = nI (thN sc) ∧ Z.2.2.2.2 = sc ∧ ot k Z = O
section TQS
variable {k j : Nat} {sc : Nat × (Nat → Int32)} {O : Mem} {Z : Mem2}
theorem TQ.sv (h : TQ k sc O j Z) {a : Nat} {x : Int32} (h1 : a ≠ 60 ∧ a ≠ 0 ∧ a ≠ 17) : TQ k sc O j (setV Z a x) :=
  ⟨h.1, h.2.1, (if_neg (by omega)).trans h.2.2.1, (if_neg (by omega)).trans h.2.2.2.1, (if_neg (by omega)).trans h.2.2.2.2.1, h.2.2.2.2.2.1, h.2.2.2.2.2.2⟩
theorem TQ.su (h : TQ k sc O j Z) {a : Nat} {x : Int32} : TQ k sc O j (setU Z a x) := h
theorem TQ.put (hk : K01 k) (h : TQ k sc O j Z) (hj : j < mN sc) {c : Int32} (hc : c = cB sc j) : ∃ Z', F_L_puts k 2 c Z = some (1, Z') ∧ TQ k sc O (j + 1) Z' ∧ (∀ a, a ≠ 60 → Z'.2.2.1 a = Z.2.2.1 a) ∧ Z'.2.2.2.1 = Z.2.2.2.1 := by
  have hm := mN_b (sc := sc)
  obtain ⟨h1, h2, h3, h4, h5, h6, h7⟩ := h
  obtain ⟨σ', e, c1, d1⟩ := An.put (w := wS sc j) (c := c) hj _ h1 h2
  have ew : (fun i => if i = j then c.toInt8.toInt32 else wS sc j i) = wS sc (j + 1) := by rw [hc, (cB_all j).1]; exact wS_s
  have w32 : wS sc j j = 32 := if_neg (Nat.lt_irrefl _)
  rw [ew] at c1
  rw [w32] at e
  have g : G_X8_put k 0 (nI j) c Z = some (1032, pt k Z σ') := onI_k hk e
  have r2 := pt_rest (Z := Z) (σ := σ') hk
  have a1 : aJ2 2 (60 : Int32) Z = some (nI j) := (aJ_v (i := 60) (by decide)).trans (by rw [h3])
  have a2 : aJ2 2 (60 : Int32) (pt k Z σ') = some (nI j) := (aJ_v (i := 60) (by decide)).trans (by rw [r2, h3])
  have a3 : sJ2 2 (60 : Int32) (nI (j + 1)) (pt k Z σ') = some (setVV (pt k Z σ') 60 (nI (j + 1))) := sJ_v (i := 60) (by decide)
  refine ⟨setVV (pt k Z σ') 60 (nI (j + 1)), ?_, ⟨?_, ?_, ?_, ?_, ?_, ?_, ?_⟩, fun a ha => ?_, ?_⟩
  · unfold F_L_puts F_L_puts_21
    rw [a1, ob_some, ck2 hk, ob_some, g, ob_some, if_pos rfl, a2, ob_some, nI_1, a3, ob_some]
    rfl
  · show RC _ (pk k (pt k Z σ'))
    rw [pk_pt hk]; exact c1
  · show Dr (pk k (pt k Z σ'))
    rw [pk_pt hk]; exact d1
  · exact sv_at (Z := pt k Z σ') (j := 60) 60
  · exact (sv_at (Z := pt k Z σ') (j := 60) 0).trans (by rw [if_neg (by decide), r2]; exact h4)
  · exact (sv_at (Z := pt k Z σ') (j := 60) 17).trans (by rw [if_neg (by decide), r2]; exact h5)
  · show (pt k Z σ').2.2.2.2 = _
    rw [r2]; exact h6
  · show ot k (pt k Z σ') = _
    rw [ot_pt hk]; exact h7
  · exact (sv_at (Z := pt k Z σ') (j := 60) a).trans (by rw [if_neg ha, r2])
  · show (pt k Z σ').2.2.2.1 = _
    rw [r2]
end TQS

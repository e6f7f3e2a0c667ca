/-! ===== the law's town: put letter by letter, read, taken ===== -/
def cellV (sc : Nat × (Nat → Int32)) (i : Int32) : Int32 := if Int32.ofNat sc.1 ≤ i then (747796405 : Int32) * (i + (1 : Int32)) else sc.2 i.toNatClampNeg
theorem L_cell {Z : Mem2} {i : Int32} (hL : Z.2.2.2.2.1 ≤ 260) (hi : 0 ≤ i.toInt) : F_L_cell 4 i Z = some (cellV Z.2.2.2.2 i) := by
  unfold F_L_cell cellV aN2
  rw [if_pos rfl, ob_some]
  by_cases q : Int32.ofNat Z.2.2.2.2.1 ≤ i
  · rw [if_pos q, if_pos q]
  · rw [if_neg q, if_neg q]
    have q2 : i.toInt < (Z.2.2.2.2.1 : Int) := by
      have q3 : ¬ nI Z.2.2.2.2.1 ≤ i := q
      rw [Int32.le_iff_toInt_le, nI_toInt (by omega)] at q3
      omega
    unfold aJ2
    rw [if_neg (by decide), if_neg (by decide), if_pos rfl, if_pos ⟨hi, q2⟩, ob_some]
def lowN (v : Int32) (n : Nat) : Nat := v.toBitVec.toNat % 2 ^ 31 % n
theorem low_N (v : Int32) {n : Nat} (h0 : 0 < n) (hn : n < 2 ^ 31) : lowV v (nI n) = nI (lowN v n) := by
  have e : v = nI v.toBitVec.toNat := by
    apply Int32.toBitVec_inj.1
    show v.toBitVec = BitVec.ofNat 32 v.toBitVec.toNat
    simp
  have ea : ∀ a b : Nat, nI a &&& nI b = nI (a &&& b) := by
    intro a b
    apply Int32.toBitVec_inj.1
    show BitVec.ofNat 32 a &&& BitVec.ofNat 32 b = BitVec.ofNat 32 (a &&& b)
    apply BitVec.eq_of_getLsbD_eq
    intro i hi
    simp [hi]
  have h2 : v &&& (2147483647 : Int32) = nI (v.toBitVec.toNat % 2 ^ 31) := by
    have h3 : v &&& (2147483647 : Int32) = nI v.toBitVec.toNat &&& nI 2147483647 := by rw [← e]; rfl
    rw [h3, ea, show (2147483647 : Nat) = 2 ^ 31 - 1 from rfl, Nat.and_two_pow_sub_one_eq_mod]
  unfold lowV
  rw [h2, pk_rem (Nat.mod_lt _ (by decide)) h0 hn]
  rfl
theorem lowN_lt (v : Int32) {n : Nat} (h0 : 0 < n) : lowN v n < n := Nat.mod_lt _ h0
/-! the bytes that the script tells -/
def coldN (x : Int32) (k : Nat) : Nat := if ((x >>> ((7 : Int32) &&& 31)) &&& (1 : Int32)) = 0 then lowN (x >>> (((8 : Int32) + ((4 : Int32) * nI k)) &&& 31)) 10 else lowN (x >>> (((8 : Int32) + ((4 : Int32) * nI k)) &&& 31)) 4
def yV (sc : Nat × (Nat → Int32)) (i : Nat) : Int32 := cellV sc ((1 : Int32) + (nI i / (2 : Int32))) >>> (((14 : Int32) * (nI i - nI i / (2 : Int32) * (2 : Int32))) &&& 31)
def thkN (y : Int32) : Nat := if ((y >>> ((13 : Int32) &&& 31)) &&& (1 : Int32)) = 0 then lowN (y >>> ((9 : Int32) &&& 31)) 10 else lowN (y >>> ((9 : Int32) &&& 31)) 4
def letV (k : Nat) : Int32 := if k = 0 then 98 else if k = 1 then 115 else if k = 2 then 113 else if k = 3 then 99 else if k = 4 then 116 else 119
def bedB (y : Int32) (r : Nat) : Int32 := if r = 0 then letV (lowN y 6) else if r = 1 then 48 + nI (lowN (y >>> ((3 : Int32) &&& 31)) 10) else if r = 2 then 48 + nI (lowN (y >>> ((6 : Int32) &&& 31)) 10) else 48 + nI (thkN y)
def nbN (sc : Nat × (Nat → Int32)) : Nat := 1 + lowN (cellV sc 0) 6
def thN (sc : Nat × (Nat → Int32)) : Nat := 1 + lowN (cellV sc 0 >>> ((3 : Int32) &&& 31)) 9
def cB (sc : Nat × (Nat → Int32)) (j : Nat) : Int32 := if j = 0 then 110 else if j < 5 then 48 + nI (coldN (cellV sc 0) (j - 1)) else if j = 5 then 48 + nI (thN sc) else bedB (yV sc ((j - 6) / 4)) ((j - 6) % 4)
theorem coldN_lt {x : Int32} {k : Nat} : coldN x k ≤ 9 := by
  unfold coldN
  split
  · have := lowN_lt (x >>> (((8 : Int32) + ((4 : Int32) * nI k)) &&& 31)) (n := 10) (by decide); omega
  · have := lowN_lt (x >>> (((8 : Int32) + ((4 : Int32) * nI k)) &&& 31)) (n := 4) (by decide); omega
theorem thkN_lt {y : Int32} : thkN y ≤ 9 := by
  unfold thkN
  split
  · have := lowN_lt (y >>> ((9 : Int32) &&& 31)) (n := 10) (by decide); omega
  · have := lowN_lt (y >>> ((9 : Int32) &&& 31)) (n := 4) (by decide); omega
theorem nbN_b {sc : Nat × (Nat → Int32)} : 1 ≤ nbN sc ∧ nbN sc ≤ 6 := by
  have := lowN_lt (cellV sc 0) (n := 6) (by decide)
  unfold nbN; omega
theorem thN_b {sc : Nat × (Nat → Int32)} : 1 ≤ thN sc ∧ thN sc ≤ 9 := by
  have := lowN_lt (cellV sc 0 >>> ((3 : Int32) &&& 31)) (n := 9) (by decide)
  unfold thN; omega
/-- a figure -/
def Dg (c : Int32) : Prop := ∃ d, d ≤ 9 ∧ c = (48 : Int32) + nI d
theorem Dg.byte {c : Int32} (h : Dg c) : c.toInt8.toInt32 = c := by
  obtain ⟨d, hd, rfl⟩ := h
  exact (show ∀ d, d < 10 → ((48 : Int32) + nI d).toInt8.toInt32 = (48 : Int32) + nI d by decide) d (by omega)
theorem Dg.ne {c : Int32} (h : Dg c) : ¬ c = 32 := by
  obtain ⟨d, hd, rfl⟩ := h
  exact (show ∀ d, d < 10 → ¬ ((48 : Int32) + nI d) = 32 by decide) d (by omega)
theorem let_byte : ∀ k, k < 6 → (letV k).toInt8.toInt32 = letV k ∧ ¬ letV k = 32 ∧ ¬ kdN (letV k) = 6 := by decide
section CB
variable {sc : Nat × (Nat → Int32)}
theorem cB_0 : cB sc 0 = 110 := rfl
theorem cB_cold {k : Nat} (h : k < 4) : cB sc (1 + k) = 48 + nI (coldN (cellV sc 0) k) := by
  unfold cB
  rw [if_neg (by omega), if_pos (by omega), Nat.add_sub_cancel_left]
theorem cB_th : cB sc 5 = 48 + nI (thN sc) := by
  unfold cB
  rw [if_neg (by decide), if_neg (by decide), if_pos rfl]
theorem cB_bed {i r : Nat} (hr : r < 4) : cB sc (6 + 4 * i + r) = bedB (yV sc i) r := by
  unfold cB
  rw [if_neg (by omega), if_neg (by omega), if_neg (by omega), show (6 + 4 * i + r - 6) / 4 = i by omega, show (6 + 4 * i + r - 6) % 4 = r by omega]
theorem bed_dg {y : Int32} {r : Nat} (h0 : 0 < r) : Dg (bedB y r) := by
  unfold bedB
  rw [if_neg (by omega)]
  split
  · exact ⟨_, by have := lowN_lt (y >>> ((3 : Int32) &&& 31)) (n := 10) (by decide); omega, rfl⟩
  · split
    · exact ⟨_, by have := lowN_lt (y >>> ((6 : Int32) &&& 31)) (n := 10) (by decide); omega, rfl⟩
    · exact ⟨_, thkN_lt, rfl⟩
theorem cB_dg {j : Nat} (h0 : 0 < j) (h : j < 6 ∨ (j - 6) % 4 ≠ 0) : Dg (cB sc j) := by
  by_cases h5 : j < 5
  · obtain ⟨k, rfl⟩ : ∃ k, j = 1 + k := ⟨j - 1, by omega⟩
    rw [cB_cold (by omega)]
    exact ⟨_, coldN_lt, rfl⟩
  · by_cases h6 : j = 5
    · subst h6
      rw [cB_th]
      exact ⟨_, thN_b.2, rfl⟩
    · obtain ⟨i, r, hr, rfl⟩ : ∃ i r, r < 4 ∧ j = 6 + 4 * i + r := ⟨(j - 6) / 4, (j - 6) % 4, by omega, by omega⟩
      rw [cB_bed hr]
      exact bed_dg (by omega)
theorem cB_kind (i : Nat) : ∃ k, k < 6 ∧ cB sc (6 + 4 * i) = letV k := by
  have e := cB_bed (sc := sc) (i := i) (r := 0) (by decide)
  exact ⟨lowN (yV sc i) 6, lowN_lt _ (by decide), e⟩
theorem cB_all (j : Nat) : (cB sc j).toInt8.toInt32 = cB sc j ∧ ¬ cB sc j = 32 := by
  by_cases h0 : j = 0
  · subst h0; exact ⟨by rw [cB_0]; decide, by rw [cB_0]; decide⟩
  · by_cases h : j < 6 ∨ (j - 6) % 4 ≠ 0
    · have := cB_dg (sc := sc) (by omega) h
      exact ⟨this.byte, this.ne⟩
    · obtain ⟨i, rfl⟩ : ∃ i, j = 6 + 4 * i := ⟨(j - 6) / 4, by omega⟩
      obtain ⟨k, hk, e⟩ := cB_kind (sc := sc) i
      rw [e]
      exact ⟨(let_byte k hk).1, (let_byte k hk).2.1⟩
end CB
/-! the text is read without a fault -/
section PARSE
variable {v : Nat → Int32} {m : Nat}
theorem dg_fig {p l d : Nat} (hp : p < m) (hl : l ≤ d) (hd : d ≤ 9) (e : v p = 48 + nI d) : figP v m l p := by
  have e2 : ((48 : Int32) + nI d) - 48 = nI d := (show ∀ d, d < 10 → ((48 : Int32) + nI d) - 48 = nI d by decide) d (by omega)
  refine ⟨hp, ?_, ?_⟩
  · rw [e, e2]; exact nI_le hl (by omega)
  · rw [e, e2]; exact nI_le hd (by omega)
theorem cf_all : ∀ (k p : Nat), (∀ j, j < k → p + j < m ∧ Dg (v (p + j))) → cfN v m 0 k p = k
  | 0, _, _ => rfl
  | k + 1, p, h => by
    obtain ⟨h1, d, hd, e⟩ := h 0 (by omega)
    rw [Nat.add_zero] at h1 e
    rw [cfN_yes (dg_fig h1 (Nat.zero_le _) hd e), cf_all k (p + 1) (fun j hj => by
      have := h (j + 1) (by omega)
      rw [show p + (j + 1) = p + 1 + j by omega] at this
      exact this)]
theorem resB_all {sc : Nat × (Nat → Int32)} {nb : Nat} (h1 : 1 ≤ nb) (h6 : nb ≤ 6) (hv : ∀ j, j < 6 + 4 * nb → v j = cB sc j) : ∀ f i (D : Tn), i + f = 6 → i ≤ nb → D 0 = i → ∃ D', resB v (6 + 4 * nb) f D (6 + 4 * i) = .inr D' ∧ D' 0 = nb := by
  intro f
  induction f with
  | zero =>
    intro i D hi hb hD
    have e : i = nb := by omega
    subst e
    refine ⟨D, ?_, hD⟩
    show (if 6 + 4 * i ≤ sk v (6 + 4 * i) (6 + 4 * i) then (.inr D : Nat ⊕ Tn) else _) = _
    rw [sk_out (fun z => absurd z.1 (Nat.lt_irrefl _)), if_pos (Nat.le_refl _)]
  | succ f ih =>
    intro i D hi hb hD
    show ∃ D', (if 6 + 4 * nb ≤ sk v (6 + 4 * nb) (6 + 4 * i) then (if D 0 = 0 then (.inl (sk v (6 + 4 * nb) (6 + 4 * i)) : Nat ⊕ Tn) else .inr D) else if kdN (v (sk v (6 + 4 * nb) (6 + 4 * i))) = 6 then .inl (sk v (6 + 4 * nb) (6 + 4 * i)) else if cfN v (6 + 4 * nb) 0 3 (sk v (6 + 4 * nb) (6 + 4 * i) + 1) = 3 then resB v (6 + 4 * nb) f (addB v D (sk v (6 + 4 * nb) (6 + 4 * i))) (sk v (6 + 4 * nb) (6 + 4 * i) + 4) else .inl (sk v (6 + 4 * nb) (6 + 4 * i) + 1 + cfN v (6 + 4 * nb) 0 3 (sk v (6 + 4 * nb) (6 + 4 * i) + 1))) = .inr D' ∧ D' 0 = nb
    by_cases q : i = nb
    · subst q
      rw [sk_out (fun z => absurd z.1 (Nat.lt_irrefl _)), if_pos (Nat.le_refl _), if_neg (by omega)]
      exact ⟨D, rfl, hD⟩
    · have hlt : 6 + 4 * i < 6 + 4 * nb := by omega
      have ne : ¬ (6 + 4 * i < 6 + 4 * nb ∧ v (6 + 4 * i) = 32) := fun z => (cB_all (sc := sc) (6 + 4 * i)).2 (by rw [← hv _ hlt]; exact z.2)
      obtain ⟨k, hk, ek⟩ := cB_kind (sc := sc) i
      rw [sk_out ne, if_neg (by omega), hv _ hlt, ek, if_neg (let_byte k hk).2.2, cf_all 3 (6 + 4 * i + 1) (fun j hj => ⟨by omega, by rw [hv _ (by omega)]; exact cB_dg (by omega) (Or.inr (by omega))⟩), if_pos rfl]
      refine ih (i + 1) _ (by omega) (by omega) ?_
      show updT _ 0 (D 0 + 1) 0 = i + 1
      rw [hD]
      exact if_pos rfl
theorem resT_all {sc : Nat × (Nat → Int32)} {nb : Nat} (h1 : 1 ≤ nb) (h6 : nb ≤ 6) (hv : ∀ j, j < 6 + 4 * nb → v j = cB sc j) : ∃ D, resT v (6 + 4 * nb) = .inr D ∧ D 0 = nb := by
  have e0 : v 0 = 110 := (hv 0 (by omega)).trans cB_0
  have s0 : sk v (6 + 4 * nb) 0 = 0 := sk_out (fun z => by rw [e0] at z; exact absurd z.2 (by decide))
  have c4 : cfN v (6 + 4 * nb) 0 4 (0 + 1) = 4 := cf_all 4 (0 + 1) (fun j hj => ⟨by omega, by rw [hv _ (by omega)]; exact cB_dg (by omega) (Or.inl (by omega))⟩)
  have f5 : figP v (6 + 4 * nb) 1 (0 + 5) := dg_fig (d := thN sc) (by omega) thN_b.1 thN_b.2 ((hv 5 (by omega)).trans cB_th)
  unfold resT
  rw [s0, if_pos ⟨by omega, e0⟩, if_pos c4, if_pos f5]
  exact resB_all h1 h6 hv 6 0 (headT v 0) (by omega) (by omega) rfl
end PARSE
/-! the calls on the text -/
def A0 : Ab := ((fun _ => none, fun _ _ => 0), (fun _ => none, fun _ _ => 0), ((0 : Int32), (0 : Int64), (1 : Int64), (0 : Int32), fun _ => (0 : Int32)), newD (fun _ => 0))
abbrev txA (m : Nat) (w : Nat → Int32) : Ab := textA A0 0 (some m) w
theorem textA_2 {A : Ab} {r : Nat} {s s' : Option Nat} {f f' : Nat → Int32} : textA (textA A r s f) r s' f' = textA A r s' f' := by
  unfold textA
  simp only [Prod.mk.injEq, true_and, and_true]
  refine ⟨funext fun x => ?_, funext fun x => ?_⟩
  · by_cases q : x = r
    · simp [q]
    · simp [q]
  · by_cases q : x = r
    · simp [q]
    · simp [q]
theorem An.text {m : Nat} (hm : m ≤ 60) : An A0 (F_X8_text 0 0 (nI m)) (nI m) (txA m (fun _ => 32)) := an_C (C_text (r := 0) (by decide) hm)
theorem An.put {m i : Nat} {w : Nat → Int32} {c : Int32} (hi : i < m) : An (txA m w) (F_X8_put 0 0 (nI i) c) (w i + 1000) (txA m (fun j => if j = i then c.toInt8.toInt32 else w j)) := by
  refine an_C (fun σ h => ?_)
  have hs : (txA m w).2.1.1 0 = some m := rfl
  have hr : 0 < 4 := by decide
  obtain ⟨hn, g1, g2⟩ := h.2.1.row hr hs
  have e : txA m (fun j => if j = i then c.toInt8.toInt32 else w j) = textA (txA m w) 0 (some m) (fun j => if j = i then c.toInt8.toInt32 else (txA m w).2.1.2 0 j) := textA_2.symm
  rw [e]
  refine ⟨setI σ 6 (0 * 60 + i) c.toInt8.toInt32, ?_, ⟨h.1.kept (fun a j _ _ => by rw [setI_1, if_neg (by omega)]), h.2.1.put hs hi hn, h.2.2.1.kept (by rw [setI_1, if_neg (by omega)]) (by rw [setI_1, if_neg (by omega)]) (fun f => by rw [setI_1, if_neg (by omega)]) (fun _ => rfl), h.2.2.2.kept (by rw [setI_1, if_neg (by omega)]) (fun a j q => by rw [setI_1, if_neg (by omega)])⟩, FC.set (by decide)⟩
  have e0 : (0 : Int32) = nI 0 := rfl
  have k : F_X8_put 0 (nI 0) (nI i) c σ = some ((txA m w).2.1.2 0 i + 1000, setI σ 6 (0 * 60 + i) c.toInt8.toInt32) := by
    unfold F_X8_put
    rw [gR_0_1, ob_some, Rp_in sf_4 hr hn g1 hi, ob_some, if_pos rfl, ob_some, ck_4, ob_some, S_get sf_4 hr h.2.1.1 g1 hn hi, ob_some, ob_some, ck_4, ob_some, S_set sf_4 hr h.2.1.1 g1 hn hi, ob_some, g2 i hi]
  exact k
theorem An.fault {m : Nat} {w : Nat → Int32} {D : Tn} (hm : m ≤ 60) (hr : resT w m = .inr D) : An (txA m w) (F_X8_fault 0 0) (-9) (txA m w) := by
  have a9 := ansT_9 (o := resT w m) (n := m + 10) (fun r e => resT_le e) (by omega)
  have p9 : ansT (resT w m) = -9 := a9.mpr ⟨D, hr⟩
  have hs : (txA m w).2.1.1 0 = some m := rfl
  refine an_C (fun σ h => ?_)
  obtain ⟨hn, g1, g2⟩ := h.2.1.row (by decide) hs
  obtain ⟨σ', e, f, _⟩ := C_readTown (A := txA m w) (t := 0) (by decide) hs σ h
  refine ⟨σ', ?_, (h.side f.o).1, (h.side f.o).2⟩
  have e2 : F_X4_readTown 35 4 (nI 0) σ = some (-9, σ') := e.trans (by rw [show (txA m w).2.1.2 0 = w from rfl, p9])
  have k : F_X8_fault 0 (nI 0) σ = some (-9, σ') := by
    unfold F_X8_fault
    rw [gR_0_1, ob_some, Rm_some sf_4 (by decide) hn g1, ob_some, if_pos rfl, gR_0_8, ob_some, ob_some, ck_35, ob_some, e2, ob_some]
  exact k

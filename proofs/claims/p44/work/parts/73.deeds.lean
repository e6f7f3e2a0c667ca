/-! ===== deeds, one by one ===== -/
def ansD (T : Tn) (c : Nat) : Nat := if c / 100 = 1 then inspS T (c / 10 % 10) else if c / 100 = 2 then T (21 + c / 10 % 10) - 1 else if c / 100 = 3 then gapT (swapT T (c / 10 % 10) (c % 10)) (c / 10 % 10) (c / 10 % 10) else passS T (T 0)
theorem swap_0 {T : Tn} {i j : Nat} : swapT T i j 0 = T 0 := by
  unfold swapT
  rw [upd_ne (by omega), upd_ne (by omega)]
theorem ap_night {T : Tn} : applyD T 0 = passT T := rfl
theorem ap_insp {T : Tn} {i : Nat} (hi : i < 6) : applyD T (100 + 10 * i) = inspT T i := by
  unfold applyD
  rw [if_pos (by omega), show (100 + 10 * i) / 10 % 10 = i by omega]
theorem ap_thin {T : Tn} {i : Nat} (hi : i < 6) : applyD T (200 + 10 * i) = thinT T i := by
  unfold applyD
  rw [if_neg (by omega), if_pos (by omega), show (200 + 10 * i) / 10 % 10 = i by omega]
theorem ap_swap {T : Tn} {i j : Nat} (hi : i < 6) (hj : j < 6) : applyD T (300 + 10 * i + j) = swapT T i j := by
  unfold applyD
  rw [if_neg (by omega), if_neg (by omega), if_pos (by omega), show (300 + 10 * i + j) / 10 % 10 = i by omega, show (300 + 10 * i + j) % 10 = j by omega]
theorem wf_apply {B c : Nat} {T : Tn} (hw : wfT B T) (hc : okD (T 0) c) : wfT (B + 1) (applyD T c) ∧ applyD T c 0 = T 0 := by
  have h6 := hw.1
  rcases hc with ⟨rfl, h0⟩ | ⟨i, hi, rfl | rfl⟩ | ⟨i, j, hi, hj, hne, rfl⟩
  · exact ⟨wf_pass hw, pass_0 T⟩
  · rw [ap_insp (by omega)]; exact ⟨wf_insp hw hi, insp_0⟩
  · rw [ap_thin (by omega)]
    have b := hw.2.2.1 i hi
    exact ⟨wf_mono (by omega) (wf_bed hw hi (Or.inr (Or.inl ⟨rfl, by omega⟩))), upd_ne (by omega)⟩
  · rw [ap_swap (by omega) (by omega)]
    exact ⟨wf_mono (by omega) (wf_swap hw hi hj), swap_0⟩
theorem wf_run {S : Tn} {ds : Nat → Nat} (hw : wfT 0 S) : ∀ n, (∀ d, d < n → okD (S 0) (ds d)) → wfT n (runD S ds n) ∧ runD S ds n 0 = S 0
  | 0, _ => ⟨hw, rfl⟩
  | n + 1, h => by
    obtain ⟨w, e⟩ := wf_run hw n (fun d hd => h d (by omega))
    have := wf_apply w (c := ds n) (by rw [e]; exact h n (by omega))
    exact ⟨this.1, this.2.trans e⟩
theorem run_ext {S : Tn} {ds ds' : Nat → Nat} : ∀ n, (∀ d, d < n → ds' d = ds d) → runD S ds' n = runD S ds n
  | 0, _ => rfl
  | n + 1, h => by
    show applyD (runD S ds' n) (ds' n) = applyD (runD S ds n) (ds n)
    rw [run_ext n (fun d hd => h d (by omega)), h n (by omega)]
theorem dv10 {c : Nat} (h : c ≤ 1000) : nI c / (10 : Int32) = nI (c / 10) := pk_div (d := 10) (by omega) (by decide) (by decide)
theorem dv100 {c : Nat} (h : c ≤ 1000) : nI c / (100 : Int32) = nI (c / 100) := pk_div (d := 100) (by omega) (by decide) (by decide)
theorem rm10 {c : Nat} (h : c ≤ 1000) : nI c - nI c / (10 : Int32) * (10 : Int32) = nI (c % 10) := pk_rem (d := 10) (by omega) (by decide) (by decide)
section CARRY
variable {σ : Mem} {k B c : Nat} {T : Tn}
theorem C_carry (hk : Tw k) (h : CT σ k T) (hw : wfT B T) (hB : B ≤ 100000) (hc : okD (T 0) c) : ∃ σ', F_X7_carryOut k (nI c) σ = some (nI (ansD T c), σ') ∧ CT σ' k (applyD T c) ∧ FrK k σ σ' := by
  have h6 := hw.1
  have hc9 : c ≤ 1000 := by
    rcases hc with ⟨rfl, h0⟩ | ⟨i, hi, rfl | rfl⟩ | ⟨i, j, hi, hj, hne, rfl⟩ <;> omega
  have e1 : (nI (c / 100) = (1 : Int32)) ↔ c / 100 = 1 := nI_eq (b := 1) (by omega) (by decide)
  have e2 : (nI (c / 100) = (2 : Int32)) ↔ c / 100 = 2 := nI_eq (b := 2) (by omega) (by decide)
  have e3 : (nI (c / 100) = (3 : Int32)) ↔ c / 100 = 3 := nI_eq (b := 3) (by omega) (by decide)
  unfold F_X7_carryOut
  simp only [↓rm10 hc9, dv10 hc9, dv100 hc9, rm10 (show c / 10 ≤ 1000 by omega)]
  unfold ansD applyD
  by_cases q1 : c / 100 = 1
  · have hi : c / 10 % 10 < T 0 := by
      rcases hc with ⟨rfl, h0⟩ | ⟨i, hi, rfl | rfl⟩ | ⟨i, j, hi, hj, hne, rfl⟩ <;> omega
    rw [if_pos (e1.mpr q1), if_pos q1, if_pos q1]
    obtain ⟨σ', g1, g2, g3⟩ := C_insp hk h hw hB hi
    exact ⟨σ', by rw [g1, ob_some], g2, g3⟩
  · rw [if_neg (fun z => q1 (e1.mp z)), if_neg q1, if_neg q1]
    by_cases q2 : c / 100 = 2
    · have hi : c / 10 % 10 < T 0 := by
        rcases hc with ⟨rfl, h0⟩ | ⟨i, hi, rfl | rfl⟩ | ⟨i, j, hi, hj, hne, rfl⟩ <;> omega
      have b := hw.2.2.1 _ hi
      rw [if_pos (e2.mpr q2), if_pos q2, if_pos q2]
      have c1 := h.set (o := 5) (v := T (21 + c / 10 % 10) - 1) h6 hi (by decide) (by decide) (b := 21 + c / 10 % 10) (by omega)
      have w1 : wfT B (updT T (21 + c / 10 % 10) (T (21 + c / 10 % 10) - 1)) := wf_bed hw hi (Or.inr (Or.inl ⟨rfl, by omega⟩))
      have e := C_thin hk h hw hi (v := 1) (by decide)
      have e' : F_X7_thinBed k (nI (c / 10 % 10)) (1 : Int32) σ = some (setI σ (k + 5) (c / 10 % 10) (nI (T (21 + c / 10 % 10) - 1))) := e
      have ht := C_thick hk c1 w1 (i := c / 10 % 10) (by rw [upd_ne (by omega)]; exact hi)
      refine ⟨setI σ (k + 5) (c / 10 % 10) (nI (T (21 + c / 10 % 10) - 1)), ?_, c1, FrK.set (by omega) (by omega)⟩
      rw [e', ob_some, ht, ob_some, upd_eq]
    · rw [if_neg (fun z => q2 (e2.mp z)), if_neg q2, if_neg q2]
      by_cases q3 : c / 100 = 3
      · have hi : c / 10 % 10 < T 0 ∧ c % 10 < T 0 := by
          rcases hc with ⟨rfl, h0⟩ | ⟨i, hi, rfl | rfl⟩ | ⟨i, j, hi, hj, hne, rfl⟩ <;> omega
        rw [if_pos (e3.mpr q3), if_pos q3, if_pos q3]
        obtain ⟨σ', g1, g2, g3⟩ := C_swap hk h hw hi.1 hi.2
        have hg := C_gap hk g2 (wf_swap hw hi.1 hi.2) (i := c / 10 % 10) (j := c / 10 % 10) (by rw [swap_0]; exact hi.1) (by rw [swap_0]; exact hi.1)
        exact ⟨σ', by rw [g1, ob_some, hg, ob_some], g2, g3⟩
      · rw [if_neg (fun z => q3 (e3.mp z)), if_neg q3, if_neg q3]
        obtain ⟨σ', g1, g2, g3⟩ := C_pass hk h hw hB
        exact ⟨σ', by rw [g1, ob_some], g2, g3⟩
end CARRY
def pushD (D : De) (c : Nat) : De := (D.1, D.2.1 + 1, (fun d => if d = D.2.1 then c else D.2.2.1 d), D.2.2.2.1, D.2.2.2.2)
def deA (A : Ab) (D : De) : Ab := (A.1, A.2.1, A.2.2.1, D)
abbrev nowT (D : De) : Tn := runD D.1 D.2.2.1 D.2.1
theorem push_now {D : De} {c : Nat} : nowT (pushD D c) = applyD (nowT D) c := by
  show applyD (runD D.1 (fun d => if d = D.2.1 then c else D.2.2.1 d) D.2.1) (if D.2.1 = D.2.1 then c else _) = _
  rw [if_pos rfl, run_ext D.2.1 (fun d hd => if_neg (by omega))]
theorem now_wf {tb : Prop} {D : De} (h : okDe tb D) : wfT 40 (nowT D) ∧ nowT D 0 = D.1 0 := by
  have := wf_run h.1 D.2.1 h.2.2.1
  exact ⟨wf_mono h.2.1 this.1, this.2⟩
theorem push_ok {tb : Prop} {D : De} {c : Nat} (h : okDe tb D) (h40 : D.2.1 < 40) (hc : okD (D.1 0) c) : okDe tb (pushD D c) := by
  refine ⟨h.1, h40, fun d hd => ?_, h.2.2.2.1, fun q => ?_⟩
  · show okD (D.1 0) (if d = D.2.1 then c else D.2.2.1 d)
    by_cases z : d = D.2.1
    · rw [if_pos z]; exact hc
    · rw [if_neg z]; exact h.2.2.1 d (by have : d < D.2.1 + 1 := hd; omega)
  · exfalso
    have q : D.1 0 = 0 := q
    rcases hc with ⟨_, h0⟩ | ⟨i, hi, _⟩ | ⟨i, j, hi, _⟩ <;> omega
theorem C_enact {tb : Prop} {A : Ab} {w i j c : Nat} (hA : okDe tb A.2.2.2) (h40 : A.2.2.2.2.1 < 40) (hc : okD (A.2.2.2.1 0) c) (he : c = 100 * w + 10 * i + j) : CAns A (F_X8_enact 0 (nI w) (nI i) (nI j)) (nI (ansD (nowT A.2.2.2) c)) (deA A (pushD A.2.2.2 c)) := by
  intro σ h
  have hcode : (((100 : Int32) * nI w) + ((10 : Int32) * nI i)) + nI j = nI c := by
    rw [show (100 : Int32) = nI 100 from rfl, show (10 : Int32) = nI 10 from rfl, pk_mul, pk_mul, nI_add, nI_add, he]
  obtain ⟨hnw, hn0⟩ := now_wf hA
  obtain ⟨t1, t2, t3, t4, t5⟩ := h.2.2.2
  have hCT : CT (setI (setI σ 34 A.2.2.2.2.1 (nI c)) 0 7 (nI (A.2.2.2.2.1 + 1))) 18 (nowT A.2.2.2) := t2.kept (fun a b p q => by rw [setI_1, if_neg (by omega), setI_1, if_neg (by omega)])
  obtain ⟨σ', g1, g2, g3⟩ := C_carry tw_18 hCT hnw (by decide) (c := c) (by rw [hn0]; exact hc)
  have hF : F_X8_enact 0 (nI w) (nI i) (nI j) σ = some (nI (ansD (nowT A.2.2.2) c), σ') := by
    unfold F_X8_enact
    simp only [hcode]
    rw [gR_0_6, ob_some, gI_0_7, ob_some, t3, wr_eq (by decide) sh_34 h40 (by decide), ob_some, gI_0_7, ob_some, setI_1, if_neg (by omega), t3, nI_1, pI_0_7, ob_some, gR_0_4, ob_some, tC tw_18, ob_some, g1, ob_some]
  have keep : ∀ a b, (a < 18 ∨ 25 < a) → (a ≠ 34 ∨ b ≠ A.2.2.2.2.1) → (a ≠ 0 ∨ b ≠ 7) → σ'.1 a b = σ.1 a b := fun a b q1 q2 q3 => by
    rw [g3.1 a b (by omega), setI_1, if_neg (by omega), setI_1, if_neg (by omega)]
  refine ⟨σ', hF, ⟨h.1.kept (fun a b p q => keep a b (by omega) (by omega) (by omega)), h.2.1.kept (fun a b p q => keep a b (by omega) (by omega) (by omega)), h.2.2.1.kept (keep _ _ (by decide) (by omega) (by decide)) (keep _ _ (by decide) (by omega) (by decide)) (fun f => keep _ _ (by decide) (by omega) (by omega)) (fun b => by rw [g3.2]; rfl), ?_, ?_, ?_, fun d hd => ?_, t5.kept (fun a b p q => keep a b (by omega) (by omega) (by omega))⟩, fun a b q => keep a b (by omega) (by omega) (by omega), fun a b q => by rw [g3.2]; rfl⟩
  · exact t1.kept (fun a b p q => keep a b (by omega) (by omega) (by omega))
  · show CT σ' 18 (nowT (pushD A.2.2.2 c))
    rw [push_now]
    exact g2
  · show σ'.1 0 7 = nI (A.2.2.2.2.1 + 1)
    rw [g3.1 _ _ (by omega), setI_1, if_pos ⟨rfl, rfl⟩]
  · show σ'.1 34 d = nI (if d = A.2.2.2.2.1 then c else A.2.2.2.2.2.1 d)
    rw [g3.1 _ _ (by omega), setI_1, if_neg (by omega), setI_1]
    by_cases z : d = A.2.2.2.2.1
    · rw [if_pos ⟨rfl, z⟩, if_pos z]
    · rw [if_neg (by omega), if_neg z]
      exact t4 d (by have : d < A.2.2.2.2.1 + 1 := hd; omega)

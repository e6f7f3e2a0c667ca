/-! ===== far arguments: -1, and nothing is changed ===== -/
def Far (x : Int32) : Prop := x.toInt < 0 ∨ 1000 ≤ x.toInt
theorem Far.out {x : Int32} (h : Far x) {m : Nat} (hm : m ≤ 1000) : x < 0 ∨ nI m ≤ x := by
  rcases h with h | h
  · exact Or.inl (neg_iff.mpr h)
  · refine Or.inr ?_
    rw [Int32.le_iff_toInt_le, nI_toInt (by omega)]
    omega
theorem Far.in2 {x : Int32} (h : Far x) {a b : Int} (ha : 0 ≤ a) (hb : b ≤ 999) : ¬ (a ≤ x.toInt ∧ x.toInt ≤ b) := by
  unfold Far at h
  omega
section FAR
variable {tb : Prop} {A : Ab} {σ : Mem} {x : Int32}
theorem far_row (hx : Far x) : F_X8_row 0 x 0 σ = some (-1, σ) := by
  unfold F_X8_row F_X8_makeAnew
  rw [gR_0_0, ob_some, ck_1, ob_some, S_numno sf_1 (hx.out (by decide)), ob_some, if_pos rfl, ob_some]
theorem far_lay (hx : Far x) : F_X8_lay 0 x 0 0 σ = some (-1, σ) := by
  unfold F_X8_lay
  rw [gR_0_0, ob_some, Rp_no sf_1 (hx.out (by decide)), ob_some, if_neg n10]
theorem far_at (hx : Far x) : F_X8_at 0 x 0 σ = some (-1, σ) := by
  unfold F_X8_at
  rw [gR_0_0, ob_some, Rp_no sf_1 (hx.out (by decide)), ob_some, if_neg n10]
theorem far_tear (hx : Far x) : F_X8_tear 0 x σ = some (-1, σ) := by
  unfold F_X8_tear
  rw [gR_0_0, ob_some, Rm_no sf_1 (hx.out (by decide)), ob_some, if_neg n10]
theorem far_copy (hx : Far x) : F_X8_copy 0 x 0 0 0 0 σ = some (-1, σ) := by
  unfold F_X8_copy
  rw [gR_0_0, ob_some, ck_1, ob_some, S_numno sf_1 (hx.out (by decide)), ob_some, if_pos rfl]
theorem far_mean (hx : Far x) : F_X8_mean 0 x σ = some (-1, σ) := by
  unfold F_X8_mean
  rw [gR_0_0, ob_some, Rm_no sf_1 (hx.out (by decide)), ob_some, if_neg n10]
theorem far_text (hx : Far x) : F_X8_text 0 x 0 σ = some (-1, σ) := by
  unfold F_X8_text F_X8_makeAnew
  rw [gR_0_1, ob_some, ck_4, ob_some, S_numno sf_4 (hx.out (by decide)), ob_some, if_pos rfl, ob_some]
theorem far_put (hx : Far x) : F_X8_put 0 x 0 0 σ = some (-1, σ) := by
  unfold F_X8_put
  rw [gR_0_1, ob_some, Rp_no sf_4 (hx.out (by decide)), ob_some, if_neg n10]
theorem far_fault (hx : Far x) : F_X8_fault 0 x σ = some (-1, σ) := by
  unfold F_X8_fault
  rw [gR_0_1, ob_some, Rm_no sf_4 (hx.out (by decide)), ob_some, if_neg n10]
theorem far_town (hx : Far x) : F_X8_town 0 x σ = some (-1, σ) := by
  unfold F_X8_town
  rw [gR_0_1, ob_some, Rm_no sf_4 (hx.out (by decide)), ob_some, if_neg n10]
theorem far_bedno (hA : okDe tb A.2.2.2) (hx : Far x) : x < 0 ∨ nI (nowT A.2.2.2 0) ≤ x := by
  have h6 := (now_wf hA).1.1
  exact hx.out (by omega)
theorem far_bed (hA : okDe tb A.2.2.2) (h : RC A σ) (hx : Far x) : F_X8_bed 0 x 0 σ = some (-1, σ) := by
  unfold F_X8_bed
  rw [gR_0_4, ob_some, tC tw_18, ob_some, C_hasno tw_18 h.now (far_bedno hA hx), ob_some, if_pos rfl]
theorem far_mark (hA : okDe tb A.2.2.2) (h : RC A σ) (hx : Far x) : F_X8_mark 0 x 1 σ = some (-1, σ) := by
  unfold F_X8_mark
  rw [gR_0_4, ob_some, tC tw_18, ob_some, C_hasno tw_18 h.now (far_bedno hA hx), ob_some, if_pos rfl]
theorem far_cross (hA : okDe tb A.2.2.2) (h : RC A σ) (hx : Far x) : F_X8_cross 0 x 0 σ = some (-1) := by
  unfold F_X8_cross
  rw [gR_0_4, ob_some, tC tw_18, ob_some, C_hasno tw_18 h.now (far_bedno hA hx), ob_some, if_pos rfl]
theorem far_inspect (hA : okDe tb A.2.2.2) (h : RC A σ) (hx : Far x) : F_X8_inspect 0 x σ = some (-1, σ) := by
  unfold F_X8_inspect
  rw [gR_0_4, ob_some, tC tw_18, ob_some, C_hasno tw_18 h.now (far_bedno hA hx), ob_some, if_pos rfl]
theorem far_thin (hA : okDe tb A.2.2.2) (h : RC A σ) (hx : Far x) : F_X8_thin 0 x σ = some (-1, σ) := by
  unfold F_X8_thin
  rw [gR_0_4, ob_some, tC tw_18, ob_some, C_hasno tw_18 h.now (far_bedno hA hx), ob_some, if_pos rfl]
theorem far_swap (hA : okDe tb A.2.2.2) (h : RC A σ) (hx : Far x) : F_X8_swap 0 x 0 σ = some (-1, σ) := by
  unfold F_X8_swap
  rw [gR_0_4, ob_some, tC tw_18, ob_some, C_hasno tw_18 h.now (far_bedno hA hx), ob_some, if_pos rfl]
theorem far_undo (hA : okDe tb A.2.2.2) (h : RC A σ) (hx : Far x) : F_X8_undo 0 x σ = some (-1, σ) := by
  have hdc := hA.2.1
  unfold F_X8_undo
  by_cases q : x < 0
  · rw [if_pos q]
  · rw [if_neg q, gI_0_7, ob_some, h.dc, if_neg]
    intro z
    have hx := (hx.out (m := A.2.2.2.2.1 + 1) (by omega)).resolve_left q
    rw [Int32.le_iff_toInt_le, nI_toInt (by omega)] at z hx
    omega
theorem far_keep (hx : Far x) : F_X8_keep 0 x σ = some (-1, σ) := by
  unfold F_X8_keep
  rw [gR_0_2, ob_some, ck_7, ob_some, S_numno sf_7 (hx.out (by decide)), ob_some, if_pos rfl]
theorem far_on (hx : Far x) : F_X8_on 0 x σ = some (-1, σ) := by
  unfold F_X8_on
  rw [gR_0_2, ob_some, Rm_no sf_7 (hx.out (by decide)), ob_some, if_neg n10]
theorem far_then (hA : okDe tb A.2.2.2) (h : RC A σ) (hx : Far x) : F_X8_then 0 x 0 σ = some (-1, σ) := by
  unfold F_X8_then
  rw [gR_0_4, ob_some, tC tw_18, ob_some, C_hasno tw_18 h.now (far_bedno hA hx), ob_some, if_pos rfl]
theorem far_when (hA : okDe tb A.2.2.2) (h : RC A σ) (hx : Far x) : F_X8_when 0 x σ = some (-1, σ) := by
  unfold F_X8_when
  rw [gR_0_4, ob_some, tC tw_18, ob_some, C_hasno tw_18 h.now (far_bedno hA hx), ob_some, if_pos rfl]
theorem far_least (hA : okDe tb A.2.2.2) (h : RC A σ) (hx : Far x) : F_X8_least 0 x 0 σ = some (-1, σ) := by
  unfold F_X8_least
  rw [gR_0_4, ob_some, tC tw_18, ob_some, C_hasno tw_18 h.now (far_bedno hA hx), ob_some, if_pos rfl]
theorem far_round (hx : Far x) : F_X8_round 0 x 0 σ = some (-1, σ) := by
  unfold F_X8_round
  by_cases q : x < 0
  · rw [if_pos q]
  · rw [if_neg q, if_pos]
    rw [Int32.lt_iff_toInt_lt]
    have q2 : ¬ x.toInt < 0 := fun z => q (neg_iff.mpr z)
    have e4 : (4 : Int32).toInt = 4 := rfl
    unfold Far at hx
    omega
theorem far_round2 (hx : Far x) : F_X8_round 0 0 x σ = some (-1, σ) := by
  unfold F_X8_round
  rw [if_neg (by decide), if_neg (by decide), gR_0_0, ob_some, ck_1, ob_some, S_numno sf_1 (hx.out (by decide)), ob_some, if_pos rfl]
theorem far_brings (hx : Far x) : F_X8_brings 0 x σ = some (-1, σ) := by
  unfold F_X8_brings
  rw [gR_0_0, ob_some, ck_1, ob_some, S_numno sf_1 (hx.out (by decide)), ob_some, if_pos rfl]
theorem far_marry (hx : Far x) : F_X8_marry 0 x σ = some (-1, σ) := by
  unfold F_X8_marry
  rw [gR_0_0, ob_some, ck_1, ob_some, S_numno sf_1 (hx.out (by decide)), ob_some, if_pos rfl]
theorem far_pairs (hA : okDe tb A.2.2.2) (h : RC A σ) (hx : Far x) : F_X8_takePairs 0 x 0 σ = some (-1, σ) := by
  unfold F_X8_takePairs
  rw [gR_0_4, ob_some, tC tw_18, ob_some, C_hasno tw_18 h.now (far_bedno hA hx), ob_some, if_pos rfl]
theorem far_pairsY (hA : okDe tb A.2.2.2) (h : RC A σ) (hx : Far x) (y : Int32) : F_X8_takePairs 0 y x σ = some (-1, σ) := by
  obtain ⟨hnw, hn0⟩ := now_wf hA
  have h6 := hnw.1
  rcases ixc y (n := nowT A.2.2.2 0) (by omega) with hz | ⟨i, hi, rfl⟩
  · unfold F_X8_takePairs
    rw [gR_0_4, ob_some, tC tw_18, ob_some, C_hasno tw_18 h.now hz, ob_some, if_pos rfl]
  · unfold F_X8_takePairs
    rw [gR_0_4, ob_some, tC tw_18, ob_some, C_has tw_18 h.now hnw hi, ob_some, if_neg (by decide), gR_0_0, ob_some, Rm_no sf_1 (hx.out (by decide)), ob_some, if_neg n10]
theorem far_pairs2 (hA : okDe tb A.2.2.2) (h : RC A σ) (hx : Far x) : F_X8_takePairs 0 0 x σ = some (-1, σ) := far_pairsY hA h hx 0
theorem far_thicks (hA : okDe tb A.2.2.2) (h : RC A σ) (hx : Far x) : F_X8_thicks 0 x 0 σ = some (-1, σ) := by
  unfold F_X8_thicks
  rw [far_pairs hA h hx, ob_some, if_neg n10]
theorem far_kinds (hA : okDe tb A.2.2.2) (h : RC A σ) (hx : Far x) : F_X8_kinds 0 0 x σ = some (-1, σ) := by
  unfold F_X8_kinds
  rw [far_pairs2 hA h hx, ob_some, if_neg n10]
theorem far_test (hA : okDe tb A.2.2.2) (h : RC A σ) (hx : Far x) : F_X8_test 0 x 0 σ = some (-1, σ) := by
  unfold F_X8_test
  rw [far_pairs hA h hx, ob_some, if_neg n10]
theorem far_duel (hx : Far x) : F_X8_duel 0 x σ = some (-1, σ) := by
  have t4 : (x ≤ (4 : Int32)) ↔ x.toInt ≤ 4 := by rw [Int32.le_iff_toInt_le]; rfl
  unfold F_X8_duel
  by_cases q : x < 0
  · rw [if_pos q]
  · have q2 : ¬ x.toInt < 0 := fun z => q (neg_iff.mpr z)
    unfold Far at hx
    rw [if_neg q, if_neg (fun z => by have := t4.mp z; omega)]
theorem far_odds (hx : Far x) : F_X8_odds 0 x 0 σ = some (-1, σ) := by
  have t6 : ((6 : Int32) < x) ↔ 6 < x.toInt := by rw [Int32.lt_iff_toInt_lt]; rfl
  unfold F_X8_odds
  by_cases q : x < 0
  · rw [if_pos q]
  · have q2 : ¬ x.toInt < 0 := fun z => q (neg_iff.mpr z)
    unfold Far at hx
    rw [if_neg q, if_pos (t6.mpr (by omega))]
theorem far_mid (hx : Far x) : F_X8_mid 0 x σ = some (-1, σ) := by
  have t12 : (x ≤ (12 : Int32)) ↔ x.toInt ≤ 12 := by rw [Int32.le_iff_toInt_le]; rfl
  unfold F_X8_mid
  by_cases q : x < 0
  · rw [if_pos q]
  · have q2 : ¬ x.toInt < 0 := fun z => q (neg_iff.mpr z)
    unfold Far at hx
    rw [if_neg q, if_neg (fun z => by have := t12.mp z; omega)]
theorem far_lots (hx : Far x) : F_X8_lots 0 x 1 σ = some (-1, σ) := by
  have t1 : (x < (1 : Int32)) ↔ x.toInt < 1 := by rw [Int32.lt_iff_toInt_lt]; rfl
  have t20 : ((20 : Int32) < x) ↔ 20 < x.toInt := by rw [Int32.lt_iff_toInt_lt]; rfl
  unfold F_X8_lots
  by_cases q : x < (1 : Int32)
  · rw [if_pos q]
  · have q2 : ¬ x.toInt < 1 := fun z => q (t1.mpr z)
    unfold Far at hx
    rw [if_neg q, if_pos (t20.mpr (by omega))]
theorem far_count (hx : Far x) : F_X8_count 0 x σ = some (-1) := by
  have ne : ∀ f : Nat, f < 11 → ¬ x = nI f := fun f hf e => by
    unfold Far at hx
    rw [e, nI_toInt (by omega)] at hx
    omega
  unfold F_X8_count
  rw [if_neg (show ¬ x = (0 : Int32) from ne 0 (by decide)), if_neg (show ¬ x = (1 : Int32) from ne 1 (by decide)), if_neg (show ¬ x = (2 : Int32) from ne 2 (by decide)), if_neg (show ¬ x = (3 : Int32) from ne 3 (by decide)), if_neg (show ¬ x = (4 : Int32) from ne 4 (by decide)), if_neg (show ¬ x = (5 : Int32) from ne 5 (by decide)), if_neg (show ¬ x = (6 : Int32) from ne 6 (by decide)), if_neg (show ¬ x = (7 : Int32) from ne 7 (by decide)), if_neg (show ¬ x = (8 : Int32) from ne 8 (by decide)), if_neg (show ¬ x = (9 : Int32) from ne 9 (by decide)), if_neg (show ¬ x = (10 : Int32) from ne 10 (by decide))]
theorem far_findings (hx : Far x) : F_X8_findings 0 x σ = some (-1) := by
  have t1 : (x < (1 : Int32)) ↔ x.toInt < 1 := by rw [Int32.lt_iff_toInt_lt]; rfl
  have t5 : (x ≤ (5 : Int32)) ↔ x.toInt ≤ 5 := by rw [Int32.le_iff_toInt_le]; rfl
  unfold F_X8_findings
  by_cases q : x < (1 : Int32)
  · rw [if_pos q]; rfl
  · have q2 : ¬ x.toInt < 1 := fun z => q (t1.mpr z)
    unfold Far at hx
    rw [if_neg q, if_neg (fun z => by have := t5.mp z; omega)]; rfl
end FAR
theorem m10 (x : Int32) : ∃ k : Nat, k ≤ 1023 ∧ x &&& (1023 : Int32) = nI k := by
  have e : x = nI x.toBitVec.toNat := by
    apply Int32.toBitVec_inj.1
    show x.toBitVec = BitVec.ofNat 32 x.toBitVec.toNat
    simp
  have ea : ∀ a b : Nat, nI a &&& nI b = nI (a &&& b) := by
    intro a b
    apply Int32.toBitVec_inj.1
    show BitVec.ofNat 32 a &&& BitVec.ofNat 32 b = BitVec.ofNat 32 (a &&& b)
    apply BitVec.eq_of_getLsbD_eq
    intro i hi
    simp [hi]
  refine ⟨x.toBitVec.toNat % 1024, by have := Nat.mod_lt x.toBitVec.toNat (show 0 < 1024 by decide); omega, ?_⟩
  have h2 : x &&& (1023 : Int32) = nI x.toBitVec.toNat &&& nI 1023 := by rw [← e]; rfl
  rw [h2, ea, show (1023 : Nat) = 2 ^ 10 - 1 from rfl, Nat.and_two_pow_sub_one_eq_mod]
/-- the law's far arguments are far -/
theorem far_lo (x : Int32) : Far ((1000 : Int32) + (x &&& (1023 : Int32))) := by
  obtain ⟨k, hk, e⟩ := m10 x
  rw [e]
  right
  rw [show (1000 : Int32) = nI 1000 from rfl, nI_add, nI_toInt (by omega)]
  omega
theorem far_hi (x : Int32) : Far ((-1000 : Int32) - (x &&& (1023 : Int32))) := by
  obtain ⟨k, hk, e⟩ := m10 x
  rw [e]
  left
  rw [Int32.toInt_sub, nI_toInt (by omega)]
  have e2 : (-1000 : Int32).toInt = -1000 := rfl
  rw [e2, Int.bmod_eq_of_le (by omega) (by omega)]
  omega

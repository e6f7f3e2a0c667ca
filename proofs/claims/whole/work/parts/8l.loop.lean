/-! ===== the law's loop ===== -/
theorem i32n {i : Nat} (h : i ≤ 3072) : (Int32.ofNat i).toInt = (i : Int) := Int32.toInt_ofNat_of_lt (by omega)
theorem i32add {i : Nat} {c : Int32} (h : i ≤ 3072) (h1 : 0 ≤ c.toInt) (h2 : c.toInt ≤ 10) : (Int32.ofNat i + c).toInt = (i : Int) + c.toInt := by
  rw [Int32.toInt_add, i32n h]
  exact Int.bmod_eq_of_le (by omega) (by omega)
theorem i32sub {L : Nat} (h : L ≤ 3072) : (Int32.ofNat L - 6).toInt = (L : Int) - 6 := by
  rw [Int32.toInt_sub, i32n h]
  have e : (6 : Int32).toInt = 6 := rfl
  rw [e]
  exact Int.bmod_eq_of_le (by omega) (by omega)
theorem hin_of {i L : Nat} (hL : L ≤ 3072) (h : i + 6 ≤ L) : Hin (Int32.ofNat i) L := fun c hc => in_of (by rw [i32add (by omega) hc.1 (by omega)]; omega)
section LAWLOOP
variable {Δ : DD} {Γ : GG} {b L : Nat} {xs : Nat → Int32}
theorem law_loop (C : Cx Δ Γ RL cL_law 4 30 (some .boolean)) (hX : SX Δ Γ b L xs) (hL : L ≤ 3072) (hend : ∀ (x : Int32) (σ : Mem), V Δ Γ 4 1324 (LL Δ x b) [] σ) : ∀ (n i : Nat) (σ : Mem), L ≤ i + n → i ≤ L → Inv σ → V Δ Γ 4 18 (LL Δ (Int32.ofNat i) b) [] σ := by
  intro n
  induction n with
  | zero =>
    intro i σ h1 h2 hσ
    refine v_iload_n C 3 0 dL_law_18 rfl rfl ?_
    refine v_aload_n C 0 3 dL_law_19 rfl rfl ?_
    refine v_slen C hX dL_law_20 ?_
    refine v_bipush C 6 dL_law_21 rfl ?_
    refine v_isub C dL_law_23 ?_
    refine v_icmp_gt C 1324 dL_law_24 (by decide) (fun _ => hend _ _) (fun h => ?_)
    rw [Int32.lt_iff_toInt_lt, i32sub hL, i32n (by omega)] at h
    omega
  | succ n ih =>
    intro i σ h1 h2 hσ
    refine v_iload_n C 3 0 dL_law_18 rfl rfl ?_
    refine v_aload_n C 0 3 dL_law_19 rfl rfl ?_
    refine v_slen C hX dL_law_20 ?_
    refine v_bipush C 6 dL_law_21 rfl ?_
    refine v_isub C dL_law_23 ?_
    refine v_icmp_gt C 1324 dL_law_24 (by decide) (fun _ => hend _ _) (fun h => ?_)
    rw [Int32.lt_iff_toInt_lt, i32sub hL, i32n (by omega)] at h
    refine v_aload_n C 0 3 dL_law_27 rfl rfl ?_
    refine v_iload_n C 3 0 dL_law_28 rfl rfl ?_
    refine v_sld C hX (in_of (by rw [i32n (by omega)]; omega)) dL_law_29 ?_
    refine v_bipush C 63 dL_law_30 rfl ?_
    refine v_iand C dL_law_32 ?_
    refine lc_all C hX (hin_of hL (by omega)) hσ (fun σ' hσ' => ?_) _
    refine v_iinc C (Int32.ofNat (i + 6)) 0 dL_law_1318 rfl ?_ (by decide) rfl ?_
    · apply Int32.toInt_inj.mp
      rw [i32n (by omega)]
      have e := i32add (i := i) (c := 6) (by omega) (by decide) (by decide)
      exact e.trans (by have e6 : (6 : Int32).toInt = 6 := rfl
                        rw [e6]; omega)
    · refine v_goto C 18 dL_law_1321 (by decide) ?_
      exact ih (i + 6) σ' (by omega) (by omega) hσ'
end LAWLOOP

theorem sim_test (x y : Int32) : Sim (F_X8_test 0 x y) (F_X9_test 134 x y) := by
  refine sim_of fun A hA => ?_
  obtain ⟨hnw, hn0⟩ := now_wf hA
  have h6 := hnw.1
  rcases pairs_of hA x y with ⟨r, A', hr, hA', hC, hM⟩ | ⟨i, r, n, rfl, hi, rfl, hr, hs, hn, he, hg, hC, hM⟩
  · refine ⟨r, A', hA', fun σ h => ?_, hM (fun σ' => F_X9_test_43 134 x y ((-9 : Int32), (1000000 : Int32), (0 : Int32), (0 : Int32), σ'))⟩
    obtain ⟨σ', e, h1, h2⟩ := hC σ h
    exact ⟨σ', by unfold F_X8_test; rw [e, ob_some, if_neg hr], h1, h2⟩
  · generalize hT : nowT A.2.2.2 = T at *
    by_cases hz : ∀ e, e < 60 → ¬ FE T i (A.1.2 r) (n / 2) e
    · refine ⟨-9, A, hA, fun σ h => ?_, fun σ h => ?_⟩
      · obtain ⟨σ1, e, h1, fr, hP⟩ := hC σ h
        have hnow := h1.now
        rw [hT] at hnow
        obtain ⟨σ2, fr2, k⟩ := C_telling hnow hnw hi hP (by omega)
        rcases k with ⟨_, k⟩ | ⟨k0, _⟩
        · refine ⟨σ2, ?_, (h.side (fr.tr fr2)).1, (h.side (fr.tr fr2)).2⟩
          unfold F_X8_test
          rw [e, ob_some, if_pos rfl, gR_0_11, ob_some, gR_0_4, ob_some, ck_93, ob_some, k, ob_some, if_pos rfl]
        · exact absurd hz k0
      · have hnow := h.now
        rw [hT] at hnow
        obtain ⟨_, g1, g2⟩ := h.1.row hr hs
        obtain ⟨σ', fr, k⟩ := M_testL hnow hnw hi hr hn he g1 g2 hg
        have fn : FrN σ σ' := ⟨fun a b q => fr.1 a b (by omega), fun a b _ => by rw [fr.2]⟩
        rcases k with ⟨_, k⟩ | ⟨k0, _⟩
        · exact ⟨σ', (hM (fun σ' => F_X9_test_43 134 (nI i) (nI r) ((-9 : Int32), (1000000 : Int32), (0 : Int32), (0 : Int32), σ')) σ h).trans k, (h.side hA fn).1, (h.side hA fn).2⟩
        · exact absurd hz k0
    · have lb := bstE_le (mo := moE T i (A.1.2 r) (n / 2)) (fun _ => moE_le) 8
      obtain ⟨bb, hb⟩ : ∃ bb, bstE (moE T i (A.1.2 r) (n / 2)) 8 = bb := ⟨_, rfl⟩
      rw [hb] at lb
      refine ⟨nI bb.1, toldA A (nI bb.2), hA, fun σ h => ?_, fun σ h => ?_⟩
      · obtain ⟨σ1, e, h1, fr, hP⟩ := hC σ h
        have hnow := h1.now
        rw [hT] at hnow
        obtain ⟨σ2, fr2, k⟩ := C_telling hnow hnw hi hP (by omega)
        rw [hb] at k
        rcases k with ⟨k0, _⟩ | ⟨_, k, k2⟩
        · exact absurd k0 hz
        · obtain ⟨h3, f3⟩ := h.side (fr.tr fr2)
          obtain ⟨σ3, e3, h4, f4⟩ := C_tell (A := A) (v := nI bb.2) σ2 h3
          have es : F_X8_tell 0 (nI bb.2) σ2 = some (1, setI σ2 0 13 (nI bb.2)) := by
            unfold F_X8_tell
            rw [pI_0_13, ob_some]
          have e4 := e3.symm.trans es
          injection e4 with e4
          injection e4 with _ e4
          subst e4
          refine ⟨_, ?_, h4, f3.tr f4⟩
          unfold F_X8_test
          rw [e, ob_some, if_pos rfl, gR_0_11, ob_some, gR_0_4, ob_some, ck_93, ob_some, k, ob_some, if_neg (nI_n9 (by omega)), ob_some, gI_93_5, ob_some, k2, pI_0_13, ob_some]
      · have hnow := h.now
        rw [hT] at hnow
        obtain ⟨_, g1, g2⟩ := h.1.row hr hs
        obtain ⟨σ', fr, k⟩ := M_testL hnow hnw hi hr hn he g1 g2 hg
        rw [hb] at k
        have fn : FrN σ σ' := ⟨fun a b q => fr.1 a b (by omega), fun a b _ => by rw [fr.2]⟩
        rcases k with ⟨k0, _⟩ | ⟨_, k⟩
        · exact absurd k0 hz
        · obtain ⟨h3, f3⟩ := h.side hA fn
          obtain ⟨σ3, e3, h4, f4⟩ := M_tells (A := A) (v := nI bb.2) (r := nI bb.1) σ' h3
          exact ⟨σ3, (hM (fun σ' => F_X9_test_43 134 (nI i) (nI r) ((-9 : Int32), (1000000 : Int32), (0 : Int32), (0 : Int32), σ')) σ h).trans (k _ _ e3), h4, f3.tr f4⟩

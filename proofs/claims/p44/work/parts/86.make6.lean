section MAKE6
variable {Γ : UU} {own : String} {cc : ByteArray} {nL pc kc ks fr rc rs rl : Nat} {cI cT : ClassId} {ll : List (Nat × Value)} {st : List Value} {ws : va_W}
theorem k_fill (C : CU Γ own cc nL cI cT fr rc rs rl) {idx q0 a n : Nat} {g : Nat → Int32} {v : Int32} (he : ws[q0]? = some (a, .inl (cI, n, .inl g))) (hn : n < 2147483648) (hw : Cond.methodLink own idx yJ7_fill_53178 ∈ lw_good) (m1 : Cond.static yJ7_fill_53178 ∈ lw_good) (m3 : Cond.code yJ7_fill_53178 cJ7_fill_53178 4 none ∈ lw_good) (m4 : Cond.initialized RJ7 ∈ lw_good) (hW : (st.map fun v => v.category).sum ≤ 8) (hfr : 2 ≤ fr) (hrl : 35 ≤ rl) (hkc : kc ≤ rc) (hks : ks ≤ rs) (hdg : decode cc pc = .ok (.invokestatic idx, 3)) (k : U Γ nL (pc + 3) ll st (ws.set q0 (a, .inl (cI, n, .inl (fun j => if j < n then v else g j)))) kc ks) : U Γ nL pc ll (.int v :: .ref a :: st) ws kc ks := by
  obtain ⟨D, A, p, l, e, R, s, m, args, below, meth, c, Q⟩ := Γ
  intro H locs ls hP hD hS hl
  obtain ⟨hx, hb, hml, hown, hts, hK, hNw, hA, r1, r2, r3, r4⟩ := C
  have hC1 : [q0].map (fun i => ws[i]?) = [(a, (.inl (cI, n, .inl g) : va_E))].map some := by
    show [ws[q0]?] = [some (a, (.inl (cI, n, .inl g) : va_E))]
    rw [he]
  have hFc := va_free (wc := [(a, .inl (cI, n, .inl g))]) hD hS hA [q0] hC1
  have hPc : va_P D cls9 [(a, .inl (cI, n, .inl g))] H := hP.sub [q0] (by rw [List.filterMap_cons_some (b := (a, (.inl (cI, n, .inl g) : va_E))) he]; rfl)
  have hDc : va_D (fun _ => True) [(a, (.inl (cI, n, .inl g) : va_E))] := ⟨fun i j x y hx hy _ => by
    have h1 := (List.getElem?_eq_some_iff.mp hx).1
    have h2 := (List.getElem?_eq_some_iff.mp hy).1
    have h1 : i < 1 := h1
    have h2 : j < 1 := h2
    omega, fun _ _ _ => trivial⟩
  have hMq := fl_of (l := l) (D := D) (cI := cI) (cT := cT) a H.size n g v hn
  have hpre : PreS s H (va_Pc [.ref a, .int v] (fun U => U.heap.size = H.size ∧ va_P D cls9 [(a, .inl (cI, n, .inl g))] U.heap ∧ va_K D cls9 (tysA cI cT) U ∧ NW U ∧ va_D (fun _ => True) [(a, (.inl (cI, n, .inl g) : va_E))])) [.ref a, .int v] := ⟨fun a U g mk z => by
      obtain ⟨q0, q1, qP, qK, qN, qD⟩ := z
      exact ⟨q0, q1, qP, va_K.moved (u := U) (U := U.calling g mk a) (Vm.Alike.refl U.vm) qK, qN.call a g mk, qD⟩, fun U hU hW => ⟨rfl, by rw [hU], by rw [hU]; exact hPc, va_K.moved hW.alike hK, hNw.go hW, hDc⟩⟩
  have kk : ∀ (w : va_W) (t : State) (H1 : Heap) (locs1 : List Loc), t.heap = H1 → s.vm.Alike t.vm → w = [(a, .inl (cI, n, .inl (fun j => if j < n then v else g j)))] → (va_P D cls9 w t.heap ∧ va_D (va_A [(a, .inl (cI, n, .inl g))] H.size) w) → H.size ≤ H1.size → (∀ z : Nat, z < H.size → ¬ va_A [(a, .inl (cI, n, .inl g))] H.size z → H1[z]? = H[z]?) → va_S A s.heap H1 locs1 → W p l e R s m args below meth c H1 locs1 (kc + 0) (ks + 0) Q (F0 m (pc + 3) ls st) := by
    intro w t H1 locs1 ht _ hpost hB _ hk1 hS1
    subst hpost
    obtain ⟨hP1, hD1⟩ := hB
    rw [ht] at hP1
    have hP2 := hP.set2 hD he (hP1 0 _ rfl) (fun z hz hne => hk1 z hz (fun hz2 => by
      rcases hz2 with ⟨k0, e0, h0⟩ | h0
      · have : k0 = 0 := by
          rcases Nat.eq_zero_or_pos k0 with h | h
          · exact h
          · rw [List.getElem?_eq_none (by show 1 ≤ k0; omega)] at h0; cases h0
        subst this
        exact hne (congrArg Prod.fst (Option.some.inj h0)).symm
      · omega))
    exact k H1 locs1 ls hP2 (hD.set he) hS1 hl
  have cw := callB_of (R := R) (own := own) (index := idx) (mc := 0) (ms := 0) (rm := ({ frames := 1, cells := 0, slots := 0, locals := 12 } : Room)) 2 hts (good_in m3) rfl rfl rfl (hts _ m4) (hts _ hw) (by decide +kernel) ⟨by rw [r1]; exact hfr, by rw [r4]; exact hrl⟩
  exact va_callv (va_runS (As := [.ref a, .int v]) (rest := st) ⟨hx, hb, hml, hown, hts⟩ hMq ⟨cw, hts _ m1⟩ hpre rfl rfl hl.1 rfl (lv_room (m := m) (pc := pc) (ls := ls) (rest := .int v :: .ref a :: st) hW) hdg ⟨by rw [r2]; exact hkc, by rw [r3]; exact hks⟩) hS (fun z _ h => hFc z h) hFc kk
end MAKE6

theorem va_nd_of : ∀ (l : List Nat), l.Nodup → va_nd l = true
  | [], _ => rfl
  | a :: l, h => by
    have h2 := List.nodup_cons.mp h
    show (decide (a ∉ l) && va_nd l) = true
    rw [decide_eq_true h2.1, va_nd_of l h2.2]; rfl
theorem join_last {A0 : Nat → Prop} {D : va_G} {wr w1 : va_W} {x : Nat × va_E} {H H1 : Heap} (hP : va_P D cls9 (wr ++ [x]) H) (hD : va_D A0 (wr ++ [x])) (hk : ∀ q : Nat, q < H.size → ¬ va_A [x] H.size q → H1[q]? = H[q]?) (hF : ∀ q, va_A [x] H.size q → A0 q) (hP1 : va_P D cls9 w1 H1) (hD1 : va_D (va_A [x] H.size) w1) : va_P D cls9 (wr ++ w1) H1 ∧ va_D A0 (wr ++ w1) := by
  have hlast : (wr ++ [x])[wr.length]? = some x := by rw [List.getElem?_append_right (Nat.le_refl _), Nat.sub_self]; rfl
  have hr : ∀ i, i < wr.length → (wr ++ [x])[i]? = wr[i]? := fun i hi => List.getElem?_append_left hi
  refine va_join (cl := cls9) (wc := [x]) (wr := wr) (w1 := w1) hP hD [wr.length] (List.range wr.length) ?_ ?_ ?_ ?_ hk hF hP1 hD1
  · show [(wr ++ [x])[wr.length]?] = [some x]
    rw [hlast]
  · apply List.ext_getElem?
    intro i
    rw [List.getElem?_map, List.getElem?_map]
    by_cases h : i < wr.length
    · rw [List.getElem?_range h]
      show some ((wr ++ [x])[i]?) = _
      rw [hr i h, List.getElem?_eq_getElem h]; rfl
    · rw [List.getElem?_eq_none (by rw [List.length_range]; omega), List.getElem?_eq_none (by omega)]; rfl
  · exact va_nd_of _ List.nodup_range
  · intro i hi hi2
    have h1 := List.mem_range.mp hi
    have h2 := List.mem_singleton.mp hi2
    omega
section MAKE3
variable {Γ : UU} {own : String} {cc : ByteArray} {nL pc kc ks fr rc rs rl : Nat} {cI cT : ClassId} {ll : List (Nat × Value)} {st : List Value} {pre : va_W}
/-- a constructor's call: its cells come behind what stands -/
theorem k_call (C : CU Γ own cc nL cI cT fr rc rs rl) {D : va_G} {l : Launch} (hD0 : Γ.1 = D) (hl0 : Γ.2.2.2.1 = l) {idx n nL' ci q fr' rc' rs' rl' : Nat} {y : MethodName} {cc' : ByteArray} {fs : List Value} {avs st0 : List Value} {post : Nat → va_W → Prop} (hM : Mk l D cI cT y cc' nL' ci fs avs fr' rc' rs' rl' post) (hn : y.name = "<init>") (m1 : Cond.instanceMethod y ∈ lw_good) (m3 : Cond.code y cc' nL' none ∈ lw_good) (m4 : Cond.initialized y.cls ∈ lw_good) (m5 : y.cls ≠ "java/lang/invoke/MethodHandle" ∧ y.cls ≠ "java/lang/invoke/VarHandle" ∧ (parseMethodDescriptor y.desc).map (fun d => d.parameters.length) = some n) (lk : LK own idx y) (hst : st0 = avs.reverse ++ .ref q :: st) (hav : avs.length = n) (hW : (st.map fun v => v.category).sum ≤ 8) (hfr : fr' + 1 ≤ fr) (hrl : 8 + (nL' + 11) + rl' ≤ rl) (hkc : kc + rc' ≤ rc) (hks : ks + rs' ≤ rs) (hdg : decode cc pc = .ok (.invokespecial idx, 3)) (k : ∀ w, post q w → U Γ nL (pc + 3) ll st (pre ++ w) (kc + rc') (ks + rs')) : U Γ nL pc ll st0 (pre ++ [(q, .inr (ci, fs))]) kc ks := by
  obtain ⟨D, A, p, l, e, R, s, m, args, below, meth, c, Q⟩ := Γ
  subst hD0
  subst hl0
  subst hst
  intro H locs ls hP hD hS hl
  obtain ⟨hx, hb, hml, hown, hts, hK, hNw, hA, r1, r2, r3, r4⟩ := C
  have hlast : ∀ x : Nat × va_E, (pre ++ [x])[pre.length]? = some x := fun x => by rw [List.getElem?_append_right (Nat.le_refl _), Nat.sub_self]; rfl
  have hC1 : [pre.length].map (fun i => (pre ++ [(q, (.inr (ci, fs) : va_E))])[i]?) = [(q, (.inr (ci, fs) : va_E))].map some := by
    show [(pre ++ [(q, (.inr (ci, fs) : va_E))])[pre.length]?] = [some (q, (.inr (ci, fs) : va_E))]
    rw [hlast]
  have hFc := va_free (wc := [(q, .inr (ci, fs))]) hD hS hA [pre.length] hC1
  have hPc : va_P D cls9 [(q, .inr (ci, fs))] H := fun i x hx => by
    have : i = 0 := by
      rcases Nat.eq_zero_or_pos i with h | h
      · exact h
      · rw [List.getElem?_eq_none (by show 1 ≤ i; omega)] at hx; cases hx
    subst this
    have : x = (q, .inr (ci, fs)) := (Option.some.inj hx).symm
    subst this
    exact hP pre.length _ (hlast _)
  have hDc : va_D (fun _ => True) [(q, (.inr (ci, fs) : va_E))] := ⟨fun i j x y hx hy _ => by
    have h1 := (List.getElem?_eq_some_iff.mp hx).1
    have h2 := (List.getElem?_eq_some_iff.mp hy).1
    have h1 : i < 1 := h1
    have h2 : j < 1 := h2
    omega, fun _ _ _ => trivial⟩
  have hMq := hM q H.size
  have hpre : PreS s H (va_Pc (.ref q :: avs) (fun U => U.heap.size = H.size ∧ va_P D cls9 [(q, .inr (ci, fs))] U.heap ∧ va_K D cls9 (tysA cI cT) U ∧ NW U ∧ va_D (fun _ => True) [(q, .inr (ci, fs))])) (.ref q :: avs) := ⟨fun a U g mk z => by
      obtain ⟨q0, q1, qP, qK, qN, qD⟩ := z
      exact ⟨q0, q1, qP, va_K.moved (u := U) (U := U.calling g mk a) (Vm.Alike.refl U.vm) qK, qN.call a g mk, qD⟩, fun U hU hW => ⟨rfl, by rw [hU], by rw [hU]; exact hPc, va_K.moved hW.alike hK, hNw.go hW, hDc⟩⟩
  have kk : ∀ (w : va_W) (t : State) (H1 : Heap) (locs1 : List Loc), t.heap = H1 → s.vm.Alike t.vm → post q w → (va_P D cls9 w t.heap ∧ va_D (va_A [(q, .inr (ci, fs))] H.size) w) → H.size ≤ H1.size → (∀ z : Nat, z < H.size → ¬ va_A [(q, .inr (ci, fs))] H.size z → H1[z]? = H[z]?) → va_S A s.heap H1 locs1 → W p l e R s m args below meth c H1 locs1 (kc + rc') (ks + rs') Q (F0 m (pc + 3) ls st) := by
    intro w t H1 locs1 ht _ hpost hB _ hk1 hS1
    obtain ⟨hP1, hD1⟩ := hB
    rw [ht] at hP1
    obtain ⟨hP2, hD2⟩ := join_last hP hD hk1 hFc hP1 hD1
    exact k w hpost H1 locs1 ls hP2 hD2 hS1 hl
  rcases lk with hw | ⟨host, hw⟩
  · have cw := callB_of (R := R) (own := own) (index := idx) (mc := rc') (ms := rs') (rm := ({ frames := fr', cells := rc', slots := rs', locals := rl' } : Room)) n hts (good_in m3) rfl rfl rfl (hts _ m4) (hts _ hw) m5 ⟨by rw [r1]; exact hfr, by rw [r4]; exact hrl⟩
    exact va_callv (va_runI (As := avs) (rest := st) (b := q) ⟨hx, hb, hml, hown, hts⟩ hMq ⟨cw, hn, hts _ m1⟩ hpre rfl hav hl.1 rfl (lv_room (m := m) (pc := pc) (ls := ls) (rest := avs.reverse ++ .ref q :: st) hW) hdg ⟨by rw [r2]; exact hkc, by rw [r3]; exact hks⟩) hS (fun z _ h => hFc z h) hFc kk
  · have cw := va_cnB (R := R) (own := own) (host := host) (index := idx) (mc := rc') (ms := rs') (rm := ({ frames := fr', cells := rc', slots := rs', locals := rl' } : Room)) n hts (good_in m3) rfl rfl rfl (hNw.1 _ hw) (hts _ m4) m5 ⟨by rw [r1]; exact hfr, by rw [r4]; exact hrl⟩
    exact va_callv (va_runIN (As := avs) (rest := st) (b := q) ⟨hx, hb, hml, hown, hts⟩ hMq ⟨cw, hn, hts _ m1⟩ hpre rfl hav hl.1 rfl (lv_room (m := m) (pc := pc) (ls := ls) (rest := avs.reverse ++ .ref q :: st) hW) hdg ⟨by rw [r2]; exact hkc, by rw [r3]; exact hks⟩) hS (fun z _ h => hFc z h) hFc kk
end MAKE3

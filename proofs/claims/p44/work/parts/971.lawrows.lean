/-! ===== rows for the law's start ===== -/
theorem k_astore {Γ : UU} {own : String} {cc : ByteArray} {nL pc kc ks fr rc rs rl : Nat} {cI cT : ClassId} {ll : List (Nat × Value)} {st : List Value} {ws : va_W} (C : CU Γ own cc nL cI cT fr rc rs rl) {z : Fin 4} {x : Nat} (i : Nat) {ll' : List (Nat × Value)} (hdg : decode cc pc = .ok (.astore_n z, 1)) (hz : (z : Nat) = i) (hn : i < nL) (hl : (i, Value.ref x) :: ll.filter (fun q => !(q.1 == i) && !(q.1 + 1 == i && q.2.category == 2)) = ll') (k : U Γ nL (pc + 1) ll' st ws kc ks) : U Γ nL pc ll (.ref x :: st) ws kc ks := by
  obtain ⟨D, A, p, l, e, R, s, m, args, below, meth, c, Q⟩ := Γ
  exact fun H locs ls hP hD hS h => lv_astore_n C.1 C.2.1 hdg hz h hn hl (fun ls' h' => k H locs ls' hP hD hS h')
theorem k_astorew {Γ : UU} {own : String} {cc : ByteArray} {nL pc kc ks fr rc rs rl : Nat} {cI cT : ClassId} {ll : List (Nat × Value)} {st : List Value} {ws : va_W} (C : CU Γ own cc nL cI cT fr rc rs rl) {x : Nat} (i : Nat) {ll' : List (Nat × Value)} (hdg : decode cc pc = .ok (.astore i, 2)) (hn : i < nL) (hl : (i, Value.ref x) :: ll.filter (fun q => !(q.1 == i) && !(q.1 + 1 == i && q.2.category == 2)) = ll') (k : U Γ nL (pc + 2) ll' st ws kc ks) : U Γ nL pc ll (.ref x :: st) ws kc ks := by
  obtain ⟨D, A, p, l, e, R, s, m, args, below, meth, c, Q⟩ := Γ
  exact fun H locs ls hP hD hS h => lv_astore C.1 C.2.1 hdg h hn hl (fun ls' h' => k H locs ls' hP hD hS h')
theorem df_X8 : ∀ j, j < 18 → defaultValue (tyX8 j) = vp_V [.null, .null, .null, .null, .null, .null, .null, .int 0, .null, .null, .null, .null, .null, .int 0, .long 0, .long 0, .int 0, .null] j := by
  intro j hj
  have c : j = 0 ∨ j = 1 ∨ j = 2 ∨ j = 3 ∨ j = 4 ∨ j = 5 ∨ j = 6 ∨ j = 7 ∨ j = 8 ∨ j = 9 ∨ j = 10 ∨ j = 11 ∨ j = 12 ∨ j = 13 ∨ j = 14 ∨ j = 15 ∨ j = 16 ∨ j = 17 := by omega
  rcases c with rfl | rfl | rfl | rfl | rfl | rfl | rfl | rfl | rfl | rfl | rfl | rfl | rfl | rfl | rfl | rfl | rfl | rfl <;> rfl

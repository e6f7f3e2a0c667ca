/-! ===== the law's own rows ===== -/
def SX (Δ : DD) (Γ : GG) (b L : Nat) (xs : Nat → Int32) : Prop := match Γ with
  | (_, _, _, s, _, _, _, _, _, _, _, _) => va_X b L xs s s.heap ∧ b < s.heap.size ∧ ¬ adA Δ.2.2.2.2.1 b
abbrev LL (Δ : DD) (x : Int32) (b : Nat) : List (Nat × Value) := [(3, .int x), (2, rf Δ 134), (1, rf Δ 0), (0, .ref b)]
def Hin (x : Int32) (L : Nat) : Prop := ∀ c : Int32, (0 ≤ c.toInt ∧ c.toInt ≤ 5) → vp_in (x + c) L
section LAWROWS
variable {Δ : DD} {Γ : GG} {own : String} {cc : ByteArray} {nL d pc : Nat} {ret : Option FieldType} {ll : List (Nat × Value)} {st : List Value} {σ : Mem} {b L : Nat} {xs : Nat → Int32} {x : Int32}
theorem v_sld (C : Cx Δ Γ own cc nL d ret) (hX : SX Δ Γ b L xs) {i : Int32} (hin : vp_in i L) (hdg : decode cc pc = .ok (.iaload, 1)) (kk : V Δ Γ nL (pc + 1) ll (.int (xs i.toNatClampNeg) :: st) σ) : V Δ Γ nL pc ll (.int i :: .ref b :: st) σ := by
  obtain ⟨l, D, cI, cT, ad, tK⟩ := Δ; obtain ⟨p, e, R, s, m, args, below, meth, c, kc, ks, Q⟩ := Γ
  exact fun H locs ls hP hS hl => va_sld C.1 C.2.1 hX.1 hX.2.1 hX.2.2 hS hin hdg (kk H locs ls hP hS hl)
theorem v_slen (C : Cx Δ Γ own cc nL d ret) (hX : SX Δ Γ b L xs) (hdg : decode cc pc = .ok (.arraylength, 1)) (kk : V Δ Γ nL (pc + 1) ll (.int (Int32.ofNat L) :: st) σ) : V Δ Γ nL pc ll (.ref b :: st) σ := by
  obtain ⟨l, D, cI, cT, ad, tK⟩ := Δ; obtain ⟨p, e, R, s, m, args, below, meth, c, kc, ks, Q⟩ := Γ
  exact fun H locs ls hP hS hl => va_slen C.1 C.2.1 hX.1 hX.2.1 hX.2.2 hS hdg (kk H locs ls hP hS hl)
theorem v_arg (C : Cx Δ Γ own cc nL d ret) (hX : SX Δ Γ b L xs) (c : Int32) {n : Int} (d1 : decode cc pc = .ok (.aload_n 0, 1)) (d2 : decode cc (pc + 1) = .ok (.iload_n 3, 1)) (d3 : decode cc (pc + 1 + 1) = .ok (.iconst n, 1)) (d4 : decode cc (pc + 1 + 1 + 1) = .ok (.iadd, 1)) (d5 : decode cc (pc + 1 + 1 + 1 + 1) = .ok (.iaload, 1)) (hv : Int32.ofInt n = c) (hin : vp_in (x + c) L) (kk : V Δ Γ nL (pc + 1 + 1 + 1 + 1 + 1) (LL Δ x b) (.int (xs (x + c).toNatClampNeg) :: st) σ) : V Δ Γ nL pc (LL Δ x b) st σ := by
  refine v_aload_n C 0 3 d1 rfl rfl ?_
  refine v_iload_n C 3 0 d2 rfl rfl ?_
  refine v_iconst C c d3 hv ?_
  refine v_iadd C d4 ?_
  exact v_sld C hX hin d5 kk
theorem lg_cmp_self (y : Int64) : lg_cmp y y = 0 := by simp [lg_cmp]
end LAWROWS
theorem k_astore {Γ : UU} {own : String} {cc : ByteArray} {nL pc kc ks fr rc rs rl : Nat} {cI cT : ClassId} {ll : List (Nat × Value)} {st : List Value} {ws : va_W} (C : CU Γ own cc nL cI cT fr rc rs rl) {z : Fin 4} {x : Nat} (i : Nat) {ll' : List (Nat × Value)} (hdg : decode cc pc = .ok (.astore_n z, 1)) (hz : (z : Nat) = i) (hn : i < nL) (hl : (i, Value.ref x) :: ll.filter (fun q => !(q.1 == i) && !(q.1 + 1 == i && q.2.category == 2)) = ll') (k : U Γ nL (pc + 1) ll' st ws kc ks) : U Γ nL pc ll (.ref x :: st) ws kc ks := by
  obtain ⟨D, A, p, l, e, R, s, m, args, below, meth, c, Q⟩ := Γ
  exact fun H locs ls hP hD hS h => lv_astore_n C.1 C.2.1 hdg hz h hn hl (fun ls' h' => k H locs ls' hP hD hS h')
/-- from the constructors' judgement to the calls' -/
theorem u_v {l : Launch} {D : va_G} {cI cT : ClassId} {ad : Nat → Nat} {tK : Nat} {p : Program} {e : Env} {R : Room} {s : State} {m : MethodId} {args : Array Value} {below : List Frame} {meth : Method} {c : Code} {kc ks nL pc : Nat} {Q : State → Prop} {ll : List (Nat × Value)} {st : List Value} {σ : Mem}
    (k : (∀ i j, i < nW → j < nW → ad i = ad j → i = j) → (∀ k, k < nW → s.heap.size ≤ ad k) → V (l, D, cI, cT, ad, tK) (p, e, R, s, m, args, below, meth, c, kc, ks, Q) nL pc ll st σ) : U (D, (fun q => s.heap.size ≤ q), p, l, e, R, s, m, args, below, meth, c, Q) nL pc ll st (wld ad cI cT σ) kc ks := by
  intro H locs ls hP hD hS hl
  refine va_forget (fun q hq => hS.2.2 q hq) ?_
  exact k (fun i j hi hj e => hD.1 i j _ _ (wld_get hi) (wld_get hj) e) (fun k hk => hD.2 k _ (wld_get hk)) H [] ls hP ⟨hS.1, fun q h1 h2 => hS.2.1 q h1 (fun h3 => absurd h1 (Nat.not_lt.mpr h3)), fun _ h => by cases h⟩ hl
theorem df_X8 : ∀ j, j < 18 → defaultValue (tyX8 j) = vp_V [.null, .null, .null, .null, .null, .null, .null, .int 0, .null, .null, .null, .null, .null, .int 0, .long 0, .long 0, .int 0, .null] j := by
  intro j hj
  have c : j = 0 ∨ j = 1 ∨ j = 2 ∨ j = 3 ∨ j = 4 ∨ j = 5 ∨ j = 6 ∨ j = 7 ∨ j = 8 ∨ j = 9 ∨ j = 10 ∨ j = 11 ∨ j = 12 ∨ j = 13 ∨ j = 14 ∨ j = 15 ∨ j = 16 ∨ j = 17 := by omega
  rcases c with rfl | rfl | rfl | rfl | rfl | rfl | rfl | rfl | rfl | rfl | rfl | rfl | rfl | rfl | rfl | rfl | rfl | rfl <;> rfl
theorem df_X9 : ∀ j, j < 17 → defaultValue (tyX9 j) = vp_V [.null, .int 0, .null, .null, .null, .null, .null, .null, .int 0, .null, .int 0, .long 0, .long 0, .int 0, .null, .null, .long 0] j := by
  intro j hj
  have c : j = 0 ∨ j = 1 ∨ j = 2 ∨ j = 3 ∨ j = 4 ∨ j = 5 ∨ j = 6 ∨ j = 7 ∨ j = 8 ∨ j = 9 ∨ j = 10 ∨ j = 11 ∨ j = 12 ∨ j = 13 ∨ j = 14 ∨ j = 15 ∨ j = 16 := by omega
  rcases c with rfl | rfl | rfl | rfl | rfl | rfl | rfl | rfl | rfl | rfl | rfl | rfl | rfl | rfl | rfl | rfl | rfl <;> rfl

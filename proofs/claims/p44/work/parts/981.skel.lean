-- ===== end of PART A; then your names; then what follows =====
/-! THE CLAIM OUT OF ONE WALK OF THE LAW'S BODY. Your part is whole_start (and what it stands on); all else here is the same for every law, but numbers. -/
def R_law : String := "BolsterBedsLaw"
def lw_P (b : Addr) (xs : List Int32) (args : Array Value) (s : State) : Prop := args = #[.ref b] ∧ s.IntsAt b xs ∧ xs.length ≤ 260 ∧ (Jvm.Cond.and given_1 narrow_1).before args s = true
def lw_Q (_ : Array Value) (s : State) (o : Outcome) (t : State) : Prop := o = .returned (some (.int 1)) ∧ Framed s o t [] 600000 7302250
def lw_Z (below : List Frame) (a : Array Value) (s : State) : State → Prop := fun t => ∃ o, t.status = .running ∧ Ended t below o ∧ lw_Q a s o t
/-- the law's own end, with 1 on the stack, nothing written that was there before, its room as the claim has it -/
theorem lw_ret {p : Program} {l : Launch} {e : Env} {s : State} {m : MethodId} {below : List Frame} {meth : Method} {c : Code} {b : Nat} (hx : p.tables.exec = Jvm.exec) (hb : c.code = code) (hr : meth.sig.returnType = ret) (hlocks : meth.locks = false) {pc : Nat} {H : Heap} {ls : Array Slot} (hdg : decode code pc = .ok (.ireturn, 1)) : W p l e room_1 s m #[Value.ref b] below meth c H [] 600000 7302250 (lw_Z below #[Value.ref b] s) (F0 m pc ls [.int 1]) := by
  intro T hT X
  obtain ⟨fs, hret, hrun, hended, hW, hframe⟩ := X.leave (v := some (.int 1)) (hlocks := hlocks) (fun h => by rw [hr] at h; cases h)
  have hmeth' : T.vm.method? m = some meth := X.method'
  refine ⟨T.setFrames fs, ?_, .returned (some (.int 1)), hrun, hended, rfl, ⟨_, rfl⟩, hW, hframe⟩
  jvm_step X.here [X.here.top, hx, hb, hdg, hmeth', hr, ret, narrow_b1]
  (try refine ⟨rfl, ?_⟩); (try refine ⟨rfl, ?_⟩)
  first | (intro acts; rw [hret _ acts rfl rfl rfl]) | rw [hret _ _ rfl rfl rfl]
  exact Steps.refl _
/-- what holds at the law's entry: the machine, the code, the tables' words (any of lw_tbl by 'hts w (by decide +kernel)'), the script of L ints xs at the cell b, what the Statement gives of the start (any of its parts by flat_of_before) -/
def lw_At (p : Program) (s : State) (m : MethodId) (meth : Method) (c : Code) (b L : Nat) (xs : Nat → Int32) : Prop :=
  p.tables.exec = Jvm.exec ∧ c.code = code ∧ meth.sig.returnType = ret ∧ c.maxLocals = 10 ∧ s.vm.findClass R_law = some m.cls ∧ (∀ w ∈ lw_tbl, w.before #[Value.ref b] s = true) ∧ va_X b L xs s s.heap ∧ b < s.heap.size ∧ meth.locks = false ∧ (Jvm.Cond.and given_1 narrow_1).before #[Value.ref b] s = true
theorem whole_start {p : Program} {e : Env} {s : State} {m : MethodId} {below : List Frame} {meth : Method} {c : Code} (l : Launch) (hflags : l.flags = flags0) {b L : Nat} {xs : Nat → Int32} (hL : L ≤ 260) (C0 : lw_At p s m meth c b L xs) : W p l e room_1 s m #[Value.ref b] below meth c s.heap [] 0 0 (lw_Z below #[Value.ref b] s) (entryFrame m ([Value.ref b] : List Value).toArray 10) := by
  obtain ⟨hx, hb, hret, hml, hown, hts, hX, hbl, hlk, hgv⟩ := C0
  obtain ⟨D, cI, cT, hK⟩ := law_K hts
  obtain ⟨tK, hZ, hT⟩ := law_KL hts hgv
  have hN := law_N hts
  have hg : ∀ w ∈ lw_good, w.before #[Value.ref b] s = true := fun w hw => hts w (List.mem_filter.mp hw).1
  have hl := lv_entry [Value.ref b] (n := 10) (Nat.le_of_ble_eq_true rfl)
  rw [lg_entry_eq]
  have CU0 : CU (D, (fun q => s.heap.size ≤ q), p, l, e, room_1, s, m, #[Value.ref b], below, meth, c, lw_Z below #[Value.ref b] s) RL cL_law 10 cI cT 2048 600000 7302250 84000 := ⟨hx, hb, hml, hown, hg, hK, hN, fun q h => h, rfl, rfl, rfl, rfl⟩
  have key : U (D, (fun q => s.heap.size ≤ q), p, l, e, room_1, s, m, #[Value.ref b], below, meth, c, lw_Z below #[Value.ref b] s) 10 0 [(0, .ref b)] [] [] 0 0 := by
    refine law_make rfl rfl CU0 (fun a8 a9 v u w8 w9 h8 h9 => ?_)
    obtain ⟨ad8, e8, ew8⟩ := w0_of h8
    obtain ⟨ad9, e9, ew9⟩ := w0_of h9
    have ew : (((w8 ++ w9) ++ [zI v cI 64]) ++ [zI u cI 64]) = wl2 (ad8, ad9, v, u) cI cT (σ0, σ0, z64, z64, (L, xs)) := by
      rw [ew8, ew9, List.append_assoc, List.append_assoc]
      rfl
    rw [ew]
    subst e8
    subst e9
    refine u_v2 (tK := (tK, b, (L, xs))) rfl (fun dis ge => ?_)
    have hSt : St2 D cI cT (ad8, ad9, v, u) (tK, b, (L, xs)) s s.heap := ⟨hK, dis, ⟨hZ.narrow ge, hT.narrow ge, scr_T hX (fun z => absurd (ge b z) (Nat.not_le.mpr hbl))⟩, hN.1⟩
    have C : Cx2 (l, D, cI, cT, (ad8, ad9, v, u), (tK, b, (L, xs))) (p, e, room_1, s, m, #[Value.ref b], below, meth, c, 270, 3172, lw_Z below #[Value.ref b] s) RL cL_law 10 30 (some .boolean) := ⟨hx, hb, hml, hown, hg, hSt, hret, hlk, by decide, by decide, by decide, by decide⟩
    obtain ⟨σ', hF⟩ := law_true L xs hL
    refine w_sub [4, 3, 2, 1, 0] (ll' := [(0, _), (1, _), (2, _), (3, _), (4, _)]) rfl ?_
    refine V_L_law (x0 := 4) (x1 := 0) (x2 := 1) (x3 := 2) (x4 := 3) C (fun pc ll σ hdg => ?_) (by decide) hF
    intro H locs ls hP hS hl
    refine va_forget (fun q hq => ge _ (hS.2.2 q hq)) ?_
    exact W.widen (k := 600000) (n := 7302250) (by decide) (by decide) (lw_ret hx hb hret hlk hdg)
  exact key s.heap [] _ (fun k q h => by simp at h) ⟨fun i j p q h => by simp at h, fun k q h => by simp at h⟩ va_S.rf hl

section WW
/-- a list of addresses stands from place s on -/
def Ag (ad : Nat → Nat) (s : Nat) (L : List Nat) : Prop := ∀ i x, L[i]? = some x → ad (s + i) = x
theorem Ag.app {ad : Nat → Nat} {s n s' : Nat} {L L' : List Nat} (h : Ag ad s (L ++ L')) (hl : L.length = n) (hs : s + n = s') : Ag ad s L ∧ Ag ad s' L' := by
  subst hl
  subst hs
  refine ⟨fun i x hx => h i x ?_, fun i x hx => ?_⟩
  · rw [List.getElem?_append_left (List.getElem?_eq_some_iff.mp hx).1]; exact hx
  · rw [Nat.add_assoc]
    refine h _ x ?_
    rw [List.getElem?_append_right (Nat.le_add_right _ _), Nat.add_sub_cancel_left]; exact hx
theorem Ag.at0 {ad : Nat → Nat} {s a : Nat} {L : List Nat} (h : Ag ad s L) (h0 : L[0]? = some a) : ad s = a := h 0 a h0
/-- a piece of the world: its addresses are a list, and it is the stretch from place s on -/
def Pcs (cI cT : ClassId) (s n a : Nat) (w : va_W) : Prop := ∃ L : List Nat, L.length = n ∧ L[0]? = some a ∧ ∀ ad, Ag ad s L → Sg ad cI cT σ0 s n w
set_option maxRecDepth 8000
set_option maxHeartbeats 4000000
variable {cI cT : ClassId}
theorem wp1 {a : Nat} {w : va_W} (h : pX6_6_40 cI cT a w) : Pcs cI cT 1 3 a w := by
  obtain ⟨s1, s2, e⟩ := h
  refine ⟨[a, s1, s2], rfl, rfl, fun ad H => ?_⟩
  rw [e]
  exact (Sg.cons (ce_1 (H 0 _ rfl) (H 1 _ rfl) (H 2 _ rfl)) (Sg.cons (ce_2 (H 1 _ rfl)) (Sg.cons (ce_3 (H 2 _ rfl)) Sg.nil)))
theorem wp2 {a : Nat} {w : va_W} (h : pX6_4_60 cI cT a w) : Pcs cI cT 4 3 a w := by
  obtain ⟨s1, s2, e⟩ := h
  refine ⟨[a, s1, s2], rfl, rfl, fun ad H => ?_⟩
  rw [e]
  exact (Sg.cons (ce_4 (H 0 _ rfl) (H 1 _ rfl) (H 2 _ rfl)) (Sg.cons (ce_5 (H 1 _ rfl)) (Sg.cons (ce_6 (H 2 _ rfl)) Sg.nil)))
theorem wp3 {a : Nat} {w : va_W} (h : pX6_3_40 cI cT a w) : Pcs cI cT 7 3 a w := by
  obtain ⟨s1, s2, e⟩ := h
  refine ⟨[a, s1, s2], rfl, rfl, fun ad H => ?_⟩
  rw [e]
  exact (Sg.cons (ce_7 (H 0 _ rfl) (H 1 _ rfl) (H 2 _ rfl)) (Sg.cons (ce_8 (H 1 _ rfl)) (Sg.cons (ce_9 (H 2 _ rfl)) Sg.nil)))
theorem wp7_10 {a : Nat} {w : va_W} (h : pX7 cI cT a w) : Pcs cI cT 10 8 a w := by
  obtain ⟨f1, f2, f3, f4, f5, f6, f7, e⟩ := h
  refine ⟨[a, f1, f2, f3, f4, f5, f6, f7], rfl, rfl, fun ad H => ?_⟩
  rw [e]
  exact (Sg.app (Sg.app (Sg.app (Sg.app (Sg.app (Sg.app (Sg.app (Sg.cons (ce_10 (H 0 _ rfl) (H 1 _ rfl) (H 2 _ rfl) (H 3 _ rfl) (H 4 _ rfl) (H 5 _ rfl) (H 6 _ rfl) (H 7 _ rfl)) Sg.nil) (Sg.cons (ce_11 (H 1 _ rfl)) Sg.nil)) (Sg.cons (ce_12 (H 2 _ rfl)) Sg.nil)) (Sg.cons (ce_13 (H 3 _ rfl)) Sg.nil)) (Sg.cons (ce_14 (H 4 _ rfl)) Sg.nil)) (Sg.cons (ce_15 (H 5 _ rfl)) Sg.nil)) (Sg.cons (ce_16 (H 6 _ rfl)) Sg.nil)) (Sg.cons (ce_17 (H 7 _ rfl)) Sg.nil))
theorem wp7_18 {a : Nat} {w : va_W} (h : pX7 cI cT a w) : Pcs cI cT 18 8 a w := by
  obtain ⟨f1, f2, f3, f4, f5, f6, f7, e⟩ := h
  refine ⟨[a, f1, f2, f3, f4, f5, f6, f7], rfl, rfl, fun ad H => ?_⟩
  rw [e]
  exact (Sg.app (Sg.app (Sg.app (Sg.app (Sg.app (Sg.app (Sg.app (Sg.cons (ce_18 (H 0 _ rfl) (H 1 _ rfl) (H 2 _ rfl) (H 3 _ rfl) (H 4 _ rfl) (H 5 _ rfl) (H 6 _ rfl) (H 7 _ rfl)) Sg.nil) (Sg.cons (ce_19 (H 1 _ rfl)) Sg.nil)) (Sg.cons (ce_20 (H 2 _ rfl)) Sg.nil)) (Sg.cons (ce_21 (H 3 _ rfl)) Sg.nil)) (Sg.cons (ce_22 (H 4 _ rfl)) Sg.nil)) (Sg.cons (ce_23 (H 5 _ rfl)) Sg.nil)) (Sg.cons (ce_24 (H 6 _ rfl)) Sg.nil)) (Sg.cons (ce_25 (H 7 _ rfl)) Sg.nil))
theorem wp7_26 {a : Nat} {w : va_W} (h : pX7 cI cT a w) : Pcs cI cT 26 8 a w := by
  obtain ⟨f1, f2, f3, f4, f5, f6, f7, e⟩ := h
  refine ⟨[a, f1, f2, f3, f4, f5, f6, f7], rfl, rfl, fun ad H => ?_⟩
  rw [e]
  exact (Sg.app (Sg.app (Sg.app (Sg.app (Sg.app (Sg.app (Sg.app (Sg.cons (ce_26 (H 0 _ rfl) (H 1 _ rfl) (H 2 _ rfl) (H 3 _ rfl) (H 4 _ rfl) (H 5 _ rfl) (H 6 _ rfl) (H 7 _ rfl)) Sg.nil) (Sg.cons (ce_27 (H 1 _ rfl)) Sg.nil)) (Sg.cons (ce_28 (H 2 _ rfl)) Sg.nil)) (Sg.cons (ce_29 (H 3 _ rfl)) Sg.nil)) (Sg.cons (ce_30 (H 4 _ rfl)) Sg.nil)) (Sg.cons (ce_31 (H 5 _ rfl)) Sg.nil)) (Sg.cons (ce_32 (H 6 _ rfl)) Sg.nil)) (Sg.cons (ce_33 (H 7 _ rfl)) Sg.nil))
theorem wp7_36 {a : Nat} {w : va_W} (h : pX7 cI cT a w) : Pcs cI cT 36 8 a w := by
  obtain ⟨f1, f2, f3, f4, f5, f6, f7, e⟩ := h
  refine ⟨[a, f1, f2, f3, f4, f5, f6, f7], rfl, rfl, fun ad H => ?_⟩
  rw [e]
  exact (Sg.app (Sg.app (Sg.app (Sg.app (Sg.app (Sg.app (Sg.app (Sg.cons (ce_36 (H 0 _ rfl) (H 1 _ rfl) (H 2 _ rfl) (H 3 _ rfl) (H 4 _ rfl) (H 5 _ rfl) (H 6 _ rfl) (H 7 _ rfl)) Sg.nil) (Sg.cons (ce_37 (H 1 _ rfl)) Sg.nil)) (Sg.cons (ce_38 (H 2 _ rfl)) Sg.nil)) (Sg.cons (ce_39 (H 3 _ rfl)) Sg.nil)) (Sg.cons (ce_40 (H 4 _ rfl)) Sg.nil)) (Sg.cons (ce_41 (H 5 _ rfl)) Sg.nil)) (Sg.cons (ce_42 (H 6 _ rfl)) Sg.nil)) (Sg.cons (ce_43 (H 7 _ rfl)) Sg.nil))
theorem wpm {a : Nat} {w : va_W} (h : pX3 cI cT a w) : Pcs cI cT 90 3 a w := by
  obtain ⟨m1, m2, e⟩ := h
  refine ⟨[a, m1, m2], rfl, rfl, fun ad H => ?_⟩
  rw [e]
  exact (Sg.app (Sg.app (Sg.cons (ce_90 (H 0 _ rfl) (H 1 _ rfl) (H 2 _ rfl)) Sg.nil) (Sg.cons (ce_91 (H 1 _ rfl)) Sg.nil)) (Sg.cons (ce_92 (H 2 _ rfl)) Sg.nil))
theorem wpc {a : Nat} {w : va_W} (h : pX0 cI cT a w) : Pcs cI cT 93 5 a w := by
  obtain ⟨c1, c2, c3, c4, e⟩ := h
  refine ⟨[a, c1, c2, c3, c4], rfl, rfl, fun ad H => ?_⟩
  rw [e]
  exact (Sg.app (Sg.app (Sg.app (Sg.app (Sg.cons (ce_93 (H 0 _ rfl) (H 1 _ rfl) (H 2 _ rfl) (H 3 _ rfl) (H 4 _ rfl)) Sg.nil) (Sg.cons (ce_94 (H 1 _ rfl)) Sg.nil)) (Sg.cons (ce_95 (H 2 _ rfl)) Sg.nil)) (Sg.cons (ce_96 (H 3 _ rfl)) Sg.nil)) (Sg.cons (ce_97 (H 4 _ rfl)) Sg.nil))
theorem wpy {a : Nat} {w : va_W} (h : pX2_5 cI cT a w) : Pcs cI cT 46 42 a w := by
  obtain ⟨ea, et00, et01, et02, et03, et04, et05, et06, et07, et10, et11, et12, et13, et14, et15, et16, et17, et20, et21, et22, et23, et24, et25, et26, et27, et30, et31, et32, et33, et34, et35, et36, et37, et40, et41, et42, et43, et44, et45, et46, et47, e⟩ := h
  refine ⟨[a, ea, et00, et01, et02, et03, et04, et05, et06, et07, et10, et11, et12, et13, et14, et15, et16, et17, et20, et21, et22, et23, et24, et25, et26, et27, et30, et31, et32, et33, et34, et35, et36, et37, et40, et41, et42, et43, et44, et45, et46, et47], rfl, rfl, fun ad H => ?_⟩
  rw [e]
  exact (Sg.cons (ce_46 (H 0 _ rfl) (H 1 _ rfl)) (Sg.cons (ce_47 (H 1 _ rfl) (H 2 _ rfl) (H 10 _ rfl) (H 18 _ rfl) (H 26 _ rfl) (H 34 _ rfl)) (Sg.cons (ce_48 (H 2 _ rfl) (H 3 _ rfl) (H 4 _ rfl) (H 5 _ rfl) (H 6 _ rfl) (H 7 _ rfl) (H 8 _ rfl) (H 9 _ rfl)) (Sg.cons (ce_49 (H 3 _ rfl)) (Sg.cons (ce_50 (H 4 _ rfl)) (Sg.cons (ce_51 (H 5 _ rfl)) (Sg.cons (ce_52 (H 6 _ rfl)) (Sg.cons (ce_53 (H 7 _ rfl)) (Sg.cons (ce_54 (H 8 _ rfl)) (Sg.cons (ce_55 (H 9 _ rfl)) (Sg.cons (ce_56 (H 10 _ rfl) (H 11 _ rfl) (H 12 _ rfl) (H 13 _ rfl) (H 14 _ rfl) (H 15 _ rfl) (H 16 _ rfl) (H 17 _ rfl)) (Sg.cons (ce_57 (H 11 _ rfl)) (Sg.cons (ce_58 (H 12 _ rfl)) (Sg.cons (ce_59 (H 13 _ rfl)) (Sg.cons (ce_60 (H 14 _ rfl)) (Sg.cons (ce_61 (H 15 _ rfl)) (Sg.cons (ce_62 (H 16 _ rfl)) (Sg.cons (ce_63 (H 17 _ rfl)) (Sg.cons (ce_64 (H 18 _ rfl) (H 19 _ rfl) (H 20 _ rfl) (H 21 _ rfl) (H 22 _ rfl) (H 23 _ rfl) (H 24 _ rfl) (H 25 _ rfl)) (Sg.cons (ce_65 (H 19 _ rfl)) (Sg.cons (ce_66 (H 20 _ rfl)) (Sg.cons (ce_67 (H 21 _ rfl)) (Sg.cons (ce_68 (H 22 _ rfl)) (Sg.cons (ce_69 (H 23 _ rfl)) (Sg.cons (ce_70 (H 24 _ rfl)) (Sg.cons (ce_71 (H 25 _ rfl)) (Sg.cons (ce_72 (H 26 _ rfl) (H 27 _ rfl) (H 28 _ rfl) (H 29 _ rfl) (H 30 _ rfl) (H 31 _ rfl) (H 32 _ rfl) (H 33 _ rfl)) (Sg.cons (ce_73 (H 27 _ rfl)) (Sg.cons (ce_74 (H 28 _ rfl)) (Sg.cons (ce_75 (H 29 _ rfl)) (Sg.cons (ce_76 (H 30 _ rfl)) (Sg.cons (ce_77 (H 31 _ rfl)) (Sg.cons (ce_78 (H 32 _ rfl)) (Sg.cons (ce_79 (H 33 _ rfl)) (Sg.cons (ce_80 (H 34 _ rfl) (H 35 _ rfl) (H 36 _ rfl) (H 37 _ rfl) (H 38 _ rfl) (H 39 _ rfl) (H 40 _ rfl) (H 41 _ rfl)) (Sg.cons (ce_81 (H 35 _ rfl)) (Sg.cons (ce_82 (H 36 _ rfl)) (Sg.cons (ce_83 (H 37 _ rfl)) (Sg.cons (ce_84 (H 38 _ rfl)) (Sg.cons (ce_85 (H 39 _ rfl)) (Sg.cons (ce_86 (H 40 _ rfl)) (Sg.cons (ce_87 (H 41 _ rfl)) Sg.nil))))))))))))))))))))))))))))))))))))))))))
theorem wpz {a : Nat} {w : va_W} (h : pX2_4 cI cT a w) : Pcs cI cT 99 34 a w := by
  obtain ⟨da, dt00, dt01, dt02, dt03, dt04, dt05, dt06, dt07, dt10, dt11, dt12, dt13, dt14, dt15, dt16, dt17, dt20, dt21, dt22, dt23, dt24, dt25, dt26, dt27, dt30, dt31, dt32, dt33, dt34, dt35, dt36, dt37, e⟩ := h
  refine ⟨[a, da, dt00, dt01, dt02, dt03, dt04, dt05, dt06, dt07, dt10, dt11, dt12, dt13, dt14, dt15, dt16, dt17, dt20, dt21, dt22, dt23, dt24, dt25, dt26, dt27, dt30, dt31, dt32, dt33, dt34, dt35, dt36, dt37], rfl, rfl, fun ad H => ?_⟩
  rw [e]
  exact (Sg.cons (ce_99 (H 0 _ rfl) (H 1 _ rfl)) (Sg.cons (ce_100 (H 1 _ rfl) (H 2 _ rfl) (H 10 _ rfl) (H 18 _ rfl) (H 26 _ rfl)) (Sg.cons (ce_101 (H 2 _ rfl) (H 3 _ rfl) (H 4 _ rfl) (H 5 _ rfl) (H 6 _ rfl) (H 7 _ rfl) (H 8 _ rfl) (H 9 _ rfl)) (Sg.cons (ce_102 (H 3 _ rfl)) (Sg.cons (ce_103 (H 4 _ rfl)) (Sg.cons (ce_104 (H 5 _ rfl)) (Sg.cons (ce_105 (H 6 _ rfl)) (Sg.cons (ce_106 (H 7 _ rfl)) (Sg.cons (ce_107 (H 8 _ rfl)) (Sg.cons (ce_108 (H 9 _ rfl)) (Sg.cons (ce_109 (H 10 _ rfl) (H 11 _ rfl) (H 12 _ rfl) (H 13 _ rfl) (H 14 _ rfl) (H 15 _ rfl) (H 16 _ rfl) (H 17 _ rfl)) (Sg.cons (ce_110 (H 11 _ rfl)) (Sg.cons (ce_111 (H 12 _ rfl)) (Sg.cons (ce_112 (H 13 _ rfl)) (Sg.cons (ce_113 (H 14 _ rfl)) (Sg.cons (ce_114 (H 15 _ rfl)) (Sg.cons (ce_115 (H 16 _ rfl)) (Sg.cons (ce_116 (H 17 _ rfl)) (Sg.cons (ce_117 (H 18 _ rfl) (H 19 _ rfl) (H 20 _ rfl) (H 21 _ rfl) (H 22 _ rfl) (H 23 _ rfl) (H 24 _ rfl) (H 25 _ rfl)) (Sg.cons (ce_118 (H 19 _ rfl)) (Sg.cons (ce_119 (H 20 _ rfl)) (Sg.cons (ce_120 (H 21 _ rfl)) (Sg.cons (ce_121 (H 22 _ rfl)) (Sg.cons (ce_122 (H 23 _ rfl)) (Sg.cons (ce_123 (H 24 _ rfl)) (Sg.cons (ce_124 (H 25 _ rfl)) (Sg.cons (ce_125 (H 26 _ rfl) (H 27 _ rfl) (H 28 _ rfl) (H 29 _ rfl) (H 30 _ rfl) (H 31 _ rfl) (H 32 _ rfl) (H 33 _ rfl)) (Sg.cons (ce_126 (H 27 _ rfl)) (Sg.cons (ce_127 (H 28 _ rfl)) (Sg.cons (ce_128 (H 29 _ rfl)) (Sg.cons (ce_129 (H 30 _ rfl)) (Sg.cons (ce_130 (H 31 _ rfl)) (Sg.cons (ce_131 (H 32 _ rfl)) (Sg.cons (ce_132 (H 33 _ rfl)) Sg.nil))))))))))))))))))))))))))))))))))
theorem wpr {a : Nat} {w : va_W} (h : pX4 cI cT a w) : Pcs cI cT 35 10 a w := by
  obtain ⟨x0, xw, x8, h2, e⟩ := h
  obtain ⟨L, hL, h0, hS⟩ := wp7_36 h2
  refine ⟨[a] ++ (L ++ [x8]), by rw [List.length_append, List.length_append, hL]; rfl, rfl, fun ad H => ?_⟩
  obtain ⟨A1, A2⟩ := H.app (n := 1) (s' := 36) rfl rfl
  obtain ⟨A3, A4⟩ := A2.app (n := 8) (s' := 44) hL rfl
  rw [e]
  exact (Sg.app (Sg.app (Sg.cons (ce_35 (A1 0 _ rfl) (A3.at0 h0) (A4 0 _ rfl)) Sg.nil) (hS ad A3)) (Sg.cons (ce_44 (A4 0 _ rfl)) Sg.nil))
theorem wpy5 {a : Nat} {w : va_W} (h : pX5 cI cT a w) : Pcs cI cT 45 45 a w := by
  obtain ⟨y0, yw, y1, y2, h2, e⟩ := h
  obtain ⟨L, hL, h0, hS⟩ := wpy h2
  refine ⟨[a] ++ (L ++ [y1, y2]), by rw [List.length_append, List.length_append, hL]; rfl, rfl, fun ad H => ?_⟩
  obtain ⟨A1, A2⟩ := H.app (n := 1) (s' := 46) rfl rfl
  obtain ⟨A3, A4⟩ := A2.app (n := 42) (s' := 88) hL rfl
  rw [e]
  exact (Sg.app (Sg.app (Sg.app (Sg.cons (ce_45 (A1 0 _ rfl) (A3.at0 h0) (A4 0 _ rfl) (A4 1 _ rfl)) Sg.nil) (hS ad A3)) (Sg.cons (ce_88 (A4 0 _ rfl)) Sg.nil)) (Sg.cons (ce_89 (A4 1 _ rfl)) Sg.nil))
theorem wpz1 {a : Nat} {w : va_W} (h : pX1 cI cT a w) : Pcs cI cT 98 35 a w := by
  obtain ⟨z0, zw, h2, e⟩ := h
  obtain ⟨L, hL, h0, hS⟩ := wpz h2
  refine ⟨[a] ++ (L ++ []), by rw [List.length_append, List.length_append, hL]; rfl, rfl, fun ad H => ?_⟩
  obtain ⟨A1, A2⟩ := H.app (n := 1) (s' := 99) rfl rfl
  obtain ⟨A3, A4⟩ := A2.app (n := 34) (s' := 133) hL rfl
  rw [e]
  exact (Sg.app (Sg.cons (ce_98 (A1 0 _ rfl) (A3.at0 h0)) Sg.nil) (hS ad A3))
theorem w0_of {a : Nat} {w8 : va_W} (h8 : pX8 cI cT a w8) : ∃ ad : Nat → Nat, ad 0 = a ∧ w8 = wld ad cI cT σ0 := by
  obtain ⟨q1, w1, q2, w2, q3, w3, q4, w4, q5, w5, q6, w6, q7, q8, w7, q9, w8_, q10, w9_, q11, w10, q12, w11, q13, p1, p2, p3, p4, p5, p6, p7, p8, p9, p10, p11, e8⟩ := h8
  obtain ⟨L1, hL1, h01, hS1⟩ := wp1 p1
  obtain ⟨L4, hL4, h04, hS4⟩ := wp2 p2
  obtain ⟨L7, hL7, h07, hS7⟩ := wp3 p3
  obtain ⟨L10, hL10, h010, hS10⟩ := wp7_10 p4
  obtain ⟨L18, hL18, h018, hS18⟩ := wp7_18 p5
  obtain ⟨L26, hL26, h026, hS26⟩ := wp7_26 p6
  obtain ⟨L35, hL35, h035, hS35⟩ := wpr p7
  obtain ⟨L45, hL45, h045, hS45⟩ := wpy5 p8
  obtain ⟨L90, hL90, h090, hS90⟩ := wpm p9
  obtain ⟨L93, hL93, h093, hS93⟩ := wpc p10
  obtain ⟨L98, hL98, h098, hS98⟩ := wpz1 p11
  have A0 : Ag (fun k => ([a] ++ (L1 ++ (L4 ++ (L7 ++ (L10 ++ (L18 ++ (L26 ++ ([q7] ++ (L35 ++ (L45 ++ (L90 ++ (L93 ++ (L98 ++ [q13]))))))))))))).getD k 0) 0 ([a] ++ (L1 ++ (L4 ++ (L7 ++ (L10 ++ (L18 ++ (L26 ++ ([q7] ++ (L35 ++ (L45 ++ (L90 ++ (L93 ++ (L98 ++ [q13]))))))))))))) := fun i x h => by rw [Nat.zero_add]; exact adL_get _ i x h
  generalize (fun k => ([a] ++ (L1 ++ (L4 ++ (L7 ++ (L10 ++ (L18 ++ (L26 ++ ([q7] ++ (L35 ++ (L45 ++ (L90 ++ (L93 ++ (L98 ++ [q13]))))))))))))).getD k 0) = ad at A0
  obtain ⟨B0, A1⟩ := A0.app (n := 1) (s' := 1) rfl rfl
  obtain ⟨B1, A4⟩ := A1.app (n := 3) (s' := 4) hL1 rfl
  obtain ⟨B4, A7⟩ := A4.app (n := 3) (s' := 7) hL4 rfl
  obtain ⟨B7, A10⟩ := A7.app (n := 3) (s' := 10) hL7 rfl
  obtain ⟨B10, A18⟩ := A10.app (n := 8) (s' := 18) hL10 rfl
  obtain ⟨B18, A26⟩ := A18.app (n := 8) (s' := 26) hL18 rfl
  obtain ⟨B26, A34⟩ := A26.app (n := 8) (s' := 34) hL26 rfl
  obtain ⟨B34, A35⟩ := A34.app (n := 1) (s' := 35) rfl rfl
  obtain ⟨B35, A45⟩ := A35.app (n := 10) (s' := 45) hL35 rfl
  obtain ⟨B45, A90⟩ := A45.app (n := 45) (s' := 90) hL45 rfl
  obtain ⟨B90, A93⟩ := A90.app (n := 3) (s' := 93) hL90 rfl
  obtain ⟨B93, A98⟩ := A93.app (n := 5) (s' := 98) hL93 rfl
  obtain ⟨B98, A133⟩ := A98.app (n := 35) (s' := 133) hL98 rfl
  have B133 := A133
  have G8 : Sg ad cI cT σ0 0 134 w8 := by
    rw [e8]
    exact (Sg.app (Sg.app (Sg.app (Sg.app (Sg.app (Sg.app (Sg.app (Sg.app (Sg.app (Sg.app (Sg.app (Sg.app (Sg.app (Sg.cons (ce_0 (B0 0 _ rfl) (B1.at0 h01) (B4.at0 h04) (B7.at0 h07) (B10.at0 h010) (B18.at0 h018) (B26.at0 h026) (B34 0 _ rfl) (B35.at0 h035) (B45.at0 h045) (B90.at0 h090) (B93.at0 h093) (B98.at0 h098) (B133 0 _ rfl)) Sg.nil) (hS1 ad B1)) (hS4 ad B4)) (hS7 ad B7)) (hS10 ad B10)) (hS18 ad B18)) (hS26 ad B26)) (Sg.cons (ce_34 (B34 0 _ rfl)) Sg.nil)) (hS35 ad B35)) (hS45 ad B45)) (hS90 ad B90)) (hS93 ad B93)) (hS98 ad B98)) (Sg.cons (ce_133 (B133 0 _ rfl)) Sg.nil))
  exact ⟨ad, B0 0 _ rfl, Sg.all G8⟩
end WW

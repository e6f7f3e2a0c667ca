/-! ===== facts of the table of shapes (printed) ===== -/
theorem ck_0 : chk 8 0 = some () := rfl
theorem ik_0 : isK 8 0 = true := rfl
theorem gR_0_0 : gR 8 0 0 = some 1 := rfl
theorem gR_0_1 : gR 8 1 0 = some 4 := rfl
theorem gR_0_2 : gR 8 2 0 = some 7 := rfl
theorem gR_0_3 : gR 8 3 0 = some 10 := rfl
theorem gR_0_4 : gR 8 4 0 = some 18 := rfl
theorem gR_0_5 : gR 8 5 0 = some 26 := rfl
theorem gR_0_6 : gR 8 6 0 = some 34 := rfl
theorem gI_0_7 {σ : Mem} : gI 8 7 0 σ = some (σ.1 0 7) := rfl
theorem pI_0_7 {v : Int32} {σ : Mem} : pI 8 7 0 v σ = some (setI σ 0 7 v) := rfl
theorem gR_0_8 : gR 8 8 0 = some 35 := rfl
theorem gR_0_9 : gR 8 9 0 = some 45 := rfl
theorem gR_0_10 : gR 8 10 0 = some 90 := rfl
theorem gR_0_11 : gR 8 11 0 = some 93 := rfl
theorem gR_0_12 : gR 8 12 0 = some 98 := rfl
theorem gI_0_13 {σ : Mem} : gI 8 13 0 σ = some (σ.1 0 13) := rfl
theorem pI_0_13 {v : Int32} {σ : Mem} : pI 8 13 0 v σ = some (setI σ 0 13 v) := rfl
theorem gL_0_14 {σ : Mem} : gL 8 14 0 σ = some (σ.2 0 14) := rfl
theorem pL_0_14 {v : Int64} {σ : Mem} : pL 8 14 0 v σ = some (setL σ 0 14 v) := rfl
theorem gL_0_15 {σ : Mem} : gL 8 15 0 σ = some (σ.2 0 15) := rfl
theorem pL_0_15 {v : Int64} {σ : Mem} : pL 8 15 0 v σ = some (setL σ 0 15 v) := rfl
theorem gI_0_16 {σ : Mem} : gI 8 16 0 σ = some (σ.1 0 16) := rfl
theorem pI_0_16 {v : Int32} {σ : Mem} : pI 8 16 0 v σ = some (setI σ 0 16 v) := rfl
theorem gR_0_17 : gR 8 17 0 = some 133 := rfl
theorem ck_1 : chk 6 1 = some () := rfl
theorem ik_1 : isK 6 1 = true := rfl
theorem gI_1_0 {σ : Mem} : gI 6 0 1 σ = some (σ.1 1 0) := rfl
theorem pI_1_0 {v : Int32} {σ : Mem} : pI 6 0 1 v σ = some (setI σ 1 0 v) := rfl
theorem gR_1_1 : gR 6 1 1 = some 2 := rfl
theorem gR_1_2 : gR 6 2 1 = some 3 := rfl
theorem sh_2 : shp 2 = .inr (.inl 6) := rfl
theorem sh_3 : shp 3 = .inr (.inl 240) := rfl
theorem ck_4 : chk 6 4 = some () := rfl
theorem ik_4 : isK 6 4 = true := rfl
theorem gI_4_0 {σ : Mem} : gI 6 0 4 σ = some (σ.1 4 0) := rfl
theorem pI_4_0 {v : Int32} {σ : Mem} : pI 6 0 4 v σ = some (setI σ 4 0 v) := rfl
theorem gR_4_1 : gR 6 1 4 = some 5 := rfl
theorem gR_4_2 : gR 6 2 4 = some 6 := rfl
theorem sh_5 : shp 5 = .inr (.inl 4) := rfl
theorem sh_6 : shp 6 = .inr (.inl 240) := rfl
theorem ck_7 : chk 6 7 = some () := rfl
theorem ik_7 : isK 6 7 = true := rfl
theorem gI_7_0 {σ : Mem} : gI 6 0 7 σ = some (σ.1 7 0) := rfl
theorem pI_7_0 {v : Int32} {σ : Mem} : pI 6 0 7 v σ = some (setI σ 7 0 v) := rfl
theorem gR_7_1 : gR 6 1 7 = some 8 := rfl
theorem gR_7_2 : gR 6 2 7 = some 9 := rfl
theorem sh_8 : shp 8 = .inr (.inl 3) := rfl
theorem sh_9 : shp 9 = .inr (.inl 120) := rfl
theorem sh_11 : shp 11 = .inr (.inl 4) := rfl
theorem sh_12 : shp 12 = .inr (.inl 6) := rfl
theorem sh_13 : shp 13 = .inr (.inl 6) := rfl
theorem sh_14 : shp 14 = .inr (.inl 6) := rfl
theorem sh_15 : shp 15 = .inr (.inl 6) := rfl
theorem sh_16 : shp 16 = .inr (.inl 6) := rfl
theorem sh_17 : shp 17 = .inr (.inl 6) := rfl
theorem sh_19 : shp 19 = .inr (.inl 4) := rfl
theorem sh_20 : shp 20 = .inr (.inl 6) := rfl
theorem sh_21 : shp 21 = .inr (.inl 6) := rfl
theorem sh_22 : shp 22 = .inr (.inl 6) := rfl
theorem sh_23 : shp 23 = .inr (.inl 6) := rfl
theorem sh_24 : shp 24 = .inr (.inl 6) := rfl
theorem sh_25 : shp 25 = .inr (.inl 6) := rfl
theorem sh_27 : shp 27 = .inr (.inl 4) := rfl
theorem sh_28 : shp 28 = .inr (.inl 6) := rfl
theorem sh_29 : shp 29 = .inr (.inl 6) := rfl
theorem sh_30 : shp 30 = .inr (.inl 6) := rfl
theorem sh_31 : shp 31 = .inr (.inl 6) := rfl
theorem sh_32 : shp 32 = .inr (.inl 6) := rfl
theorem sh_33 : shp 33 = .inr (.inl 6) := rfl
theorem sh_34 : shp 34 = .inr (.inl 40) := rfl
theorem ck_35 : chk 4 35 = some () := rfl
theorem ik_35 : isK 4 35 = true := rfl
theorem gR_35_0 : gR 4 0 35 = some 36 := rfl
theorem gR_35_1 : gR 4 1 35 = some 44 := rfl
theorem gI_35_2 {σ : Mem} : gI 4 2 35 σ = some (σ.1 35 2) := rfl
theorem pI_35_2 {v : Int32} {σ : Mem} : pI 4 2 35 v σ = some (setI σ 35 2 v) := rfl
theorem gI_35_3 {σ : Mem} : gI 4 3 35 σ = some (σ.1 35 3) := rfl
theorem pI_35_3 {v : Int32} {σ : Mem} : pI 4 3 35 v σ = some (setI σ 35 3 v) := rfl
theorem sh_37 : shp 37 = .inr (.inl 4) := rfl
theorem sh_38 : shp 38 = .inr (.inl 6) := rfl
theorem sh_39 : shp 39 = .inr (.inl 6) := rfl
theorem sh_40 : shp 40 = .inr (.inl 6) := rfl
theorem sh_41 : shp 41 = .inr (.inl 6) := rfl
theorem sh_42 : shp 42 = .inr (.inl 6) := rfl
theorem sh_43 : shp 43 = .inr (.inl 6) := rfl
theorem sh_44 : shp 44 = .inr (.inl 60) := rfl
theorem ck_45 : chk 5 45 = some () := rfl
theorem ik_45 : isK 5 45 = true := rfl
theorem gR_45_0 : gR 5 0 45 = some 46 := rfl
theorem gR_45_1 : gR 5 1 45 = some 88 := rfl
theorem gR_45_2 : gR 5 2 45 = some 89 := rfl
theorem gI_45_3 {σ : Mem} : gI 5 3 45 σ = some (σ.1 45 3) := rfl
theorem pI_45_3 {v : Int32} {σ : Mem} : pI 5 3 45 v σ = some (setI σ 45 3 v) := rfl
theorem ck_46 : chk 2 46 = some () := rfl
theorem ik_46 : isK 2 46 = true := rfl
theorem gR_46_0 : gR 2 0 46 = some 47 := rfl
theorem sh_47 : shp 47 = .inr (.inr [48, 56, 64, 72, 80]) := rfl
theorem sh_49 : shp 49 = .inr (.inl 4) := rfl
theorem sh_50 : shp 50 = .inr (.inl 6) := rfl
theorem sh_51 : shp 51 = .inr (.inl 6) := rfl
theorem sh_52 : shp 52 = .inr (.inl 6) := rfl
theorem sh_53 : shp 53 = .inr (.inl 6) := rfl
theorem sh_54 : shp 54 = .inr (.inl 6) := rfl
theorem sh_55 : shp 55 = .inr (.inl 6) := rfl
theorem sh_57 : shp 57 = .inr (.inl 4) := rfl
theorem sh_58 : shp 58 = .inr (.inl 6) := rfl
theorem sh_59 : shp 59 = .inr (.inl 6) := rfl
theorem sh_60 : shp 60 = .inr (.inl 6) := rfl
theorem sh_61 : shp 61 = .inr (.inl 6) := rfl
theorem sh_62 : shp 62 = .inr (.inl 6) := rfl
theorem sh_63 : shp 63 = .inr (.inl 6) := rfl
theorem sh_65 : shp 65 = .inr (.inl 4) := rfl
theorem sh_66 : shp 66 = .inr (.inl 6) := rfl
theorem sh_67 : shp 67 = .inr (.inl 6) := rfl
theorem sh_68 : shp 68 = .inr (.inl 6) := rfl
theorem sh_69 : shp 69 = .inr (.inl 6) := rfl
theorem sh_70 : shp 70 = .inr (.inl 6) := rfl
theorem sh_71 : shp 71 = .inr (.inl 6) := rfl
theorem sh_73 : shp 73 = .inr (.inl 4) := rfl
theorem sh_74 : shp 74 = .inr (.inl 6) := rfl
theorem sh_75 : shp 75 = .inr (.inl 6) := rfl
theorem sh_76 : shp 76 = .inr (.inl 6) := rfl
theorem sh_77 : shp 77 = .inr (.inl 6) := rfl
theorem sh_78 : shp 78 = .inr (.inl 6) := rfl
theorem sh_79 : shp 79 = .inr (.inl 6) := rfl
theorem sh_81 : shp 81 = .inr (.inl 4) := rfl
theorem sh_82 : shp 82 = .inr (.inl 6) := rfl
theorem sh_83 : shp 83 = .inr (.inl 6) := rfl
theorem sh_84 : shp 84 = .inr (.inl 6) := rfl
theorem sh_85 : shp 85 = .inr (.inl 6) := rfl
theorem sh_86 : shp 86 = .inr (.inl 6) := rfl
theorem sh_87 : shp 87 = .inr (.inl 6) := rfl
theorem sh_88 : shp 88 = .inr (.inl 4) := rfl
theorem sh_89 : shp 89 = .inr (.inl 4) := rfl
theorem ck_90 : chk 3 90 = some () := rfl
theorem ik_90 : isK 3 90 = true := rfl
theorem gR_90_0 : gR 3 0 90 = some 91 := rfl
theorem gR_90_1 : gR 3 1 90 = some 92 := rfl
theorem gI_90_2 {σ : Mem} : gI 3 2 90 σ = some (σ.1 90 2) := rfl
theorem pI_90_2 {v : Int32} {σ : Mem} : pI 3 2 90 v σ = some (setI σ 90 2 v) := rfl
theorem sh_91 : shp 91 = .inr (.inl 6) := rfl
theorem sh_92 : shp 92 = .inr (.inl 6) := rfl
theorem ck_93 : chk 0 93 = some () := rfl
theorem ik_93 : isK 0 93 = true := rfl
theorem gR_93_0 : gR 0 0 93 = some 94 := rfl
theorem gR_93_1 : gR 0 1 93 = some 95 := rfl
theorem gR_93_2 : gR 0 2 93 = some 96 := rfl
theorem gR_93_3 : gR 0 3 93 = some 97 := rfl
theorem gI_93_4 {σ : Mem} : gI 0 4 93 σ = some (σ.1 93 4) := rfl
theorem pI_93_4 {v : Int32} {σ : Mem} : pI 0 4 93 v σ = some (setI σ 93 4 v) := rfl
theorem gI_93_5 {σ : Mem} : gI 0 5 93 σ = some (σ.1 93 5) := rfl
theorem pI_93_5 {v : Int32} {σ : Mem} : pI 0 5 93 v σ = some (setI σ 93 5 v) := rfl
theorem sh_94 : shp 94 = .inr (.inl 20) := rfl
theorem sh_95 : shp 95 = .inr (.inl 20) := rfl
theorem sh_96 : shp 96 = .inr (.inl 6) := rfl
theorem sh_97 : shp 97 = .inr (.inl 31) := rfl
theorem ck_98 : chk 1 98 = some () := rfl
theorem ik_98 : isK 1 98 = true := rfl
theorem gR_98_0 : gR 1 0 98 = some 99 := rfl
theorem ck_99 : chk 2 99 = some () := rfl
theorem ik_99 : isK 2 99 = true := rfl
theorem gR_99_0 : gR 2 0 99 = some 100 := rfl
theorem sh_100 : shp 100 = .inr (.inr [101, 109, 117, 125]) := rfl
theorem sh_102 : shp 102 = .inr (.inl 4) := rfl
theorem sh_103 : shp 103 = .inr (.inl 6) := rfl
theorem sh_104 : shp 104 = .inr (.inl 6) := rfl
theorem sh_105 : shp 105 = .inr (.inl 6) := rfl
theorem sh_106 : shp 106 = .inr (.inl 6) := rfl
theorem sh_107 : shp 107 = .inr (.inl 6) := rfl
theorem sh_108 : shp 108 = .inr (.inl 6) := rfl
theorem sh_110 : shp 110 = .inr (.inl 4) := rfl
theorem sh_111 : shp 111 = .inr (.inl 6) := rfl
theorem sh_112 : shp 112 = .inr (.inl 6) := rfl
theorem sh_113 : shp 113 = .inr (.inl 6) := rfl
theorem sh_114 : shp 114 = .inr (.inl 6) := rfl
theorem sh_115 : shp 115 = .inr (.inl 6) := rfl
theorem sh_116 : shp 116 = .inr (.inl 6) := rfl
theorem sh_118 : shp 118 = .inr (.inl 4) := rfl
theorem sh_119 : shp 119 = .inr (.inl 6) := rfl
theorem sh_120 : shp 120 = .inr (.inl 6) := rfl
theorem sh_121 : shp 121 = .inr (.inl 6) := rfl
theorem sh_122 : shp 122 = .inr (.inl 6) := rfl
theorem sh_123 : shp 123 = .inr (.inl 6) := rfl
theorem sh_124 : shp 124 = .inr (.inl 6) := rfl
theorem sh_126 : shp 126 = .inr (.inl 4) := rfl
theorem sh_127 : shp 127 = .inr (.inl 6) := rfl
theorem sh_128 : shp 128 = .inr (.inl 6) := rfl
theorem sh_129 : shp 129 = .inr (.inl 6) := rfl
theorem sh_130 : shp 130 = .inr (.inl 6) := rfl
theorem sh_131 : shp 131 = .inr (.inl 6) := rfl
theorem sh_132 : shp 132 = .inr (.inl 6) := rfl
theorem sh_133 : shp 133 = .inr (.inl 6) := rfl
theorem ck_134 : chk 9 134 = some () := rfl
theorem ik_134 : isK 9 134 = true := rfl
theorem gR_134_0 : gR 9 0 134 = some 135 := rfl
theorem gI_134_1 {σ : Mem} : gI 9 1 134 σ = some (σ.1 134 1) := rfl
theorem pI_134_1 {v : Int32} {σ : Mem} : pI 9 1 134 v σ = some (setI σ 134 1 v) := rfl
theorem gR_134_2 : gR 9 2 134 = some 136 := rfl
theorem gR_134_3 : gR 9 3 134 = some 137 := rfl
theorem gR_134_4 : gR 9 4 134 = some 138 := rfl
theorem gR_134_5 : gR 9 5 134 = some 139 := rfl
theorem gR_134_6 : gR 9 6 134 = some 140 := rfl
theorem gR_134_7 : gR 9 7 134 = some 141 := rfl
theorem gI_134_8 {σ : Mem} : gI 9 8 134 σ = some (σ.1 134 8) := rfl
theorem pI_134_8 {v : Int32} {σ : Mem} : pI 9 8 134 v σ = some (setI σ 134 8 v) := rfl
theorem gR_134_9 : gR 9 9 134 = some 142 := rfl
theorem gI_134_10 {σ : Mem} : gI 9 10 134 σ = some (σ.1 134 10) := rfl
theorem pI_134_10 {v : Int32} {σ : Mem} : pI 9 10 134 v σ = some (setI σ 134 10 v) := rfl
theorem gL_134_11 {σ : Mem} : gL 9 11 134 σ = some (σ.2 134 11) := rfl
theorem pL_134_11 {v : Int64} {σ : Mem} : pL 9 11 134 v σ = some (setL σ 134 11 v) := rfl
theorem gL_134_12 {σ : Mem} : gL 9 12 134 σ = some (σ.2 134 12) := rfl
theorem pL_134_12 {v : Int64} {σ : Mem} : pL 9 12 134 v σ = some (setL σ 134 12 v) := rfl
theorem gI_134_13 {σ : Mem} : gI 9 13 134 σ = some (σ.1 134 13) := rfl
theorem pI_134_13 {v : Int32} {σ : Mem} : pI 9 13 134 v σ = some (setI σ 134 13 v) := rfl
theorem gR_134_14 : gR 9 14 134 = some 143 := rfl
theorem gR_134_15 : gR 9 15 134 = some 144 := rfl
theorem gL_134_16 {σ : Mem} : gL 9 16 134 σ = some (σ.2 134 16) := rfl
theorem pL_134_16 {v : Int64} {σ : Mem} : pL 9 16 134 v σ = some (setL σ 134 16 v) := rfl
theorem sh_135 : shp 135 = .inr (.inl 7304) := rfl
theorem sh_136 : shp 136 = .inr (.inl 3) := rfl
theorem sh_137 : shp 137 = .inr (.inl 240) := rfl
theorem sh_138 : shp 138 = .inr (.inl 6) := rfl
theorem sh_139 : shp 139 = .inr (.inl 240) := rfl
theorem sh_140 : shp 140 = .inr (.inl 4) := rfl
theorem sh_141 : shp 141 = .inr (.inl 40) := rfl
theorem sh_142 : shp 142 = .inr (.inl 6) := rfl
theorem sh_143 : shp 143 = .inr (.inl 32) := rfl
theorem sh_144 : shp 144 = .inr (.inl 2401) := rfl
/-- a town's place: its object, and its seven rows behind it -/
def Tw (k : Nat) : Prop := shp k = .inl (7, [some (some (k + 1)), some (some (k + 2)), some (some (k + 3)), some (some (k + 4)), some (some (k + 5)), some (some (k + 6)), some (some (k + 7)), none, none, none]) ∧ shp (k + 1) = .inr (.inl 4) ∧ shp (k + 2) = .inr (.inl 6) ∧ shp (k + 3) = .inr (.inl 6) ∧ shp (k + 4) = .inr (.inl 6) ∧ shp (k + 5) = .inr (.inl 6) ∧ shp (k + 6) = .inr (.inl 6) ∧ shp (k + 7) = .inr (.inl 6) ∧ k + 7 < nW
theorem tw_10 : Tw 10 := ⟨rfl, rfl, rfl, rfl, rfl, rfl, rfl, rfl, by decide⟩
theorem tw_18 : Tw 18 := ⟨rfl, rfl, rfl, rfl, rfl, rfl, rfl, rfl, by decide⟩
theorem tw_26 : Tw 26 := ⟨rfl, rfl, rfl, rfl, rfl, rfl, rfl, rfl, by decide⟩
theorem tw_36 : Tw 36 := ⟨rfl, rfl, rfl, rfl, rfl, rfl, rfl, rfl, by decide⟩
theorem tw_48 : Tw 48 := ⟨rfl, rfl, rfl, rfl, rfl, rfl, rfl, rfl, by decide⟩
theorem tw_56 : Tw 56 := ⟨rfl, rfl, rfl, rfl, rfl, rfl, rfl, rfl, by decide⟩
theorem tw_64 : Tw 64 := ⟨rfl, rfl, rfl, rfl, rfl, rfl, rfl, rfl, by decide⟩
theorem tw_72 : Tw 72 := ⟨rfl, rfl, rfl, rfl, rfl, rfl, rfl, rfl, by decide⟩
theorem tw_80 : Tw 80 := ⟨rfl, rfl, rfl, rfl, rfl, rfl, rfl, rfl, by decide⟩
theorem tw_101 : Tw 101 := ⟨rfl, rfl, rfl, rfl, rfl, rfl, rfl, rfl, by decide⟩
theorem tw_109 : Tw 109 := ⟨rfl, rfl, rfl, rfl, rfl, rfl, rfl, rfl, by decide⟩
theorem tw_117 : Tw 117 := ⟨rfl, rfl, rfl, rfl, rfl, rfl, rfl, rfl, by decide⟩
theorem tw_125 : Tw 125 := ⟨rfl, rfl, rfl, rfl, rfl, rfl, rfl, rfl, by decide⟩
section TWN
variable {k : Nat} {σ : Mem} {v : Int32}
theorem tR_0 (h : Tw k) : gR 7 0 k = some (k + 1) := by unfold gR; rw [h.1]; rfl
theorem tR_1 (h : Tw k) : gR 7 1 k = some (k + 2) := by unfold gR; rw [h.1]; rfl
theorem tR_2 (h : Tw k) : gR 7 2 k = some (k + 3) := by unfold gR; rw [h.1]; rfl
theorem tR_3 (h : Tw k) : gR 7 3 k = some (k + 4) := by unfold gR; rw [h.1]; rfl
theorem tR_4 (h : Tw k) : gR 7 4 k = some (k + 5) := by unfold gR; rw [h.1]; rfl
theorem tR_5 (h : Tw k) : gR 7 5 k = some (k + 6) := by unfold gR; rw [h.1]; rfl
theorem tR_6 (h : Tw k) : gR 7 6 k = some (k + 7) := by unfold gR; rw [h.1]; rfl
theorem tI_7 (h : Tw k) : gI 7 7 k σ = some (σ.1 k 7) := by unfold gI; rw [h.1]; rfl
theorem tP_7 (h : Tw k) : pI 7 7 k v σ = some (setI σ k 7 v) := by unfold pI; rw [h.1]; rfl
theorem tI_8 (h : Tw k) : gI 7 8 k σ = some (σ.1 k 8) := by unfold gI; rw [h.1]; rfl
theorem tP_8 (h : Tw k) : pI 7 8 k v σ = some (setI σ k 8 v) := by unfold pI; rw [h.1]; rfl
theorem tI_9 (h : Tw k) : gI 7 9 k σ = some (σ.1 k 9) := by unfold gI; rw [h.1]; rfl
theorem tP_9 (h : Tw k) : pI 7 9 k v σ = some (setI σ k 9 v) := by unfold pI; rw [h.1]; rfl
theorem tC (h : Tw k) : chk 7 k = some () := by unfold chk isK; rw [h.1]; rfl
theorem tK (h : Tw k) : isK 7 k = true := by unfold isK; rw [h.1]; rfl
end TWN
theorem aI_eq {k n j : Nat} {σ : Mem} (hs : shp k = .inr (.inl n)) (hj : j < n) (hn : n ≤ 100000) : aI k (nI j) σ = some (σ.1 k j) := by
  unfold aI
  rw [hs]
  dsimp only
  rw [if_pos ⟨by rw [nI_toInt (by omega)]; omega, by rw [nI_toInt (by omega)]; omega⟩, nI_clamp (by omega)]
theorem sI_eq {k n j : Nat} {v : Int32} {σ : Mem} (hs : shp k = .inr (.inl n)) (hj : j < n) (hn : n ≤ 100000) : sI k (nI j) v σ = some (setI σ k j v) := by
  unfold sI
  rw [hs]
  dsimp only
  rw [if_pos ⟨by rw [nI_toInt (by omega)]; omega, by rw [nI_toInt (by omega)]; omega⟩, nI_clamp (by omega)]
theorem aJ_eq {k n j : Nat} {σ : Mem} (hk : k < nW) (hs : shp k = .inr (.inl n)) (hj : j < n) (hn : n ≤ 100000) : aJ k (nI j) σ = some (σ.1 k j) := by
  unfold aJ
  rw [if_pos hk]
  exact aI_eq hs hj hn
theorem sJ_eq {k n j : Nat} {v : Int32} {σ : Mem} (hk : k < nW) (hs : shp k = .inr (.inl n)) (hj : j < n) (hn : n ≤ 100000) : sJ k (nI j) v σ = some (setI σ k j v) := by
  unfold sJ
  rw [if_pos hk]
  exact sI_eq hs hj hn
theorem aN_eq {k n : Nat} (hk : k < nW) (hs : shp k = .inr (.inl n)) : aN k = some (nI n) := by
  unfold aN
  rw [if_pos hk, hs]
  rfl
/-- read() and write(): any index is well -/
theorem rd_eq {k n j : Nat} {σ : Mem} (hk : k < nW) (hs : shp k = .inr (.inl n)) (hj : j < n) (hn : n ≤ 100000) : F_X8_read k (nI j) σ = some (σ.1 k j) := by
  unfold F_X8_read
  rw [if_neg (nI_pos (by omega)), aN_eq hk hs]
  show (if nI n ≤ nI j then _ else _) = _
  rw [if_neg (nI_ge hj (by omega)), aJ_eq hk hs hj hn]
  rfl
theorem rd_no {k n : Nat} {x : Int32} {σ : Mem} (hk : k < nW) (hs : shp k = .inr (.inl n)) (hx : x < 0 ∨ nI n ≤ x) : F_X8_read k x σ = some 0 := by
  unfold F_X8_read
  by_cases h : x < 0
  · rw [if_pos h]
  · rw [if_neg h, aN_eq hk hs]
    show (if nI n ≤ x then _ else _) = _
    rw [if_pos (hx.resolve_left h)]
theorem wr_eq {k n j : Nat} {v : Int32} {σ : Mem} (hk : k < nW) (hs : shp k = .inr (.inl n)) (hj : j < n) (hn : n ≤ 100000) : F_X8_write k (nI j) v σ = some (setI σ k j v) := by
  unfold F_X8_write
  rw [if_neg (nI_pos (by omega)), aN_eq hk hs]
  show (if nI n ≤ nI j then _ else _) = _
  rw [if_neg (nI_ge hj (by omega)), sJ_eq hk hs hj hn]
  rfl
theorem wr_no {k n : Nat} {x v : Int32} {σ : Mem} (hk : k < nW) (hs : shp k = .inr (.inl n)) (hx : x < 0 ∨ nI n ≤ x) : F_X8_write k x v σ = some σ := by
  unfold F_X8_write
  by_cases h : x < 0
  · rw [if_pos h]
  · rw [if_neg h, aN_eq hk hs]
    show (if nI n ≤ x then _ else _) = _
    rw [if_pos (hx.resolve_left h)]
theorem setI_1 (σ : Mem) (k j : Nat) (v : Int32) (a b : Nat) : (setI σ k j v).1 a b = if a = k ∧ b = j then v else σ.1 a b := rfl
theorem setI_2 (σ : Mem) (k j : Nat) (v : Int32) : (setI σ k j v).2 = σ.2 := rfl
theorem setL_1 (σ : Mem) (k j : Nat) (v : Int64) : (setL σ k j v).1 = σ.1 := rfl
theorem setL_2 (σ : Mem) (k j : Nat) (v : Int64) (a b : Nat) : (setL σ k j v).2 a b = if a = k ∧ b = j then v else σ.2 a b := rfl
theorem ob_some {α β : Type} (a : α) (f : α → Option β) : (some a).bind f = f a := rfl
/-- a loop that counts up -/
theorem lp_up {S T : Type} {f : S → Option (S ⊕ T)} (g : Nat → S) (n : Nat) {t : T} (hs : ∀ j, j < n → f (g j) = some (.inl (g (j + 1)))) (he : f (g n) = some (.inr t)) : lp f (g 0) = some t := by
  have key : ∀ m, m ≤ n → lp f (g (n - m)) = some t := by
    intro m
    induction m with
    | zero => intro _; exact lp_out he
    | succ m ih =>
      intro hm
      have h1 := hs (n - (m + 1)) (by omega)
      rw [show n - (m + 1) + 1 = n - m by omega] at h1
      rw [lp_in h1]
      exact ih (by omega)
  have := key n (Nat.le_refl n)
  rwa [Nat.sub_self] at this

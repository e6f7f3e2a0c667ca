section
-- ===== PART A: goes FIRST, ahead of the names: the tables' words, and 'selects' of the private methods out of them =====
/-- a private method of a class that the tables say can be made, by its rows of tables_1 -/
def lw_okq (q : MethodName × Nat) : Prop := (q.1.cls ≠ "java/lang/invoke/MethodHandle" ∧ q.1.cls ≠ "java/lang/invoke/VarHandle") ∧ Cond.instantiable q.1.cls q.2 ∈ tables_1 ∧ Cond.privateMethod q.1 ∈ tables_1 ∧ Cond.instanceMethod q.1 ∈ tables_1
theorem lw_p0 : lw_okq (⟨"BolsterBeds", "makeAnew", "(LBolsterBeds$Shelf;III)I"⟩, 18) := ⟨⟨by decide +kernel, by decide +kernel⟩, List.mem_of_getElem? (i := 16) (by decide +kernel), List.mem_of_getElem? (i := 263) (by decide +kernel), List.mem_of_getElem? (i := 264) (by decide +kernel)⟩
theorem lw_p1 : lw_okq (⟨"BolsterBeds", "refuse", "(I)I"⟩, 18) := ⟨⟨by decide +kernel, by decide +kernel⟩, List.mem_of_getElem? (i := 16) (by decide +kernel), List.mem_of_getElem? (i := 271) (by decide +kernel), List.mem_of_getElem? (i := 272) (by decide +kernel)⟩
theorem lw_p2 : lw_okq (⟨"BolsterBeds", "refusalOfPlace", "(LBolsterBeds$Shelf;II)I"⟩, 18) := ⟨⟨by decide +kernel, by decide +kernel⟩, List.mem_of_getElem? (i := 16) (by decide +kernel), List.mem_of_getElem? (i := 301) (by decide +kernel), List.mem_of_getElem? (i := 302) (by decide +kernel)⟩
theorem lw_p3 : lw_okq (⟨"BolsterBeds", "refusalOfMissing", "(LBolsterBeds$Shelf;I)I"⟩, 18) := ⟨⟨by decide +kernel, by decide +kernel⟩, List.mem_of_getElem? (i := 16) (by decide +kernel), List.mem_of_getElem? (i := 305) (by decide +kernel), List.mem_of_getElem? (i := 306) (by decide +kernel)⟩
theorem lw_p4 : lw_okq (⟨"BolsterBeds", "tell", "(I)I"⟩, 18) := ⟨⟨by decide +kernel, by decide +kernel⟩, List.mem_of_getElem? (i := 16) (by decide +kernel), List.mem_of_getElem? (i := 323) (by decide +kernel), List.mem_of_getElem? (i := 324) (by decide +kernel)⟩
theorem lw_p5 : lw_okq (⟨"BolsterBeds$Reader", "skipBlanks", "()V"⟩, 4) := ⟨⟨by decide +kernel, by decide +kernel⟩, List.mem_of_getElem? (i := 93) (by decide +kernel), List.mem_of_getElem? (i := 381) (by decide +kernel), List.mem_of_getElem? (i := 382) (by decide +kernel)⟩
theorem lw_p6 : lw_okq (⟨"BolsterBeds$Reader", "here", "()I"⟩, 4) := ⟨⟨by decide +kernel, by decide +kernel⟩, List.mem_of_getElem? (i := 93) (by decide +kernel), List.mem_of_getElem? (i := 385) (by decide +kernel), List.mem_of_getElem? (i := 386) (by decide +kernel)⟩
theorem lw_p7 : lw_okq (⟨"BolsterBeds$Reader", "takesHead", "()Z"⟩, 4) := ⟨⟨by decide +kernel, by decide +kernel⟩, List.mem_of_getElem? (i := 93) (by decide +kernel), List.mem_of_getElem? (i := 390) (by decide +kernel), List.mem_of_getElem? (i := 391) (by decide +kernel)⟩
theorem lw_p8 : lw_okq (⟨"BolsterBeds$Reader", "takeFigure", "(I)I"⟩, 4) := ⟨⟨by decide +kernel, by decide +kernel⟩, List.mem_of_getElem? (i := 93) (by decide +kernel), List.mem_of_getElem? (i := 394) (by decide +kernel), List.mem_of_getElem? (i := 395) (by decide +kernel)⟩
theorem lw_p9 : lw_okq (⟨"BolsterBeds$Reader", "takesBed", "()Z"⟩, 4) := ⟨⟨by decide +kernel, by decide +kernel⟩, List.mem_of_getElem? (i := 93) (by decide +kernel), List.mem_of_getElem? (i := 398) (by decide +kernel), List.mem_of_getElem? (i := 399) (by decide +kernel)⟩
theorem lw_p10 : lw_okq (⟨"BolsterBeds$Reader", "kindHere", "()I"⟩, 4) := ⟨⟨by decide +kernel, by decide +kernel⟩, List.mem_of_getElem? (i := 93) (by decide +kernel), List.mem_of_getElem? (i := 402) (by decide +kernel), List.mem_of_getElem? (i := 403) (by decide +kernel)⟩
theorem lw_p11 : lw_okq (⟨"BolsterBeds", "enact", "(III)I"⟩, 18) := ⟨⟨by decide +kernel, by decide +kernel⟩, List.mem_of_getElem? (i := 16) (by decide +kernel), List.mem_of_getElem? (i := 499) (by decide +kernel), List.mem_of_getElem? (i := 500) (by decide +kernel)⟩
theorem lw_p12 : lw_okq (⟨"BolsterBeds$Town", "swapRights", "(II)V"⟩, 10) := ⟨⟨by decide +kernel, by decide +kernel⟩, List.mem_of_getElem? (i := 48) (by decide +kernel), List.mem_of_getElem? (i := 521) (by decide +kernel), List.mem_of_getElem? (i := 522) (by decide +kernel)⟩
theorem lw_p13 : lw_okq (⟨"BolsterBeds$Town", "sleepIn", "(I)I"⟩, 10) := ⟨⟨by decide +kernel, by decide +kernel⟩, List.mem_of_getElem? (i := 48) (by decide +kernel), List.mem_of_getElem? (i := 529) (by decide +kernel), List.mem_of_getElem? (i := 530) (by decide +kernel)⟩
theorem lw_p14 : lw_okq (⟨"BolsterBeds", "redoFromStart", "()V"⟩, 18) := ⟨⟨by decide +kernel, by decide +kernel⟩, List.mem_of_getElem? (i := 16) (by decide +kernel), List.mem_of_getElem? (i := 550) (by decide +kernel), List.mem_of_getElem? (i := 551) (by decide +kernel)⟩
theorem lw_p15 : lw_okq (⟨"BolsterBeds$Rounds", "goOn", "(LBolsterBeds$Town;III)V"⟩, 4) := ⟨⟨by decide +kernel, by decide +kernel⟩, List.mem_of_getElem? (i := 115) (by decide +kernel), List.mem_of_getElem? (i := 598) (by decide +kernel), List.mem_of_getElem? (i := 599) (by decide +kernel)⟩
def lw_privs_1 : List (MethodName × Nat) := [(⟨"BolsterBeds", "makeAnew", "(LBolsterBeds$Shelf;III)I"⟩, 18), (⟨"BolsterBeds", "refuse", "(I)I"⟩, 18), (⟨"BolsterBeds", "refusalOfPlace", "(LBolsterBeds$Shelf;II)I"⟩, 18), (⟨"BolsterBeds", "refusalOfMissing", "(LBolsterBeds$Shelf;I)I"⟩, 18), (⟨"BolsterBeds", "tell", "(I)I"⟩, 18), (⟨"BolsterBeds$Reader", "skipBlanks", "()V"⟩, 4), (⟨"BolsterBeds$Reader", "here", "()I"⟩, 4), (⟨"BolsterBeds$Reader", "takesHead", "()Z"⟩, 4), (⟨"BolsterBeds$Reader", "takeFigure", "(I)I"⟩, 4), (⟨"BolsterBeds$Reader", "takesBed", "()Z"⟩, 4), (⟨"BolsterBeds$Reader", "kindHere", "()I"⟩, 4), (⟨"BolsterBeds", "enact", "(III)I"⟩, 18), (⟨"BolsterBeds$Town", "swapRights", "(II)V"⟩, 10), (⟨"BolsterBeds$Town", "sleepIn", "(I)I"⟩, 10), (⟨"BolsterBeds", "redoFromStart", "()V"⟩, 18), (⟨"BolsterBeds$Rounds", "goOn", "(LBolsterBeds$Town;III)V"⟩, 4)]
theorem lw_r1 : ∀ q ∈ lw_privs_1, lw_okq q := List.forall_mem_cons.mpr ⟨lw_p0, List.forall_mem_cons.mpr ⟨lw_p1, List.forall_mem_cons.mpr ⟨lw_p2, List.forall_mem_cons.mpr ⟨lw_p3, List.forall_mem_cons.mpr ⟨lw_p4, List.forall_mem_cons.mpr ⟨lw_p5, List.forall_mem_cons.mpr ⟨lw_p6, List.forall_mem_cons.mpr ⟨lw_p7, List.forall_mem_cons.mpr ⟨lw_p8, List.forall_mem_cons.mpr ⟨lw_p9, List.forall_mem_cons.mpr ⟨lw_p10, List.forall_mem_cons.mpr ⟨lw_p11, List.forall_mem_cons.mpr ⟨lw_p12, List.forall_mem_cons.mpr ⟨lw_p13, List.forall_mem_cons.mpr ⟨lw_p14, List.forall_mem_cons.mpr ⟨lw_p15, fun _ h => absurd h List.not_mem_nil⟩⟩⟩⟩⟩⟩⟩⟩⟩⟩⟩⟩⟩⟩⟩⟩
theorem lw_p16 : lw_okq (⟨"BolsterBeds$Rounds", "takeIfMore", "(I)V"⟩, 4) := ⟨⟨by decide +kernel, by decide +kernel⟩, List.mem_of_getElem? (i := 115) (by decide +kernel), List.mem_of_getElem? (i := 602) (by decide +kernel), List.mem_of_getElem? (i := 603) (by decide +kernel)⟩
theorem lw_p17 : lw_okq (⟨"BolsterBeds", "isRound", "(I)Z"⟩, 18) := ⟨⟨by decide +kernel, by decide +kernel⟩, List.mem_of_getElem? (i := 16) (by decide +kernel), List.mem_of_getElem? (i := 615) (by decide +kernel), List.mem_of_getElem? (i := 616) (by decide +kernel)⟩
theorem lw_p18 : lw_okq (⟨"BolsterBeds$Marriages", "give", "(LBolsterBeds$Town;III)V"⟩, 3) := ⟨⟨by decide +kernel, by decide +kernel⟩, List.mem_of_getElem? (i := 149) (by decide +kernel), List.mem_of_getElem? (i := 634) (by decide +kernel), List.mem_of_getElem? (i := 635) (by decide +kernel)⟩
theorem lw_p19 : lw_okq (⟨"BolsterBeds", "takePairs", "(II)I"⟩, 18) := ⟨⟨by decide +kernel, by decide +kernel⟩, List.mem_of_getElem? (i := 16) (by decide +kernel), List.mem_of_getElem? (i := 653) (by decide +kernel), List.mem_of_getElem? (i := 654) (by decide +kernel)⟩
theorem lw_p20 : lw_okq (⟨"BolsterBeds$Clues", "fits", "(LBolsterBeds$Town;III)Z"⟩, 6) := ⟨⟨by decide +kernel, by decide +kernel⟩, List.mem_of_getElem? (i := 166) (by decide +kernel), List.mem_of_getElem? (i := 668) (by decide +kernel), List.mem_of_getElem? (i := 669) (by decide +kernel)⟩
theorem lw_p21 : lw_okq (⟨"BolsterBeds$Clues", "greatestPart", "(LBolsterBeds$Town;II)I"⟩, 6) := ⟨⟨by decide +kernel, by decide +kernel⟩, List.mem_of_getElem? (i := 166) (by decide +kernel), List.mem_of_getElem? (i := 692) (by decide +kernel), List.mem_of_getElem? (i := 693) (by decide +kernel)⟩
theorem lw_p22 : lw_okq (⟨"BolsterBeds$Duel", "fewestFrom", "(LBolsterBeds$Town;II)I"⟩, 1) := ⟨⟨by decide +kernel, by decide +kernel⟩, List.mem_of_getElem? (i := 192) (by decide +kernel), List.mem_of_getElem? (i := 706) (by decide +kernel), List.mem_of_getElem? (i := 707) (by decide +kernel)⟩
theorem lw_p23 : lw_okq (⟨"BolsterBeds$Duel", "mostFrom", "(LBolsterBeds$Town;II)I"⟩, 1) := ⟨⟨by decide +kernel, by decide +kernel⟩, List.mem_of_getElem? (i := 192) (by decide +kernel), List.mem_of_getElem? (i := 717) (by decide +kernel), List.mem_of_getElem? (i := 718) (by decide +kernel)⟩
theorem lw_p24 : lw_okq (⟨"BolsterBeds", "tellChance", "(JJ)I"⟩, 18) := ⟨⟨by decide +kernel, by decide +kernel⟩, List.mem_of_getElem? (i := 16) (by decide +kernel), List.mem_of_getElem? (i := 744) (by decide +kernel), List.mem_of_getElem? (i := 745) (by decide +kernel)⟩
theorem lw_p25 : lw_okq (⟨"BolsterBedsModel", "found", "(I)I"⟩, 17) := ⟨⟨by decide +kernel, by decide +kernel⟩, List.mem_of_getElem? (i := 819) (by decide +kernel), List.mem_of_getElem? (i := 888) (by decide +kernel), List.mem_of_getElem? (i := 889) (by decide +kernel)⟩
theorem lw_p26 : lw_okq (⟨"BolsterBedsModel", "anew", "(II)V"⟩, 17) := ⟨⟨by decide +kernel, by decide +kernel⟩, List.mem_of_getElem? (i := 819) (by decide +kernel), List.mem_of_getElem? (i := 892) (by decide +kernel), List.mem_of_getElem? (i := 893) (by decide +kernel)⟩
theorem lw_p27 : lw_okq (⟨"BolsterBedsModel", "tells", "(II)I"⟩, 17) := ⟨⟨by decide +kernel, by decide +kernel⟩, List.mem_of_getElem? (i := 819) (by decide +kernel), List.mem_of_getElem? (i := 904) (by decide +kernel), List.mem_of_getElem? (i := 905) (by decide +kernel)⟩
theorem lw_p28 : lw_okq (⟨"BolsterBedsModel", "faultOf", "(I)I"⟩, 17) := ⟨⟨by decide +kernel, by decide +kernel⟩, List.mem_of_getElem? (i := 819) (by decide +kernel), List.mem_of_getElem? (i := 940) (by decide +kernel), List.mem_of_getElem? (i := 941) (by decide +kernel)⟩
theorem lw_p29 : lw_okq (⟨"BolsterBedsModel", "blanks", "(I)V"⟩, 17) := ⟨⟨by decide +kernel, by decide +kernel⟩, List.mem_of_getElem? (i := 819) (by decide +kernel), List.mem_of_getElem? (i := 944) (by decide +kernel), List.mem_of_getElem? (i := 945) (by decide +kernel)⟩
theorem lw_p30 : lw_okq (⟨"BolsterBedsModel", "byteAt", "(II)I"⟩, 17) := ⟨⟨by decide +kernel, by decide +kernel⟩, List.mem_of_getElem? (i := 819) (by decide +kernel), List.mem_of_getElem? (i := 948) (by decide +kernel), List.mem_of_getElem? (i := 949) (by decide +kernel)⟩
theorem lw_p31 : lw_okq (⟨"BolsterBedsModel", "takesFirst", "(I)Z"⟩, 17) := ⟨⟨by decide +kernel, by decide +kernel⟩, List.mem_of_getElem? (i := 819) (by decide +kernel), List.mem_of_getElem? (i := 952) (by decide +kernel), List.mem_of_getElem? (i := 953) (by decide +kernel)⟩
def lw_privs_2 : List (MethodName × Nat) := [(⟨"BolsterBeds$Rounds", "takeIfMore", "(I)V"⟩, 4), (⟨"BolsterBeds", "isRound", "(I)Z"⟩, 18), (⟨"BolsterBeds$Marriages", "give", "(LBolsterBeds$Town;III)V"⟩, 3), (⟨"BolsterBeds", "takePairs", "(II)I"⟩, 18), (⟨"BolsterBeds$Clues", "fits", "(LBolsterBeds$Town;III)Z"⟩, 6), (⟨"BolsterBeds$Clues", "greatestPart", "(LBolsterBeds$Town;II)I"⟩, 6), (⟨"BolsterBeds$Duel", "fewestFrom", "(LBolsterBeds$Town;II)I"⟩, 1), (⟨"BolsterBeds$Duel", "mostFrom", "(LBolsterBeds$Town;II)I"⟩, 1), (⟨"BolsterBeds", "tellChance", "(JJ)I"⟩, 18), (⟨"BolsterBedsModel", "found", "(I)I"⟩, 17), (⟨"BolsterBedsModel", "anew", "(II)V"⟩, 17), (⟨"BolsterBedsModel", "tells", "(II)I"⟩, 17), (⟨"BolsterBedsModel", "faultOf", "(I)I"⟩, 17), (⟨"BolsterBedsModel", "blanks", "(I)V"⟩, 17), (⟨"BolsterBedsModel", "byteAt", "(II)I"⟩, 17), (⟨"BolsterBedsModel", "takesFirst", "(I)Z"⟩, 17)]
theorem lw_r2 : ∀ q ∈ lw_privs_2, lw_okq q := List.forall_mem_cons.mpr ⟨lw_p16, List.forall_mem_cons.mpr ⟨lw_p17, List.forall_mem_cons.mpr ⟨lw_p18, List.forall_mem_cons.mpr ⟨lw_p19, List.forall_mem_cons.mpr ⟨lw_p20, List.forall_mem_cons.mpr ⟨lw_p21, List.forall_mem_cons.mpr ⟨lw_p22, List.forall_mem_cons.mpr ⟨lw_p23, List.forall_mem_cons.mpr ⟨lw_p24, List.forall_mem_cons.mpr ⟨lw_p25, List.forall_mem_cons.mpr ⟨lw_p26, List.forall_mem_cons.mpr ⟨lw_p27, List.forall_mem_cons.mpr ⟨lw_p28, List.forall_mem_cons.mpr ⟨lw_p29, List.forall_mem_cons.mpr ⟨lw_p30, List.forall_mem_cons.mpr ⟨lw_p31, fun _ h => absurd h List.not_mem_nil⟩⟩⟩⟩⟩⟩⟩⟩⟩⟩⟩⟩⟩⟩⟩⟩
theorem lw_p32 : lw_okq (⟨"BolsterBedsModel", "figures", "(IIIII)Z"⟩, 17) := ⟨⟨by decide +kernel, by decide +kernel⟩, List.mem_of_getElem? (i := 819) (by decide +kernel), List.mem_of_getElem? (i := 956) (by decide +kernel), List.mem_of_getElem? (i := 957) (by decide +kernel)⟩
theorem lw_p33 : lw_okq (⟨"BolsterBedsModel", "takesBed", "(I)Z"⟩, 17) := ⟨⟨by decide +kernel, by decide +kernel⟩, List.mem_of_getElem? (i := 819) (by decide +kernel), List.mem_of_getElem? (i := 961) (by decide +kernel), List.mem_of_getElem? (i := 962) (by decide +kernel)⟩
theorem lw_p34 : lw_okq (⟨"BolsterBedsModel", "copyAll", "(III)V"⟩, 17) := ⟨⟨by decide +kernel, by decide +kernel⟩, List.mem_of_getElem? (i := 819) (by decide +kernel), List.mem_of_getElem? (i := 972) (by decide +kernel), List.mem_of_getElem? (i := 973) (by decide +kernel)⟩
theorem lw_p35 : lw_okq (⟨"BolsterBedsModel", "isBed", "(I)Z"⟩, 17) := ⟨⟨by decide +kernel, by decide +kernel⟩, List.mem_of_getElem? (i := 819) (by decide +kernel), List.mem_of_getElem? (i := 980) (by decide +kernel), List.mem_of_getElem? (i := 981) (by decide +kernel)⟩
theorem lw_p36 : lw_okq (⟨"BolsterBedsModel", "bedTells", "(II)I"⟩, 17) := ⟨⟨by decide +kernel, by decide +kernel⟩, List.mem_of_getElem? (i := 819) (by decide +kernel), List.mem_of_getElem? (i := 985) (by decide +kernel), List.mem_of_getElem? (i := 986) (by decide +kernel)⟩
theorem lw_p37 : lw_okq (⟨"BolsterBedsModel", "crossIn", "(II)I"⟩, 17) := ⟨⟨by decide +kernel, by decide +kernel⟩, List.mem_of_getElem? (i := 819) (by decide +kernel), List.mem_of_getElem? (i := 989) (by decide +kernel), List.mem_of_getElem? (i := 990) (by decide +kernel)⟩
theorem lw_p38 : lw_okq (⟨"BolsterBedsModel", "gapIn", "(II)I"⟩, 17) := ⟨⟨by decide +kernel, by decide +kernel⟩, List.mem_of_getElem? (i := 819) (by decide +kernel), List.mem_of_getElem? (i := 993) (by decide +kernel), List.mem_of_getElem? (i := 994) (by decide +kernel)⟩
theorem lw_p39 : lw_okq (⟨"BolsterBedsModel", "crossBy", "(IIII)I"⟩, 17) := ⟨⟨by decide +kernel, by decide +kernel⟩, List.mem_of_getElem? (i := 819) (by decide +kernel), List.mem_of_getElem? (i := 1000) (by decide +kernel), List.mem_of_getElem? (i := 1001) (by decide +kernel)⟩
theorem lw_p40 : lw_okq (⟨"BolsterBedsModel", "crossAs", "(II)I"⟩, 17) := ⟨⟨by decide +kernel, by decide +kernel⟩, List.mem_of_getElem? (i := 819) (by decide +kernel), List.mem_of_getElem? (i := 1011) (by decide +kernel), List.mem_of_getElem? (i := 1012) (by decide +kernel)⟩
theorem lw_p41 : lw_okq (⟨"BolsterBedsModel", "isTown", "()Z"⟩, 17) := ⟨⟨by decide +kernel, by decide +kernel⟩, List.mem_of_getElem? (i := 819) (by decide +kernel), List.mem_of_getElem? (i := 1024) (by decide +kernel), List.mem_of_getElem? (i := 1025) (by decide +kernel)⟩
theorem lw_p42 : lw_okq (⟨"BolsterBedsModel", "minds", "()V"⟩, 17) := ⟨⟨by decide +kernel, by decide +kernel⟩, List.mem_of_getElem? (i := 819) (by decide +kernel), List.mem_of_getElem? (i := 1028) (by decide +kernel), List.mem_of_getElem? (i := 1029) (by decide +kernel)⟩
theorem lw_p43 : lw_okq (⟨"BolsterBedsModel", "passes", "(I)I"⟩, 17) := ⟨⟨by decide +kernel, by decide +kernel⟩, List.mem_of_getElem? (i := 819) (by decide +kernel), List.mem_of_getElem? (i := 1032) (by decide +kernel), List.mem_of_getElem? (i := 1033) (by decide +kernel)⟩
theorem lw_p44 : lw_okq (⟨"BolsterBedsModel", "inspects", "(II)I"⟩, 17) := ⟨⟨by decide +kernel, by decide +kernel⟩, List.mem_of_getElem? (i := 819) (by decide +kernel), List.mem_of_getElem? (i := 1040) (by decide +kernel), List.mem_of_getElem? (i := 1041) (by decide +kernel)⟩
theorem lw_p45 : lw_okq (⟨"BolsterBedsModel", "isDue", "(II)Z"⟩, 17) := ⟨⟨by decide +kernel, by decide +kernel⟩, List.mem_of_getElem? (i := 819) (by decide +kernel), List.mem_of_getElem? (i := 1044) (by decide +kernel), List.mem_of_getElem? (i := 1045) (by decide +kernel)⟩
theorem lw_p46 : lw_okq (⟨"BolsterBedsModel", "tries", "()V"⟩, 17) := ⟨⟨by decide +kernel, by decide +kernel⟩, List.mem_of_getElem? (i := 819) (by decide +kernel), List.mem_of_getElem? (i := 1077) (by decide +kernel), List.mem_of_getElem? (i := 1078) (by decide +kernel)⟩
theorem lw_p47 : lw_okq (⟨"BolsterBedsModel", "triesNights", "(I)V"⟩, 17) := ⟨⟨by decide +kernel, by decide +kernel⟩, List.mem_of_getElem? (i := 819) (by decide +kernel), List.mem_of_getElem? (i := 1081) (by decide +kernel), List.mem_of_getElem? (i := 1082) (by decide +kernel)⟩
def lw_privs_3 : List (MethodName × Nat) := [(⟨"BolsterBedsModel", "figures", "(IIIII)Z"⟩, 17), (⟨"BolsterBedsModel", "takesBed", "(I)Z"⟩, 17), (⟨"BolsterBedsModel", "copyAll", "(III)V"⟩, 17), (⟨"BolsterBedsModel", "isBed", "(I)Z"⟩, 17), (⟨"BolsterBedsModel", "bedTells", "(II)I"⟩, 17), (⟨"BolsterBedsModel", "crossIn", "(II)I"⟩, 17), (⟨"BolsterBedsModel", "gapIn", "(II)I"⟩, 17), (⟨"BolsterBedsModel", "crossBy", "(IIII)I"⟩, 17), (⟨"BolsterBedsModel", "crossAs", "(II)I"⟩, 17), (⟨"BolsterBedsModel", "isTown", "()Z"⟩, 17), (⟨"BolsterBedsModel", "minds", "()V"⟩, 17), (⟨"BolsterBedsModel", "passes", "(I)I"⟩, 17), (⟨"BolsterBedsModel", "inspects", "(II)I"⟩, 17), (⟨"BolsterBedsModel", "isDue", "(II)Z"⟩, 17), (⟨"BolsterBedsModel", "tries", "()V"⟩, 17), (⟨"BolsterBedsModel", "triesNights", "(I)V"⟩, 17)]
theorem lw_r3 : ∀ q ∈ lw_privs_3, lw_okq q := List.forall_mem_cons.mpr ⟨lw_p32, List.forall_mem_cons.mpr ⟨lw_p33, List.forall_mem_cons.mpr ⟨lw_p34, List.forall_mem_cons.mpr ⟨lw_p35, List.forall_mem_cons.mpr ⟨lw_p36, List.forall_mem_cons.mpr ⟨lw_p37, List.forall_mem_cons.mpr ⟨lw_p38, List.forall_mem_cons.mpr ⟨lw_p39, List.forall_mem_cons.mpr ⟨lw_p40, List.forall_mem_cons.mpr ⟨lw_p41, List.forall_mem_cons.mpr ⟨lw_p42, List.forall_mem_cons.mpr ⟨lw_p43, List.forall_mem_cons.mpr ⟨lw_p44, List.forall_mem_cons.mpr ⟨lw_p45, List.forall_mem_cons.mpr ⟨lw_p46, List.forall_mem_cons.mpr ⟨lw_p47, fun _ h => absurd h List.not_mem_nil⟩⟩⟩⟩⟩⟩⟩⟩⟩⟩⟩⟩⟩⟩⟩⟩
theorem lw_p48 : lw_okq (⟨"BolsterBedsModel", "crossWith", "(II)I"⟩, 17) := ⟨⟨by decide +kernel, by decide +kernel⟩, List.mem_of_getElem? (i := 819) (by decide +kernel), List.mem_of_getElem? (i := 1107) (by decide +kernel), List.mem_of_getElem? (i := 1108) (by decide +kernel)⟩
theorem lw_p49 : lw_okq (⟨"BolsterBedsModel", "wantsRight", "(II)Z"⟩, 17) := ⟨⟨by decide +kernel, by decide +kernel⟩, List.mem_of_getElem? (i := 819) (by decide +kernel), List.mem_of_getElem? (i := 1115) (by decide +kernel), List.mem_of_getElem? (i := 1116) (by decide +kernel)⟩
theorem lw_p50 : lw_okq (⟨"BolsterBedsModel", "against", "(I)I"⟩, 17) := ⟨⟨by decide +kernel, by decide +kernel⟩, List.mem_of_getElem? (i := 819) (by decide +kernel), List.mem_of_getElem? (i := 1123) (by decide +kernel), List.mem_of_getElem? (i := 1124) (by decide +kernel)⟩
theorem lw_p51 : lw_okq (⟨"BolsterBedsModel", "crossedSo", "(IIII)Z"⟩, 17) := ⟨⟨by decide +kernel, by decide +kernel⟩, List.mem_of_getElem? (i := 819) (by decide +kernel), List.mem_of_getElem? (i := 1128) (by decide +kernel), List.mem_of_getElem? (i := 1129) (by decide +kernel)⟩
theorem lw_p52 : lw_okq (⟨"BolsterBedsModel", "dueNow", "()I"⟩, 17) := ⟨⟨by decide +kernel, by decide +kernel⟩, List.mem_of_getElem? (i := 819) (by decide +kernel), List.mem_of_getElem? (i := 1150) (by decide +kernel), List.mem_of_getElem? (i := 1151) (by decide +kernel)⟩
theorem lw_p53 : lw_okq (⟨"BolsterBedsModel", "waysOf", "(III)J"⟩, 17) := ⟨⟨by decide +kernel, by decide +kernel⟩, List.mem_of_getElem? (i := 819) (by decide +kernel), List.mem_of_getElem? (i := 1157) (by decide +kernel), List.mem_of_getElem? (i := 1158) (by decide +kernel)⟩
theorem lw_p54 : lw_okq (⟨"BolsterBedsModel", "allWays", "(I)J"⟩, 17) := ⟨⟨by decide +kernel, by decide +kernel⟩, List.mem_of_getElem? (i := 819) (by decide +kernel), List.mem_of_getElem? (i := 1164) (by decide +kernel), List.mem_of_getElem? (i := 1165) (by decide +kernel)⟩
theorem lw_p55 : lw_okq (⟨"BolsterBedsModel", "tellsParts", "(JJ)I"⟩, 17) := ⟨⟨by decide +kernel, by decide +kernel⟩, List.mem_of_getElem? (i := 819) (by decide +kernel), List.mem_of_getElem? (i := 1168) (by decide +kernel), List.mem_of_getElem? (i := 1169) (by decide +kernel)⟩
theorem lw_p56 : lw_okq (⟨"BolsterBedsModel", "countOf", "(I)I"⟩, 17) := ⟨⟨by decide +kernel, by decide +kernel⟩, List.mem_of_getElem? (i := 819) (by decide +kernel), List.mem_of_getElem? (i := 1202) (by decide +kernel), List.mem_of_getElem? (i := 1203) (by decide +kernel)⟩
theorem lw_p57 : lw_okq (⟨"BolsterBedsModel", "mix", "(J)V"⟩, 17) := ⟨⟨by decide +kernel, by decide +kernel⟩, List.mem_of_getElem? (i := 819) (by decide +kernel), List.mem_of_getElem? (i := 1219) (by decide +kernel), List.mem_of_getElem? (i := 1220) (by decide +kernel)⟩
def lw_privs_4 : List (MethodName × Nat) := [(⟨"BolsterBedsModel", "crossWith", "(II)I"⟩, 17), (⟨"BolsterBedsModel", "wantsRight", "(II)Z"⟩, 17), (⟨"BolsterBedsModel", "against", "(I)I"⟩, 17), (⟨"BolsterBedsModel", "crossedSo", "(IIII)Z"⟩, 17), (⟨"BolsterBedsModel", "dueNow", "()I"⟩, 17), (⟨"BolsterBedsModel", "waysOf", "(III)J"⟩, 17), (⟨"BolsterBedsModel", "allWays", "(I)J"⟩, 17), (⟨"BolsterBedsModel", "tellsParts", "(JJ)I"⟩, 17), (⟨"BolsterBedsModel", "countOf", "(I)I"⟩, 17), (⟨"BolsterBedsModel", "mix", "(J)V"⟩, 17)]
theorem lw_r4 : ∀ q ∈ lw_privs_4, lw_okq q := List.forall_mem_cons.mpr ⟨lw_p48, List.forall_mem_cons.mpr ⟨lw_p49, List.forall_mem_cons.mpr ⟨lw_p50, List.forall_mem_cons.mpr ⟨lw_p51, List.forall_mem_cons.mpr ⟨lw_p52, List.forall_mem_cons.mpr ⟨lw_p53, List.forall_mem_cons.mpr ⟨lw_p54, List.forall_mem_cons.mpr ⟨lw_p55, List.forall_mem_cons.mpr ⟨lw_p56, List.forall_mem_cons.mpr ⟨lw_p57, fun _ h => absurd h List.not_mem_nil⟩⟩⟩⟩⟩⟩⟩⟩⟩⟩
def lw_privs : List (MethodName × Nat) := lw_privs_1 ++ (lw_privs_2 ++ (lw_privs_3 ++ (lw_privs_4)))
def lw_tbl : List Cond := k2_sels lw_privs ++ tables_1
theorem lw_privs_ok : ∀ q ∈ lw_privs, lw_okq q := by
  show ∀ q ∈ lw_privs_1 ++ (lw_privs_2 ++ (lw_privs_3 ++ (lw_privs_4))), lw_okq q
  exact List.forall_mem_append.mpr ⟨lw_r1, List.forall_mem_append.mpr ⟨lw_r2, List.forall_mem_append.mpr ⟨lw_r3, lw_r4⟩⟩⟩
/-- the words that may stand in a contract, and the nest mates' -/
def lw_good : List Cond := lw_tbl.filter goodWord
def lw_isN : Cond → Bool
  | .fieldLinkNest _ _ _ _ _ _ => true
  | .methodLinkNest _ _ _ _ => true
  | _ => false
def lw_nest : List Cond := lw_tbl.filter lw_isN
theorem lw_g {w : Cond} (i : Nat) (h : lw_tbl[i]? = some w) (hg : goodWord w = true) : w ∈ lw_good := List.mem_filter.mpr ⟨List.mem_of_getElem? h, hg⟩
theorem lw_n {w : Cond} (i : Nat) (h : lw_tbl[i]? = some w) (hg : lw_isN w = true) : w ∈ lw_nest := List.mem_filter.mpr ⟨List.mem_of_getElem? h, hg⟩
end
section
def RX0 : String := "BolsterBeds$Clues"
def TX0 : u_T := fun k => match k with
  | 0 => ("BolsterBeds$Clues", "nights", "[I", true)
  | 1 => ("BolsterBeds$Clues", "crossings", "[I", true)
  | 2 => ("BolsterBeds$Clues", "fitting", "[I", true)
  | 3 => ("BolsterBeds$Clues", "parts", "[I", true)
  | 4 => ("BolsterBeds$Clues", "pairs", "I", false)
  | _ => ("BolsterBeds$Clues", "greatest", "I", false)
def tyX0 : Nat → FieldType := fun k => match k with
  | 0 => .array .int
  | 1 => .array .int
  | 2 => .array .int
  | 3 => .array .int
  | 4 => .int
  | _ => .int
theorem nmX0 : ∀ a, a < 6 → ∀ b, b < 6 → a ≠ b → (TX0 a).2.1 ≠ (TX0 b).2.1 := by decide +kernel
theorem tyX0_ok : ∀ k, k < 6 → parseFieldDescriptor (TX0 k).2.2.1 = some (tyX0 k) := by decide +kernel
abbrev cX0_init : ByteArray := prog_2_method_1_code
def yX0_init : MethodName := ⟨RX0, "<init>", "()V"⟩
abbrev cX0_take : ByteArray := prog_2_method_2_code
def yX0_take : MethodName := ⟨RX0, "take", "(LBolsterBeds$Shelf;I)Z"⟩
abbrev cX0_thicksFitting : ByteArray := prog_2_method_3_code
def yX0_thicksFitting : MethodName := ⟨RX0, "thicksFitting", "(LBolsterBeds$Town;II)I"⟩
abbrev cX0_kindsFitting : ByteArray := prog_2_method_4_code
def yX0_kindsFitting : MethodName := ⟨RX0, "kindsFitting", "(LBolsterBeds$Town;II)I"⟩
abbrev cX0_tellingNight : ByteArray := prog_2_method_5_code
def yX0_tellingNight : MethodName := ⟨RX0, "tellingNight", "(LBolsterBeds$Town;I)I"⟩
abbrev cX0_greatestPart : ByteArray := prog_2_method_6_code
def yX0_greatestPart : MethodName := ⟨RX0, "greatestPart", "(LBolsterBeds$Town;II)I"⟩
abbrev cX0_fits : ByteArray := prog_2_method_7_code
def yX0_fits : MethodName := ⟨RX0, "fits", "(LBolsterBeds$Town;III)Z"⟩
def RX1 : String := "BolsterBeds$Duel"
def TX1 : u_T := fun k => match k with
  | _ => ("BolsterBeds$Duel", "levels", "LBolsterBeds$Levels;", true)
def tyX1 : Nat → FieldType := fun k => match k with
  | _ => .object "BolsterBeds$Levels"
theorem nmX1 : ∀ a, a < 1 → ∀ b, b < 1 → a ≠ b → (TX1 a).2.1 ≠ (TX1 b).2.1 := by decide +kernel
theorem tyX1_ok : ∀ k, k < 1 → parseFieldDescriptor (TX1 k).2.2.1 = some (tyX1 k) := by decide +kernel
abbrev cX1_init : ByteArray := prog_3_method_1_code
def yX1_init : MethodName := ⟨RX1, "<init>", "()V"⟩
abbrev cX1_foundFrom : ByteArray := prog_3_method_2_code
def yX1_foundFrom : MethodName := ⟨RX1, "foundFrom", "(LBolsterBeds$Town;II)I"⟩
abbrev cX1_fewestFrom : ByteArray := prog_3_method_3_code
def yX1_fewestFrom : MethodName := ⟨RX1, "fewestFrom", "(LBolsterBeds$Town;II)I"⟩
abbrev cX1_mostFrom : ByteArray := prog_3_method_4_code
def yX1_mostFrom : MethodName := ⟨RX1, "mostFrom", "(LBolsterBeds$Town;II)I"⟩
def RX2 : String := "BolsterBeds$Levels"
def TX2 : u_T := fun k => match k with
  | _ => ("BolsterBeds$Levels", "towns", "[LBolsterBeds$Town;", true)
def tyX2 : Nat → FieldType := fun k => match k with
  | _ => .array (.object "BolsterBeds$Town")
theorem nmX2 : ∀ a, a < 1 → ∀ b, b < 1 → a ≠ b → (TX2 a).2.1 ≠ (TX2 b).2.1 := by decide +kernel
theorem tyX2_ok : ∀ k, k < 1 → parseFieldDescriptor (TX2 k).2.2.1 = some (tyX2 k) := by decide +kernel
abbrev cX2_init : ByteArray := prog_4_method_1_code
def yX2_init : MethodName := ⟨RX2, "<init>", "(I)V"⟩
abbrev cX2_copyAt : ByteArray := prog_4_method_2_code
def yX2_copyAt : MethodName := ⟨RX2, "copyAt", "(ILBolsterBeds$Town;)LBolsterBeds$Town;"⟩
def RX3 : String := "BolsterBeds$Marriages"
def TX3 : u_T := fun k => match k with
  | 0 => ("BolsterBeds$Marriages", "first", "[I", true)
  | 1 => ("BolsterBeds$Marriages", "way", "[I", true)
  | _ => ("BolsterBeds$Marriages", "fewest", "I", false)
def tyX3 : Nat → FieldType := fun k => match k with
  | 0 => .array .int
  | 1 => .array .int
  | _ => .int
theorem nmX3 : ∀ a, a < 3 → ∀ b, b < 3 → a ≠ b → (TX3 a).2.1 ≠ (TX3 b).2.1 := by decide +kernel
theorem tyX3_ok : ∀ k, k < 3 → parseFieldDescriptor (TX3 k).2.2.1 = some (tyX3 k) := by decide +kernel
abbrev cX3_init : ByteArray := prog_5_method_1_code
def yX3_init : MethodName := ⟨RX3, "<init>", "()V"⟩
abbrev cX3_fewestCrossing : ByteArray := prog_5_method_2_code
def yX3_fewestCrossing : MethodName := ⟨RX3, "fewestCrossing", "(LBolsterBeds$Town;)I"⟩
abbrev cX3_give : ByteArray := prog_5_method_3_code
def yX3_give : MethodName := ⟨RX3, "give", "(LBolsterBeds$Town;III)V"⟩
def RX4 : String := "BolsterBeds$Reader"
def TX4 : u_T := fun k => match k with
  | 0 => ("BolsterBeds$Reader", "draft", "LBolsterBeds$Town;", true)
  | 1 => ("BolsterBeds$Reader", "signs", "[I", true)
  | 2 => ("BolsterBeds$Reader", "size", "I", false)
  | _ => ("BolsterBeds$Reader", "place", "I", false)
def tyX4 : Nat → FieldType := fun k => match k with
  | 0 => .object "BolsterBeds$Town"
  | 1 => .array .int
  | 2 => .int
  | _ => .int
theorem nmX4 : ∀ a, a < 4 → ∀ b, b < 4 → a ≠ b → (TX4 a).2.1 ≠ (TX4 b).2.1 := by decide +kernel
theorem tyX4_ok : ∀ k, k < 4 → parseFieldDescriptor (TX4 k).2.2.1 = some (tyX4 k) := by decide +kernel
abbrev cX4_init : ByteArray := prog_6_method_1_code
def yX4_init : MethodName := ⟨RX4, "<init>", "()V"⟩
abbrev cX4_readTown : ByteArray := prog_6_method_2_code
def yX4_readTown : MethodName := ⟨RX4, "readTown", "(LBolsterBeds$Shelf;I)I"⟩
abbrev cX4_takesHead : ByteArray := prog_6_method_3_code
def yX4_takesHead : MethodName := ⟨RX4, "takesHead", "()Z"⟩
abbrev cX4_takesBed : ByteArray := prog_6_method_4_code
def yX4_takesBed : MethodName := ⟨RX4, "takesBed", "()Z"⟩
abbrev cX4_skipBlanks : ByteArray := prog_6_method_5_code
def yX4_skipBlanks : MethodName := ⟨RX4, "skipBlanks", "()V"⟩
abbrev cX4_kindHere : ByteArray := prog_6_method_6_code
def yX4_kindHere : MethodName := ⟨RX4, "kindHere", "()I"⟩
abbrev cX4_takeFigure : ByteArray := prog_6_method_7_code
def yX4_takeFigure : MethodName := ⟨RX4, "takeFigure", "(I)I"⟩
abbrev cX4_here : ByteArray := prog_6_method_8_code
def yX4_here : MethodName := ⟨RX4, "here", "()I"⟩
def RX5 : String := "BolsterBeds$Rounds"
def TX5 : u_T := fun k => match k with
  | 0 => ("BolsterBeds$Rounds", "levels", "LBolsterBeds$Levels;", true)
  | 1 => ("BolsterBeds$Rounds", "first", "[I", true)
  | 2 => ("BolsterBeds$Rounds", "trail", "[I", true)
  | _ => ("BolsterBeds$Rounds", "most", "I", false)
def tyX5 : Nat → FieldType := fun k => match k with
  | 0 => .object "BolsterBeds$Levels"
  | 1 => .array .int
  | 2 => .array .int
  | _ => .int
theorem nmX5 : ∀ a, a < 4 → ∀ b, b < 4 → a ≠ b → (TX5 a).2.1 ≠ (TX5 b).2.1 := by decide +kernel
theorem tyX5_ok : ∀ k, k < 4 → parseFieldDescriptor (TX5 k).2.2.1 = some (tyX5 k) := by decide +kernel
abbrev cX5_init : ByteArray := prog_7_method_1_code
def yX5_init : MethodName := ⟨RX5, "<init>", "()V"⟩
abbrev cX5_mostFound : ByteArray := prog_7_method_2_code
def yX5_mostFound : MethodName := ⟨RX5, "mostFound", "(LBolsterBeds$Town;I)I"⟩
abbrev cX5_goOn : ByteArray := prog_7_method_3_code
def yX5_goOn : MethodName := ⟨RX5, "goOn", "(LBolsterBeds$Town;III)V"⟩
abbrev cX5_takeIfMore : ByteArray := prog_7_method_4_code
def yX5_takeIfMore : MethodName := ⟨RX5, "takeIfMore", "(I)V"⟩
def RX6 : String := "BolsterBeds$Shelf"
def TX6 : u_T := fun k => match k with
  | 0 => ("BolsterBeds$Shelf", "room", "I", true)
  | 1 => ("BolsterBeds$Shelf", "sizes", "[I", true)
  | _ => ("BolsterBeds$Shelf", "places", "[I", true)
def tyX6 : Nat → FieldType := fun k => match k with
  | 0 => .int
  | 1 => .array .int
  | _ => .array .int
theorem nmX6 : ∀ a, a < 3 → ∀ b, b < 3 → a ≠ b → (TX6 a).2.1 ≠ (TX6 b).2.1 := by decide +kernel
theorem tyX6_ok : ∀ k, k < 3 → parseFieldDescriptor (TX6 k).2.2.1 = some (tyX6 k) := by decide +kernel
abbrev cX6_init : ByteArray := prog_8_method_1_code
def yX6_init : MethodName := ⟨RX6, "<init>", "(II)V"⟩
abbrev cX6_isNumber : ByteArray := prog_8_method_2_code
def yX6_isNumber : MethodName := ⟨RX6, "isNumber", "(I)Z"⟩
abbrev cX6_stands : ByteArray := prog_8_method_3_code
def yX6_stands : MethodName := ⟨RX6, "stands", "(I)Z"⟩
abbrev cX6_size : ByteArray := prog_8_method_4_code
def yX6_size : MethodName := ⟨RX6, "size", "(I)I"⟩
abbrev cX6_standing : ByteArray := prog_8_method_5_code
def yX6_standing : MethodName := ⟨RX6, "standing", "()I"⟩
abbrev cX6_holds : ByteArray := prog_8_method_6_code
def yX6_holds : MethodName := ⟨RX6, "holds", "(III)Z"⟩
abbrev cX6_get : ByteArray := prog_8_method_7_code
def yX6_get : MethodName := ⟨RX6, "get", "(II)I"⟩
abbrev cX6_set : ByteArray := prog_8_method_8_code
def yX6_set : MethodName := ⟨RX6, "set", "(III)V"⟩
abbrev cX6_make : ByteArray := prog_8_method_9_code
def yX6_make : MethodName := ⟨RX6, "make", "(III)V"⟩
abbrev cX6_makeOf : ByteArray := prog_8_method_10_code
def yX6_makeOf : MethodName := ⟨RX6, "makeOf", "(II[I)V"⟩
abbrev cX6_remove : ByteArray := prog_8_method_11_code
def yX6_remove : MethodName := ⟨RX6, "remove", "(I)V"⟩
abbrev cX6_removeAll : ByteArray := prog_8_method_12_code
def yX6_removeAll : MethodName := ⟨RX6, "removeAll", "()V"⟩
abbrev cX6_move : ByteArray := prog_8_method_13_code
def yX6_move : MethodName := ⟨RX6, "move", "(IIIII)V"⟩
abbrev cX6_digestOn : ByteArray := prog_8_method_14_code
def yX6_digestOn : MethodName := ⟨RX6, "digestOn", "(J)J"⟩
def RX7 : String := "BolsterBeds$Town"
def TX7 : u_T := fun k => match k with
  | 0 => ("BolsterBeds$Town", "colds", "[I", true)
  | 1 => ("BolsterBeds$Town", "kinds", "[I", true)
  | 2 => ("BolsterBeds$Town", "lefts", "[I", true)
  | 3 => ("BolsterBeds$Town", "rights", "[I", true)
  | 4 => ("BolsterBeds$Town", "thicks", "[I", true)
  | 5 => ("BolsterBeds$Town", "lying", "[I", true)
  | 6 => ("BolsterBeds$Town", "timesFound", "[I", true)
  | 7 => ("BolsterBeds$Town", "thread", "I", false)
  | 8 => ("BolsterBeds$Town", "beds", "I", false)
  | _ => ("BolsterBeds$Town", "night", "I", false)
def tyX7 : Nat → FieldType := fun k => match k with
  | 0 => .array .int
  | 1 => .array .int
  | 2 => .array .int
  | 3 => .array .int
  | 4 => .array .int
  | 5 => .array .int
  | 6 => .array .int
  | 7 => .int
  | 8 => .int
  | _ => .int
theorem nmX7 : ∀ a, a < 10 → ∀ b, b < 10 → a ≠ b → (TX7 a).2.1 ≠ (TX7 b).2.1 := by decide +kernel
theorem tyX7_ok : ∀ k, k < 10 → parseFieldDescriptor (TX7 k).2.2.1 = some (tyX7 k) := by decide +kernel
abbrev cX7_init : ByteArray := prog_9_method_1_code
def yX7_init : MethodName := ⟨RX7, "<init>", "()V"⟩
abbrev cX7_copyFrom : ByteArray := prog_9_method_2_code
def yX7_copyFrom : MethodName := ⟨RX7, "copyFrom", "(LBolsterBeds$Town;)V"⟩
abbrev cX7_has : ByteArray := prog_9_method_3_code
def yX7_has : MethodName := ⟨RX7, "has", "(I)Z"⟩
abbrev cX7_kindOf : ByteArray := prog_9_method_4_code
def yX7_kindOf : MethodName := ⟨RX7, "kindOf", "(I)I"⟩
abbrev cX7_thickOf : ByteArray := prog_9_method_5_code
def yX7_thickOf : MethodName := ⟨RX7, "thickOf", "(I)I"⟩
abbrev cX7_liesIn : ByteArray := prog_9_method_6_code
def yX7_liesIn : MethodName := ⟨RX7, "liesIn", "(I)I"⟩
abbrev cX7_coldOf : ByteArray := prog_9_method_7_code
def yX7_coldOf : MethodName := ⟨RX7, "coldOf", "(I)I"⟩
abbrev cX7_gapWith : ByteArray := prog_9_method_8_code
def yX7_gapWith : MethodName := ⟨RX7, "gapWith", "(II)I"⟩
abbrev cX7_crossesWith : ByteArray := prog_9_method_9_code
def yX7_crossesWith : MethodName := ⟨RX7, "crossesWith", "(II)I"⟩
abbrev cX7_crossesAs : ByteArray := prog_9_method_10_code
def yX7_crossesAs : MethodName := ⟨RX7, "crossesAs", "(IIII)I"⟩
abbrev cX7_crossesIn : ByteArray := prog_9_method_11_code
def yX7_crossesIn : MethodName := ⟨RX7, "crossesIn", "(II)I"⟩
abbrev cX7_about : ByteArray := prog_9_method_12_code
def yX7_about : MethodName := ⟨RX7, "about", "(II)I"⟩
abbrev cX7_wouldBeFound : ByteArray := prog_9_method_13_code
def yX7_wouldBeFound : MethodName := ⟨RX7, "wouldBeFound", "(I)Z"⟩
abbrev cX7_wouldBeFoundBits : ByteArray := prog_9_method_14_code
def yX7_wouldBeFoundBits : MethodName := ⟨RX7, "wouldBeFoundBits", "()I"⟩
abbrev cX7_fines : ByteArray := prog_9_method_15_code
def yX7_fines : MethodName := ⟨RX7, "fines", "()I"⟩
abbrev cX7_liesInAll : ByteArray := prog_9_method_16_code
def yX7_liesInAll : MethodName := ⟨RX7, "liesInAll", "()I"⟩
abbrev cX7_quilts : ByteArray := prog_9_method_17_code
def yX7_quilts : MethodName := ⟨RX7, "quilts", "()I"⟩
abbrev cX7_mostLying : ByteArray := prog_9_method_18_code
def yX7_mostLying : MethodName := ⟨RX7, "mostLying", "(I)I"⟩
abbrev cX7_carryOut : ByteArray := prog_9_method_19_code
def yX7_carryOut : MethodName := ⟨RX7, "carryOut", "(I)I"⟩
abbrev cX7_passNight : ByteArray := prog_9_method_20_code
def yX7_passNight : MethodName := ⟨RX7, "passNight", "()I"⟩
abbrev cX7_passAlone : ByteArray := prog_9_method_21_code
def yX7_passAlone : MethodName := ⟨RX7, "passAlone", "(II)V"⟩
abbrev cX7_sleepIn : ByteArray := prog_9_method_22_code
def yX7_sleepIn : MethodName := ⟨RX7, "sleepIn", "(I)I"⟩
abbrev cX7_inspectBed : ByteArray := prog_9_method_23_code
def yX7_inspectBed : MethodName := ⟨RX7, "inspectBed", "(I)I"⟩
abbrev cX7_thinBed : ByteArray := prog_9_method_24_code
def yX7_thinBed : MethodName := ⟨RX7, "thinBed", "(II)V"⟩
abbrev cX7_swapRights : ByteArray := prog_9_method_25_code
def yX7_swapRights : MethodName := ⟨RX7, "swapRights", "(II)V"⟩
abbrev cX7_clearBeds : ByteArray := prog_9_method_26_code
def yX7_clearBeds : MethodName := ⟨RX7, "clearBeds", "()V"⟩
abbrev cX7_addBed : ByteArray := prog_9_method_27_code
def yX7_addBed : MethodName := ⟨RX7, "addBed", "(IIII)V"⟩
def RX8 : String := "BolsterBeds"
def TX8 : u_T := fun k => match k with
  | 0 => ("BolsterBeds", "rows", "LBolsterBeds$Shelf;", true)
  | 1 => ("BolsterBeds", "texts", "LBolsterBeds$Shelf;", true)
  | 2 => ("BolsterBeds", "kept", "LBolsterBeds$Shelf;", true)
  | 3 => ("BolsterBeds", "start", "LBolsterBeds$Town;", true)
  | 4 => ("BolsterBeds", "now", "LBolsterBeds$Town;", true)
  | 5 => ("BolsterBeds", "aside", "LBolsterBeds$Town;", true)
  | 6 => ("BolsterBeds", "deeds", "[I", true)
  | 7 => ("BolsterBeds", "deedCount", "I", false)
  | 8 => ("BolsterBeds", "reader", "LBolsterBeds$Reader;", true)
  | 9 => ("BolsterBeds", "rounds", "LBolsterBeds$Rounds;", true)
  | 10 => ("BolsterBeds", "marriages", "LBolsterBeds$Marriages;", true)
  | 11 => ("BolsterBeds", "clues", "LBolsterBeds$Clues;", true)
  | 12 => ("BolsterBeds", "turns", "LBolsterBeds$Duel;", true)
  | 13 => ("BolsterBeds", "told", "I", false)
  | 14 => ("BolsterBeds", "high", "J", false)
  | 15 => ("BolsterBeds", "low", "J", false)
  | 16 => ("BolsterBeds", "latestFinding", "I", false)
  | _ => ("BolsterBeds", "findingCounts", "[I", true)
def tyX8 : Nat → FieldType := fun k => match k with
  | 0 => .object "BolsterBeds$Shelf"
  | 1 => .object "BolsterBeds$Shelf"
  | 2 => .object "BolsterBeds$Shelf"
  | 3 => .object "BolsterBeds$Town"
  | 4 => .object "BolsterBeds$Town"
  | 5 => .object "BolsterBeds$Town"
  | 6 => .array .int
  | 7 => .int
  | 8 => .object "BolsterBeds$Reader"
  | 9 => .object "BolsterBeds$Rounds"
  | 10 => .object "BolsterBeds$Marriages"
  | 11 => .object "BolsterBeds$Clues"
  | 12 => .object "BolsterBeds$Duel"
  | 13 => .int
  | 14 => .long
  | 15 => .long
  | 16 => .int
  | _ => .array .int
theorem nmX8 : ∀ a, a < 18 → ∀ b, b < 18 → a ≠ b → (TX8 a).2.1 ≠ (TX8 b).2.1 := by decide +kernel
theorem tyX8_ok : ∀ k, k < 18 → parseFieldDescriptor (TX8 k).2.2.1 = some (tyX8 k) := by decide +kernel
abbrev cX8_init : ByteArray := prog_1_method_1_code
def yX8_init : MethodName := ⟨RX8, "<init>", "()V"⟩
abbrev cX8_row : ByteArray := prog_1_method_2_code
def yX8_row : MethodName := ⟨RX8, "row", "(II)I"⟩
abbrev cX8_lay : ByteArray := prog_1_method_3_code
def yX8_lay : MethodName := ⟨RX8, "lay", "(III)I"⟩
abbrev cX8_at : ByteArray := prog_1_method_4_code
def yX8_at : MethodName := ⟨RX8, "at", "(II)I"⟩
abbrev cX8_tear : ByteArray := prog_1_method_5_code
def yX8_tear : MethodName := ⟨RX8, "tear", "(I)I"⟩
abbrev cX8_copy : ByteArray := prog_1_method_6_code
def yX8_copy : MethodName := ⟨RX8, "copy", "(IIIII)I"⟩
abbrev cX8_mean : ByteArray := prog_1_method_7_code
def yX8_mean : MethodName := ⟨RX8, "mean", "(I)I"⟩
abbrev cX8_text : ByteArray := prog_1_method_8_code
def yX8_text : MethodName := ⟨RX8, "text", "(II)I"⟩
abbrev cX8_put : ByteArray := prog_1_method_9_code
def yX8_put : MethodName := ⟨RX8, "put", "(III)I"⟩
abbrev cX8_fault : ByteArray := prog_1_method_10_code
def yX8_fault : MethodName := ⟨RX8, "fault", "(I)I"⟩
abbrev cX8_town : ByteArray := prog_1_method_11_code
def yX8_town : MethodName := ⟨RX8, "town", "(I)I"⟩
abbrev cX8_bed : ByteArray := prog_1_method_12_code
def yX8_bed : MethodName := ⟨RX8, "bed", "(II)I"⟩
abbrev cX8_mark : ByteArray := prog_1_method_13_code
def yX8_mark : MethodName := ⟨RX8, "mark", "(II)I"⟩
abbrev cX8_cross : ByteArray := prog_1_method_14_code
def yX8_cross : MethodName := ⟨RX8, "cross", "(II)I"⟩
abbrev cX8_night : ByteArray := prog_1_method_15_code
def yX8_night : MethodName := ⟨RX8, "night", "()I"⟩
abbrev cX8_inspect : ByteArray := prog_1_method_16_code
def yX8_inspect : MethodName := ⟨RX8, "inspect", "(I)I"⟩
abbrev cX8_thin : ByteArray := prog_1_method_17_code
def yX8_thin : MethodName := ⟨RX8, "thin", "(I)I"⟩
abbrev cX8_swap : ByteArray := prog_1_method_18_code
def yX8_swap : MethodName := ⟨RX8, "swap", "(II)I"⟩
abbrev cX8_undo : ByteArray := prog_1_method_19_code
def yX8_undo : MethodName := ⟨RX8, "undo", "(I)I"⟩
abbrev cX8_keep : ByteArray := prog_1_method_20_code
def yX8_keep : MethodName := ⟨RX8, "keep", "(I)I"⟩
abbrev cX8_on : ByteArray := prog_1_method_21_code
def yX8_on : MethodName := ⟨RX8, "on", "(I)I"⟩
abbrev cX8_then : ByteArray := prog_1_method_22_code
def yX8_then : MethodName := ⟨RX8, "then", "(II)I"⟩
abbrev cX8_when : ByteArray := prog_1_method_23_code
def yX8_when : MethodName := ⟨RX8, "when", "(I)I"⟩
abbrev cX8_least : ByteArray := prog_1_method_24_code
def yX8_least : MethodName := ⟨RX8, "least", "(II)I"⟩
abbrev cX8_round : ByteArray := prog_1_method_25_code
def yX8_round : MethodName := ⟨RX8, "round", "(II)I"⟩
abbrev cX8_brings : ByteArray := prog_1_method_26_code
def yX8_brings : MethodName := ⟨RX8, "brings", "(I)I"⟩
abbrev cX8_marry : ByteArray := prog_1_method_27_code
def yX8_marry : MethodName := ⟨RX8, "marry", "(I)I"⟩
abbrev cX8_rather : ByteArray := prog_1_method_28_code
def yX8_rather : MethodName := ⟨RX8, "rather", "()I"⟩
abbrev cX8_thicks : ByteArray := prog_1_method_29_code
def yX8_thicks : MethodName := ⟨RX8, "thicks", "(II)I"⟩
abbrev cX8_kinds : ByteArray := prog_1_method_30_code
def yX8_kinds : MethodName := ⟨RX8, "kinds", "(II)I"⟩
abbrev cX8_test : ByteArray := prog_1_method_31_code
def yX8_test : MethodName := ⟨RX8, "test", "(II)I"⟩
abbrev cX8_duel : ByteArray := prog_1_method_32_code
def yX8_duel : MethodName := ⟨RX8, "duel", "(I)I"⟩
abbrev cX8_odds : ByteArray := prog_1_method_33_code
def yX8_odds : MethodName := ⟨RX8, "odds", "(II)I"⟩
abbrev cX8_mid : ByteArray := prog_1_method_34_code
def yX8_mid : MethodName := ⟨RX8, "mid", "(I)I"⟩
abbrev cX8_lots : ByteArray := prog_1_method_35_code
def yX8_lots : MethodName := ⟨RX8, "lots", "(II)I"⟩
abbrev cX8_asked : ByteArray := prog_1_method_36_code
def yX8_asked : MethodName := ⟨RX8, "asked", "()I"⟩
abbrev cX8_upper : ByteArray := prog_1_method_37_code
def yX8_upper : MethodName := ⟨RX8, "upper", "()J"⟩
abbrev cX8_lower : ByteArray := prog_1_method_38_code
def yX8_lower : MethodName := ⟨RX8, "lower", "()J"⟩
abbrev cX8_count : ByteArray := prog_1_method_39_code
def yX8_count : MethodName := ⟨RX8, "count", "(I)I"⟩
abbrev cX8_finding : ByteArray := prog_1_method_40_code
def yX8_finding : MethodName := ⟨RX8, "finding", "()I"⟩
abbrev cX8_findings : ByteArray := prog_1_method_41_code
def yX8_findings : MethodName := ⟨RX8, "findings", "(I)I"⟩
abbrev cX8_digest : ByteArray := prog_1_method_42_code
def yX8_digest : MethodName := ⟨RX8, "digest", "()J"⟩
abbrev cX8_tell : ByteArray := prog_1_method_43_code
def yX8_tell : MethodName := ⟨RX8, "tell", "(I)I"⟩
abbrev cX8_refuse : ByteArray := prog_1_method_44_code
def yX8_refuse : MethodName := ⟨RX8, "refuse", "(I)I"⟩
abbrev cX8_makeAnew : ByteArray := prog_1_method_45_code
def yX8_makeAnew : MethodName := ⟨RX8, "makeAnew", "(LBolsterBeds$Shelf;III)I"⟩
abbrev cX8_refusalOfMissing : ByteArray := prog_1_method_46_code
def yX8_refusalOfMissing : MethodName := ⟨RX8, "refusalOfMissing", "(LBolsterBeds$Shelf;I)I"⟩
abbrev cX8_refusalOfPlace : ByteArray := prog_1_method_47_code
def yX8_refusalOfPlace : MethodName := ⟨RX8, "refusalOfPlace", "(LBolsterBeds$Shelf;II)I"⟩
abbrev cX8_takePairs : ByteArray := prog_1_method_48_code
def yX8_takePairs : MethodName := ⟨RX8, "takePairs", "(II)I"⟩
abbrev cX8_isRound : ByteArray := prog_1_method_49_code
def yX8_isRound : MethodName := ⟨RX8, "isRound", "(I)Z"⟩
abbrev cX8_enact : ByteArray := prog_1_method_50_code
def yX8_enact : MethodName := ⟨RX8, "enact", "(III)I"⟩
abbrev cX8_redoFromStart : ByteArray := prog_1_method_51_code
def yX8_redoFromStart : MethodName := ⟨RX8, "redoFromStart", "()V"⟩
abbrev cX8_tellChance : ByteArray := prog_1_method_52_code
def yX8_tellChance : MethodName := ⟨RX8, "tellChance", "(JJ)I"⟩
abbrev cX8_waysOfReport : ByteArray := prog_1_method_53_code
def yX8_waysOfReport : MethodName := ⟨RX8, "waysOfReport", "(III)J"⟩
abbrev cX8_power : ByteArray := prog_1_method_54_code
def yX8_power : MethodName := ⟨RX8, "power", "(II)J"⟩
abbrev cX8_commonDivisor : ByteArray := prog_1_method_55_code
def yX8_commonDivisor : MethodName := ⟨RX8, "commonDivisor", "(JJ)J"⟩
abbrev cX8_read : ByteArray := prog_1_method_56_code
def yX8_read : MethodName := ⟨RX8, "read", "([II)I"⟩
abbrev cX8_write : ByteArray := prog_1_method_57_code
def yX8_write : MethodName := ⟨RX8, "write", "([III)V"⟩
abbrev cX8_shift : ByteArray := prog_1_method_58_code
def yX8_shift : MethodName := ⟨RX8, "shift", "([IIII)V"⟩
abbrev cX8_copyAll : ByteArray := prog_1_method_59_code
def yX8_copyAll : MethodName := ⟨RX8, "copyAll", "([I[I)V"⟩
abbrev cX8_isOfKind : ByteArray := prog_1_method_60_code
def yX8_isOfKind : MethodName := ⟨RX8, "isOfKind", "(II)Z"⟩
abbrev cX8_barOf : ByteArray := prog_1_method_61_code
def yX8_barOf : MethodName := ⟨RX8, "barOf", "(II)I"⟩
abbrev cX8_crossing : ByteArray := prog_1_method_62_code
def yX8_crossing : MethodName := ⟨RX8, "crossing", "(IIIII)I"⟩
def RX9 : String := "BolsterBedsModel"
def TX9 : u_T := fun k => match k with
  | 0 => ("BolsterBedsModel", "w", "[I", true)
  | 1 => ("BolsterBedsModel", "deeds", "I", false)
  | 2 => ("BolsterBedsModel", "keptDeeds", "[I", true)
  | 3 => ("BolsterBedsModel", "rows", "[I", true)
  | 4 => ("BolsterBedsModel", "rowSize", "[I", true)
  | 5 => ("BolsterBedsModel", "texts", "[I", true)
  | 6 => ("BolsterBedsModel", "textSize", "[I", true)
  | 7 => ("BolsterBedsModel", "held", "[I", true)
  | 8 => ("BolsterBedsModel", "finding", "I", false)
  | 9 => ("BolsterBedsModel", "findings", "[I", true)
  | 10 => ("BolsterBedsModel", "asked", "I", false)
  | 11 => ("BolsterBedsModel", "upper", "J", false)
  | 12 => ("BolsterBedsModel", "lower", "J", false)
  | 13 => ("BolsterBedsModel", "position", "I", false)
  | 14 => ("BolsterBedsModel", "parts", "[I", true)
  | 15 => ("BolsterBedsModel", "values", "[I", true)
  | _ => ("BolsterBedsModel", "h", "J", false)
def tyX9 : Nat → FieldType := fun k => match k with
  | 0 => .array .int
  | 1 => .int
  | 2 => .array .int
  | 3 => .array .int
  | 4 => .array .int
  | 5 => .array .int
  | 6 => .array .int
  | 7 => .array .int
  | 8 => .int
  | 9 => .array .int
  | 10 => .int
  | 11 => .long
  | 12 => .long
  | 13 => .int
  | 14 => .array .int
  | 15 => .array .int
  | _ => .long
theorem nmX9 : ∀ a, a < 17 → ∀ b, b < 17 → a ≠ b → (TX9 a).2.1 ≠ (TX9 b).2.1 := by decide +kernel
theorem tyX9_ok : ∀ k, k < 17 → parseFieldDescriptor (TX9 k).2.2.1 = some (tyX9 k) := by decide +kernel
abbrev cX9_init : ByteArray := prog_11_method_1_code
def yX9_init : MethodName := ⟨RX9, "<init>", "()V"⟩
abbrev cX9_in : ByteArray := prog_11_method_3_code
def yX9_in : MethodName := ⟨RX9, "in", "(JJJ)Z"⟩
abbrev cX9_has : ByteArray := prog_11_method_4_code
def yX9_has : MethodName := ⟨RX9, "has", "(II)Z"⟩
abbrev cX9_ones : ByteArray := prog_11_method_5_code
def yX9_ones : MethodName := ⟨RX9, "ones", "(I)I"⟩
abbrev cX9_off : ByteArray := prog_11_method_6_code
def yX9_off : MethodName := ⟨RX9, "off", "(II)I"⟩
abbrev cX9_found : ByteArray := prog_11_method_7_code
def yX9_found : MethodName := ⟨RX9, "found", "(I)I"⟩
abbrev cX9_tells : ByteArray := prog_11_method_8_code
def yX9_tells : MethodName := ⟨RX9, "tells", "(II)I"⟩
abbrev cX9_copyAll : ByteArray := prog_11_method_9_code
def yX9_copyAll : MethodName := ⟨RX9, "copyAll", "(III)V"⟩
abbrev cX9_isRow : ByteArray := prog_11_method_10_code
def yX9_isRow : MethodName := ⟨RX9, "isRow", "(I)Z"⟩
abbrev cX9_isText : ByteArray := prog_11_method_11_code
def yX9_isText : MethodName := ⟨RX9, "isText", "(I)Z"⟩
abbrev cX9_anew : ByteArray := prog_11_method_12_code
def yX9_anew : MethodName := ⟨RX9, "anew", "(II)V"⟩
abbrev cX9_row : ByteArray := prog_11_method_13_code
def yX9_row : MethodName := ⟨RX9, "row", "(II)I"⟩
abbrev cX9_lay : ByteArray := prog_11_method_14_code
def yX9_lay : MethodName := ⟨RX9, "lay", "(III)I"⟩
abbrev cX9_at : ByteArray := prog_11_method_15_code
def yX9_at : MethodName := ⟨RX9, "at", "(II)I"⟩
abbrev cX9_tear : ByteArray := prog_11_method_16_code
def yX9_tear : MethodName := ⟨RX9, "tear", "(I)I"⟩
abbrev cX9_fits : ByteArray := prog_11_method_17_code
def yX9_fits : MethodName := ⟨RX9, "fits", "(III)Z"⟩
abbrev cX9_copy : ByteArray := prog_11_method_18_code
def yX9_copy : MethodName := ⟨RX9, "copy", "(IIIII)I"⟩
abbrev cX9_mean : ByteArray := prog_11_method_19_code
def yX9_mean : MethodName := ⟨RX9, "mean", "(I)I"⟩
abbrev cX9_text : ByteArray := prog_11_method_20_code
def yX9_text : MethodName := ⟨RX9, "text", "(II)I"⟩
abbrev cX9_put : ByteArray := prog_11_method_21_code
def yX9_put : MethodName := ⟨RX9, "put", "(III)I"⟩
abbrev cX9_kindOf : ByteArray := prog_11_method_22_code
def yX9_kindOf : MethodName := ⟨RX9, "kindOf", "(I)I"⟩
abbrev cX9_byteAt : ByteArray := prog_11_method_23_code
def yX9_byteAt : MethodName := ⟨RX9, "byteAt", "(II)I"⟩
abbrev cX9_blanks : ByteArray := prog_11_method_24_code
def yX9_blanks : MethodName := ⟨RX9, "blanks", "(I)V"⟩
abbrev cX9_figures : ByteArray := prog_11_method_25_code
def yX9_figures : MethodName := ⟨RX9, "figures", "(IIIII)Z"⟩
abbrev cX9_takesFirst : ByteArray := prog_11_method_26_code
def yX9_takesFirst : MethodName := ⟨RX9, "takesFirst", "(I)Z"⟩
abbrev cX9_takesBed : ByteArray := prog_11_method_27_code
def yX9_takesBed : MethodName := ⟨RX9, "takesBed", "(I)Z"⟩
abbrev cX9_faultOf : ByteArray := prog_11_method_28_code
def yX9_faultOf : MethodName := ⟨RX9, "faultOf", "(I)I"⟩
abbrev cX9_fault : ByteArray := prog_11_method_29_code
def yX9_fault : MethodName := ⟨RX9, "fault", "(I)I"⟩
abbrev cX9_town : ByteArray := prog_11_method_30_code
def yX9_town : MethodName := ⟨RX9, "town", "(I)I"⟩
abbrev cX9_isBed : ByteArray := prog_11_method_31_code
def yX9_isBed : MethodName := ⟨RX9, "isBed", "(I)Z"⟩
abbrev cX9_isTown : ByteArray := prog_11_method_32_code
def yX9_isTown : MethodName := ⟨RX9, "isTown", "()Z"⟩
abbrev cX9_barOf : ByteArray := prog_11_method_33_code
def yX9_barOf : MethodName := ⟨RX9, "barOf", "(II)I"⟩
abbrev cX9_crossBy : ByteArray := prog_11_method_34_code
def yX9_crossBy : MethodName := ⟨RX9, "crossBy", "(IIII)I"⟩
abbrev cX9_gapIn : ByteArray := prog_11_method_35_code
def yX9_gapIn : MethodName := ⟨RX9, "gapIn", "(II)I"⟩
abbrev cX9_crossIn : ByteArray := prog_11_method_36_code
def yX9_crossIn : MethodName := ⟨RX9, "crossIn", "(II)I"⟩
abbrev cX9_passes : ByteArray := prog_11_method_37_code
def yX9_passes : MethodName := ⟨RX9, "passes", "(I)I"⟩
abbrev cX9_isDue : ByteArray := prog_11_method_38_code
def yX9_isDue : MethodName := ⟨RX9, "isDue", "(II)Z"⟩
abbrev cX9_inspects : ByteArray := prog_11_method_39_code
def yX9_inspects : MethodName := ⟨RX9, "inspects", "(II)I"⟩
abbrev cX9_bedTells : ByteArray := prog_11_method_40_code
def yX9_bedTells : MethodName := ⟨RX9, "bedTells", "(II)I"⟩
abbrev cX9_bed : ByteArray := prog_11_method_41_code
def yX9_bed : MethodName := ⟨RX9, "bed", "(II)I"⟩
abbrev cX9_crossAs : ByteArray := prog_11_method_42_code
def yX9_crossAs : MethodName := ⟨RX9, "crossAs", "(II)I"⟩
abbrev cX9_mark : ByteArray := prog_11_method_43_code
def yX9_mark : MethodName := ⟨RX9, "mark", "(II)I"⟩
abbrev cX9_cross : ByteArray := prog_11_method_44_code
def yX9_cross : MethodName := ⟨RX9, "cross", "(II)I"⟩
abbrev cX9_minds : ByteArray := prog_11_method_45_code
def yX9_minds : MethodName := ⟨RX9, "minds", "()V"⟩
abbrev cX9_night : ByteArray := prog_11_method_46_code
def yX9_night : MethodName := ⟨RX9, "night", "()I"⟩
abbrev cX9_inspect : ByteArray := prog_11_method_47_code
def yX9_inspect : MethodName := ⟨RX9, "inspect", "(I)I"⟩
abbrev cX9_thin : ByteArray := prog_11_method_48_code
def yX9_thin : MethodName := ⟨RX9, "thin", "(I)I"⟩
abbrev cX9_swap : ByteArray := prog_11_method_49_code
def yX9_swap : MethodName := ⟨RX9, "swap", "(II)I"⟩
abbrev cX9_undo : ByteArray := prog_11_method_50_code
def yX9_undo : MethodName := ⟨RX9, "undo", "(I)I"⟩
abbrev cX9_isKept : ByteArray := prog_11_method_51_code
def yX9_isKept : MethodName := ⟨RX9, "isKept", "(I)Z"⟩
abbrev cX9_keep : ByteArray := prog_11_method_52_code
def yX9_keep : MethodName := ⟨RX9, "keep", "(I)I"⟩
abbrev cX9_on : ByteArray := prog_11_method_53_code
def yX9_on : MethodName := ⟨RX9, "on", "(I)I"⟩
abbrev cX9_tries : ByteArray := prog_11_method_54_code
def yX9_tries : MethodName := ⟨RX9, "tries", "()V"⟩
abbrev cX9_triesNights : ByteArray := prog_11_method_55_code
def yX9_triesNights : MethodName := ⟨RX9, "triesNights", "(I)V"⟩
abbrev cX9_then : ByteArray := prog_11_method_56_code
def yX9_then : MethodName := ⟨RX9, "then", "(II)I"⟩
abbrev cX9_when : ByteArray := prog_11_method_57_code
def yX9_when : MethodName := ⟨RX9, "when", "(I)I"⟩
abbrev cX9_least : ByteArray := prog_11_method_58_code
def yX9_least : MethodName := ⟨RX9, "least", "(II)I"⟩
abbrev cX9_round : ByteArray := prog_11_method_59_code
def yX9_round : MethodName := ⟨RX9, "round", "(II)I"⟩
abbrev cX9_brings : ByteArray := prog_11_method_60_code
def yX9_brings : MethodName := ⟨RX9, "brings", "(I)I"⟩
abbrev cX9_crossWith : ByteArray := prog_11_method_61_code
def yX9_crossWith : MethodName := ⟨RX9, "crossWith", "(II)I"⟩
abbrev cX9_marry : ByteArray := prog_11_method_62_code
def yX9_marry : MethodName := ⟨RX9, "marry", "(I)I"⟩
abbrev cX9_wantsRight : ByteArray := prog_11_method_63_code
def yX9_wantsRight : MethodName := ⟨RX9, "wantsRight", "(II)Z"⟩
abbrev cX9_rather : ByteArray := prog_11_method_64_code
def yX9_rather : MethodName := ⟨RX9, "rather", "()I"⟩
abbrev cX9_against : ByteArray := prog_11_method_65_code
def yX9_against : MethodName := ⟨RX9, "against", "(I)I"⟩
abbrev cX9_crossedSo : ByteArray := prog_11_method_66_code
def yX9_crossedSo : MethodName := ⟨RX9, "crossedSo", "(IIII)Z"⟩
abbrev cX9_thicks : ByteArray := prog_11_method_67_code
def yX9_thicks : MethodName := ⟨RX9, "thicks", "(II)I"⟩
abbrev cX9_kinds : ByteArray := prog_11_method_68_code
def yX9_kinds : MethodName := ⟨RX9, "kinds", "(II)I"⟩
abbrev cX9_test : ByteArray := prog_11_method_69_code
def yX9_test : MethodName := ⟨RX9, "test", "(II)I"⟩
abbrev cX9_duel : ByteArray := prog_11_method_70_code
def yX9_duel : MethodName := ⟨RX9, "duel", "(I)I"⟩
abbrev cX9_tellsParts : ByteArray := prog_11_method_71_code
def yX9_tellsParts : MethodName := ⟨RX9, "tellsParts", "(JJ)I"⟩
abbrev cX9_dueNow : ByteArray := prog_11_method_72_code
def yX9_dueNow : MethodName := ⟨RX9, "dueNow", "()I"⟩
abbrev cX9_waysOf : ByteArray := prog_11_method_73_code
def yX9_waysOf : MethodName := ⟨RX9, "waysOf", "(III)J"⟩
abbrev cX9_allWays : ByteArray := prog_11_method_74_code
def yX9_allWays : MethodName := ⟨RX9, "allWays", "(I)J"⟩
abbrev cX9_odds : ByteArray := prog_11_method_75_code
def yX9_odds : MethodName := ⟨RX9, "odds", "(II)I"⟩
abbrev cX9_mid : ByteArray := prog_11_method_76_code
def yX9_mid : MethodName := ⟨RX9, "mid", "(I)I"⟩
abbrev cX9_lots : ByteArray := prog_11_method_77_code
def yX9_lots : MethodName := ⟨RX9, "lots", "(II)I"⟩
abbrev cX9_asked : ByteArray := prog_11_method_78_code
def yX9_asked : MethodName := ⟨RX9, "asked", "()I"⟩
abbrev cX9_upper : ByteArray := prog_11_method_79_code
def yX9_upper : MethodName := ⟨RX9, "upper", "()J"⟩
abbrev cX9_lower : ByteArray := prog_11_method_80_code
def yX9_lower : MethodName := ⟨RX9, "lower", "()J"⟩
abbrev cX9_countOf : ByteArray := prog_11_method_81_code
def yX9_countOf : MethodName := ⟨RX9, "countOf", "(I)I"⟩
abbrev cX9_count : ByteArray := prog_11_method_82_code
def yX9_count : MethodName := ⟨RX9, "count", "(I)I"⟩
abbrev cX9_finding : ByteArray := prog_11_method_83_code
def yX9_finding : MethodName := ⟨RX9, "finding", "()I"⟩
abbrev cX9_findings : ByteArray := prog_11_method_84_code
def yX9_findings : MethodName := ⟨RX9, "findings", "(I)I"⟩
abbrev cX9_mix : ByteArray := prog_11_method_85_code
def yX9_mix : MethodName := ⟨RX9, "mix", "(J)V"⟩
abbrev cX9_digest : ByteArray := prog_11_method_86_code
def yX9_digest : MethodName := ⟨RX9, "digest", "()J"⟩
def RJ6 : String := "java/lang/Integer"
def TJ6 : u_T := fun k => match k with
  | _ => ("", "", "", false)
def tyJ6 : Nat → FieldType := fun k => match k with
  | _ => .int
theorem nmJ6 : ∀ a, a < 0 → ∀ b, b < 0 → a ≠ b → (TJ6 a).2.1 ≠ (TJ6 b).2.1 := by decide +kernel
theorem tyJ6_ok : ∀ k, k < 0 → parseFieldDescriptor (TJ6 k).2.2.1 = some (tyJ6 k) := by decide +kernel
abbrev cJ6_bitCount_0f7a4 : ByteArray := prog_12_method_49_code
def yJ6_bitCount_0f7a4 : MethodName := ⟨RJ6, "bitCount", "(I)I"⟩
def RJ9 : String := "java/lang/Math"
def TJ9 : u_T := fun k => match k with
  | _ => ("", "", "", false)
def tyJ9 : Nat → FieldType := fun k => match k with
  | _ => .int
theorem nmJ9 : ∀ a, a < 0 → ∀ b, b < 0 → a ≠ b → (TJ9 a).2.1 ≠ (TJ9 b).2.1 := by decide +kernel
theorem tyJ9_ok : ∀ k, k < 0 → parseFieldDescriptor (TJ9 k).2.2.1 = some (tyJ9 k) := by decide +kernel
abbrev cJ9_abs_0f7a4 : ByteArray := prog_13_method_59_code
def yJ9_abs_0f7a4 : MethodName := ⟨RJ9, "abs", "(I)I"⟩
abbrev cJ9_max_7cf53 : ByteArray := prog_13_method_65_code
def yJ9_max_7cf53 : MethodName := ⟨RJ9, "max", "(II)I"⟩
abbrev cJ9_min_7cf53 : ByteArray := prog_13_method_69_code
def yJ9_min_7cf53 : MethodName := ⟨RJ9, "min", "(II)I"⟩
def RJ10 : String := "java/lang/System"
def TJ10 : u_T := fun k => match k with
  | _ => ("", "", "", false)
def tyJ10 : Nat → FieldType := fun k => match k with
  | _ => .int
theorem nmJ10 : ∀ a, a < 0 → ∀ b, b < 0 → a ≠ b → (TJ10 a).2.1 ≠ (TJ10 b).2.1 := by decide +kernel
theorem tyJ10_ok : ∀ k, k < 0 → parseFieldDescriptor (TJ10 k).2.2.1 = some (tyJ10 k) := by decide +kernel
def RJ7 : String := "java/util/Arrays"
def TJ7 : u_T := fun k => match k with
  | _ => ("", "", "", false)
def tyJ7 : Nat → FieldType := fun k => match k with
  | _ => .int
theorem nmJ7 : ∀ a, a < 0 → ∀ b, b < 0 → a ≠ b → (TJ7 a).2.1 ≠ (TJ7 b).2.1 := by decide +kernel
theorem tyJ7_ok : ∀ k, k < 0 → parseFieldDescriptor (TJ7 k).2.2.1 = some (tyJ7 k) := by decide +kernel
abbrev cJ7_fill_53178 : ByteArray := prog_15_method_103_code
def yJ7_fill_53178 : MethodName := ⟨RJ7, "fill", "([II)V"⟩
def RL : String := "BolsterBedsLaw"
abbrev cL_law : ByteArray := code
def yL_law : MethodName := ⟨RL, "law", "([I)Z"⟩
end
section
theorem dX0_init_0 : decode cX0_init 0 = .ok (.aload_n 0, 1) := by decide +kernel
theorem dX0_init_1 : decode cX0_init 1 = .ok (.invokespecial 3, 3) := by decide +kernel
theorem dX0_init_4 : decode cX0_init 4 = .ok (.aload_n 0, 1) := by decide +kernel
theorem dX0_init_5 : decode cX0_init 5 = .ok (.bipush 20, 2) := by decide +kernel
theorem dX0_init_7 : decode cX0_init 7 = .ok (.newarray .int, 2) := by decide +kernel
theorem dX0_init_9 : decode cX0_init 9 = .ok (.putfield 9, 3) := by decide +kernel
theorem dX0_init_12 : decode cX0_init 12 = .ok (.aload_n 0, 1) := by decide +kernel
theorem dX0_init_13 : decode cX0_init 13 = .ok (.bipush 20, 2) := by decide +kernel
theorem dX0_init_15 : decode cX0_init 15 = .ok (.newarray .int, 2) := by decide +kernel
theorem dX0_init_17 : decode cX0_init 17 = .ok (.putfield 15, 3) := by decide +kernel
theorem dX0_init_20 : decode cX0_init 20 = .ok (.aload_n 0, 1) := by decide +kernel
theorem dX0_init_21 : decode cX0_init 21 = .ok (.bipush 6, 2) := by decide +kernel
theorem dX0_init_23 : decode cX0_init 23 = .ok (.newarray .int, 2) := by decide +kernel
theorem dX0_init_25 : decode cX0_init 25 = .ok (.putfield 18, 3) := by decide +kernel
theorem dX0_init_28 : decode cX0_init 28 = .ok (.aload_n 0, 1) := by decide +kernel
theorem dX0_init_29 : decode cX0_init 29 = .ok (.bipush 31, 2) := by decide +kernel
theorem dX0_init_31 : decode cX0_init 31 = .ok (.newarray .int, 2) := by decide +kernel
theorem dX0_init_33 : decode cX0_init 33 = .ok (.putfield 21, 3) := by decide +kernel
theorem dX0_init_36 : decode cX0_init 36 = .ok (.aload_n 0, 1) := by decide +kernel
theorem dX0_init_37 : decode cX0_init 37 = .ok (.iconst 0, 1) := by decide +kernel
theorem dX0_init_38 : decode cX0_init 38 = .ok (.putfield 24, 3) := by decide +kernel
theorem dX0_init_41 : decode cX0_init 41 = .ok (.aload_n 0, 1) := by decide +kernel
theorem dX0_init_42 : decode cX0_init 42 = .ok (.iconst 0, 1) := by decide +kernel
theorem dX0_init_43 : decode cX0_init 43 = .ok (.putfield 28, 3) := by decide +kernel
theorem dX0_init_46 : decode cX0_init 46 = .ok (.return_, 1) := by decide +kernel
theorem dX0_take_0 : decode cX0_take 0 = .ok (.aload_n 0, 1) := by decide +kernel
theorem dX0_take_1 : decode cX0_take 1 = .ok (.aload_n 1, 1) := by decide +kernel
theorem dX0_take_2 : decode cX0_take 2 = .ok (.iload_n 2, 1) := by decide +kernel
theorem dX0_take_3 : decode cX0_take 3 = .ok (.invokevirtual 31, 3) := by decide +kernel
theorem dX0_take_6 : decode cX0_take 6 = .ok (.iconst 2, 1) := by decide +kernel
theorem dX0_take_7 : decode cX0_take 7 = .ok (.idiv, 1) := by decide +kernel
theorem dX0_take_8 : decode cX0_take 8 = .ok (.putfield 24, 3) := by decide +kernel
theorem dX0_take_11 : decode cX0_take 11 = .ok (.iconst 0, 1) := by decide +kernel
theorem dX0_take_12 : decode cX0_take 12 = .ok (.istore_n 3, 1) := by decide +kernel
theorem dX0_take_13 : decode cX0_take 13 = .ok (.iload_n 3, 1) := by decide +kernel
theorem dX0_take_14 : decode cX0_take 14 = .ok (.aload_n 0, 1) := by decide +kernel
theorem dX0_take_15 : decode cX0_take 15 = .ok (.getfield 24, 3) := by decide +kernel
theorem dX0_take_18 : decode cX0_take 18 = .ok (.if_icmp .ge 77, 3) := by decide +kernel
theorem dX0_take_21 : decode cX0_take 21 = .ok (.aload_n 1, 1) := by decide +kernel
theorem dX0_take_22 : decode cX0_take 22 = .ok (.iload_n 2, 1) := by decide +kernel
theorem dX0_take_23 : decode cX0_take 23 = .ok (.iconst 2, 1) := by decide +kernel
theorem dX0_take_24 : decode cX0_take 24 = .ok (.iload_n 3, 1) := by decide +kernel
theorem dX0_take_25 : decode cX0_take 25 = .ok (.imul, 1) := by decide +kernel
theorem dX0_take_26 : decode cX0_take 26 = .ok (.invokevirtual 37, 3) := by decide +kernel
theorem dX0_take_29 : decode cX0_take 29 = .ok (.istore 4, 2) := by decide +kernel
theorem dX0_take_31 : decode cX0_take 31 = .ok (.aload_n 1, 1) := by decide +kernel
theorem dX0_take_32 : decode cX0_take 32 = .ok (.iload_n 2, 1) := by decide +kernel
theorem dX0_take_33 : decode cX0_take 33 = .ok (.iconst 2, 1) := by decide +kernel
theorem dX0_take_34 : decode cX0_take 34 = .ok (.iload_n 3, 1) := by decide +kernel
theorem dX0_take_35 : decode cX0_take 35 = .ok (.imul, 1) := by decide +kernel
theorem dX0_take_36 : decode cX0_take 36 = .ok (.iconst 1, 1) := by decide +kernel
theorem dX0_take_37 : decode cX0_take 37 = .ok (.iadd, 1) := by decide +kernel
theorem dX0_take_38 : decode cX0_take 38 = .ok (.invokevirtual 37, 3) := by decide +kernel
theorem dX0_take_41 : decode cX0_take 41 = .ok (.istore 5, 2) := by decide +kernel
theorem dX0_take_43 : decode cX0_take 43 = .ok (.aload_n 0, 1) := by decide +kernel
theorem dX0_take_44 : decode cX0_take 44 = .ok (.getfield 9, 3) := by decide +kernel
theorem dX0_take_47 : decode cX0_take 47 = .ok (.iload_n 3, 1) := by decide +kernel
theorem dX0_take_48 : decode cX0_take 48 = .ok (.iload 4, 2) := by decide +kernel
theorem dX0_take_50 : decode cX0_take 50 = .ok (.invokestatic 41, 3) := by decide +kernel
theorem dX0_take_53 : decode cX0_take 53 = .ok (.aload_n 0, 1) := by decide +kernel
theorem dX0_take_54 : decode cX0_take 54 = .ok (.getfield 15, 3) := by decide +kernel
theorem dX0_take_57 : decode cX0_take 57 = .ok (.iload_n 3, 1) := by decide +kernel
theorem dX0_take_58 : decode cX0_take 58 = .ok (.iload 5, 2) := by decide +kernel
theorem dX0_take_60 : decode cX0_take 60 = .ok (.invokestatic 41, 3) := by decide +kernel
theorem dX0_take_63 : decode cX0_take 63 = .ok (.iload 4, 2) := by decide +kernel
theorem dX0_take_65 : decode cX0_take 65 = .ok (.ifCond .lt 22, 3) := by decide +kernel
theorem dX0_take_68 : decode cX0_take 68 = .ok (.iload 4, 2) := by decide +kernel
theorem dX0_take_70 : decode cX0_take 70 = .ok (.bipush 99, 2) := by decide +kernel
theorem dX0_take_72 : decode cX0_take 72 = .ok (.if_icmp .gt 15, 3) := by decide +kernel
theorem dX0_take_75 : decode cX0_take 75 = .ok (.iload 5, 2) := by decide +kernel
theorem dX0_take_77 : decode cX0_take 77 = .ok (.ifCond .lt 10, 3) := by decide +kernel
theorem dX0_take_80 : decode cX0_take 80 = .ok (.iload 5, 2) := by decide +kernel
theorem dX0_take_82 : decode cX0_take 82 = .ok (.bipush 30, 2) := by decide +kernel
theorem dX0_take_84 : decode cX0_take 84 = .ok (.if_icmp .le 5, 3) := by decide +kernel
theorem dX0_take_87 : decode cX0_take 87 = .ok (.iconst 0, 1) := by decide +kernel
theorem dX0_take_88 : decode cX0_take 88 = .ok (.ireturn, 1) := by decide +kernel
theorem dX0_take_89 : decode cX0_take 89 = .ok (.iinc 3 1, 3) := by decide +kernel
theorem dX0_take_92 : decode cX0_take 92 = .ok (.goto (-79), 3) := by decide +kernel
theorem dX0_take_95 : decode cX0_take 95 = .ok (.iconst 1, 1) := by decide +kernel
theorem dX0_take_96 : decode cX0_take 96 = .ok (.ireturn, 1) := by decide +kernel
theorem dX0_thicksFitting_0 : decode cX0_thicksFitting 0 = .ok (.iconst 0, 1) := by decide +kernel
theorem dX0_thicksFitting_1 : decode cX0_thicksFitting 1 = .ok (.istore 4, 2) := by decide +kernel
theorem dX0_thicksFitting_3 : decode cX0_thicksFitting 3 = .ok (.iconst 0, 1) := by decide +kernel
theorem dX0_thicksFitting_4 : decode cX0_thicksFitting 4 = .ok (.istore 5, 2) := by decide +kernel
theorem dX0_thicksFitting_6 : decode cX0_thicksFitting 6 = .ok (.iload 5, 2) := by decide +kernel
theorem dX0_thicksFitting_8 : decode cX0_thicksFitting 8 = .ok (.bipush 9, 2) := by decide +kernel
theorem dX0_thicksFitting_10 : decode cX0_thicksFitting 10 = .ok (.if_icmp .gt 34, 3) := by decide +kernel
theorem dX0_thicksFitting_13 : decode cX0_thicksFitting 13 = .ok (.iload 4, 2) := by decide +kernel
theorem dX0_thicksFitting_15 : decode cX0_thicksFitting 15 = .ok (.aload_n 0, 1) := by decide +kernel
theorem dX0_thicksFitting_16 : decode cX0_thicksFitting 16 = .ok (.aload_n 1, 1) := by decide +kernel
theorem dX0_thicksFitting_17 : decode cX0_thicksFitting 17 = .ok (.iload_n 2, 1) := by decide +kernel
theorem dX0_thicksFitting_18 : decode cX0_thicksFitting 18 = .ok (.iload_n 3, 1) := by decide +kernel
theorem dX0_thicksFitting_19 : decode cX0_thicksFitting 19 = .ok (.iload 5, 2) := by decide +kernel
theorem dX0_thicksFitting_21 : decode cX0_thicksFitting 21 = .ok (.invokevirtual 45, 3) := by decide +kernel
theorem dX0_thicksFitting_24 : decode cX0_thicksFitting 24 = .ok (.ifCond .eq 10, 3) := by decide +kernel
theorem dX0_thicksFitting_27 : decode cX0_thicksFitting 27 = .ok (.iconst 1, 1) := by decide +kernel
theorem dX0_thicksFitting_28 : decode cX0_thicksFitting 28 = .ok (.iload 5, 2) := by decide +kernel
theorem dX0_thicksFitting_30 : decode cX0_thicksFitting 30 = .ok (.ishl, 1) := by decide +kernel
theorem dX0_thicksFitting_31 : decode cX0_thicksFitting 31 = .ok (.goto 4, 3) := by decide +kernel
theorem dX0_thicksFitting_34 : decode cX0_thicksFitting 34 = .ok (.iconst 0, 1) := by decide +kernel
theorem dX0_thicksFitting_35 : decode cX0_thicksFitting 35 = .ok (.ior, 1) := by decide +kernel
theorem dX0_thicksFitting_36 : decode cX0_thicksFitting 36 = .ok (.istore 4, 2) := by decide +kernel
theorem dX0_thicksFitting_38 : decode cX0_thicksFitting 38 = .ok (.iinc 5 1, 3) := by decide +kernel
theorem dX0_thicksFitting_41 : decode cX0_thicksFitting 41 = .ok (.goto (-35), 3) := by decide +kernel
theorem dX0_thicksFitting_44 : decode cX0_thicksFitting 44 = .ok (.iload 4, 2) := by decide +kernel
theorem dX0_thicksFitting_46 : decode cX0_thicksFitting 46 = .ok (.ireturn, 1) := by decide +kernel
theorem dX0_kindsFitting_0 : decode cX0_kindsFitting 0 = .ok (.iconst 0, 1) := by decide +kernel
theorem dX0_kindsFitting_1 : decode cX0_kindsFitting 1 = .ok (.istore 4, 2) := by decide +kernel
theorem dX0_kindsFitting_3 : decode cX0_kindsFitting 3 = .ok (.iconst 0, 1) := by decide +kernel
theorem dX0_kindsFitting_4 : decode cX0_kindsFitting 4 = .ok (.istore 5, 2) := by decide +kernel
theorem dX0_kindsFitting_6 : decode cX0_kindsFitting 6 = .ok (.iload 5, 2) := by decide +kernel
theorem dX0_kindsFitting_8 : decode cX0_kindsFitting 8 = .ok (.bipush 6, 2) := by decide +kernel
theorem dX0_kindsFitting_10 : decode cX0_kindsFitting 10 = .ok (.if_icmp .ge 34, 3) := by decide +kernel
theorem dX0_kindsFitting_13 : decode cX0_kindsFitting 13 = .ok (.iload 4, 2) := by decide +kernel
theorem dX0_kindsFitting_15 : decode cX0_kindsFitting 15 = .ok (.aload_n 0, 1) := by decide +kernel
theorem dX0_kindsFitting_16 : decode cX0_kindsFitting 16 = .ok (.aload_n 1, 1) := by decide +kernel
theorem dX0_kindsFitting_17 : decode cX0_kindsFitting 17 = .ok (.iload_n 2, 1) := by decide +kernel
theorem dX0_kindsFitting_18 : decode cX0_kindsFitting 18 = .ok (.iload 5, 2) := by decide +kernel
theorem dX0_kindsFitting_20 : decode cX0_kindsFitting 20 = .ok (.iload_n 3, 1) := by decide +kernel
theorem dX0_kindsFitting_21 : decode cX0_kindsFitting 21 = .ok (.invokevirtual 45, 3) := by decide +kernel
theorem dX0_kindsFitting_24 : decode cX0_kindsFitting 24 = .ok (.ifCond .eq 10, 3) := by decide +kernel
theorem dX0_kindsFitting_27 : decode cX0_kindsFitting 27 = .ok (.iconst 1, 1) := by decide +kernel
theorem dX0_kindsFitting_28 : decode cX0_kindsFitting 28 = .ok (.iload 5, 2) := by decide +kernel
theorem dX0_kindsFitting_30 : decode cX0_kindsFitting 30 = .ok (.ishl, 1) := by decide +kernel
theorem dX0_kindsFitting_31 : decode cX0_kindsFitting 31 = .ok (.goto 4, 3) := by decide +kernel
theorem dX0_kindsFitting_34 : decode cX0_kindsFitting 34 = .ok (.iconst 0, 1) := by decide +kernel
theorem dX0_kindsFitting_35 : decode cX0_kindsFitting 35 = .ok (.ior, 1) := by decide +kernel
theorem dX0_kindsFitting_36 : decode cX0_kindsFitting 36 = .ok (.istore 4, 2) := by decide +kernel
theorem dX0_kindsFitting_38 : decode cX0_kindsFitting 38 = .ok (.iinc 5 1, 3) := by decide +kernel
theorem dX0_kindsFitting_41 : decode cX0_kindsFitting 41 = .ok (.goto (-35), 3) := by decide +kernel
theorem dX0_kindsFitting_44 : decode cX0_kindsFitting 44 = .ok (.iload 4, 2) := by decide +kernel
theorem dX0_kindsFitting_46 : decode cX0_kindsFitting 46 = .ok (.ireturn, 1) := by decide +kernel
theorem dX0_tellingNight_0 : decode cX0_tellingNight 0 = .ok (.iconst 0, 1) := by decide +kernel
theorem dX0_tellingNight_1 : decode cX0_tellingNight 1 = .ok (.istore_n 3, 1) := by decide +kernel
theorem dX0_tellingNight_2 : decode cX0_tellingNight 2 = .ok (.iconst 0, 1) := by decide +kernel
theorem dX0_tellingNight_3 : decode cX0_tellingNight 3 = .ok (.istore 4, 2) := by decide +kernel
theorem dX0_tellingNight_5 : decode cX0_tellingNight 5 = .ok (.iload 4, 2) := by decide +kernel
theorem dX0_tellingNight_7 : decode cX0_tellingNight 7 = .ok (.bipush 6, 2) := by decide +kernel
theorem dX0_tellingNight_9 : decode cX0_tellingNight 9 = .ok (.if_icmp .ge 35, 3) := by decide +kernel
theorem dX0_tellingNight_12 : decode cX0_tellingNight 12 = .ok (.aload_n 0, 1) := by decide +kernel
theorem dX0_tellingNight_13 : decode cX0_tellingNight 13 = .ok (.aload_n 1, 1) := by decide +kernel
theorem dX0_tellingNight_14 : decode cX0_tellingNight 14 = .ok (.iload_n 2, 1) := by decide +kernel
theorem dX0_tellingNight_15 : decode cX0_tellingNight 15 = .ok (.iload 4, 2) := by decide +kernel
theorem dX0_tellingNight_17 : decode cX0_tellingNight 17 = .ok (.invokevirtual 49, 3) := by decide +kernel
theorem dX0_tellingNight_20 : decode cX0_tellingNight 20 = .ok (.istore 5, 2) := by decide +kernel
theorem dX0_tellingNight_22 : decode cX0_tellingNight 22 = .ok (.aload_n 0, 1) := by decide +kernel
theorem dX0_tellingNight_23 : decode cX0_tellingNight 23 = .ok (.getfield 18, 3) := by decide +kernel
theorem dX0_tellingNight_26 : decode cX0_tellingNight 26 = .ok (.iload 4, 2) := by decide +kernel
theorem dX0_tellingNight_28 : decode cX0_tellingNight 28 = .ok (.iload 5, 2) := by decide +kernel
theorem dX0_tellingNight_30 : decode cX0_tellingNight 30 = .ok (.invokestatic 41, 3) := by decide +kernel
theorem dX0_tellingNight_33 : decode cX0_tellingNight 33 = .ok (.iload_n 3, 1) := by decide +kernel
theorem dX0_tellingNight_34 : decode cX0_tellingNight 34 = .ok (.iload 5, 2) := by decide +kernel
theorem dX0_tellingNight_36 : decode cX0_tellingNight 36 = .ok (.ior, 1) := by decide +kernel
theorem dX0_tellingNight_37 : decode cX0_tellingNight 37 = .ok (.istore_n 3, 1) := by decide +kernel
theorem dX0_tellingNight_38 : decode cX0_tellingNight 38 = .ok (.iinc 4 1, 3) := by decide +kernel
theorem dX0_tellingNight_41 : decode cX0_tellingNight 41 = .ok (.goto (-36), 3) := by decide +kernel
theorem dX0_tellingNight_44 : decode cX0_tellingNight 44 = .ok (.iload_n 3, 1) := by decide +kernel
theorem dX0_tellingNight_45 : decode cX0_tellingNight 45 = .ok (.ifCond .ne 6, 3) := by decide +kernel
theorem dX0_tellingNight_48 : decode cX0_tellingNight 48 = .ok (.bipush (-9), 2) := by decide +kernel
theorem dX0_tellingNight_50 : decode cX0_tellingNight 50 = .ok (.ireturn, 1) := by decide +kernel
theorem dX0_tellingNight_51 : decode cX0_tellingNight 51 = .ok (.iconst 0, 1) := by decide +kernel
theorem dX0_tellingNight_52 : decode cX0_tellingNight 52 = .ok (.istore 4, 2) := by decide +kernel
theorem dX0_tellingNight_54 : decode cX0_tellingNight 54 = .ok (.aload_n 0, 1) := by decide +kernel
theorem dX0_tellingNight_55 : decode cX0_tellingNight 55 = .ok (.ldc 53, 2) := by decide +kernel
theorem dX0_tellingNight_57 : decode cX0_tellingNight 57 = .ok (.putfield 28, 3) := by decide +kernel
theorem dX0_tellingNight_60 : decode cX0_tellingNight 60 = .ok (.iconst 0, 1) := by decide +kernel
theorem dX0_tellingNight_61 : decode cX0_tellingNight 61 = .ok (.istore 5, 2) := by decide +kernel
theorem dX0_tellingNight_63 : decode cX0_tellingNight 63 = .ok (.iload 5, 2) := by decide +kernel
theorem dX0_tellingNight_65 : decode cX0_tellingNight 65 = .ok (.bipush 8, 2) := by decide +kernel
theorem dX0_tellingNight_67 : decode cX0_tellingNight 67 = .ok (.if_icmp .ge 38, 3) := by decide +kernel
theorem dX0_tellingNight_70 : decode cX0_tellingNight 70 = .ok (.aload_n 0, 1) := by decide +kernel
theorem dX0_tellingNight_71 : decode cX0_tellingNight 71 = .ok (.aload_n 1, 1) := by decide +kernel
theorem dX0_tellingNight_72 : decode cX0_tellingNight 72 = .ok (.iload_n 2, 1) := by decide +kernel
theorem dX0_tellingNight_73 : decode cX0_tellingNight 73 = .ok (.iload 5, 2) := by decide +kernel
theorem dX0_tellingNight_75 : decode cX0_tellingNight 75 = .ok (.invokevirtual 54, 3) := by decide +kernel
theorem dX0_tellingNight_78 : decode cX0_tellingNight 78 = .ok (.istore 6, 2) := by decide +kernel
theorem dX0_tellingNight_80 : decode cX0_tellingNight 80 = .ok (.iload 6, 2) := by decide +kernel
theorem dX0_tellingNight_82 : decode cX0_tellingNight 82 = .ok (.aload_n 0, 1) := by decide +kernel
theorem dX0_tellingNight_83 : decode cX0_tellingNight 83 = .ok (.getfield 28, 3) := by decide +kernel
theorem dX0_tellingNight_86 : decode cX0_tellingNight 86 = .ok (.if_icmp .ge 13, 3) := by decide +kernel
theorem dX0_tellingNight_89 : decode cX0_tellingNight 89 = .ok (.aload_n 0, 1) := by decide +kernel
theorem dX0_tellingNight_90 : decode cX0_tellingNight 90 = .ok (.iload 6, 2) := by decide +kernel
theorem dX0_tellingNight_92 : decode cX0_tellingNight 92 = .ok (.putfield 28, 3) := by decide +kernel
theorem dX0_tellingNight_95 : decode cX0_tellingNight 95 = .ok (.iload 5, 2) := by decide +kernel
theorem dX0_tellingNight_97 : decode cX0_tellingNight 97 = .ok (.istore 4, 2) := by decide +kernel
theorem dX0_tellingNight_99 : decode cX0_tellingNight 99 = .ok (.iinc 5 1, 3) := by decide +kernel
theorem dX0_tellingNight_102 : decode cX0_tellingNight 102 = .ok (.goto (-39), 3) := by decide +kernel
theorem dX0_tellingNight_105 : decode cX0_tellingNight 105 = .ok (.iload 4, 2) := by decide +kernel
theorem dX0_tellingNight_107 : decode cX0_tellingNight 107 = .ok (.ireturn, 1) := by decide +kernel
theorem dX0_greatestPart_0 : decode cX0_greatestPart 0 = .ok (.aload_n 0, 1) := by decide +kernel
theorem dX0_greatestPart_1 : decode cX0_greatestPart 1 = .ok (.getfield 21, 3) := by decide +kernel
theorem dX0_greatestPart_4 : decode cX0_greatestPart 4 = .ok (.iconst 0, 1) := by decide +kernel
theorem dX0_greatestPart_5 : decode cX0_greatestPart 5 = .ok (.invokestatic 57, 3) := by decide +kernel
theorem dX0_greatestPart_8 : decode cX0_greatestPart 8 = .ok (.iconst 0, 1) := by decide +kernel
theorem dX0_greatestPart_9 : decode cX0_greatestPart 9 = .ok (.istore 4, 2) := by decide +kernel
theorem dX0_greatestPart_11 : decode cX0_greatestPart 11 = .ok (.iconst 0, 1) := by decide +kernel
theorem dX0_greatestPart_12 : decode cX0_greatestPart 12 = .ok (.istore 5, 2) := by decide +kernel
theorem dX0_greatestPart_14 : decode cX0_greatestPart 14 = .ok (.iload 5, 2) := by decide +kernel
theorem dX0_greatestPart_16 : decode cX0_greatestPart 16 = .ok (.bipush 6, 2) := by decide +kernel
theorem dX0_greatestPart_18 : decode cX0_greatestPart 18 = .ok (.if_icmp .ge 91, 3) := by decide +kernel
theorem dX0_greatestPart_21 : decode cX0_greatestPart 21 = .ok (.iconst 0, 1) := by decide +kernel
theorem dX0_greatestPart_22 : decode cX0_greatestPart 22 = .ok (.istore 6, 2) := by decide +kernel
theorem dX0_greatestPart_24 : decode cX0_greatestPart 24 = .ok (.iload 6, 2) := by decide +kernel
theorem dX0_greatestPart_26 : decode cX0_greatestPart 26 = .ok (.bipush 9, 2) := by decide +kernel
theorem dX0_greatestPart_28 : decode cX0_greatestPart 28 = .ok (.if_icmp .gt 75, 3) := by decide +kernel
theorem dX0_greatestPart_31 : decode cX0_greatestPart 31 = .ok (.aload_n 0, 1) := by decide +kernel
theorem dX0_greatestPart_32 : decode cX0_greatestPart 32 = .ok (.getfield 18, 3) := by decide +kernel
theorem dX0_greatestPart_35 : decode cX0_greatestPart 35 = .ok (.iload 5, 2) := by decide +kernel
theorem dX0_greatestPart_37 : decode cX0_greatestPart 37 = .ok (.invokestatic 63, 3) := by decide +kernel
theorem dX0_greatestPart_40 : decode cX0_greatestPart 40 = .ok (.iload 6, 2) := by decide +kernel
theorem dX0_greatestPart_42 : decode cX0_greatestPart 42 = .ok (.ishr, 1) := by decide +kernel
theorem dX0_greatestPart_43 : decode cX0_greatestPart 43 = .ok (.iconst 1, 1) := by decide +kernel
theorem dX0_greatestPart_44 : decode cX0_greatestPart 44 = .ok (.iand, 1) := by decide +kernel
theorem dX0_greatestPart_45 : decode cX0_greatestPart 45 = .ok (.iconst 1, 1) := by decide +kernel
theorem dX0_greatestPart_46 : decode cX0_greatestPart 46 = .ok (.if_icmp .ne 51, 3) := by decide +kernel
theorem dX0_greatestPart_49 : decode cX0_greatestPart 49 = .ok (.aload_n 1, 1) := by decide +kernel
theorem dX0_greatestPart_50 : decode cX0_greatestPart 50 = .ok (.iload_n 2, 1) := by decide +kernel
theorem dX0_greatestPart_51 : decode cX0_greatestPart 51 = .ok (.iload 5, 2) := by decide +kernel
theorem dX0_greatestPart_53 : decode cX0_greatestPart 53 = .ok (.iload 6, 2) := by decide +kernel
theorem dX0_greatestPart_55 : decode cX0_greatestPart 55 = .ok (.iload_n 3, 1) := by decide +kernel
theorem dX0_greatestPart_56 : decode cX0_greatestPart 56 = .ok (.invokevirtual 67, 3) := by decide +kernel
theorem dX0_greatestPart_59 : decode cX0_greatestPart 59 = .ok (.istore 7, 2) := by decide +kernel
theorem dX0_greatestPart_61 : decode cX0_greatestPart 61 = .ok (.aload_n 0, 1) := by decide +kernel
theorem dX0_greatestPart_62 : decode cX0_greatestPart 62 = .ok (.getfield 21, 3) := by decide +kernel
theorem dX0_greatestPart_65 : decode cX0_greatestPart 65 = .ok (.iload 7, 2) := by decide +kernel
theorem dX0_greatestPart_67 : decode cX0_greatestPart 67 = .ok (.aload_n 0, 1) := by decide +kernel
theorem dX0_greatestPart_68 : decode cX0_greatestPart 68 = .ok (.getfield 21, 3) := by decide +kernel
theorem dX0_greatestPart_71 : decode cX0_greatestPart 71 = .ok (.iload 7, 2) := by decide +kernel
theorem dX0_greatestPart_73 : decode cX0_greatestPart 73 = .ok (.invokestatic 63, 3) := by decide +kernel
theorem dX0_greatestPart_76 : decode cX0_greatestPart 76 = .ok (.iconst 1, 1) := by decide +kernel
theorem dX0_greatestPart_77 : decode cX0_greatestPart 77 = .ok (.iadd, 1) := by decide +kernel
theorem dX0_greatestPart_78 : decode cX0_greatestPart 78 = .ok (.invokestatic 41, 3) := by decide +kernel
theorem dX0_greatestPart_81 : decode cX0_greatestPart 81 = .ok (.iload 4, 2) := by decide +kernel
theorem dX0_greatestPart_83 : decode cX0_greatestPart 83 = .ok (.aload_n 0, 1) := by decide +kernel
theorem dX0_greatestPart_84 : decode cX0_greatestPart 84 = .ok (.getfield 21, 3) := by decide +kernel
theorem dX0_greatestPart_87 : decode cX0_greatestPart 87 = .ok (.iload 7, 2) := by decide +kernel
theorem dX0_greatestPart_89 : decode cX0_greatestPart 89 = .ok (.invokestatic 63, 3) := by decide +kernel
theorem dX0_greatestPart_92 : decode cX0_greatestPart 92 = .ok (.invokestatic 73, 3) := by decide +kernel
theorem dX0_greatestPart_95 : decode cX0_greatestPart 95 = .ok (.istore 4, 2) := by decide +kernel
theorem dX0_greatestPart_97 : decode cX0_greatestPart 97 = .ok (.iinc 6 1, 3) := by decide +kernel
theorem dX0_greatestPart_100 : decode cX0_greatestPart 100 = .ok (.goto (-76), 3) := by decide +kernel
theorem dX0_greatestPart_103 : decode cX0_greatestPart 103 = .ok (.iinc 5 1, 3) := by decide +kernel
theorem dX0_greatestPart_106 : decode cX0_greatestPart 106 = .ok (.goto (-92), 3) := by decide +kernel
theorem dX0_greatestPart_109 : decode cX0_greatestPart 109 = .ok (.iload 4, 2) := by decide +kernel
theorem dX0_greatestPart_111 : decode cX0_greatestPart 111 = .ok (.ireturn, 1) := by decide +kernel
theorem dX0_fits_0 : decode cX0_fits 0 = .ok (.iconst 0, 1) := by decide +kernel
theorem dX0_fits_1 : decode cX0_fits 1 = .ok (.istore 5, 2) := by decide +kernel
theorem dX0_fits_3 : decode cX0_fits 3 = .ok (.iload 5, 2) := by decide +kernel
theorem dX0_fits_5 : decode cX0_fits 5 = .ok (.aload_n 0, 1) := by decide +kernel
theorem dX0_fits_6 : decode cX0_fits 6 = .ok (.getfield 24, 3) := by decide +kernel
theorem dX0_fits_9 : decode cX0_fits 9 = .ok (.if_icmp .ge 40, 3) := by decide +kernel
theorem dX0_fits_12 : decode cX0_fits 12 = .ok (.aload_n 1, 1) := by decide +kernel
theorem dX0_fits_13 : decode cX0_fits 13 = .ok (.iload_n 2, 1) := by decide +kernel
theorem dX0_fits_14 : decode cX0_fits 14 = .ok (.iload_n 3, 1) := by decide +kernel
theorem dX0_fits_15 : decode cX0_fits 15 = .ok (.iload 4, 2) := by decide +kernel
theorem dX0_fits_17 : decode cX0_fits 17 = .ok (.aload_n 0, 1) := by decide +kernel
theorem dX0_fits_18 : decode cX0_fits 18 = .ok (.getfield 9, 3) := by decide +kernel
theorem dX0_fits_21 : decode cX0_fits 21 = .ok (.iload 5, 2) := by decide +kernel
theorem dX0_fits_23 : decode cX0_fits 23 = .ok (.invokestatic 63, 3) := by decide +kernel
theorem dX0_fits_26 : decode cX0_fits 26 = .ok (.invokevirtual 67, 3) := by decide +kernel
theorem dX0_fits_29 : decode cX0_fits 29 = .ok (.aload_n 0, 1) := by decide +kernel
theorem dX0_fits_30 : decode cX0_fits 30 = .ok (.getfield 15, 3) := by decide +kernel
theorem dX0_fits_33 : decode cX0_fits 33 = .ok (.iload 5, 2) := by decide +kernel
theorem dX0_fits_35 : decode cX0_fits 35 = .ok (.invokestatic 63, 3) := by decide +kernel
theorem dX0_fits_38 : decode cX0_fits 38 = .ok (.if_icmp .eq 5, 3) := by decide +kernel
theorem dX0_fits_41 : decode cX0_fits 41 = .ok (.iconst 0, 1) := by decide +kernel
theorem dX0_fits_42 : decode cX0_fits 42 = .ok (.ireturn, 1) := by decide +kernel
theorem dX0_fits_43 : decode cX0_fits 43 = .ok (.iinc 5 1, 3) := by decide +kernel
theorem dX0_fits_46 : decode cX0_fits 46 = .ok (.goto (-43), 3) := by decide +kernel
theorem dX0_fits_49 : decode cX0_fits 49 = .ok (.iconst 1, 1) := by decide +kernel
theorem dX0_fits_50 : decode cX0_fits 50 = .ok (.ireturn, 1) := by decide +kernel
theorem dX1_init_0 : decode cX1_init 0 = .ok (.aload_n 0, 1) := by decide +kernel
theorem dX1_init_1 : decode cX1_init 1 = .ok (.invokespecial 3, 3) := by decide +kernel
theorem dX1_init_4 : decode cX1_init 4 = .ok (.aload_n 0, 1) := by decide +kernel
theorem dX1_init_5 : decode cX1_init 5 = .ok (.new 9, 3) := by decide +kernel
theorem dX1_init_8 : decode cX1_init 8 = .ok (.dup, 1) := by decide +kernel
theorem dX1_init_9 : decode cX1_init 9 = .ok (.iconst 4, 1) := by decide +kernel
theorem dX1_init_10 : decode cX1_init 10 = .ok (.invokespecial 11, 3) := by decide +kernel
theorem dX1_init_13 : decode cX1_init 13 = .ok (.putfield 14, 3) := by decide +kernel
theorem dX1_init_16 : decode cX1_init 16 = .ok (.return_, 1) := by decide +kernel
theorem dX1_foundFrom_0 : decode cX1_foundFrom 0 = .ok (.iload_n 2, 1) := by decide +kernel
theorem dX1_foundFrom_1 : decode cX1_foundFrom 1 = .ok (.iload_n 3, 1) := by decide +kernel
theorem dX1_foundFrom_2 : decode cX1_foundFrom 2 = .ok (.if_icmp .lt 5, 3) := by decide +kernel
theorem dX1_foundFrom_5 : decode cX1_foundFrom 5 = .ok (.iconst 0, 1) := by decide +kernel
theorem dX1_foundFrom_6 : decode cX1_foundFrom 6 = .ok (.ireturn, 1) := by decide +kernel
theorem dX1_foundFrom_7 : decode cX1_foundFrom 7 = .ok (.iload_n 2, 1) := by decide +kernel
theorem dX1_foundFrom_8 : decode cX1_foundFrom 8 = .ok (.iconst 2, 1) := by decide +kernel
theorem dX1_foundFrom_9 : decode cX1_foundFrom 9 = .ok (.irem, 1) := by decide +kernel
theorem dX1_foundFrom_10 : decode cX1_foundFrom 10 = .ok (.ifCond .ne 13, 3) := by decide +kernel
theorem dX1_foundFrom_13 : decode cX1_foundFrom 13 = .ok (.aload_n 0, 1) := by decide +kernel
theorem dX1_foundFrom_14 : decode cX1_foundFrom 14 = .ok (.aload_n 1, 1) := by decide +kernel
theorem dX1_foundFrom_15 : decode cX1_foundFrom 15 = .ok (.iload_n 2, 1) := by decide +kernel
theorem dX1_foundFrom_16 : decode cX1_foundFrom 16 = .ok (.iload_n 3, 1) := by decide +kernel
theorem dX1_foundFrom_17 : decode cX1_foundFrom 17 = .ok (.invokevirtual 20, 3) := by decide +kernel
theorem dX1_foundFrom_20 : decode cX1_foundFrom 20 = .ok (.goto 10, 3) := by decide +kernel
theorem dX1_foundFrom_23 : decode cX1_foundFrom 23 = .ok (.aload_n 0, 1) := by decide +kernel
theorem dX1_foundFrom_24 : decode cX1_foundFrom 24 = .ok (.aload_n 1, 1) := by decide +kernel
theorem dX1_foundFrom_25 : decode cX1_foundFrom 25 = .ok (.iload_n 2, 1) := by decide +kernel
theorem dX1_foundFrom_26 : decode cX1_foundFrom 26 = .ok (.iload_n 3, 1) := by decide +kernel
theorem dX1_foundFrom_27 : decode cX1_foundFrom 27 = .ok (.invokevirtual 24, 3) := by decide +kernel
theorem dX1_foundFrom_30 : decode cX1_foundFrom 30 = .ok (.ireturn, 1) := by decide +kernel
theorem dX1_fewestFrom_0 : decode cX1_fewestFrom 0 = .ok (.ldc 27, 2) := by decide +kernel
theorem dX1_fewestFrom_2 : decode cX1_fewestFrom 2 = .ok (.istore 4, 2) := by decide +kernel
theorem dX1_fewestFrom_4 : decode cX1_fewestFrom 4 = .ok (.iconst (-1), 1) := by decide +kernel
theorem dX1_fewestFrom_5 : decode cX1_fewestFrom 5 = .ok (.istore 5, 2) := by decide +kernel
theorem dX1_fewestFrom_7 : decode cX1_fewestFrom 7 = .ok (.iload 5, 2) := by decide +kernel
theorem dX1_fewestFrom_9 : decode cX1_fewestFrom 9 = .ok (.aload_n 1, 1) := by decide +kernel
theorem dX1_fewestFrom_10 : decode cX1_fewestFrom 10 = .ok (.getfield 28, 3) := by decide +kernel
theorem dX1_fewestFrom_13 : decode cX1_fewestFrom 13 = .ok (.if_icmp .ge 70, 3) := by decide +kernel
theorem dX1_fewestFrom_16 : decode cX1_fewestFrom 16 = .ok (.iload 5, 2) := by decide +kernel
theorem dX1_fewestFrom_18 : decode cX1_fewestFrom 18 = .ok (.ifCond .lt 12, 3) := by decide +kernel
theorem dX1_fewestFrom_21 : decode cX1_fewestFrom 21 = .ok (.aload_n 1, 1) := by decide +kernel
theorem dX1_fewestFrom_22 : decode cX1_fewestFrom 22 = .ok (.iload 5, 2) := by decide +kernel
theorem dX1_fewestFrom_24 : decode cX1_fewestFrom 24 = .ok (.invokevirtual 34, 3) := by decide +kernel
theorem dX1_fewestFrom_27 : decode cX1_fewestFrom 27 = .ok (.ifCond .le 50, 3) := by decide +kernel
theorem dX1_fewestFrom_30 : decode cX1_fewestFrom 30 = .ok (.aload_n 0, 1) := by decide +kernel
theorem dX1_fewestFrom_31 : decode cX1_fewestFrom 31 = .ok (.getfield 14, 3) := by decide +kernel
theorem dX1_fewestFrom_34 : decode cX1_fewestFrom 34 = .ok (.iload_n 2, 1) := by decide +kernel
theorem dX1_fewestFrom_35 : decode cX1_fewestFrom 35 = .ok (.aload_n 1, 1) := by decide +kernel
theorem dX1_fewestFrom_36 : decode cX1_fewestFrom 36 = .ok (.invokevirtual 38, 3) := by decide +kernel
theorem dX1_fewestFrom_39 : decode cX1_fewestFrom 39 = .ok (.astore 6, 2) := by decide +kernel
theorem dX1_fewestFrom_41 : decode cX1_fewestFrom 41 = .ok (.aload 6, 2) := by decide +kernel
theorem dX1_fewestFrom_43 : decode cX1_fewestFrom 43 = .ok (.ifnull 34, 3) := by decide +kernel
theorem dX1_fewestFrom_46 : decode cX1_fewestFrom 46 = .ok (.aload 6, 2) := by decide +kernel
theorem dX1_fewestFrom_48 : decode cX1_fewestFrom 48 = .ok (.iload 5, 2) := by decide +kernel
theorem dX1_fewestFrom_50 : decode cX1_fewestFrom 50 = .ok (.iconst 1, 1) := by decide +kernel
theorem dX1_fewestFrom_51 : decode cX1_fewestFrom 51 = .ok (.invokevirtual 42, 3) := by decide +kernel
theorem dX1_fewestFrom_54 : decode cX1_fewestFrom 54 = .ok (.aload 6, 2) := by decide +kernel
theorem dX1_fewestFrom_56 : decode cX1_fewestFrom 56 = .ok (.invokevirtual 46, 3) := by decide +kernel
theorem dX1_fewestFrom_59 : decode cX1_fewestFrom 59 = .ok (.pop, 1) := by decide +kernel
theorem dX1_fewestFrom_60 : decode cX1_fewestFrom 60 = .ok (.iload 4, 2) := by decide +kernel
theorem dX1_fewestFrom_62 : decode cX1_fewestFrom 62 = .ok (.aload_n 0, 1) := by decide +kernel
theorem dX1_fewestFrom_63 : decode cX1_fewestFrom 63 = .ok (.aload 6, 2) := by decide +kernel
theorem dX1_fewestFrom_65 : decode cX1_fewestFrom 65 = .ok (.iload_n 2, 1) := by decide +kernel
theorem dX1_fewestFrom_66 : decode cX1_fewestFrom 66 = .ok (.iconst 1, 1) := by decide +kernel
theorem dX1_fewestFrom_67 : decode cX1_fewestFrom 67 = .ok (.iadd, 1) := by decide +kernel
theorem dX1_fewestFrom_68 : decode cX1_fewestFrom 68 = .ok (.iload_n 3, 1) := by decide +kernel
theorem dX1_fewestFrom_69 : decode cX1_fewestFrom 69 = .ok (.invokevirtual 50, 3) := by decide +kernel
theorem dX1_fewestFrom_72 : decode cX1_fewestFrom 72 = .ok (.invokestatic 53, 3) := by decide +kernel
theorem dX1_fewestFrom_75 : decode cX1_fewestFrom 75 = .ok (.istore 4, 2) := by decide +kernel
theorem dX1_fewestFrom_77 : decode cX1_fewestFrom 77 = .ok (.iinc 5 1, 3) := by decide +kernel
theorem dX1_fewestFrom_80 : decode cX1_fewestFrom 80 = .ok (.goto (-73), 3) := by decide +kernel
theorem dX1_fewestFrom_83 : decode cX1_fewestFrom 83 = .ok (.iload 4, 2) := by decide +kernel
theorem dX1_fewestFrom_85 : decode cX1_fewestFrom 85 = .ok (.ireturn, 1) := by decide +kernel
theorem dX1_mostFrom_0 : decode cX1_mostFrom 0 = .ok (.iconst 0, 1) := by decide +kernel
theorem dX1_mostFrom_1 : decode cX1_mostFrom 1 = .ok (.istore 4, 2) := by decide +kernel
theorem dX1_mostFrom_3 : decode cX1_mostFrom 3 = .ok (.iconst (-1), 1) := by decide +kernel
theorem dX1_mostFrom_4 : decode cX1_mostFrom 4 = .ok (.istore 5, 2) := by decide +kernel
theorem dX1_mostFrom_6 : decode cX1_mostFrom 6 = .ok (.iload 5, 2) := by decide +kernel
theorem dX1_mostFrom_8 : decode cX1_mostFrom 8 = .ok (.aload_n 1, 1) := by decide +kernel
theorem dX1_mostFrom_9 : decode cX1_mostFrom 9 = .ok (.getfield 28, 3) := by decide +kernel
theorem dX1_mostFrom_12 : decode cX1_mostFrom 12 = .ok (.if_icmp .ge 68, 3) := by decide +kernel
theorem dX1_mostFrom_15 : decode cX1_mostFrom 15 = .ok (.iload 5, 2) := by decide +kernel
theorem dX1_mostFrom_17 : decode cX1_mostFrom 17 = .ok (.ifCond .lt 12, 3) := by decide +kernel
theorem dX1_mostFrom_20 : decode cX1_mostFrom 20 = .ok (.aload_n 1, 1) := by decide +kernel
theorem dX1_mostFrom_21 : decode cX1_mostFrom 21 = .ok (.iload 5, 2) := by decide +kernel
theorem dX1_mostFrom_23 : decode cX1_mostFrom 23 = .ok (.invokevirtual 59, 3) := by decide +kernel
theorem dX1_mostFrom_26 : decode cX1_mostFrom 26 = .ok (.ifCond .eq 48, 3) := by decide +kernel
theorem dX1_mostFrom_29 : decode cX1_mostFrom 29 = .ok (.aload_n 0, 1) := by decide +kernel
theorem dX1_mostFrom_30 : decode cX1_mostFrom 30 = .ok (.getfield 14, 3) := by decide +kernel
theorem dX1_mostFrom_33 : decode cX1_mostFrom 33 = .ok (.iload_n 2, 1) := by decide +kernel
theorem dX1_mostFrom_34 : decode cX1_mostFrom 34 = .ok (.aload_n 1, 1) := by decide +kernel
theorem dX1_mostFrom_35 : decode cX1_mostFrom 35 = .ok (.invokevirtual 38, 3) := by decide +kernel
theorem dX1_mostFrom_38 : decode cX1_mostFrom 38 = .ok (.astore 6, 2) := by decide +kernel
theorem dX1_mostFrom_40 : decode cX1_mostFrom 40 = .ok (.aload 6, 2) := by decide +kernel
theorem dX1_mostFrom_42 : decode cX1_mostFrom 42 = .ok (.ifnull 32, 3) := by decide +kernel
theorem dX1_mostFrom_45 : decode cX1_mostFrom 45 = .ok (.aload 6, 2) := by decide +kernel
theorem dX1_mostFrom_47 : decode cX1_mostFrom 47 = .ok (.iload 5, 2) := by decide +kernel
theorem dX1_mostFrom_49 : decode cX1_mostFrom 49 = .ok (.invokevirtual 63, 3) := by decide +kernel
theorem dX1_mostFrom_52 : decode cX1_mostFrom 52 = .ok (.istore 7, 2) := by decide +kernel
theorem dX1_mostFrom_54 : decode cX1_mostFrom 54 = .ok (.iload 4, 2) := by decide +kernel
theorem dX1_mostFrom_56 : decode cX1_mostFrom 56 = .ok (.iload 7, 2) := by decide +kernel
theorem dX1_mostFrom_58 : decode cX1_mostFrom 58 = .ok (.aload_n 0, 1) := by decide +kernel
theorem dX1_mostFrom_59 : decode cX1_mostFrom 59 = .ok (.aload 6, 2) := by decide +kernel
theorem dX1_mostFrom_61 : decode cX1_mostFrom 61 = .ok (.iload_n 2, 1) := by decide +kernel
theorem dX1_mostFrom_62 : decode cX1_mostFrom 62 = .ok (.iconst 1, 1) := by decide +kernel
theorem dX1_mostFrom_63 : decode cX1_mostFrom 63 = .ok (.iadd, 1) := by decide +kernel
theorem dX1_mostFrom_64 : decode cX1_mostFrom 64 = .ok (.iload_n 3, 1) := by decide +kernel
theorem dX1_mostFrom_65 : decode cX1_mostFrom 65 = .ok (.invokevirtual 50, 3) := by decide +kernel
theorem dX1_mostFrom_68 : decode cX1_mostFrom 68 = .ok (.iadd, 1) := by decide +kernel
theorem dX1_mostFrom_69 : decode cX1_mostFrom 69 = .ok (.invokestatic 66, 3) := by decide +kernel
theorem dX1_mostFrom_72 : decode cX1_mostFrom 72 = .ok (.istore 4, 2) := by decide +kernel
theorem dX1_mostFrom_74 : decode cX1_mostFrom 74 = .ok (.iinc 5 1, 3) := by decide +kernel
theorem dX1_mostFrom_77 : decode cX1_mostFrom 77 = .ok (.goto (-71), 3) := by decide +kernel
theorem dX1_mostFrom_80 : decode cX1_mostFrom 80 = .ok (.iload 4, 2) := by decide +kernel
theorem dX1_mostFrom_82 : decode cX1_mostFrom 82 = .ok (.ireturn, 1) := by decide +kernel
theorem dX2_init_0 : decode cX2_init 0 = .ok (.aload_n 0, 1) := by decide +kernel
theorem dX2_init_1 : decode cX2_init 1 = .ok (.invokespecial 1, 3) := by decide +kernel
theorem dX2_init_4 : decode cX2_init 4 = .ok (.aload_n 0, 1) := by decide +kernel
theorem dX2_init_5 : decode cX2_init 5 = .ok (.iconst 0, 1) := by decide +kernel
theorem dX2_init_6 : decode cX2_init 6 = .ok (.iload_n 1, 1) := by decide +kernel
theorem dX2_init_7 : decode cX2_init 7 = .ok (.invokestatic 7, 3) := by decide +kernel
theorem dX2_init_10 : decode cX2_init 10 = .ok (.anewarray 13, 3) := by decide +kernel
theorem dX2_init_13 : decode cX2_init 13 = .ok (.putfield 15, 3) := by decide +kernel
theorem dX2_init_16 : decode cX2_init 16 = .ok (.iconst 0, 1) := by decide +kernel
theorem dX2_init_17 : decode cX2_init 17 = .ok (.istore_n 2, 1) := by decide +kernel
theorem dX2_init_18 : decode cX2_init 18 = .ok (.iload_n 2, 1) := by decide +kernel
theorem dX2_init_19 : decode cX2_init 19 = .ok (.aload_n 0, 1) := by decide +kernel
theorem dX2_init_20 : decode cX2_init 20 = .ok (.getfield 15, 3) := by decide +kernel
theorem dX2_init_23 : decode cX2_init 23 = .ok (.arraylength, 1) := by decide +kernel
theorem dX2_init_24 : decode cX2_init 24 = .ok (.if_icmp .ge 22, 3) := by decide +kernel
theorem dX2_init_27 : decode cX2_init 27 = .ok (.aload_n 0, 1) := by decide +kernel
theorem dX2_init_28 : decode cX2_init 28 = .ok (.getfield 15, 3) := by decide +kernel
theorem dX2_init_31 : decode cX2_init 31 = .ok (.iload_n 2, 1) := by decide +kernel
theorem dX2_init_32 : decode cX2_init 32 = .ok (.new 13, 3) := by decide +kernel
theorem dX2_init_35 : decode cX2_init 35 = .ok (.dup, 1) := by decide +kernel
theorem dX2_init_36 : decode cX2_init 36 = .ok (.invokespecial 21, 3) := by decide +kernel
theorem dX2_init_39 : decode cX2_init 39 = .ok (.aastore, 1) := by decide +kernel
theorem dX2_init_40 : decode cX2_init 40 = .ok (.iinc 2 1, 3) := by decide +kernel
theorem dX2_init_43 : decode cX2_init 43 = .ok (.goto (-25), 3) := by decide +kernel
theorem dX2_init_46 : decode cX2_init 46 = .ok (.return_, 1) := by decide +kernel
theorem dX2_copyAt_0 : decode cX2_copyAt 0 = .ok (.iload_n 1, 1) := by decide +kernel
theorem dX2_copyAt_1 : decode cX2_copyAt 1 = .ok (.ifCond .lt 21, 3) := by decide +kernel
theorem dX2_copyAt_4 : decode cX2_copyAt 4 = .ok (.iload_n 1, 1) := by decide +kernel
theorem dX2_copyAt_5 : decode cX2_copyAt 5 = .ok (.aload_n 0, 1) := by decide +kernel
theorem dX2_copyAt_6 : decode cX2_copyAt 6 = .ok (.getfield 15, 3) := by decide +kernel
theorem dX2_copyAt_9 : decode cX2_copyAt 9 = .ok (.arraylength, 1) := by decide +kernel
theorem dX2_copyAt_10 : decode cX2_copyAt 10 = .ok (.if_icmp .ge 12, 3) := by decide +kernel
theorem dX2_copyAt_13 : decode cX2_copyAt 13 = .ok (.aload_n 0, 1) := by decide +kernel
theorem dX2_copyAt_14 : decode cX2_copyAt 14 = .ok (.getfield 15, 3) := by decide +kernel
theorem dX2_copyAt_17 : decode cX2_copyAt 17 = .ok (.iload_n 1, 1) := by decide +kernel
theorem dX2_copyAt_18 : decode cX2_copyAt 18 = .ok (.aaload, 1) := by decide +kernel
theorem dX2_copyAt_19 : decode cX2_copyAt 19 = .ok (.goto 4, 3) := by decide +kernel
theorem dX2_copyAt_22 : decode cX2_copyAt 22 = .ok (.aconst_null, 1) := by decide +kernel
theorem dX2_copyAt_23 : decode cX2_copyAt 23 = .ok (.astore_n 3, 1) := by decide +kernel
theorem dX2_copyAt_24 : decode cX2_copyAt 24 = .ok (.aload_n 3, 1) := by decide +kernel
theorem dX2_copyAt_25 : decode cX2_copyAt 25 = .ok (.ifnull 8, 3) := by decide +kernel
theorem dX2_copyAt_28 : decode cX2_copyAt 28 = .ok (.aload_n 3, 1) := by decide +kernel
theorem dX2_copyAt_29 : decode cX2_copyAt 29 = .ok (.aload_n 2, 1) := by decide +kernel
theorem dX2_copyAt_30 : decode cX2_copyAt 30 = .ok (.invokevirtual 22, 3) := by decide +kernel
theorem dX2_copyAt_33 : decode cX2_copyAt 33 = .ok (.aload_n 3, 1) := by decide +kernel
theorem dX2_copyAt_34 : decode cX2_copyAt 34 = .ok (.areturn, 1) := by decide +kernel
theorem dX3_init_0 : decode cX3_init 0 = .ok (.aload_n 0, 1) := by decide +kernel
theorem dX3_init_1 : decode cX3_init 1 = .ok (.invokespecial 3, 3) := by decide +kernel
theorem dX3_init_4 : decode cX3_init 4 = .ok (.aload_n 0, 1) := by decide +kernel
theorem dX3_init_5 : decode cX3_init 5 = .ok (.bipush 6, 2) := by decide +kernel
theorem dX3_init_7 : decode cX3_init 7 = .ok (.newarray .int, 2) := by decide +kernel
theorem dX3_init_9 : decode cX3_init 9 = .ok (.putfield 9, 3) := by decide +kernel
theorem dX3_init_12 : decode cX3_init 12 = .ok (.aload_n 0, 1) := by decide +kernel
theorem dX3_init_13 : decode cX3_init 13 = .ok (.bipush 6, 2) := by decide +kernel
theorem dX3_init_15 : decode cX3_init 15 = .ok (.newarray .int, 2) := by decide +kernel
theorem dX3_init_17 : decode cX3_init 17 = .ok (.putfield 15, 3) := by decide +kernel
theorem dX3_init_20 : decode cX3_init 20 = .ok (.aload_n 0, 1) := by decide +kernel
theorem dX3_init_21 : decode cX3_init 21 = .ok (.iconst 0, 1) := by decide +kernel
theorem dX3_init_22 : decode cX3_init 22 = .ok (.putfield 18, 3) := by decide +kernel
theorem dX3_init_25 : decode cX3_init 25 = .ok (.return_, 1) := by decide +kernel
theorem dX3_fewestCrossing_0 : decode cX3_fewestCrossing 0 = .ok (.aload_n 0, 1) := by decide +kernel
theorem dX3_fewestCrossing_1 : decode cX3_fewestCrossing 1 = .ok (.ldc 22, 2) := by decide +kernel
theorem dX3_fewestCrossing_3 : decode cX3_fewestCrossing 3 = .ok (.putfield 18, 3) := by decide +kernel
theorem dX3_fewestCrossing_6 : decode cX3_fewestCrossing 6 = .ok (.aload_n 0, 1) := by decide +kernel
theorem dX3_fewestCrossing_7 : decode cX3_fewestCrossing 7 = .ok (.aload_n 1, 1) := by decide +kernel
theorem dX3_fewestCrossing_8 : decode cX3_fewestCrossing 8 = .ok (.iconst 0, 1) := by decide +kernel
theorem dX3_fewestCrossing_9 : decode cX3_fewestCrossing 9 = .ok (.iconst 0, 1) := by decide +kernel
theorem dX3_fewestCrossing_10 : decode cX3_fewestCrossing 10 = .ok (.iconst 0, 1) := by decide +kernel
theorem dX3_fewestCrossing_11 : decode cX3_fewestCrossing 11 = .ok (.invokevirtual 23, 3) := by decide +kernel
theorem dX3_fewestCrossing_14 : decode cX3_fewestCrossing 14 = .ok (.aload_n 0, 1) := by decide +kernel
theorem dX3_fewestCrossing_15 : decode cX3_fewestCrossing 15 = .ok (.getfield 18, 3) := by decide +kernel
theorem dX3_fewestCrossing_18 : decode cX3_fewestCrossing 18 = .ok (.ireturn, 1) := by decide +kernel
theorem dX3_give_0 : decode cX3_give 0 = .ok (.iload 4, 2) := by decide +kernel
theorem dX3_give_2 : decode cX3_give 2 = .ok (.aload_n 0, 1) := by decide +kernel
theorem dX3_give_3 : decode cX3_give 3 = .ok (.getfield 18, 3) := by decide +kernel
theorem dX3_give_6 : decode cX3_give 6 = .ok (.if_icmp .lt 4, 3) := by decide +kernel
theorem dX3_give_9 : decode cX3_give 9 = .ok (.return_, 1) := by decide +kernel
theorem dX3_give_10 : decode cX3_give 10 = .ok (.iload_n 2, 1) := by decide +kernel
theorem dX3_give_11 : decode cX3_give 11 = .ok (.aload_n 1, 1) := by decide +kernel
theorem dX3_give_12 : decode cX3_give 12 = .ok (.getfield 27, 3) := by decide +kernel
theorem dX3_give_15 : decode cX3_give 15 = .ok (.if_icmp .lt 21, 3) := by decide +kernel
theorem dX3_give_18 : decode cX3_give 18 = .ok (.aload_n 0, 1) := by decide +kernel
theorem dX3_give_19 : decode cX3_give 19 = .ok (.iload 4, 2) := by decide +kernel
theorem dX3_give_21 : decode cX3_give 21 = .ok (.putfield 18, 3) := by decide +kernel
theorem dX3_give_24 : decode cX3_give 24 = .ok (.aload_n 0, 1) := by decide +kernel
theorem dX3_give_25 : decode cX3_give 25 = .ok (.getfield 15, 3) := by decide +kernel
theorem dX3_give_28 : decode cX3_give 28 = .ok (.aload_n 0, 1) := by decide +kernel
theorem dX3_give_29 : decode cX3_give 29 = .ok (.getfield 9, 3) := by decide +kernel
theorem dX3_give_32 : decode cX3_give 32 = .ok (.invokestatic 32, 3) := by decide +kernel
theorem dX3_give_35 : decode cX3_give 35 = .ok (.return_, 1) := by decide +kernel
theorem dX3_give_36 : decode cX3_give 36 = .ok (.iconst 0, 1) := by decide +kernel
theorem dX3_give_37 : decode cX3_give 37 = .ok (.istore 5, 2) := by decide +kernel
theorem dX3_give_39 : decode cX3_give 39 = .ok (.iload 5, 2) := by decide +kernel
theorem dX3_give_41 : decode cX3_give 41 = .ok (.aload_n 1, 1) := by decide +kernel
theorem dX3_give_42 : decode cX3_give 42 = .ok (.getfield 27, 3) := by decide +kernel
theorem dX3_give_45 : decode cX3_give 45 = .ok (.if_icmp .ge 52, 3) := by decide +kernel
theorem dX3_give_48 : decode cX3_give 48 = .ok (.iload_n 3, 1) := by decide +kernel
theorem dX3_give_49 : decode cX3_give 49 = .ok (.iload 5, 2) := by decide +kernel
theorem dX3_give_51 : decode cX3_give 51 = .ok (.ishr, 1) := by decide +kernel
theorem dX3_give_52 : decode cX3_give 52 = .ok (.iconst 1, 1) := by decide +kernel
theorem dX3_give_53 : decode cX3_give 53 = .ok (.iand, 1) := by decide +kernel
theorem dX3_give_54 : decode cX3_give 54 = .ok (.ifCond .ne 37, 3) := by decide +kernel
theorem dX3_give_57 : decode cX3_give 57 = .ok (.aload_n 0, 1) := by decide +kernel
theorem dX3_give_58 : decode cX3_give 58 = .ok (.getfield 15, 3) := by decide +kernel
theorem dX3_give_61 : decode cX3_give 61 = .ok (.iload_n 2, 1) := by decide +kernel
theorem dX3_give_62 : decode cX3_give 62 = .ok (.iload 5, 2) := by decide +kernel
theorem dX3_give_64 : decode cX3_give 64 = .ok (.invokestatic 36, 3) := by decide +kernel
theorem dX3_give_67 : decode cX3_give 67 = .ok (.aload_n 0, 1) := by decide +kernel
theorem dX3_give_68 : decode cX3_give 68 = .ok (.aload_n 1, 1) := by decide +kernel
theorem dX3_give_69 : decode cX3_give 69 = .ok (.iload_n 2, 1) := by decide +kernel
theorem dX3_give_70 : decode cX3_give 70 = .ok (.iconst 1, 1) := by decide +kernel
theorem dX3_give_71 : decode cX3_give 71 = .ok (.iadd, 1) := by decide +kernel
theorem dX3_give_72 : decode cX3_give 72 = .ok (.iload_n 3, 1) := by decide +kernel
theorem dX3_give_73 : decode cX3_give 73 = .ok (.iconst 1, 1) := by decide +kernel
theorem dX3_give_74 : decode cX3_give 74 = .ok (.iload 5, 2) := by decide +kernel
theorem dX3_give_76 : decode cX3_give 76 = .ok (.ishl, 1) := by decide +kernel
theorem dX3_give_77 : decode cX3_give 77 = .ok (.ior, 1) := by decide +kernel
theorem dX3_give_78 : decode cX3_give 78 = .ok (.iload 4, 2) := by decide +kernel
theorem dX3_give_80 : decode cX3_give 80 = .ok (.aload_n 1, 1) := by decide +kernel
theorem dX3_give_81 : decode cX3_give 81 = .ok (.iload_n 2, 1) := by decide +kernel
theorem dX3_give_82 : decode cX3_give 82 = .ok (.iload 5, 2) := by decide +kernel
theorem dX3_give_84 : decode cX3_give 84 = .ok (.invokevirtual 40, 3) := by decide +kernel
theorem dX3_give_87 : decode cX3_give 87 = .ok (.iadd, 1) := by decide +kernel
theorem dX3_give_88 : decode cX3_give 88 = .ok (.invokevirtual 23, 3) := by decide +kernel
theorem dX3_give_91 : decode cX3_give 91 = .ok (.iinc 5 1, 3) := by decide +kernel
theorem dX3_give_94 : decode cX3_give 94 = .ok (.goto (-55), 3) := by decide +kernel
theorem dX3_give_97 : decode cX3_give 97 = .ok (.return_, 1) := by decide +kernel
theorem dX4_init_0 : decode cX4_init 0 = .ok (.aload_n 0, 1) := by decide +kernel
theorem dX4_init_1 : decode cX4_init 1 = .ok (.invokespecial 3, 3) := by decide +kernel
theorem dX4_init_4 : decode cX4_init 4 = .ok (.aload_n 0, 1) := by decide +kernel
theorem dX4_init_5 : decode cX4_init 5 = .ok (.new 9, 3) := by decide +kernel
theorem dX4_init_8 : decode cX4_init 8 = .ok (.dup, 1) := by decide +kernel
theorem dX4_init_9 : decode cX4_init 9 = .ok (.invokespecial 11, 3) := by decide +kernel
theorem dX4_init_12 : decode cX4_init 12 = .ok (.putfield 12, 3) := by decide +kernel
theorem dX4_init_15 : decode cX4_init 15 = .ok (.aload_n 0, 1) := by decide +kernel
theorem dX4_init_16 : decode cX4_init 16 = .ok (.bipush 60, 2) := by decide +kernel
theorem dX4_init_18 : decode cX4_init 18 = .ok (.newarray .int, 2) := by decide +kernel
theorem dX4_init_20 : decode cX4_init 20 = .ok (.putfield 18, 3) := by decide +kernel
theorem dX4_init_23 : decode cX4_init 23 = .ok (.aload_n 0, 1) := by decide +kernel
theorem dX4_init_24 : decode cX4_init 24 = .ok (.iconst 0, 1) := by decide +kernel
theorem dX4_init_25 : decode cX4_init 25 = .ok (.putfield 22, 3) := by decide +kernel
theorem dX4_init_28 : decode cX4_init 28 = .ok (.aload_n 0, 1) := by decide +kernel
theorem dX4_init_29 : decode cX4_init 29 = .ok (.iconst 0, 1) := by decide +kernel
theorem dX4_init_30 : decode cX4_init 30 = .ok (.putfield 26, 3) := by decide +kernel
theorem dX4_init_33 : decode cX4_init 33 = .ok (.return_, 1) := by decide +kernel
theorem dX4_readTown_0 : decode cX4_readTown 0 = .ok (.aload_n 0, 1) := by decide +kernel
theorem dX4_readTown_1 : decode cX4_readTown 1 = .ok (.aload_n 1, 1) := by decide +kernel
theorem dX4_readTown_2 : decode cX4_readTown 2 = .ok (.iload_n 2, 1) := by decide +kernel
theorem dX4_readTown_3 : decode cX4_readTown 3 = .ok (.invokevirtual 29, 3) := by decide +kernel
theorem dX4_readTown_6 : decode cX4_readTown 6 = .ok (.putfield 22, 3) := by decide +kernel
theorem dX4_readTown_9 : decode cX4_readTown 9 = .ok (.iconst 0, 1) := by decide +kernel
theorem dX4_readTown_10 : decode cX4_readTown 10 = .ok (.istore_n 3, 1) := by decide +kernel
theorem dX4_readTown_11 : decode cX4_readTown 11 = .ok (.iload_n 3, 1) := by decide +kernel
theorem dX4_readTown_12 : decode cX4_readTown 12 = .ok (.aload_n 0, 1) := by decide +kernel
theorem dX4_readTown_13 : decode cX4_readTown 13 = .ok (.getfield 22, 3) := by decide +kernel
theorem dX4_readTown_16 : decode cX4_readTown 16 = .ok (.if_icmp .ge 23, 3) := by decide +kernel
theorem dX4_readTown_19 : decode cX4_readTown 19 = .ok (.aload_n 0, 1) := by decide +kernel
theorem dX4_readTown_20 : decode cX4_readTown 20 = .ok (.getfield 18, 3) := by decide +kernel
theorem dX4_readTown_23 : decode cX4_readTown 23 = .ok (.iload_n 3, 1) := by decide +kernel
theorem dX4_readTown_24 : decode cX4_readTown 24 = .ok (.aload_n 1, 1) := by decide +kernel
theorem dX4_readTown_25 : decode cX4_readTown 25 = .ok (.iload_n 2, 1) := by decide +kernel
theorem dX4_readTown_26 : decode cX4_readTown 26 = .ok (.iload_n 3, 1) := by decide +kernel
theorem dX4_readTown_27 : decode cX4_readTown 27 = .ok (.invokevirtual 34, 3) := by decide +kernel
theorem dX4_readTown_30 : decode cX4_readTown 30 = .ok (.invokestatic 38, 3) := by decide +kernel
theorem dX4_readTown_33 : decode cX4_readTown 33 = .ok (.iinc 3 1, 3) := by decide +kernel
theorem dX4_readTown_36 : decode cX4_readTown 36 = .ok (.goto (-25), 3) := by decide +kernel
theorem dX4_readTown_39 : decode cX4_readTown 39 = .ok (.aload_n 0, 1) := by decide +kernel
theorem dX4_readTown_40 : decode cX4_readTown 40 = .ok (.iconst 0, 1) := by decide +kernel
theorem dX4_readTown_41 : decode cX4_readTown 41 = .ok (.putfield 26, 3) := by decide +kernel
theorem dX4_readTown_44 : decode cX4_readTown 44 = .ok (.aload_n 0, 1) := by decide +kernel
theorem dX4_readTown_45 : decode cX4_readTown 45 = .ok (.getfield 12, 3) := by decide +kernel
theorem dX4_readTown_48 : decode cX4_readTown 48 = .ok (.invokevirtual 42, 3) := by decide +kernel
theorem dX4_readTown_51 : decode cX4_readTown 51 = .ok (.aload_n 0, 1) := by decide +kernel
theorem dX4_readTown_52 : decode cX4_readTown 52 = .ok (.invokevirtual 45, 3) := by decide +kernel
theorem dX4_readTown_55 : decode cX4_readTown 55 = .ok (.aload_n 0, 1) := by decide +kernel
theorem dX4_readTown_56 : decode cX4_readTown 56 = .ok (.invokevirtual 48, 3) := by decide +kernel
theorem dX4_readTown_59 : decode cX4_readTown 59 = .ok (.ifCond .ne 8, 3) := by decide +kernel
theorem dX4_readTown_62 : decode cX4_readTown 62 = .ok (.aload_n 0, 1) := by decide +kernel
theorem dX4_readTown_63 : decode cX4_readTown 63 = .ok (.getfield 26, 3) := by decide +kernel
theorem dX4_readTown_66 : decode cX4_readTown 66 = .ok (.ireturn, 1) := by decide +kernel
theorem dX4_readTown_67 : decode cX4_readTown 67 = .ok (.iconst 0, 1) := by decide +kernel
theorem dX4_readTown_68 : decode cX4_readTown 68 = .ok (.istore_n 3, 1) := by decide +kernel
theorem dX4_readTown_69 : decode cX4_readTown 69 = .ok (.iload_n 3, 1) := by decide +kernel
theorem dX4_readTown_70 : decode cX4_readTown 70 = .ok (.bipush 6, 2) := by decide +kernel
theorem dX4_readTown_72 : decode cX4_readTown 72 = .ok (.if_icmp .gt 56, 3) := by decide +kernel
theorem dX4_readTown_75 : decode cX4_readTown 75 = .ok (.aload_n 0, 1) := by decide +kernel
theorem dX4_readTown_76 : decode cX4_readTown 76 = .ok (.invokevirtual 45, 3) := by decide +kernel
theorem dX4_readTown_79 : decode cX4_readTown 79 = .ok (.aload_n 0, 1) := by decide +kernel
theorem dX4_readTown_80 : decode cX4_readTown 80 = .ok (.getfield 26, 3) := by decide +kernel
theorem dX4_readTown_83 : decode cX4_readTown 83 = .ok (.aload_n 0, 1) := by decide +kernel
theorem dX4_readTown_84 : decode cX4_readTown 84 = .ok (.getfield 22, 3) := by decide +kernel
theorem dX4_readTown_87 : decode cX4_readTown 87 = .ok (.if_icmp .lt 23, 3) := by decide +kernel
theorem dX4_readTown_90 : decode cX4_readTown 90 = .ok (.aload_n 0, 1) := by decide +kernel
theorem dX4_readTown_91 : decode cX4_readTown 91 = .ok (.getfield 12, 3) := by decide +kernel
theorem dX4_readTown_94 : decode cX4_readTown 94 = .ok (.getfield 52, 3) := by decide +kernel
theorem dX4_readTown_97 : decode cX4_readTown 97 = .ok (.ifCond .le 8, 3) := by decide +kernel
theorem dX4_readTown_100 : decode cX4_readTown 100 = .ok (.bipush (-9), 2) := by decide +kernel
theorem dX4_readTown_102 : decode cX4_readTown 102 = .ok (.goto 7, 3) := by decide +kernel
theorem dX4_readTown_105 : decode cX4_readTown 105 = .ok (.aload_n 0, 1) := by decide +kernel
theorem dX4_readTown_106 : decode cX4_readTown 106 = .ok (.getfield 26, 3) := by decide +kernel
theorem dX4_readTown_109 : decode cX4_readTown 109 = .ok (.ireturn, 1) := by decide +kernel
theorem dX4_readTown_110 : decode cX4_readTown 110 = .ok (.aload_n 0, 1) := by decide +kernel
theorem dX4_readTown_111 : decode cX4_readTown 111 = .ok (.invokevirtual 55, 3) := by decide +kernel
theorem dX4_readTown_114 : decode cX4_readTown 114 = .ok (.ifCond .ne 8, 3) := by decide +kernel
theorem dX4_readTown_117 : decode cX4_readTown 117 = .ok (.aload_n 0, 1) := by decide +kernel
theorem dX4_readTown_118 : decode cX4_readTown 118 = .ok (.getfield 26, 3) := by decide +kernel
theorem dX4_readTown_121 : decode cX4_readTown 121 = .ok (.ireturn, 1) := by decide +kernel
theorem dX4_readTown_122 : decode cX4_readTown 122 = .ok (.iinc 3 1, 3) := by decide +kernel
theorem dX4_readTown_125 : decode cX4_readTown 125 = .ok (.goto (-56), 3) := by decide +kernel
theorem dX4_readTown_128 : decode cX4_readTown 128 = .ok (.aload_n 0, 1) := by decide +kernel
theorem dX4_readTown_129 : decode cX4_readTown 129 = .ok (.getfield 26, 3) := by decide +kernel
theorem dX4_readTown_132 : decode cX4_readTown 132 = .ok (.ireturn, 1) := by decide +kernel
theorem dX4_takesHead_0 : decode cX4_takesHead 0 = .ok (.aload_n 0, 1) := by decide +kernel
theorem dX4_takesHead_1 : decode cX4_takesHead 1 = .ok (.invokevirtual 58, 3) := by decide +kernel
theorem dX4_takesHead_4 : decode cX4_takesHead 4 = .ok (.bipush 110, 2) := by decide +kernel
theorem dX4_takesHead_6 : decode cX4_takesHead 6 = .ok (.if_icmp .eq 5, 3) := by decide +kernel
theorem dX4_takesHead_9 : decode cX4_takesHead 9 = .ok (.iconst 0, 1) := by decide +kernel
theorem dX4_takesHead_10 : decode cX4_takesHead 10 = .ok (.ireturn, 1) := by decide +kernel
theorem dX4_takesHead_11 : decode cX4_takesHead 11 = .ok (.aload_n 0, 1) := by decide +kernel
theorem dX4_takesHead_12 : decode cX4_takesHead 12 = .ok (.dup, 1) := by decide +kernel
theorem dX4_takesHead_13 : decode cX4_takesHead 13 = .ok (.getfield 26, 3) := by decide +kernel
theorem dX4_takesHead_16 : decode cX4_takesHead 16 = .ok (.iconst 1, 1) := by decide +kernel
theorem dX4_takesHead_17 : decode cX4_takesHead 17 = .ok (.iadd, 1) := by decide +kernel
theorem dX4_takesHead_18 : decode cX4_takesHead 18 = .ok (.putfield 26, 3) := by decide +kernel
theorem dX4_takesHead_21 : decode cX4_takesHead 21 = .ok (.iconst 0, 1) := by decide +kernel
theorem dX4_takesHead_22 : decode cX4_takesHead 22 = .ok (.istore_n 1, 1) := by decide +kernel
theorem dX4_takesHead_23 : decode cX4_takesHead 23 = .ok (.iload_n 1, 1) := by decide +kernel
theorem dX4_takesHead_24 : decode cX4_takesHead 24 = .ok (.iconst 4, 1) := by decide +kernel
theorem dX4_takesHead_25 : decode cX4_takesHead 25 = .ok (.if_icmp .ge 34, 3) := by decide +kernel
theorem dX4_takesHead_28 : decode cX4_takesHead 28 = .ok (.aload_n 0, 1) := by decide +kernel
theorem dX4_takesHead_29 : decode cX4_takesHead 29 = .ok (.iconst 0, 1) := by decide +kernel
theorem dX4_takesHead_30 : decode cX4_takesHead 30 = .ok (.invokevirtual 62, 3) := by decide +kernel
theorem dX4_takesHead_33 : decode cX4_takesHead 33 = .ok (.istore_n 2, 1) := by decide +kernel
theorem dX4_takesHead_34 : decode cX4_takesHead 34 = .ok (.iload_n 2, 1) := by decide +kernel
theorem dX4_takesHead_35 : decode cX4_takesHead 35 = .ok (.iconst (-1), 1) := by decide +kernel
theorem dX4_takesHead_36 : decode cX4_takesHead 36 = .ok (.if_icmp .ne 5, 3) := by decide +kernel
theorem dX4_takesHead_39 : decode cX4_takesHead 39 = .ok (.iconst 0, 1) := by decide +kernel
theorem dX4_takesHead_40 : decode cX4_takesHead 40 = .ok (.ireturn, 1) := by decide +kernel
theorem dX4_takesHead_41 : decode cX4_takesHead 41 = .ok (.aload_n 0, 1) := by decide +kernel
theorem dX4_takesHead_42 : decode cX4_takesHead 42 = .ok (.getfield 12, 3) := by decide +kernel
theorem dX4_takesHead_45 : decode cX4_takesHead 45 = .ok (.getfield 65, 3) := by decide +kernel
theorem dX4_takesHead_48 : decode cX4_takesHead 48 = .ok (.iload_n 1, 1) := by decide +kernel
theorem dX4_takesHead_49 : decode cX4_takesHead 49 = .ok (.iload_n 2, 1) := by decide +kernel
theorem dX4_takesHead_50 : decode cX4_takesHead 50 = .ok (.invokestatic 38, 3) := by decide +kernel
theorem dX4_takesHead_53 : decode cX4_takesHead 53 = .ok (.iinc 1 1, 3) := by decide +kernel
theorem dX4_takesHead_56 : decode cX4_takesHead 56 = .ok (.goto (-33), 3) := by decide +kernel
theorem dX4_takesHead_59 : decode cX4_takesHead 59 = .ok (.aload_n 0, 1) := by decide +kernel
theorem dX4_takesHead_60 : decode cX4_takesHead 60 = .ok (.iconst 1, 1) := by decide +kernel
theorem dX4_takesHead_61 : decode cX4_takesHead 61 = .ok (.invokevirtual 62, 3) := by decide +kernel
theorem dX4_takesHead_64 : decode cX4_takesHead 64 = .ok (.istore_n 1, 1) := by decide +kernel
theorem dX4_takesHead_65 : decode cX4_takesHead 65 = .ok (.aload_n 0, 1) := by decide +kernel
theorem dX4_takesHead_66 : decode cX4_takesHead 66 = .ok (.getfield 12, 3) := by decide +kernel
theorem dX4_takesHead_69 : decode cX4_takesHead 69 = .ok (.iload_n 1, 1) := by decide +kernel
theorem dX4_takesHead_70 : decode cX4_takesHead 70 = .ok (.putfield 68, 3) := by decide +kernel
theorem dX4_takesHead_73 : decode cX4_takesHead 73 = .ok (.iload_n 1, 1) := by decide +kernel
theorem dX4_takesHead_74 : decode cX4_takesHead 74 = .ok (.iconst (-1), 1) := by decide +kernel
theorem dX4_takesHead_75 : decode cX4_takesHead 75 = .ok (.if_icmp .eq 7, 3) := by decide +kernel
theorem dX4_takesHead_78 : decode cX4_takesHead 78 = .ok (.iconst 1, 1) := by decide +kernel
theorem dX4_takesHead_79 : decode cX4_takesHead 79 = .ok (.goto 4, 3) := by decide +kernel
theorem dX4_takesHead_82 : decode cX4_takesHead 82 = .ok (.iconst 0, 1) := by decide +kernel
theorem dX4_takesHead_83 : decode cX4_takesHead 83 = .ok (.ireturn, 1) := by decide +kernel
theorem dX4_takesBed_0 : decode cX4_takesBed 0 = .ok (.aload_n 0, 1) := by decide +kernel
theorem dX4_takesBed_1 : decode cX4_takesBed 1 = .ok (.invokevirtual 71, 3) := by decide +kernel
theorem dX4_takesBed_4 : decode cX4_takesBed 4 = .ok (.istore_n 1, 1) := by decide +kernel
theorem dX4_takesBed_5 : decode cX4_takesBed 5 = .ok (.iload_n 1, 1) := by decide +kernel
theorem dX4_takesBed_6 : decode cX4_takesBed 6 = .ok (.iconst (-1), 1) := by decide +kernel
theorem dX4_takesBed_7 : decode cX4_takesBed 7 = .ok (.if_icmp .eq 15, 3) := by decide +kernel
theorem dX4_takesBed_10 : decode cX4_takesBed 10 = .ok (.aload_n 0, 1) := by decide +kernel
theorem dX4_takesBed_11 : decode cX4_takesBed 11 = .ok (.getfield 12, 3) := by decide +kernel
theorem dX4_takesBed_14 : decode cX4_takesBed 14 = .ok (.getfield 52, 3) := by decide +kernel
theorem dX4_takesBed_17 : decode cX4_takesBed 17 = .ok (.bipush 6, 2) := by decide +kernel
theorem dX4_takesBed_19 : decode cX4_takesBed 19 = .ok (.if_icmp .lt 5, 3) := by decide +kernel
theorem dX4_takesBed_22 : decode cX4_takesBed 22 = .ok (.iconst 0, 1) := by decide +kernel
theorem dX4_takesBed_23 : decode cX4_takesBed 23 = .ok (.ireturn, 1) := by decide +kernel
theorem dX4_takesBed_24 : decode cX4_takesBed 24 = .ok (.aload_n 0, 1) := by decide +kernel
theorem dX4_takesBed_25 : decode cX4_takesBed 25 = .ok (.dup, 1) := by decide +kernel
theorem dX4_takesBed_26 : decode cX4_takesBed 26 = .ok (.getfield 26, 3) := by decide +kernel
theorem dX4_takesBed_29 : decode cX4_takesBed 29 = .ok (.iconst 1, 1) := by decide +kernel
theorem dX4_takesBed_30 : decode cX4_takesBed 30 = .ok (.iadd, 1) := by decide +kernel
theorem dX4_takesBed_31 : decode cX4_takesBed 31 = .ok (.putfield 26, 3) := by decide +kernel
theorem dX4_takesBed_34 : decode cX4_takesBed 34 = .ok (.aload_n 0, 1) := by decide +kernel
theorem dX4_takesBed_35 : decode cX4_takesBed 35 = .ok (.iconst 0, 1) := by decide +kernel
theorem dX4_takesBed_36 : decode cX4_takesBed 36 = .ok (.invokevirtual 62, 3) := by decide +kernel
theorem dX4_takesBed_39 : decode cX4_takesBed 39 = .ok (.istore_n 2, 1) := by decide +kernel
theorem dX4_takesBed_40 : decode cX4_takesBed 40 = .ok (.iload_n 2, 1) := by decide +kernel
theorem dX4_takesBed_41 : decode cX4_takesBed 41 = .ok (.iconst (-1), 1) := by decide +kernel
theorem dX4_takesBed_42 : decode cX4_takesBed 42 = .ok (.if_icmp .ne 7, 3) := by decide +kernel
theorem dX4_takesBed_45 : decode cX4_takesBed 45 = .ok (.iconst (-1), 1) := by decide +kernel
theorem dX4_takesBed_46 : decode cX4_takesBed 46 = .ok (.goto 8, 3) := by decide +kernel
theorem dX4_takesBed_49 : decode cX4_takesBed 49 = .ok (.aload_n 0, 1) := by decide +kernel
theorem dX4_takesBed_50 : decode cX4_takesBed 50 = .ok (.iconst 0, 1) := by decide +kernel
theorem dX4_takesBed_51 : decode cX4_takesBed 51 = .ok (.invokevirtual 62, 3) := by decide +kernel
theorem dX4_takesBed_54 : decode cX4_takesBed 54 = .ok (.istore_n 3, 1) := by decide +kernel
theorem dX4_takesBed_55 : decode cX4_takesBed 55 = .ok (.iload_n 3, 1) := by decide +kernel
theorem dX4_takesBed_56 : decode cX4_takesBed 56 = .ok (.iconst (-1), 1) := by decide +kernel
theorem dX4_takesBed_57 : decode cX4_takesBed 57 = .ok (.if_icmp .ne 7, 3) := by decide +kernel
theorem dX4_takesBed_60 : decode cX4_takesBed 60 = .ok (.iconst (-1), 1) := by decide +kernel
theorem dX4_takesBed_61 : decode cX4_takesBed 61 = .ok (.goto 8, 3) := by decide +kernel
theorem dX4_takesBed_64 : decode cX4_takesBed 64 = .ok (.aload_n 0, 1) := by decide +kernel
theorem dX4_takesBed_65 : decode cX4_takesBed 65 = .ok (.iconst 0, 1) := by decide +kernel
theorem dX4_takesBed_66 : decode cX4_takesBed 66 = .ok (.invokevirtual 62, 3) := by decide +kernel
theorem dX4_takesBed_69 : decode cX4_takesBed 69 = .ok (.istore 4, 2) := by decide +kernel
theorem dX4_takesBed_71 : decode cX4_takesBed 71 = .ok (.iload 4, 2) := by decide +kernel
theorem dX4_takesBed_73 : decode cX4_takesBed 73 = .ok (.iconst (-1), 1) := by decide +kernel
theorem dX4_takesBed_74 : decode cX4_takesBed 74 = .ok (.if_icmp .ne 5, 3) := by decide +kernel
theorem dX4_takesBed_77 : decode cX4_takesBed 77 = .ok (.iconst 0, 1) := by decide +kernel
theorem dX4_takesBed_78 : decode cX4_takesBed 78 = .ok (.ireturn, 1) := by decide +kernel
theorem dX4_takesBed_79 : decode cX4_takesBed 79 = .ok (.aload_n 0, 1) := by decide +kernel
theorem dX4_takesBed_80 : decode cX4_takesBed 80 = .ok (.getfield 12, 3) := by decide +kernel
theorem dX4_takesBed_83 : decode cX4_takesBed 83 = .ok (.iload_n 1, 1) := by decide +kernel
theorem dX4_takesBed_84 : decode cX4_takesBed 84 = .ok (.iload_n 2, 1) := by decide +kernel
theorem dX4_takesBed_85 : decode cX4_takesBed 85 = .ok (.iload_n 3, 1) := by decide +kernel
theorem dX4_takesBed_86 : decode cX4_takesBed 86 = .ok (.iload 4, 2) := by decide +kernel
theorem dX4_takesBed_88 : decode cX4_takesBed 88 = .ok (.invokevirtual 74, 3) := by decide +kernel
theorem dX4_takesBed_91 : decode cX4_takesBed 91 = .ok (.iconst 1, 1) := by decide +kernel
theorem dX4_takesBed_92 : decode cX4_takesBed 92 = .ok (.ireturn, 1) := by decide +kernel
theorem dX4_skipBlanks_0 : decode cX4_skipBlanks 0 = .ok (.aload_n 0, 1) := by decide +kernel
theorem dX4_skipBlanks_1 : decode cX4_skipBlanks 1 = .ok (.getfield 26, 3) := by decide +kernel
theorem dX4_skipBlanks_4 : decode cX4_skipBlanks 4 = .ok (.aload_n 0, 1) := by decide +kernel
theorem dX4_skipBlanks_5 : decode cX4_skipBlanks 5 = .ok (.getfield 22, 3) := by decide +kernel
theorem dX4_skipBlanks_8 : decode cX4_skipBlanks 8 = .ok (.if_icmp .ge 25, 3) := by decide +kernel
theorem dX4_skipBlanks_11 : decode cX4_skipBlanks 11 = .ok (.aload_n 0, 1) := by decide +kernel
theorem dX4_skipBlanks_12 : decode cX4_skipBlanks 12 = .ok (.invokevirtual 58, 3) := by decide +kernel
theorem dX4_skipBlanks_15 : decode cX4_skipBlanks 15 = .ok (.bipush 32, 2) := by decide +kernel
theorem dX4_skipBlanks_17 : decode cX4_skipBlanks 17 = .ok (.if_icmp .ne 16, 3) := by decide +kernel
theorem dX4_skipBlanks_20 : decode cX4_skipBlanks 20 = .ok (.aload_n 0, 1) := by decide +kernel
theorem dX4_skipBlanks_21 : decode cX4_skipBlanks 21 = .ok (.dup, 1) := by decide +kernel
theorem dX4_skipBlanks_22 : decode cX4_skipBlanks 22 = .ok (.getfield 26, 3) := by decide +kernel
theorem dX4_skipBlanks_25 : decode cX4_skipBlanks 25 = .ok (.iconst 1, 1) := by decide +kernel
theorem dX4_skipBlanks_26 : decode cX4_skipBlanks 26 = .ok (.iadd, 1) := by decide +kernel
theorem dX4_skipBlanks_27 : decode cX4_skipBlanks 27 = .ok (.putfield 26, 3) := by decide +kernel
theorem dX4_skipBlanks_30 : decode cX4_skipBlanks 30 = .ok (.goto (-30), 3) := by decide +kernel
theorem dX4_skipBlanks_33 : decode cX4_skipBlanks 33 = .ok (.return_, 1) := by decide +kernel
theorem dX4_kindHere_0 : decode cX4_kindHere 0 = .ok (.iconst 0, 1) := by decide +kernel
theorem dX4_kindHere_1 : decode cX4_kindHere 1 = .ok (.istore_n 1, 1) := by decide +kernel
theorem dX4_kindHere_2 : decode cX4_kindHere 2 = .ok (.iload_n 1, 1) := by decide +kernel
theorem dX4_kindHere_3 : decode cX4_kindHere 3 = .ok (.bipush 6, 2) := by decide +kernel
theorem dX4_kindHere_5 : decode cX4_kindHere 5 = .ok (.if_icmp .ge 25, 3) := by decide +kernel
theorem dX4_kindHere_8 : decode cX4_kindHere 8 = .ok (.aload_n 0, 1) := by decide +kernel
theorem dX4_kindHere_9 : decode cX4_kindHere 9 = .ok (.invokevirtual 58, 3) := by decide +kernel
theorem dX4_kindHere_12 : decode cX4_kindHere 12 = .ok (.getstatic 78, 3) := by decide +kernel
theorem dX4_kindHere_15 : decode cX4_kindHere 15 = .ok (.iload_n 1, 1) := by decide +kernel
theorem dX4_kindHere_16 : decode cX4_kindHere 16 = .ok (.invokestatic 81, 3) := by decide +kernel
theorem dX4_kindHere_19 : decode cX4_kindHere 19 = .ok (.if_icmp .ne 5, 3) := by decide +kernel
theorem dX4_kindHere_22 : decode cX4_kindHere 22 = .ok (.iload_n 1, 1) := by decide +kernel
theorem dX4_kindHere_23 : decode cX4_kindHere 23 = .ok (.ireturn, 1) := by decide +kernel
theorem dX4_kindHere_24 : decode cX4_kindHere 24 = .ok (.iinc 1 1, 3) := by decide +kernel
theorem dX4_kindHere_27 : decode cX4_kindHere 27 = .ok (.goto (-25), 3) := by decide +kernel
theorem dX4_kindHere_30 : decode cX4_kindHere 30 = .ok (.iconst (-1), 1) := by decide +kernel
theorem dX4_kindHere_31 : decode cX4_kindHere 31 = .ok (.ireturn, 1) := by decide +kernel
theorem dX4_takeFigure_0 : decode cX4_takeFigure 0 = .ok (.aload_n 0, 1) := by decide +kernel
theorem dX4_takeFigure_1 : decode cX4_takeFigure 1 = .ok (.invokevirtual 58, 3) := by decide +kernel
theorem dX4_takeFigure_4 : decode cX4_takeFigure 4 = .ok (.bipush 48, 2) := by decide +kernel
theorem dX4_takeFigure_6 : decode cX4_takeFigure 6 = .ok (.isub, 1) := by decide +kernel
theorem dX4_takeFigure_7 : decode cX4_takeFigure 7 = .ok (.istore_n 2, 1) := by decide +kernel
theorem dX4_takeFigure_8 : decode cX4_takeFigure 8 = .ok (.iload_n 2, 1) := by decide +kernel
theorem dX4_takeFigure_9 : decode cX4_takeFigure 9 = .ok (.iload_n 1, 1) := by decide +kernel
theorem dX4_takeFigure_10 : decode cX4_takeFigure 10 = .ok (.if_icmp .lt 9, 3) := by decide +kernel
theorem dX4_takeFigure_13 : decode cX4_takeFigure 13 = .ok (.iload_n 2, 1) := by decide +kernel
theorem dX4_takeFigure_14 : decode cX4_takeFigure 14 = .ok (.bipush 9, 2) := by decide +kernel
theorem dX4_takeFigure_16 : decode cX4_takeFigure 16 = .ok (.if_icmp .le 5, 3) := by decide +kernel
theorem dX4_takeFigure_19 : decode cX4_takeFigure 19 = .ok (.iconst (-1), 1) := by decide +kernel
theorem dX4_takeFigure_20 : decode cX4_takeFigure 20 = .ok (.ireturn, 1) := by decide +kernel
theorem dX4_takeFigure_21 : decode cX4_takeFigure 21 = .ok (.aload_n 0, 1) := by decide +kernel
theorem dX4_takeFigure_22 : decode cX4_takeFigure 22 = .ok (.dup, 1) := by decide +kernel
theorem dX4_takeFigure_23 : decode cX4_takeFigure 23 = .ok (.getfield 26, 3) := by decide +kernel
theorem dX4_takeFigure_26 : decode cX4_takeFigure 26 = .ok (.iconst 1, 1) := by decide +kernel
theorem dX4_takeFigure_27 : decode cX4_takeFigure 27 = .ok (.iadd, 1) := by decide +kernel
theorem dX4_takeFigure_28 : decode cX4_takeFigure 28 = .ok (.putfield 26, 3) := by decide +kernel
theorem dX4_takeFigure_31 : decode cX4_takeFigure 31 = .ok (.iload_n 2, 1) := by decide +kernel
theorem dX4_takeFigure_32 : decode cX4_takeFigure 32 = .ok (.ireturn, 1) := by decide +kernel
theorem dX4_here_0 : decode cX4_here 0 = .ok (.aload_n 0, 1) := by decide +kernel
theorem dX4_here_1 : decode cX4_here 1 = .ok (.getfield 26, 3) := by decide +kernel
theorem dX4_here_4 : decode cX4_here 4 = .ok (.aload_n 0, 1) := by decide +kernel
theorem dX4_here_5 : decode cX4_here 5 = .ok (.getfield 22, 3) := by decide +kernel
theorem dX4_here_8 : decode cX4_here 8 = .ok (.if_icmp .ge 17, 3) := by decide +kernel
theorem dX4_here_11 : decode cX4_here 11 = .ok (.aload_n 0, 1) := by decide +kernel
theorem dX4_here_12 : decode cX4_here 12 = .ok (.getfield 18, 3) := by decide +kernel
theorem dX4_here_15 : decode cX4_here 15 = .ok (.aload_n 0, 1) := by decide +kernel
theorem dX4_here_16 : decode cX4_here 16 = .ok (.getfield 26, 3) := by decide +kernel
theorem dX4_here_19 : decode cX4_here 19 = .ok (.invokestatic 81, 3) := by decide +kernel
theorem dX4_here_22 : decode cX4_here 22 = .ok (.goto 4, 3) := by decide +kernel
theorem dX4_here_25 : decode cX4_here 25 = .ok (.iconst 0, 1) := by decide +kernel
theorem dX4_here_26 : decode cX4_here 26 = .ok (.ireturn, 1) := by decide +kernel
theorem dX5_init_0 : decode cX5_init 0 = .ok (.aload_n 0, 1) := by decide +kernel
theorem dX5_init_1 : decode cX5_init 1 = .ok (.invokespecial 3, 3) := by decide +kernel
theorem dX5_init_4 : decode cX5_init 4 = .ok (.aload_n 0, 1) := by decide +kernel
theorem dX5_init_5 : decode cX5_init 5 = .ok (.new 9, 3) := by decide +kernel
theorem dX5_init_8 : decode cX5_init 8 = .ok (.dup, 1) := by decide +kernel
theorem dX5_init_9 : decode cX5_init 9 = .ok (.iconst 5, 1) := by decide +kernel
theorem dX5_init_10 : decode cX5_init 10 = .ok (.invokespecial 11, 3) := by decide +kernel
theorem dX5_init_13 : decode cX5_init 13 = .ok (.putfield 14, 3) := by decide +kernel
theorem dX5_init_16 : decode cX5_init 16 = .ok (.aload_n 0, 1) := by decide +kernel
theorem dX5_init_17 : decode cX5_init 17 = .ok (.iconst 4, 1) := by decide +kernel
theorem dX5_init_18 : decode cX5_init 18 = .ok (.newarray .int, 2) := by decide +kernel
theorem dX5_init_20 : decode cX5_init 20 = .ok (.putfield 20, 3) := by decide +kernel
theorem dX5_init_23 : decode cX5_init 23 = .ok (.aload_n 0, 1) := by decide +kernel
theorem dX5_init_24 : decode cX5_init 24 = .ok (.iconst 4, 1) := by decide +kernel
theorem dX5_init_25 : decode cX5_init 25 = .ok (.newarray .int, 2) := by decide +kernel
theorem dX5_init_27 : decode cX5_init 27 = .ok (.putfield 24, 3) := by decide +kernel
theorem dX5_init_30 : decode cX5_init 30 = .ok (.aload_n 0, 1) := by decide +kernel
theorem dX5_init_31 : decode cX5_init 31 = .ok (.iconst 0, 1) := by decide +kernel
theorem dX5_init_32 : decode cX5_init 32 = .ok (.putfield 27, 3) := by decide +kernel
theorem dX5_init_35 : decode cX5_init 35 = .ok (.return_, 1) := by decide +kernel
theorem dX5_mostFound_0 : decode cX5_mostFound 0 = .ok (.aload_n 0, 1) := by decide +kernel
theorem dX5_mostFound_1 : decode cX5_mostFound 1 = .ok (.iconst (-1), 1) := by decide +kernel
theorem dX5_mostFound_2 : decode cX5_mostFound 2 = .ok (.putfield 27, 3) := by decide +kernel
theorem dX5_mostFound_5 : decode cX5_mostFound 5 = .ok (.aload_n 0, 1) := by decide +kernel
theorem dX5_mostFound_6 : decode cX5_mostFound 6 = .ok (.aload_n 0, 1) := by decide +kernel
theorem dX5_mostFound_7 : decode cX5_mostFound 7 = .ok (.getfield 14, 3) := by decide +kernel
theorem dX5_mostFound_10 : decode cX5_mostFound 10 = .ok (.iconst 0, 1) := by decide +kernel
theorem dX5_mostFound_11 : decode cX5_mostFound 11 = .ok (.aload_n 1, 1) := by decide +kernel
theorem dX5_mostFound_12 : decode cX5_mostFound 12 = .ok (.invokevirtual 31, 3) := by decide +kernel
theorem dX5_mostFound_15 : decode cX5_mostFound 15 = .ok (.iconst 0, 1) := by decide +kernel
theorem dX5_mostFound_16 : decode cX5_mostFound 16 = .ok (.iload_n 2, 1) := by decide +kernel
theorem dX5_mostFound_17 : decode cX5_mostFound 17 = .ok (.iconst 0, 1) := by decide +kernel
theorem dX5_mostFound_18 : decode cX5_mostFound 18 = .ok (.invokevirtual 35, 3) := by decide +kernel
theorem dX5_mostFound_21 : decode cX5_mostFound 21 = .ok (.aload_n 0, 1) := by decide +kernel
theorem dX5_mostFound_22 : decode cX5_mostFound 22 = .ok (.getfield 27, 3) := by decide +kernel
theorem dX5_mostFound_25 : decode cX5_mostFound 25 = .ok (.ireturn, 1) := by decide +kernel
theorem dX5_goOn_0 : decode cX5_goOn 0 = .ok (.iload_n 2, 1) := by decide +kernel
theorem dX5_goOn_1 : decode cX5_goOn 1 = .ok (.iload_n 3, 1) := by decide +kernel
theorem dX5_goOn_2 : decode cX5_goOn 2 = .ok (.if_icmp .ge 7, 3) := by decide +kernel
theorem dX5_goOn_5 : decode cX5_goOn 5 = .ok (.aload_n 1, 1) := by decide +kernel
theorem dX5_goOn_6 : decode cX5_goOn 6 = .ok (.ifnonnull 10, 3) := by decide +kernel
theorem dX5_goOn_9 : decode cX5_goOn 9 = .ok (.aload_n 0, 1) := by decide +kernel
theorem dX5_goOn_10 : decode cX5_goOn 10 = .ok (.iload 4, 2) := by decide +kernel
theorem dX5_goOn_12 : decode cX5_goOn 12 = .ok (.invokevirtual 39, 3) := by decide +kernel
theorem dX5_goOn_15 : decode cX5_goOn 15 = .ok (.return_, 1) := by decide +kernel
theorem dX5_goOn_16 : decode cX5_goOn 16 = .ok (.aload_n 1, 1) := by decide +kernel
theorem dX5_goOn_17 : decode cX5_goOn 17 = .ok (.invokevirtual 42, 3) := by decide +kernel
theorem dX5_goOn_20 : decode cX5_goOn 20 = .ok (.pop, 1) := by decide +kernel
theorem dX5_goOn_21 : decode cX5_goOn 21 = .ok (.iconst (-1), 1) := by decide +kernel
theorem dX5_goOn_22 : decode cX5_goOn 22 = .ok (.istore 5, 2) := by decide +kernel
theorem dX5_goOn_24 : decode cX5_goOn 24 = .ok (.iload 5, 2) := by decide +kernel
theorem dX5_goOn_26 : decode cX5_goOn 26 = .ok (.aload_n 1, 1) := by decide +kernel
theorem dX5_goOn_27 : decode cX5_goOn 27 = .ok (.getfield 48, 3) := by decide +kernel
theorem dX5_goOn_30 : decode cX5_goOn 30 = .ok (.if_icmp .ge 85, 3) := by decide +kernel
theorem dX5_goOn_33 : decode cX5_goOn 33 = .ok (.iload 5, 2) := by decide +kernel
theorem dX5_goOn_35 : decode cX5_goOn 35 = .ok (.ifCond .lt 12, 3) := by decide +kernel
theorem dX5_goOn_38 : decode cX5_goOn 38 = .ok (.aload_n 1, 1) := by decide +kernel
theorem dX5_goOn_39 : decode cX5_goOn 39 = .ok (.iload 5, 2) := by decide +kernel
theorem dX5_goOn_41 : decode cX5_goOn 41 = .ok (.invokevirtual 51, 3) := by decide +kernel
theorem dX5_goOn_44 : decode cX5_goOn 44 = .ok (.ifCond .eq 65, 3) := by decide +kernel
theorem dX5_goOn_47 : decode cX5_goOn 47 = .ok (.aload_n 0, 1) := by decide +kernel
theorem dX5_goOn_48 : decode cX5_goOn 48 = .ok (.getfield 14, 3) := by decide +kernel
theorem dX5_goOn_51 : decode cX5_goOn 51 = .ok (.iload_n 2, 1) := by decide +kernel
theorem dX5_goOn_52 : decode cX5_goOn 52 = .ok (.iconst 1, 1) := by decide +kernel
theorem dX5_goOn_53 : decode cX5_goOn 53 = .ok (.iadd, 1) := by decide +kernel
theorem dX5_goOn_54 : decode cX5_goOn 54 = .ok (.aload_n 1, 1) := by decide +kernel
theorem dX5_goOn_55 : decode cX5_goOn 55 = .ok (.invokevirtual 31, 3) := by decide +kernel
theorem dX5_goOn_58 : decode cX5_goOn 58 = .ok (.astore 6, 2) := by decide +kernel
theorem dX5_goOn_60 : decode cX5_goOn 60 = .ok (.aload_n 0, 1) := by decide +kernel
theorem dX5_goOn_61 : decode cX5_goOn 61 = .ok (.getfield 24, 3) := by decide +kernel
theorem dX5_goOn_64 : decode cX5_goOn 64 = .ok (.iload_n 2, 1) := by decide +kernel
theorem dX5_goOn_65 : decode cX5_goOn 65 = .ok (.iload 5, 2) := by decide +kernel
theorem dX5_goOn_67 : decode cX5_goOn 67 = .ok (.ifCond .ge 8, 3) := by decide +kernel
theorem dX5_goOn_70 : decode cX5_goOn 70 = .ok (.bipush (-9), 2) := by decide +kernel
theorem dX5_goOn_72 : decode cX5_goOn 72 = .ok (.goto 5, 3) := by decide +kernel
theorem dX5_goOn_75 : decode cX5_goOn 75 = .ok (.iload 5, 2) := by decide +kernel
theorem dX5_goOn_77 : decode cX5_goOn 77 = .ok (.invokestatic 55, 3) := by decide +kernel
theorem dX5_goOn_80 : decode cX5_goOn 80 = .ok (.aload_n 0, 1) := by decide +kernel
theorem dX5_goOn_81 : decode cX5_goOn 81 = .ok (.aload 6, 2) := by decide +kernel
theorem dX5_goOn_83 : decode cX5_goOn 83 = .ok (.iload_n 2, 1) := by decide +kernel
theorem dX5_goOn_84 : decode cX5_goOn 84 = .ok (.iconst 1, 1) := by decide +kernel
theorem dX5_goOn_85 : decode cX5_goOn 85 = .ok (.iadd, 1) := by decide +kernel
theorem dX5_goOn_86 : decode cX5_goOn 86 = .ok (.iload_n 3, 1) := by decide +kernel
theorem dX5_goOn_87 : decode cX5_goOn 87 = .ok (.iload 4, 2) := by decide +kernel
theorem dX5_goOn_89 : decode cX5_goOn 89 = .ok (.aload 6, 2) := by decide +kernel
theorem dX5_goOn_91 : decode cX5_goOn 91 = .ok (.ifnonnull 7, 3) := by decide +kernel
theorem dX5_goOn_94 : decode cX5_goOn 94 = .ok (.iconst 0, 1) := by decide +kernel
theorem dX5_goOn_95 : decode cX5_goOn 95 = .ok (.goto 10, 3) := by decide +kernel
theorem dX5_goOn_98 : decode cX5_goOn 98 = .ok (.aload 6, 2) := by decide +kernel
theorem dX5_goOn_100 : decode cX5_goOn 100 = .ok (.iload 5, 2) := by decide +kernel
theorem dX5_goOn_102 : decode cX5_goOn 102 = .ok (.invokevirtual 59, 3) := by decide +kernel
theorem dX5_goOn_105 : decode cX5_goOn 105 = .ok (.iadd, 1) := by decide +kernel
theorem dX5_goOn_106 : decode cX5_goOn 106 = .ok (.invokevirtual 35, 3) := by decide +kernel
theorem dX5_goOn_109 : decode cX5_goOn 109 = .ok (.iinc 5 1, 3) := by decide +kernel
theorem dX5_goOn_112 : decode cX5_goOn 112 = .ok (.goto (-88), 3) := by decide +kernel
theorem dX5_goOn_115 : decode cX5_goOn 115 = .ok (.return_, 1) := by decide +kernel
theorem dX5_takeIfMore_0 : decode cX5_takeIfMore 0 = .ok (.iload_n 1, 1) := by decide +kernel
theorem dX5_takeIfMore_1 : decode cX5_takeIfMore 1 = .ok (.aload_n 0, 1) := by decide +kernel
theorem dX5_takeIfMore_2 : decode cX5_takeIfMore 2 = .ok (.getfield 27, 3) := by decide +kernel
theorem dX5_takeIfMore_5 : decode cX5_takeIfMore 5 = .ok (.if_icmp .le 19, 3) := by decide +kernel
theorem dX5_takeIfMore_8 : decode cX5_takeIfMore 8 = .ok (.aload_n 0, 1) := by decide +kernel
theorem dX5_takeIfMore_9 : decode cX5_takeIfMore 9 = .ok (.iload_n 1, 1) := by decide +kernel
theorem dX5_takeIfMore_10 : decode cX5_takeIfMore 10 = .ok (.putfield 27, 3) := by decide +kernel
theorem dX5_takeIfMore_13 : decode cX5_takeIfMore 13 = .ok (.aload_n 0, 1) := by decide +kernel
theorem dX5_takeIfMore_14 : decode cX5_takeIfMore 14 = .ok (.getfield 24, 3) := by decide +kernel
theorem dX5_takeIfMore_17 : decode cX5_takeIfMore 17 = .ok (.aload_n 0, 1) := by decide +kernel
theorem dX5_takeIfMore_18 : decode cX5_takeIfMore 18 = .ok (.getfield 20, 3) := by decide +kernel
theorem dX5_takeIfMore_21 : decode cX5_takeIfMore 21 = .ok (.invokestatic 63, 3) := by decide +kernel
theorem dX5_takeIfMore_24 : decode cX5_takeIfMore 24 = .ok (.return_, 1) := by decide +kernel
theorem dX6_init_0 : decode cX6_init 0 = .ok (.aload_n 0, 1) := by decide +kernel
theorem dX6_init_1 : decode cX6_init 1 = .ok (.invokespecial 3, 3) := by decide +kernel
theorem dX6_init_4 : decode cX6_init 4 = .ok (.aload_n 0, 1) := by decide +kernel
theorem dX6_init_5 : decode cX6_init 5 = .ok (.iconst 0, 1) := by decide +kernel
theorem dX6_init_6 : decode cX6_init 6 = .ok (.iload_n 2, 1) := by decide +kernel
theorem dX6_init_7 : decode cX6_init 7 = .ok (.invokestatic 9, 3) := by decide +kernel
theorem dX6_init_10 : decode cX6_init 10 = .ok (.putfield 15, 3) := by decide +kernel
theorem dX6_init_13 : decode cX6_init 13 = .ok (.aload_n 0, 1) := by decide +kernel
theorem dX6_init_14 : decode cX6_init 14 = .ok (.iconst 0, 1) := by decide +kernel
theorem dX6_init_15 : decode cX6_init 15 = .ok (.iload_n 1, 1) := by decide +kernel
theorem dX6_init_16 : decode cX6_init 16 = .ok (.invokestatic 9, 3) := by decide +kernel
theorem dX6_init_19 : decode cX6_init 19 = .ok (.newarray .int, 2) := by decide +kernel
theorem dX6_init_21 : decode cX6_init 21 = .ok (.putfield 21, 3) := by decide +kernel
theorem dX6_init_24 : decode cX6_init 24 = .ok (.aload_n 0, 1) := by decide +kernel
theorem dX6_init_25 : decode cX6_init 25 = .ok (.iconst 0, 1) := by decide +kernel
theorem dX6_init_26 : decode cX6_init 26 = .ok (.iload_n 1, 1) := by decide +kernel
theorem dX6_init_27 : decode cX6_init 27 = .ok (.iload_n 2, 1) := by decide +kernel
theorem dX6_init_28 : decode cX6_init 28 = .ok (.imul, 1) := by decide +kernel
theorem dX6_init_29 : decode cX6_init 29 = .ok (.invokestatic 9, 3) := by decide +kernel
theorem dX6_init_32 : decode cX6_init 32 = .ok (.newarray .int, 2) := by decide +kernel
theorem dX6_init_34 : decode cX6_init 34 = .ok (.putfield 25, 3) := by decide +kernel
theorem dX6_init_37 : decode cX6_init 37 = .ok (.aload_n 0, 1) := by decide +kernel
theorem dX6_init_38 : decode cX6_init 38 = .ok (.getfield 21, 3) := by decide +kernel
theorem dX6_init_41 : decode cX6_init 41 = .ok (.iconst (-1), 1) := by decide +kernel
theorem dX6_init_42 : decode cX6_init 42 = .ok (.invokestatic 28, 3) := by decide +kernel
theorem dX6_init_45 : decode cX6_init 45 = .ok (.return_, 1) := by decide +kernel
theorem dX6_isNumber_0 : decode cX6_isNumber 0 = .ok (.iload_n 1, 1) := by decide +kernel
theorem dX6_isNumber_1 : decode cX6_isNumber 1 = .ok (.ifCond .lt 16, 3) := by decide +kernel
theorem dX6_isNumber_4 : decode cX6_isNumber 4 = .ok (.iload_n 1, 1) := by decide +kernel
theorem dX6_isNumber_5 : decode cX6_isNumber 5 = .ok (.aload_n 0, 1) := by decide +kernel
theorem dX6_isNumber_6 : decode cX6_isNumber 6 = .ok (.getfield 21, 3) := by decide +kernel
theorem dX6_isNumber_9 : decode cX6_isNumber 9 = .ok (.arraylength, 1) := by decide +kernel
theorem dX6_isNumber_10 : decode cX6_isNumber 10 = .ok (.if_icmp .ge 7, 3) := by decide +kernel
theorem dX6_isNumber_13 : decode cX6_isNumber 13 = .ok (.iconst 1, 1) := by decide +kernel
theorem dX6_isNumber_14 : decode cX6_isNumber 14 = .ok (.goto 4, 3) := by decide +kernel
theorem dX6_isNumber_17 : decode cX6_isNumber 17 = .ok (.iconst 0, 1) := by decide +kernel
theorem dX6_isNumber_18 : decode cX6_isNumber 18 = .ok (.ireturn, 1) := by decide +kernel
theorem dX6_stands_0 : decode cX6_stands 0 = .ok (.aload_n 0, 1) := by decide +kernel
theorem dX6_stands_1 : decode cX6_stands 1 = .ok (.iload_n 1, 1) := by decide +kernel
theorem dX6_stands_2 : decode cX6_stands 2 = .ok (.invokevirtual 34, 3) := by decide +kernel
theorem dX6_stands_5 : decode cX6_stands 5 = .ok (.ifCond .lt 7, 3) := by decide +kernel
theorem dX6_stands_8 : decode cX6_stands 8 = .ok (.iconst 1, 1) := by decide +kernel
theorem dX6_stands_9 : decode cX6_stands 9 = .ok (.goto 4, 3) := by decide +kernel
theorem dX6_stands_12 : decode cX6_stands 12 = .ok (.iconst 0, 1) := by decide +kernel
theorem dX6_stands_13 : decode cX6_stands 13 = .ok (.ireturn, 1) := by decide +kernel
theorem dX6_size_0 : decode cX6_size 0 = .ok (.iload_n 1, 1) := by decide +kernel
theorem dX6_size_1 : decode cX6_size 1 = .ok (.ifCond .lt 21, 3) := by decide +kernel
theorem dX6_size_4 : decode cX6_size 4 = .ok (.iload_n 1, 1) := by decide +kernel
theorem dX6_size_5 : decode cX6_size 5 = .ok (.aload_n 0, 1) := by decide +kernel
theorem dX6_size_6 : decode cX6_size 6 = .ok (.getfield 21, 3) := by decide +kernel
theorem dX6_size_9 : decode cX6_size 9 = .ok (.arraylength, 1) := by decide +kernel
theorem dX6_size_10 : decode cX6_size 10 = .ok (.if_icmp .ge 12, 3) := by decide +kernel
theorem dX6_size_13 : decode cX6_size 13 = .ok (.aload_n 0, 1) := by decide +kernel
theorem dX6_size_14 : decode cX6_size 14 = .ok (.getfield 21, 3) := by decide +kernel
theorem dX6_size_17 : decode cX6_size 17 = .ok (.iload_n 1, 1) := by decide +kernel
theorem dX6_size_18 : decode cX6_size 18 = .ok (.iaload, 1) := by decide +kernel
theorem dX6_size_19 : decode cX6_size 19 = .ok (.goto 4, 3) := by decide +kernel
theorem dX6_size_22 : decode cX6_size 22 = .ok (.iconst (-1), 1) := by decide +kernel
theorem dX6_size_23 : decode cX6_size 23 = .ok (.ireturn, 1) := by decide +kernel
theorem dX6_standing_0 : decode cX6_standing 0 = .ok (.iconst 0, 1) := by decide +kernel
theorem dX6_standing_1 : decode cX6_standing 1 = .ok (.istore_n 1, 1) := by decide +kernel
theorem dX6_standing_2 : decode cX6_standing 2 = .ok (.aload_n 0, 1) := by decide +kernel
theorem dX6_standing_3 : decode cX6_standing 3 = .ok (.getfield 21, 3) := by decide +kernel
theorem dX6_standing_6 : decode cX6_standing 6 = .ok (.astore_n 2, 1) := by decide +kernel
theorem dX6_standing_7 : decode cX6_standing 7 = .ok (.aload_n 2, 1) := by decide +kernel
theorem dX6_standing_8 : decode cX6_standing 8 = .ok (.arraylength, 1) := by decide +kernel
theorem dX6_standing_9 : decode cX6_standing 9 = .ok (.istore_n 3, 1) := by decide +kernel
theorem dX6_standing_10 : decode cX6_standing 10 = .ok (.iconst 0, 1) := by decide +kernel
theorem dX6_standing_11 : decode cX6_standing 11 = .ok (.istore 4, 2) := by decide +kernel
theorem dX6_standing_13 : decode cX6_standing 13 = .ok (.iload 4, 2) := by decide +kernel
theorem dX6_standing_15 : decode cX6_standing 15 = .ok (.iload_n 3, 1) := by decide +kernel
theorem dX6_standing_16 : decode cX6_standing 16 = .ok (.if_icmp .ge 28, 3) := by decide +kernel
theorem dX6_standing_19 : decode cX6_standing 19 = .ok (.aload_n 2, 1) := by decide +kernel
theorem dX6_standing_20 : decode cX6_standing 20 = .ok (.iload 4, 2) := by decide +kernel
theorem dX6_standing_22 : decode cX6_standing 22 = .ok (.iaload, 1) := by decide +kernel
theorem dX6_standing_23 : decode cX6_standing 23 = .ok (.istore 5, 2) := by decide +kernel
theorem dX6_standing_25 : decode cX6_standing 25 = .ok (.iload_n 1, 1) := by decide +kernel
theorem dX6_standing_26 : decode cX6_standing 26 = .ok (.iload 5, 2) := by decide +kernel
theorem dX6_standing_28 : decode cX6_standing 28 = .ok (.ifCond .lt 7, 3) := by decide +kernel
theorem dX6_standing_31 : decode cX6_standing 31 = .ok (.iconst 1, 1) := by decide +kernel
theorem dX6_standing_32 : decode cX6_standing 32 = .ok (.goto 4, 3) := by decide +kernel
theorem dX6_standing_35 : decode cX6_standing 35 = .ok (.iconst 0, 1) := by decide +kernel
theorem dX6_standing_36 : decode cX6_standing 36 = .ok (.iadd, 1) := by decide +kernel
theorem dX6_standing_37 : decode cX6_standing 37 = .ok (.istore_n 1, 1) := by decide +kernel
theorem dX6_standing_38 : decode cX6_standing 38 = .ok (.iinc 4 1, 3) := by decide +kernel
theorem dX6_standing_41 : decode cX6_standing 41 = .ok (.goto (-28), 3) := by decide +kernel
theorem dX6_standing_44 : decode cX6_standing 44 = .ok (.iload_n 1, 1) := by decide +kernel
theorem dX6_standing_45 : decode cX6_standing 45 = .ok (.ireturn, 1) := by decide +kernel
theorem dX6_holds_0 : decode cX6_holds 0 = .ok (.iload_n 2, 1) := by decide +kernel
theorem dX6_holds_1 : decode cX6_holds 1 = .ok (.ifCond .lt 22, 3) := by decide +kernel
theorem dX6_holds_4 : decode cX6_holds 4 = .ok (.iload_n 3, 1) := by decide +kernel
theorem dX6_holds_5 : decode cX6_holds 5 = .ok (.ifCond .lt 18, 3) := by decide +kernel
theorem dX6_holds_8 : decode cX6_holds 8 = .ok (.iload_n 2, 1) := by decide +kernel
theorem dX6_holds_9 : decode cX6_holds 9 = .ok (.aload_n 0, 1) := by decide +kernel
theorem dX6_holds_10 : decode cX6_holds 10 = .ok (.iload_n 1, 1) := by decide +kernel
theorem dX6_holds_11 : decode cX6_holds 11 = .ok (.invokevirtual 34, 3) := by decide +kernel
theorem dX6_holds_14 : decode cX6_holds 14 = .ok (.iload_n 3, 1) := by decide +kernel
theorem dX6_holds_15 : decode cX6_holds 15 = .ok (.isub, 1) := by decide +kernel
theorem dX6_holds_16 : decode cX6_holds 16 = .ok (.if_icmp .gt 7, 3) := by decide +kernel
theorem dX6_holds_19 : decode cX6_holds 19 = .ok (.iconst 1, 1) := by decide +kernel
theorem dX6_holds_20 : decode cX6_holds 20 = .ok (.goto 4, 3) := by decide +kernel
theorem dX6_holds_23 : decode cX6_holds 23 = .ok (.iconst 0, 1) := by decide +kernel
theorem dX6_holds_24 : decode cX6_holds 24 = .ok (.ireturn, 1) := by decide +kernel
theorem dX6_get_0 : decode cX6_get 0 = .ok (.iload_n 2, 1) := by decide +kernel
theorem dX6_get_1 : decode cX6_get 1 = .ok (.ifCond .lt 30, 3) := by decide +kernel
theorem dX6_get_4 : decode cX6_get 4 = .ok (.iload_n 2, 1) := by decide +kernel
theorem dX6_get_5 : decode cX6_get 5 = .ok (.aload_n 0, 1) := by decide +kernel
theorem dX6_get_6 : decode cX6_get 6 = .ok (.iload_n 1, 1) := by decide +kernel
theorem dX6_get_7 : decode cX6_get 7 = .ok (.invokevirtual 34, 3) := by decide +kernel
theorem dX6_get_10 : decode cX6_get 10 = .ok (.if_icmp .ge 21, 3) := by decide +kernel
theorem dX6_get_13 : decode cX6_get 13 = .ok (.aload_n 0, 1) := by decide +kernel
theorem dX6_get_14 : decode cX6_get 14 = .ok (.getfield 25, 3) := by decide +kernel
theorem dX6_get_17 : decode cX6_get 17 = .ok (.iload_n 1, 1) := by decide +kernel
theorem dX6_get_18 : decode cX6_get 18 = .ok (.aload_n 0, 1) := by decide +kernel
theorem dX6_get_19 : decode cX6_get 19 = .ok (.getfield 15, 3) := by decide +kernel
theorem dX6_get_22 : decode cX6_get 22 = .ok (.imul, 1) := by decide +kernel
theorem dX6_get_23 : decode cX6_get 23 = .ok (.iload_n 2, 1) := by decide +kernel
theorem dX6_get_24 : decode cX6_get 24 = .ok (.iadd, 1) := by decide +kernel
theorem dX6_get_25 : decode cX6_get 25 = .ok (.invokestatic 38, 3) := by decide +kernel
theorem dX6_get_28 : decode cX6_get 28 = .ok (.goto 4, 3) := by decide +kernel
theorem dX6_get_31 : decode cX6_get 31 = .ok (.iconst 0, 1) := by decide +kernel
theorem dX6_get_32 : decode cX6_get 32 = .ok (.ireturn, 1) := by decide +kernel
theorem dX6_set_0 : decode cX6_set 0 = .ok (.iload_n 2, 1) := by decide +kernel
theorem dX6_set_1 : decode cX6_set 1 = .ok (.ifCond .lt 28, 3) := by decide +kernel
theorem dX6_set_4 : decode cX6_set 4 = .ok (.iload_n 2, 1) := by decide +kernel
theorem dX6_set_5 : decode cX6_set 5 = .ok (.aload_n 0, 1) := by decide +kernel
theorem dX6_set_6 : decode cX6_set 6 = .ok (.iload_n 1, 1) := by decide +kernel
theorem dX6_set_7 : decode cX6_set 7 = .ok (.invokevirtual 34, 3) := by decide +kernel
theorem dX6_set_10 : decode cX6_set 10 = .ok (.if_icmp .ge 19, 3) := by decide +kernel
theorem dX6_set_13 : decode cX6_set 13 = .ok (.aload_n 0, 1) := by decide +kernel
theorem dX6_set_14 : decode cX6_set 14 = .ok (.getfield 25, 3) := by decide +kernel
theorem dX6_set_17 : decode cX6_set 17 = .ok (.iload_n 1, 1) := by decide +kernel
theorem dX6_set_18 : decode cX6_set 18 = .ok (.aload_n 0, 1) := by decide +kernel
theorem dX6_set_19 : decode cX6_set 19 = .ok (.getfield 15, 3) := by decide +kernel
theorem dX6_set_22 : decode cX6_set 22 = .ok (.imul, 1) := by decide +kernel
theorem dX6_set_23 : decode cX6_set 23 = .ok (.iload_n 2, 1) := by decide +kernel
theorem dX6_set_24 : decode cX6_set 24 = .ok (.iadd, 1) := by decide +kernel
theorem dX6_set_25 : decode cX6_set 25 = .ok (.iload_n 3, 1) := by decide +kernel
theorem dX6_set_26 : decode cX6_set 26 = .ok (.invokestatic 42, 3) := by decide +kernel
theorem dX6_set_29 : decode cX6_set 29 = .ok (.return_, 1) := by decide +kernel
theorem dX6_make_0 : decode cX6_make 0 = .ok (.aload_n 0, 1) := by decide +kernel
theorem dX6_make_1 : decode cX6_make 1 = .ok (.getfield 21, 3) := by decide +kernel
theorem dX6_make_4 : decode cX6_make 4 = .ok (.iload_n 1, 1) := by decide +kernel
theorem dX6_make_5 : decode cX6_make 5 = .ok (.iload_n 2, 1) := by decide +kernel
theorem dX6_make_6 : decode cX6_make 6 = .ok (.aload_n 0, 1) := by decide +kernel
theorem dX6_make_7 : decode cX6_make 7 = .ok (.getfield 15, 3) := by decide +kernel
theorem dX6_make_10 : decode cX6_make 10 = .ok (.invokestatic 46, 3) := by decide +kernel
theorem dX6_make_13 : decode cX6_make 13 = .ok (.invokestatic 42, 3) := by decide +kernel
theorem dX6_make_16 : decode cX6_make 16 = .ok (.iconst 0, 1) := by decide +kernel
theorem dX6_make_17 : decode cX6_make 17 = .ok (.istore 4, 2) := by decide +kernel
theorem dX6_make_19 : decode cX6_make 19 = .ok (.iload 4, 2) := by decide +kernel
theorem dX6_make_21 : decode cX6_make 21 = .ok (.iload_n 2, 1) := by decide +kernel
theorem dX6_make_22 : decode cX6_make 22 = .ok (.if_icmp .ge 26, 3) := by decide +kernel
theorem dX6_make_25 : decode cX6_make 25 = .ok (.iload 4, 2) := by decide +kernel
theorem dX6_make_27 : decode cX6_make 27 = .ok (.aload_n 0, 1) := by decide +kernel
theorem dX6_make_28 : decode cX6_make 28 = .ok (.getfield 15, 3) := by decide +kernel
theorem dX6_make_31 : decode cX6_make 31 = .ok (.if_icmp .ge 17, 3) := by decide +kernel
theorem dX6_make_34 : decode cX6_make 34 = .ok (.aload_n 0, 1) := by decide +kernel
theorem dX6_make_35 : decode cX6_make 35 = .ok (.iload_n 1, 1) := by decide +kernel
theorem dX6_make_36 : decode cX6_make 36 = .ok (.iload 4, 2) := by decide +kernel
theorem dX6_make_38 : decode cX6_make 38 = .ok (.iload_n 3, 1) := by decide +kernel
theorem dX6_make_39 : decode cX6_make 39 = .ok (.invokevirtual 49, 3) := by decide +kernel
theorem dX6_make_42 : decode cX6_make 42 = .ok (.iinc 4 1, 3) := by decide +kernel
theorem dX6_make_45 : decode cX6_make 45 = .ok (.goto (-26), 3) := by decide +kernel
theorem dX6_make_48 : decode cX6_make 48 = .ok (.return_, 1) := by decide +kernel
theorem dX6_makeOf_0 : decode cX6_makeOf 0 = .ok (.aload_n 0, 1) := by decide +kernel
theorem dX6_makeOf_1 : decode cX6_makeOf 1 = .ok (.getfield 21, 3) := by decide +kernel
theorem dX6_makeOf_4 : decode cX6_makeOf 4 = .ok (.iload_n 1, 1) := by decide +kernel
theorem dX6_makeOf_5 : decode cX6_makeOf 5 = .ok (.iload_n 2, 1) := by decide +kernel
theorem dX6_makeOf_6 : decode cX6_makeOf 6 = .ok (.aload_n 0, 1) := by decide +kernel
theorem dX6_makeOf_7 : decode cX6_makeOf 7 = .ok (.getfield 15, 3) := by decide +kernel
theorem dX6_makeOf_10 : decode cX6_makeOf 10 = .ok (.invokestatic 46, 3) := by decide +kernel
theorem dX6_makeOf_13 : decode cX6_makeOf 13 = .ok (.invokestatic 42, 3) := by decide +kernel
theorem dX6_makeOf_16 : decode cX6_makeOf 16 = .ok (.iconst 0, 1) := by decide +kernel
theorem dX6_makeOf_17 : decode cX6_makeOf 17 = .ok (.istore 4, 2) := by decide +kernel
theorem dX6_makeOf_19 : decode cX6_makeOf 19 = .ok (.iload 4, 2) := by decide +kernel
theorem dX6_makeOf_21 : decode cX6_makeOf 21 = .ok (.iload_n 2, 1) := by decide +kernel
theorem dX6_makeOf_22 : decode cX6_makeOf 22 = .ok (.if_icmp .ge 31, 3) := by decide +kernel
theorem dX6_makeOf_25 : decode cX6_makeOf 25 = .ok (.iload 4, 2) := by decide +kernel
theorem dX6_makeOf_27 : decode cX6_makeOf 27 = .ok (.aload_n 0, 1) := by decide +kernel
theorem dX6_makeOf_28 : decode cX6_makeOf 28 = .ok (.getfield 15, 3) := by decide +kernel
theorem dX6_makeOf_31 : decode cX6_makeOf 31 = .ok (.if_icmp .ge 22, 3) := by decide +kernel
theorem dX6_makeOf_34 : decode cX6_makeOf 34 = .ok (.aload_n 0, 1) := by decide +kernel
theorem dX6_makeOf_35 : decode cX6_makeOf 35 = .ok (.iload_n 1, 1) := by decide +kernel
theorem dX6_makeOf_36 : decode cX6_makeOf 36 = .ok (.iload 4, 2) := by decide +kernel
theorem dX6_makeOf_38 : decode cX6_makeOf 38 = .ok (.aload_n 3, 1) := by decide +kernel
theorem dX6_makeOf_39 : decode cX6_makeOf 39 = .ok (.iload 4, 2) := by decide +kernel
theorem dX6_makeOf_41 : decode cX6_makeOf 41 = .ok (.invokestatic 38, 3) := by decide +kernel
theorem dX6_makeOf_44 : decode cX6_makeOf 44 = .ok (.invokevirtual 49, 3) := by decide +kernel
theorem dX6_makeOf_47 : decode cX6_makeOf 47 = .ok (.iinc 4 1, 3) := by decide +kernel
theorem dX6_makeOf_50 : decode cX6_makeOf 50 = .ok (.goto (-31), 3) := by decide +kernel
theorem dX6_makeOf_53 : decode cX6_makeOf 53 = .ok (.return_, 1) := by decide +kernel
theorem dX6_remove_0 : decode cX6_remove 0 = .ok (.aload_n 0, 1) := by decide +kernel
theorem dX6_remove_1 : decode cX6_remove 1 = .ok (.getfield 21, 3) := by decide +kernel
theorem dX6_remove_4 : decode cX6_remove 4 = .ok (.iload_n 1, 1) := by decide +kernel
theorem dX6_remove_5 : decode cX6_remove 5 = .ok (.iconst (-1), 1) := by decide +kernel
theorem dX6_remove_6 : decode cX6_remove 6 = .ok (.invokestatic 42, 3) := by decide +kernel
theorem dX6_remove_9 : decode cX6_remove 9 = .ok (.return_, 1) := by decide +kernel
theorem dX6_removeAll_0 : decode cX6_removeAll 0 = .ok (.aload_n 0, 1) := by decide +kernel
theorem dX6_removeAll_1 : decode cX6_removeAll 1 = .ok (.getfield 21, 3) := by decide +kernel
theorem dX6_removeAll_4 : decode cX6_removeAll 4 = .ok (.iconst (-1), 1) := by decide +kernel
theorem dX6_removeAll_5 : decode cX6_removeAll 5 = .ok (.invokestatic 28, 3) := by decide +kernel
theorem dX6_removeAll_8 : decode cX6_removeAll 8 = .ok (.return_, 1) := by decide +kernel
theorem dX6_move_0 : decode cX6_move 0 = .ok (.aload_n 0, 1) := by decide +kernel
theorem dX6_move_1 : decode cX6_move 1 = .ok (.getfield 25, 3) := by decide +kernel
theorem dX6_move_4 : decode cX6_move 4 = .ok (.iload_n 1, 1) := by decide +kernel
theorem dX6_move_5 : decode cX6_move 5 = .ok (.aload_n 0, 1) := by decide +kernel
theorem dX6_move_6 : decode cX6_move 6 = .ok (.getfield 15, 3) := by decide +kernel
theorem dX6_move_9 : decode cX6_move 9 = .ok (.imul, 1) := by decide +kernel
theorem dX6_move_10 : decode cX6_move 10 = .ok (.iload_n 2, 1) := by decide +kernel
theorem dX6_move_11 : decode cX6_move 11 = .ok (.iadd, 1) := by decide +kernel
theorem dX6_move_12 : decode cX6_move 12 = .ok (.iload_n 3, 1) := by decide +kernel
theorem dX6_move_13 : decode cX6_move 13 = .ok (.aload_n 0, 1) := by decide +kernel
theorem dX6_move_14 : decode cX6_move 14 = .ok (.getfield 15, 3) := by decide +kernel
theorem dX6_move_17 : decode cX6_move 17 = .ok (.imul, 1) := by decide +kernel
theorem dX6_move_18 : decode cX6_move 18 = .ok (.iload 4, 2) := by decide +kernel
theorem dX6_move_20 : decode cX6_move 20 = .ok (.iadd, 1) := by decide +kernel
theorem dX6_move_21 : decode cX6_move 21 = .ok (.iload 5, 2) := by decide +kernel
theorem dX6_move_23 : decode cX6_move 23 = .ok (.invokestatic 53, 3) := by decide +kernel
theorem dX6_move_26 : decode cX6_move 26 = .ok (.return_, 1) := by decide +kernel
theorem dX6_digestOn_0 : decode cX6_digestOn 0 = .ok (.iconst 0, 1) := by decide +kernel
theorem dX6_digestOn_1 : decode cX6_digestOn 1 = .ok (.istore_n 3, 1) := by decide +kernel
theorem dX6_digestOn_2 : decode cX6_digestOn 2 = .ok (.iload_n 3, 1) := by decide +kernel
theorem dX6_digestOn_3 : decode cX6_digestOn 3 = .ok (.aload_n 0, 1) := by decide +kernel
theorem dX6_digestOn_4 : decode cX6_digestOn 4 = .ok (.getfield 21, 3) := by decide +kernel
theorem dX6_digestOn_7 : decode cX6_digestOn 7 = .ok (.arraylength, 1) := by decide +kernel
theorem dX6_digestOn_8 : decode cX6_digestOn 8 = .ok (.if_icmp .ge 56, 3) := by decide +kernel
theorem dX6_digestOn_11 : decode cX6_digestOn 11 = .ok (.ldc2_w 57, 3) := by decide +kernel
theorem dX6_digestOn_14 : decode cX6_digestOn 14 = .ok (.lload_n 1, 1) := by decide +kernel
theorem dX6_digestOn_15 : decode cX6_digestOn 15 = .ok (.lmul, 1) := by decide +kernel
theorem dX6_digestOn_16 : decode cX6_digestOn 16 = .ok (.aload_n 0, 1) := by decide +kernel
theorem dX6_digestOn_17 : decode cX6_digestOn 17 = .ok (.iload_n 3, 1) := by decide +kernel
theorem dX6_digestOn_18 : decode cX6_digestOn 18 = .ok (.invokevirtual 34, 3) := by decide +kernel
theorem dX6_digestOn_21 : decode cX6_digestOn 21 = .ok (.i2l, 1) := by decide +kernel
theorem dX6_digestOn_22 : decode cX6_digestOn 22 = .ok (.ladd, 1) := by decide +kernel
theorem dX6_digestOn_23 : decode cX6_digestOn 23 = .ok (.lstore_n 1, 1) := by decide +kernel
theorem dX6_digestOn_24 : decode cX6_digestOn 24 = .ok (.iconst 0, 1) := by decide +kernel
theorem dX6_digestOn_25 : decode cX6_digestOn 25 = .ok (.istore 4, 2) := by decide +kernel
theorem dX6_digestOn_27 : decode cX6_digestOn 27 = .ok (.iload 4, 2) := by decide +kernel
theorem dX6_digestOn_29 : decode cX6_digestOn 29 = .ok (.aload_n 0, 1) := by decide +kernel
theorem dX6_digestOn_30 : decode cX6_digestOn 30 = .ok (.iload_n 3, 1) := by decide +kernel
theorem dX6_digestOn_31 : decode cX6_digestOn 31 = .ok (.invokevirtual 34, 3) := by decide +kernel
theorem dX6_digestOn_34 : decode cX6_digestOn 34 = .ok (.if_icmp .ge 24, 3) := by decide +kernel
theorem dX6_digestOn_37 : decode cX6_digestOn 37 = .ok (.ldc2_w 57, 3) := by decide +kernel
theorem dX6_digestOn_40 : decode cX6_digestOn 40 = .ok (.lload_n 1, 1) := by decide +kernel
theorem dX6_digestOn_41 : decode cX6_digestOn 41 = .ok (.lmul, 1) := by decide +kernel
theorem dX6_digestOn_42 : decode cX6_digestOn 42 = .ok (.aload_n 0, 1) := by decide +kernel
theorem dX6_digestOn_43 : decode cX6_digestOn 43 = .ok (.iload_n 3, 1) := by decide +kernel
theorem dX6_digestOn_44 : decode cX6_digestOn 44 = .ok (.iload 4, 2) := by decide +kernel
theorem dX6_digestOn_46 : decode cX6_digestOn 46 = .ok (.invokevirtual 59, 3) := by decide +kernel
theorem dX6_digestOn_49 : decode cX6_digestOn 49 = .ok (.i2l, 1) := by decide +kernel
theorem dX6_digestOn_50 : decode cX6_digestOn 50 = .ok (.ladd, 1) := by decide +kernel
theorem dX6_digestOn_51 : decode cX6_digestOn 51 = .ok (.lstore_n 1, 1) := by decide +kernel
theorem dX6_digestOn_52 : decode cX6_digestOn 52 = .ok (.iinc 4 1, 3) := by decide +kernel
theorem dX6_digestOn_55 : decode cX6_digestOn 55 = .ok (.goto (-28), 3) := by decide +kernel
theorem dX6_digestOn_58 : decode cX6_digestOn 58 = .ok (.iinc 3 1, 3) := by decide +kernel
theorem dX6_digestOn_61 : decode cX6_digestOn 61 = .ok (.goto (-59), 3) := by decide +kernel
theorem dX6_digestOn_64 : decode cX6_digestOn 64 = .ok (.lload_n 1, 1) := by decide +kernel
theorem dX6_digestOn_65 : decode cX6_digestOn 65 = .ok (.lreturn, 1) := by decide +kernel
theorem dX7_init_0 : decode cX7_init 0 = .ok (.aload_n 0, 1) := by decide +kernel
theorem dX7_init_1 : decode cX7_init 1 = .ok (.invokespecial 3, 3) := by decide +kernel
theorem dX7_init_4 : decode cX7_init 4 = .ok (.aload_n 0, 1) := by decide +kernel
theorem dX7_init_5 : decode cX7_init 5 = .ok (.iconst 4, 1) := by decide +kernel
theorem dX7_init_6 : decode cX7_init 6 = .ok (.newarray .int, 2) := by decide +kernel
theorem dX7_init_8 : decode cX7_init 8 = .ok (.putfield 9, 3) := by decide +kernel
theorem dX7_init_11 : decode cX7_init 11 = .ok (.aload_n 0, 1) := by decide +kernel
theorem dX7_init_12 : decode cX7_init 12 = .ok (.bipush 6, 2) := by decide +kernel
theorem dX7_init_14 : decode cX7_init 14 = .ok (.newarray .int, 2) := by decide +kernel
theorem dX7_init_16 : decode cX7_init 16 = .ok (.putfield 15, 3) := by decide +kernel
theorem dX7_init_19 : decode cX7_init 19 = .ok (.aload_n 0, 1) := by decide +kernel
theorem dX7_init_20 : decode cX7_init 20 = .ok (.bipush 6, 2) := by decide +kernel
theorem dX7_init_22 : decode cX7_init 22 = .ok (.newarray .int, 2) := by decide +kernel
theorem dX7_init_24 : decode cX7_init 24 = .ok (.putfield 18, 3) := by decide +kernel
theorem dX7_init_27 : decode cX7_init 27 = .ok (.aload_n 0, 1) := by decide +kernel
theorem dX7_init_28 : decode cX7_init 28 = .ok (.bipush 6, 2) := by decide +kernel
theorem dX7_init_30 : decode cX7_init 30 = .ok (.newarray .int, 2) := by decide +kernel
theorem dX7_init_32 : decode cX7_init 32 = .ok (.putfield 21, 3) := by decide +kernel
theorem dX7_init_35 : decode cX7_init 35 = .ok (.aload_n 0, 1) := by decide +kernel
theorem dX7_init_36 : decode cX7_init 36 = .ok (.bipush 6, 2) := by decide +kernel
theorem dX7_init_38 : decode cX7_init 38 = .ok (.newarray .int, 2) := by decide +kernel
theorem dX7_init_40 : decode cX7_init 40 = .ok (.putfield 24, 3) := by decide +kernel
theorem dX7_init_43 : decode cX7_init 43 = .ok (.aload_n 0, 1) := by decide +kernel
theorem dX7_init_44 : decode cX7_init 44 = .ok (.bipush 6, 2) := by decide +kernel
theorem dX7_init_46 : decode cX7_init 46 = .ok (.newarray .int, 2) := by decide +kernel
theorem dX7_init_48 : decode cX7_init 48 = .ok (.putfield 27, 3) := by decide +kernel
theorem dX7_init_51 : decode cX7_init 51 = .ok (.aload_n 0, 1) := by decide +kernel
theorem dX7_init_52 : decode cX7_init 52 = .ok (.bipush 6, 2) := by decide +kernel
theorem dX7_init_54 : decode cX7_init 54 = .ok (.newarray .int, 2) := by decide +kernel
theorem dX7_init_56 : decode cX7_init 56 = .ok (.putfield 30, 3) := by decide +kernel
theorem dX7_init_59 : decode cX7_init 59 = .ok (.aload_n 0, 1) := by decide +kernel
theorem dX7_init_60 : decode cX7_init 60 = .ok (.iconst 1, 1) := by decide +kernel
theorem dX7_init_61 : decode cX7_init 61 = .ok (.putfield 33, 3) := by decide +kernel
theorem dX7_init_64 : decode cX7_init 64 = .ok (.aload_n 0, 1) := by decide +kernel
theorem dX7_init_65 : decode cX7_init 65 = .ok (.iconst 0, 1) := by decide +kernel
theorem dX7_init_66 : decode cX7_init 66 = .ok (.putfield 37, 3) := by decide +kernel
theorem dX7_init_69 : decode cX7_init 69 = .ok (.aload_n 0, 1) := by decide +kernel
theorem dX7_init_70 : decode cX7_init 70 = .ok (.iconst 0, 1) := by decide +kernel
theorem dX7_init_71 : decode cX7_init 71 = .ok (.putfield 40, 3) := by decide +kernel
theorem dX7_init_74 : decode cX7_init 74 = .ok (.return_, 1) := by decide +kernel
theorem dX7_copyFrom_0 : decode cX7_copyFrom 0 = .ok (.aload_n 1, 1) := by decide +kernel
theorem dX7_copyFrom_1 : decode cX7_copyFrom 1 = .ok (.getfield 9, 3) := by decide +kernel
theorem dX7_copyFrom_4 : decode cX7_copyFrom 4 = .ok (.aload_n 0, 1) := by decide +kernel
theorem dX7_copyFrom_5 : decode cX7_copyFrom 5 = .ok (.getfield 9, 3) := by decide +kernel
theorem dX7_copyFrom_8 : decode cX7_copyFrom 8 = .ok (.invokestatic 43, 3) := by decide +kernel
theorem dX7_copyFrom_11 : decode cX7_copyFrom 11 = .ok (.aload_n 1, 1) := by decide +kernel
theorem dX7_copyFrom_12 : decode cX7_copyFrom 12 = .ok (.getfield 15, 3) := by decide +kernel
theorem dX7_copyFrom_15 : decode cX7_copyFrom 15 = .ok (.aload_n 0, 1) := by decide +kernel
theorem dX7_copyFrom_16 : decode cX7_copyFrom 16 = .ok (.getfield 15, 3) := by decide +kernel
theorem dX7_copyFrom_19 : decode cX7_copyFrom 19 = .ok (.invokestatic 43, 3) := by decide +kernel
theorem dX7_copyFrom_22 : decode cX7_copyFrom 22 = .ok (.aload_n 1, 1) := by decide +kernel
theorem dX7_copyFrom_23 : decode cX7_copyFrom 23 = .ok (.getfield 18, 3) := by decide +kernel
theorem dX7_copyFrom_26 : decode cX7_copyFrom 26 = .ok (.aload_n 0, 1) := by decide +kernel
theorem dX7_copyFrom_27 : decode cX7_copyFrom 27 = .ok (.getfield 18, 3) := by decide +kernel
theorem dX7_copyFrom_30 : decode cX7_copyFrom 30 = .ok (.invokestatic 43, 3) := by decide +kernel
theorem dX7_copyFrom_33 : decode cX7_copyFrom 33 = .ok (.aload_n 1, 1) := by decide +kernel
theorem dX7_copyFrom_34 : decode cX7_copyFrom 34 = .ok (.getfield 21, 3) := by decide +kernel
theorem dX7_copyFrom_37 : decode cX7_copyFrom 37 = .ok (.aload_n 0, 1) := by decide +kernel
theorem dX7_copyFrom_38 : decode cX7_copyFrom 38 = .ok (.getfield 21, 3) := by decide +kernel
theorem dX7_copyFrom_41 : decode cX7_copyFrom 41 = .ok (.invokestatic 43, 3) := by decide +kernel
theorem dX7_copyFrom_44 : decode cX7_copyFrom 44 = .ok (.aload_n 1, 1) := by decide +kernel
theorem dX7_copyFrom_45 : decode cX7_copyFrom 45 = .ok (.getfield 24, 3) := by decide +kernel
theorem dX7_copyFrom_48 : decode cX7_copyFrom 48 = .ok (.aload_n 0, 1) := by decide +kernel
theorem dX7_copyFrom_49 : decode cX7_copyFrom 49 = .ok (.getfield 24, 3) := by decide +kernel
theorem dX7_copyFrom_52 : decode cX7_copyFrom 52 = .ok (.invokestatic 43, 3) := by decide +kernel
theorem dX7_copyFrom_55 : decode cX7_copyFrom 55 = .ok (.aload_n 1, 1) := by decide +kernel
theorem dX7_copyFrom_56 : decode cX7_copyFrom 56 = .ok (.getfield 27, 3) := by decide +kernel
theorem dX7_copyFrom_59 : decode cX7_copyFrom 59 = .ok (.aload_n 0, 1) := by decide +kernel
theorem dX7_copyFrom_60 : decode cX7_copyFrom 60 = .ok (.getfield 27, 3) := by decide +kernel
theorem dX7_copyFrom_63 : decode cX7_copyFrom 63 = .ok (.invokestatic 43, 3) := by decide +kernel
theorem dX7_copyFrom_66 : decode cX7_copyFrom 66 = .ok (.aload_n 1, 1) := by decide +kernel
theorem dX7_copyFrom_67 : decode cX7_copyFrom 67 = .ok (.getfield 30, 3) := by decide +kernel
theorem dX7_copyFrom_70 : decode cX7_copyFrom 70 = .ok (.aload_n 0, 1) := by decide +kernel
theorem dX7_copyFrom_71 : decode cX7_copyFrom 71 = .ok (.getfield 30, 3) := by decide +kernel
theorem dX7_copyFrom_74 : decode cX7_copyFrom 74 = .ok (.invokestatic 43, 3) := by decide +kernel
theorem dX7_copyFrom_77 : decode cX7_copyFrom 77 = .ok (.aload_n 0, 1) := by decide +kernel
theorem dX7_copyFrom_78 : decode cX7_copyFrom 78 = .ok (.aload_n 1, 1) := by decide +kernel
theorem dX7_copyFrom_79 : decode cX7_copyFrom 79 = .ok (.getfield 33, 3) := by decide +kernel
theorem dX7_copyFrom_82 : decode cX7_copyFrom 82 = .ok (.putfield 33, 3) := by decide +kernel
theorem dX7_copyFrom_85 : decode cX7_copyFrom 85 = .ok (.aload_n 0, 1) := by decide +kernel
theorem dX7_copyFrom_86 : decode cX7_copyFrom 86 = .ok (.aload_n 1, 1) := by decide +kernel
theorem dX7_copyFrom_87 : decode cX7_copyFrom 87 = .ok (.getfield 37, 3) := by decide +kernel
theorem dX7_copyFrom_90 : decode cX7_copyFrom 90 = .ok (.putfield 37, 3) := by decide +kernel
theorem dX7_copyFrom_93 : decode cX7_copyFrom 93 = .ok (.aload_n 0, 1) := by decide +kernel
theorem dX7_copyFrom_94 : decode cX7_copyFrom 94 = .ok (.aload_n 1, 1) := by decide +kernel
theorem dX7_copyFrom_95 : decode cX7_copyFrom 95 = .ok (.getfield 40, 3) := by decide +kernel
theorem dX7_copyFrom_98 : decode cX7_copyFrom 98 = .ok (.putfield 40, 3) := by decide +kernel
theorem dX7_copyFrom_101 : decode cX7_copyFrom 101 = .ok (.return_, 1) := by decide +kernel
theorem dX7_has_0 : decode cX7_has 0 = .ok (.iload_n 1, 1) := by decide +kernel
theorem dX7_has_1 : decode cX7_has 1 = .ok (.ifCond .lt 15, 3) := by decide +kernel
theorem dX7_has_4 : decode cX7_has 4 = .ok (.iload_n 1, 1) := by decide +kernel
theorem dX7_has_5 : decode cX7_has 5 = .ok (.aload_n 0, 1) := by decide +kernel
theorem dX7_has_6 : decode cX7_has 6 = .ok (.getfield 37, 3) := by decide +kernel
theorem dX7_has_9 : decode cX7_has 9 = .ok (.if_icmp .ge 7, 3) := by decide +kernel
theorem dX7_has_12 : decode cX7_has 12 = .ok (.iconst 1, 1) := by decide +kernel
theorem dX7_has_13 : decode cX7_has 13 = .ok (.goto 4, 3) := by decide +kernel
theorem dX7_has_16 : decode cX7_has 16 = .ok (.iconst 0, 1) := by decide +kernel
theorem dX7_has_17 : decode cX7_has 17 = .ok (.ireturn, 1) := by decide +kernel
theorem dX7_kindOf_0 : decode cX7_kindOf 0 = .ok (.aload_n 0, 1) := by decide +kernel
theorem dX7_kindOf_1 : decode cX7_kindOf 1 = .ok (.getfield 15, 3) := by decide +kernel
theorem dX7_kindOf_4 : decode cX7_kindOf 4 = .ok (.iload_n 1, 1) := by decide +kernel
theorem dX7_kindOf_5 : decode cX7_kindOf 5 = .ok (.invokestatic 47, 3) := by decide +kernel
theorem dX7_kindOf_8 : decode cX7_kindOf 8 = .ok (.ireturn, 1) := by decide +kernel
theorem dX7_thickOf_0 : decode cX7_thickOf 0 = .ok (.aload_n 0, 1) := by decide +kernel
theorem dX7_thickOf_1 : decode cX7_thickOf 1 = .ok (.getfield 24, 3) := by decide +kernel
theorem dX7_thickOf_4 : decode cX7_thickOf 4 = .ok (.iload_n 1, 1) := by decide +kernel
theorem dX7_thickOf_5 : decode cX7_thickOf 5 = .ok (.invokestatic 47, 3) := by decide +kernel
theorem dX7_thickOf_8 : decode cX7_thickOf 8 = .ok (.ireturn, 1) := by decide +kernel
theorem dX7_liesIn_0 : decode cX7_liesIn 0 = .ok (.aload_n 0, 1) := by decide +kernel
theorem dX7_liesIn_1 : decode cX7_liesIn 1 = .ok (.getfield 27, 3) := by decide +kernel
theorem dX7_liesIn_4 : decode cX7_liesIn 4 = .ok (.iload_n 1, 1) := by decide +kernel
theorem dX7_liesIn_5 : decode cX7_liesIn 5 = .ok (.invokestatic 47, 3) := by decide +kernel
theorem dX7_liesIn_8 : decode cX7_liesIn 8 = .ok (.ireturn, 1) := by decide +kernel
theorem dX7_coldOf_0 : decode cX7_coldOf 0 = .ok (.aload_n 0, 1) := by decide +kernel
theorem dX7_coldOf_1 : decode cX7_coldOf 1 = .ok (.getfield 9, 3) := by decide +kernel
theorem dX7_coldOf_4 : decode cX7_coldOf 4 = .ok (.iload_n 1, 1) := by decide +kernel
theorem dX7_coldOf_5 : decode cX7_coldOf 5 = .ok (.iconst 4, 1) := by decide +kernel
theorem dX7_coldOf_6 : decode cX7_coldOf 6 = .ok (.irem, 1) := by decide +kernel
theorem dX7_coldOf_7 : decode cX7_coldOf 7 = .ok (.invokestatic 47, 3) := by decide +kernel
theorem dX7_coldOf_10 : decode cX7_coldOf 10 = .ok (.ireturn, 1) := by decide +kernel
theorem dX7_gapWith_0 : decode cX7_gapWith 0 = .ok (.aload_n 0, 1) := by decide +kernel
theorem dX7_gapWith_1 : decode cX7_gapWith 1 = .ok (.getfield 18, 3) := by decide +kernel
theorem dX7_gapWith_4 : decode cX7_gapWith 4 = .ok (.iload_n 1, 1) := by decide +kernel
theorem dX7_gapWith_5 : decode cX7_gapWith 5 = .ok (.invokestatic 47, 3) := by decide +kernel
theorem dX7_gapWith_8 : decode cX7_gapWith 8 = .ok (.aload_n 0, 1) := by decide +kernel
theorem dX7_gapWith_9 : decode cX7_gapWith 9 = .ok (.getfield 21, 3) := by decide +kernel
theorem dX7_gapWith_12 : decode cX7_gapWith 12 = .ok (.iload_n 2, 1) := by decide +kernel
theorem dX7_gapWith_13 : decode cX7_gapWith 13 = .ok (.invokestatic 47, 3) := by decide +kernel
theorem dX7_gapWith_16 : decode cX7_gapWith 16 = .ok (.isub, 1) := by decide +kernel
theorem dX7_gapWith_17 : decode cX7_gapWith 17 = .ok (.invokestatic 51, 3) := by decide +kernel
theorem dX7_gapWith_20 : decode cX7_gapWith 20 = .ok (.ireturn, 1) := by decide +kernel
theorem dX7_crossesWith_0 : decode cX7_crossesWith 0 = .ok (.aload_n 0, 1) := by decide +kernel
theorem dX7_crossesWith_1 : decode cX7_crossesWith 1 = .ok (.iload_n 1, 1) := by decide +kernel
theorem dX7_crossesWith_2 : decode cX7_crossesWith 2 = .ok (.invokevirtual 57, 3) := by decide +kernel
theorem dX7_crossesWith_5 : decode cX7_crossesWith 5 = .ok (.aload_n 0, 1) := by decide +kernel
theorem dX7_crossesWith_6 : decode cX7_crossesWith 6 = .ok (.iload_n 1, 1) := by decide +kernel
theorem dX7_crossesWith_7 : decode cX7_crossesWith 7 = .ok (.iload_n 2, 1) := by decide +kernel
theorem dX7_crossesWith_8 : decode cX7_crossesWith 8 = .ok (.invokevirtual 60, 3) := by decide +kernel
theorem dX7_crossesWith_11 : decode cX7_crossesWith 11 = .ok (.aload_n 0, 1) := by decide +kernel
theorem dX7_crossesWith_12 : decode cX7_crossesWith 12 = .ok (.iload_n 1, 1) := by decide +kernel
theorem dX7_crossesWith_13 : decode cX7_crossesWith 13 = .ok (.invokevirtual 64, 3) := by decide +kernel
theorem dX7_crossesWith_16 : decode cX7_crossesWith 16 = .ok (.aload_n 0, 1) := by decide +kernel
theorem dX7_crossesWith_17 : decode cX7_crossesWith 17 = .ok (.getfield 40, 3) := by decide +kernel
theorem dX7_crossesWith_20 : decode cX7_crossesWith 20 = .ok (.aload_n 0, 1) := by decide +kernel
theorem dX7_crossesWith_21 : decode cX7_crossesWith 21 = .ok (.aload_n 0, 1) := by decide +kernel
theorem dX7_crossesWith_22 : decode cX7_crossesWith 22 = .ok (.getfield 40, 3) := by decide +kernel
theorem dX7_crossesWith_25 : decode cX7_crossesWith 25 = .ok (.invokevirtual 67, 3) := by decide +kernel
theorem dX7_crossesWith_28 : decode cX7_crossesWith 28 = .ok (.invokestatic 70, 3) := by decide +kernel
theorem dX7_crossesWith_31 : decode cX7_crossesWith 31 = .ok (.ireturn, 1) := by decide +kernel
theorem dX7_crossesAs_0 : decode cX7_crossesAs 0 = .ok (.iload_n 2, 1) := by decide +kernel
theorem dX7_crossesAs_1 : decode cX7_crossesAs 1 = .ok (.aload_n 0, 1) := by decide +kernel
theorem dX7_crossesAs_2 : decode cX7_crossesAs 2 = .ok (.iload_n 1, 1) := by decide +kernel
theorem dX7_crossesAs_3 : decode cX7_crossesAs 3 = .ok (.iload_n 1, 1) := by decide +kernel
theorem dX7_crossesAs_4 : decode cX7_crossesAs 4 = .ok (.invokevirtual 60, 3) := by decide +kernel
theorem dX7_crossesAs_7 : decode cX7_crossesAs 7 = .ok (.iload_n 3, 1) := by decide +kernel
theorem dX7_crossesAs_8 : decode cX7_crossesAs 8 = .ok (.iload 4, 2) := by decide +kernel
theorem dX7_crossesAs_10 : decode cX7_crossesAs 10 = .ok (.aload_n 0, 1) := by decide +kernel
theorem dX7_crossesAs_11 : decode cX7_crossesAs 11 = .ok (.iload 4, 2) := by decide +kernel
theorem dX7_crossesAs_13 : decode cX7_crossesAs 13 = .ok (.invokevirtual 67, 3) := by decide +kernel
theorem dX7_crossesAs_16 : decode cX7_crossesAs 16 = .ok (.invokestatic 70, 3) := by decide +kernel
theorem dX7_crossesAs_19 : decode cX7_crossesAs 19 = .ok (.ireturn, 1) := by decide +kernel
theorem dX7_crossesIn_0 : decode cX7_crossesIn 0 = .ok (.aload_n 0, 1) := by decide +kernel
theorem dX7_crossesIn_1 : decode cX7_crossesIn 1 = .ok (.iload_n 1, 1) := by decide +kernel
theorem dX7_crossesIn_2 : decode cX7_crossesIn 2 = .ok (.invokevirtual 57, 3) := by decide +kernel
theorem dX7_crossesIn_5 : decode cX7_crossesIn 5 = .ok (.aload_n 0, 1) := by decide +kernel
theorem dX7_crossesIn_6 : decode cX7_crossesIn 6 = .ok (.iload_n 1, 1) := by decide +kernel
theorem dX7_crossesIn_7 : decode cX7_crossesIn 7 = .ok (.iload_n 1, 1) := by decide +kernel
theorem dX7_crossesIn_8 : decode cX7_crossesIn 8 = .ok (.invokevirtual 60, 3) := by decide +kernel
theorem dX7_crossesIn_11 : decode cX7_crossesIn 11 = .ok (.aload_n 0, 1) := by decide +kernel
theorem dX7_crossesIn_12 : decode cX7_crossesIn 12 = .ok (.iload_n 1, 1) := by decide +kernel
theorem dX7_crossesIn_13 : decode cX7_crossesIn 13 = .ok (.invokevirtual 64, 3) := by decide +kernel
theorem dX7_crossesIn_16 : decode cX7_crossesIn 16 = .ok (.iload_n 2, 1) := by decide +kernel
theorem dX7_crossesIn_17 : decode cX7_crossesIn 17 = .ok (.aload_n 0, 1) := by decide +kernel
theorem dX7_crossesIn_18 : decode cX7_crossesIn 18 = .ok (.iload_n 2, 1) := by decide +kernel
theorem dX7_crossesIn_19 : decode cX7_crossesIn 19 = .ok (.invokevirtual 67, 3) := by decide +kernel
theorem dX7_crossesIn_22 : decode cX7_crossesIn 22 = .ok (.invokestatic 70, 3) := by decide +kernel
theorem dX7_crossesIn_25 : decode cX7_crossesIn 25 = .ok (.ireturn, 1) := by decide +kernel
theorem dX7_about_0 : decode cX7_about 0 = .ok (.iload_n 2, 1) := by decide +kernel
theorem dX7_about_1 : decode cX7_about 1 = .ok (.tableswitch 103 0 6 #[43, 49, 58, 67, 73, 79, 89], 43) := by decide +kernel
theorem dX7_about_44 : decode cX7_about 44 = .ok (.aload_n 0, 1) := by decide +kernel
theorem dX7_about_45 : decode cX7_about 45 = .ok (.iload_n 1, 1) := by decide +kernel
theorem dX7_about_46 : decode cX7_about 46 = .ok (.invokevirtual 57, 3) := by decide +kernel
theorem dX7_about_49 : decode cX7_about 49 = .ok (.ireturn, 1) := by decide +kernel
theorem dX7_about_50 : decode cX7_about 50 = .ok (.aload_n 0, 1) := by decide +kernel
theorem dX7_about_51 : decode cX7_about 51 = .ok (.getfield 18, 3) := by decide +kernel
theorem dX7_about_54 : decode cX7_about 54 = .ok (.iload_n 1, 1) := by decide +kernel
theorem dX7_about_55 : decode cX7_about 55 = .ok (.invokestatic 47, 3) := by decide +kernel
theorem dX7_about_58 : decode cX7_about 58 = .ok (.ireturn, 1) := by decide +kernel
theorem dX7_about_59 : decode cX7_about 59 = .ok (.aload_n 0, 1) := by decide +kernel
theorem dX7_about_60 : decode cX7_about 60 = .ok (.getfield 21, 3) := by decide +kernel
theorem dX7_about_63 : decode cX7_about 63 = .ok (.iload_n 1, 1) := by decide +kernel
theorem dX7_about_64 : decode cX7_about 64 = .ok (.invokestatic 47, 3) := by decide +kernel
theorem dX7_about_67 : decode cX7_about 67 = .ok (.ireturn, 1) := by decide +kernel
theorem dX7_about_68 : decode cX7_about 68 = .ok (.aload_n 0, 1) := by decide +kernel
theorem dX7_about_69 : decode cX7_about 69 = .ok (.iload_n 1, 1) := by decide +kernel
theorem dX7_about_70 : decode cX7_about 70 = .ok (.invokevirtual 64, 3) := by decide +kernel
theorem dX7_about_73 : decode cX7_about 73 = .ok (.ireturn, 1) := by decide +kernel
theorem dX7_about_74 : decode cX7_about 74 = .ok (.aload_n 0, 1) := by decide +kernel
theorem dX7_about_75 : decode cX7_about 75 = .ok (.iload_n 1, 1) := by decide +kernel
theorem dX7_about_76 : decode cX7_about 76 = .ok (.invokevirtual 74, 3) := by decide +kernel
theorem dX7_about_79 : decode cX7_about 79 = .ok (.ireturn, 1) := by decide +kernel
theorem dX7_about_80 : decode cX7_about 80 = .ok (.aload_n 0, 1) := by decide +kernel
theorem dX7_about_81 : decode cX7_about 81 = .ok (.iload_n 1, 1) := by decide +kernel
theorem dX7_about_82 : decode cX7_about 82 = .ok (.aload_n 0, 1) := by decide +kernel
theorem dX7_about_83 : decode cX7_about 83 = .ok (.getfield 40, 3) := by decide +kernel
theorem dX7_about_86 : decode cX7_about 86 = .ok (.invokevirtual 77, 3) := by decide +kernel
theorem dX7_about_89 : decode cX7_about 89 = .ok (.ireturn, 1) := by decide +kernel
theorem dX7_about_90 : decode cX7_about 90 = .ok (.aload_n 0, 1) := by decide +kernel
theorem dX7_about_91 : decode cX7_about 91 = .ok (.iload_n 1, 1) := by decide +kernel
theorem dX7_about_92 : decode cX7_about 92 = .ok (.invokevirtual 57, 3) := by decide +kernel
theorem dX7_about_95 : decode cX7_about 95 = .ok (.aload_n 0, 1) := by decide +kernel
theorem dX7_about_96 : decode cX7_about 96 = .ok (.iload_n 1, 1) := by decide +kernel
theorem dX7_about_97 : decode cX7_about 97 = .ok (.invokevirtual 64, 3) := by decide +kernel
theorem dX7_about_100 : decode cX7_about 100 = .ok (.invokestatic 80, 3) := by decide +kernel
theorem dX7_about_103 : decode cX7_about 103 = .ok (.ireturn, 1) := by decide +kernel
theorem dX7_about_104 : decode cX7_about 104 = .ok (.aload_n 0, 1) := by decide +kernel
theorem dX7_about_105 : decode cX7_about 105 = .ok (.getfield 30, 3) := by decide +kernel
theorem dX7_about_108 : decode cX7_about 108 = .ok (.iload_n 1, 1) := by decide +kernel
theorem dX7_about_109 : decode cX7_about 109 = .ok (.invokestatic 47, 3) := by decide +kernel
theorem dX7_about_112 : decode cX7_about 112 = .ok (.ireturn, 1) := by decide +kernel
theorem dX7_wouldBeFound_0 : decode cX7_wouldBeFound 0 = .ok (.aload_n 0, 1) := by decide +kernel
theorem dX7_wouldBeFound_1 : decode cX7_wouldBeFound 1 = .ok (.iload_n 1, 1) := by decide +kernel
theorem dX7_wouldBeFound_2 : decode cX7_wouldBeFound 2 = .ok (.invokevirtual 83, 3) := by decide +kernel
theorem dX7_wouldBeFound_5 : decode cX7_wouldBeFound 5 = .ok (.ifCond .eq 19, 3) := by decide +kernel
theorem dX7_wouldBeFound_8 : decode cX7_wouldBeFound 8 = .ok (.aload_n 0, 1) := by decide +kernel
theorem dX7_wouldBeFound_9 : decode cX7_wouldBeFound 9 = .ok (.iload_n 1, 1) := by decide +kernel
theorem dX7_wouldBeFound_10 : decode cX7_wouldBeFound 10 = .ok (.invokevirtual 74, 3) := by decide +kernel
theorem dX7_wouldBeFound_13 : decode cX7_wouldBeFound 13 = .ok (.aload_n 0, 1) := by decide +kernel
theorem dX7_wouldBeFound_14 : decode cX7_wouldBeFound 14 = .ok (.getfield 33, 3) := by decide +kernel
theorem dX7_wouldBeFound_17 : decode cX7_wouldBeFound 17 = .ok (.if_icmp .lt 7, 3) := by decide +kernel
theorem dX7_wouldBeFound_20 : decode cX7_wouldBeFound 20 = .ok (.iconst 1, 1) := by decide +kernel
theorem dX7_wouldBeFound_21 : decode cX7_wouldBeFound 21 = .ok (.goto 4, 3) := by decide +kernel
theorem dX7_wouldBeFound_24 : decode cX7_wouldBeFound 24 = .ok (.iconst 0, 1) := by decide +kernel
theorem dX7_wouldBeFound_25 : decode cX7_wouldBeFound 25 = .ok (.ireturn, 1) := by decide +kernel
theorem dX7_wouldBeFoundBits_0 : decode cX7_wouldBeFoundBits 0 = .ok (.iconst 0, 1) := by decide +kernel
theorem dX7_wouldBeFoundBits_1 : decode cX7_wouldBeFoundBits 1 = .ok (.istore_n 1, 1) := by decide +kernel
theorem dX7_wouldBeFoundBits_2 : decode cX7_wouldBeFoundBits 2 = .ok (.iconst 0, 1) := by decide +kernel
theorem dX7_wouldBeFoundBits_3 : decode cX7_wouldBeFoundBits 3 = .ok (.istore_n 2, 1) := by decide +kernel
theorem dX7_wouldBeFoundBits_4 : decode cX7_wouldBeFoundBits 4 = .ok (.iload_n 2, 1) := by decide +kernel
theorem dX7_wouldBeFoundBits_5 : decode cX7_wouldBeFoundBits 5 = .ok (.aload_n 0, 1) := by decide +kernel
theorem dX7_wouldBeFoundBits_6 : decode cX7_wouldBeFoundBits 6 = .ok (.getfield 37, 3) := by decide +kernel
theorem dX7_wouldBeFoundBits_9 : decode cX7_wouldBeFoundBits 9 = .ok (.if_icmp .ge 27, 3) := by decide +kernel
theorem dX7_wouldBeFoundBits_12 : decode cX7_wouldBeFoundBits 12 = .ok (.iload_n 1, 1) := by decide +kernel
theorem dX7_wouldBeFoundBits_13 : decode cX7_wouldBeFoundBits 13 = .ok (.aload_n 0, 1) := by decide +kernel
theorem dX7_wouldBeFoundBits_14 : decode cX7_wouldBeFoundBits 14 = .ok (.iload_n 2, 1) := by decide +kernel
theorem dX7_wouldBeFoundBits_15 : decode cX7_wouldBeFoundBits 15 = .ok (.invokevirtual 87, 3) := by decide +kernel
theorem dX7_wouldBeFoundBits_18 : decode cX7_wouldBeFoundBits 18 = .ok (.ifCond .eq 9, 3) := by decide +kernel
theorem dX7_wouldBeFoundBits_21 : decode cX7_wouldBeFoundBits 21 = .ok (.iconst 1, 1) := by decide +kernel
theorem dX7_wouldBeFoundBits_22 : decode cX7_wouldBeFoundBits 22 = .ok (.iload_n 2, 1) := by decide +kernel
theorem dX7_wouldBeFoundBits_23 : decode cX7_wouldBeFoundBits 23 = .ok (.ishl, 1) := by decide +kernel
theorem dX7_wouldBeFoundBits_24 : decode cX7_wouldBeFoundBits 24 = .ok (.goto 4, 3) := by decide +kernel
theorem dX7_wouldBeFoundBits_27 : decode cX7_wouldBeFoundBits 27 = .ok (.iconst 0, 1) := by decide +kernel
theorem dX7_wouldBeFoundBits_28 : decode cX7_wouldBeFoundBits 28 = .ok (.ior, 1) := by decide +kernel
theorem dX7_wouldBeFoundBits_29 : decode cX7_wouldBeFoundBits 29 = .ok (.istore_n 1, 1) := by decide +kernel
theorem dX7_wouldBeFoundBits_30 : decode cX7_wouldBeFoundBits 30 = .ok (.iinc 2 1, 3) := by decide +kernel
theorem dX7_wouldBeFoundBits_33 : decode cX7_wouldBeFoundBits 33 = .ok (.goto (-29), 3) := by decide +kernel
theorem dX7_wouldBeFoundBits_36 : decode cX7_wouldBeFoundBits 36 = .ok (.iload_n 1, 1) := by decide +kernel
theorem dX7_wouldBeFoundBits_37 : decode cX7_wouldBeFoundBits 37 = .ok (.ireturn, 1) := by decide +kernel
theorem dX7_fines_0 : decode cX7_fines 0 = .ok (.iconst 0, 1) := by decide +kernel
theorem dX7_fines_1 : decode cX7_fines 1 = .ok (.istore_n 1, 1) := by decide +kernel
theorem dX7_fines_2 : decode cX7_fines 2 = .ok (.iconst 0, 1) := by decide +kernel
theorem dX7_fines_3 : decode cX7_fines 3 = .ok (.istore_n 2, 1) := by decide +kernel
theorem dX7_fines_4 : decode cX7_fines 4 = .ok (.iload_n 2, 1) := by decide +kernel
theorem dX7_fines_5 : decode cX7_fines 5 = .ok (.aload_n 0, 1) := by decide +kernel
theorem dX7_fines_6 : decode cX7_fines 6 = .ok (.getfield 37, 3) := by decide +kernel
theorem dX7_fines_9 : decode cX7_fines 9 = .ok (.if_icmp .ge 20, 3) := by decide +kernel
theorem dX7_fines_12 : decode cX7_fines 12 = .ok (.iload_n 1, 1) := by decide +kernel
theorem dX7_fines_13 : decode cX7_fines 13 = .ok (.aload_n 0, 1) := by decide +kernel
theorem dX7_fines_14 : decode cX7_fines 14 = .ok (.getfield 30, 3) := by decide +kernel
theorem dX7_fines_17 : decode cX7_fines 17 = .ok (.iload_n 2, 1) := by decide +kernel
theorem dX7_fines_18 : decode cX7_fines 18 = .ok (.invokestatic 47, 3) := by decide +kernel
theorem dX7_fines_21 : decode cX7_fines 21 = .ok (.iadd, 1) := by decide +kernel
theorem dX7_fines_22 : decode cX7_fines 22 = .ok (.istore_n 1, 1) := by decide +kernel
theorem dX7_fines_23 : decode cX7_fines 23 = .ok (.iinc 2 1, 3) := by decide +kernel
theorem dX7_fines_26 : decode cX7_fines 26 = .ok (.goto (-22), 3) := by decide +kernel
theorem dX7_fines_29 : decode cX7_fines 29 = .ok (.iload_n 1, 1) := by decide +kernel
theorem dX7_fines_30 : decode cX7_fines 30 = .ok (.ireturn, 1) := by decide +kernel
theorem dX7_liesInAll_0 : decode cX7_liesInAll 0 = .ok (.iconst 0, 1) := by decide +kernel
theorem dX7_liesInAll_1 : decode cX7_liesInAll 1 = .ok (.istore_n 1, 1) := by decide +kernel
theorem dX7_liesInAll_2 : decode cX7_liesInAll 2 = .ok (.iconst 0, 1) := by decide +kernel
theorem dX7_liesInAll_3 : decode cX7_liesInAll 3 = .ok (.istore_n 2, 1) := by decide +kernel
theorem dX7_liesInAll_4 : decode cX7_liesInAll 4 = .ok (.iload_n 2, 1) := by decide +kernel
theorem dX7_liesInAll_5 : decode cX7_liesInAll 5 = .ok (.aload_n 0, 1) := by decide +kernel
theorem dX7_liesInAll_6 : decode cX7_liesInAll 6 = .ok (.getfield 37, 3) := by decide +kernel
theorem dX7_liesInAll_9 : decode cX7_liesInAll 9 = .ok (.if_icmp .ge 17, 3) := by decide +kernel
theorem dX7_liesInAll_12 : decode cX7_liesInAll 12 = .ok (.iload_n 1, 1) := by decide +kernel
theorem dX7_liesInAll_13 : decode cX7_liesInAll 13 = .ok (.aload_n 0, 1) := by decide +kernel
theorem dX7_liesInAll_14 : decode cX7_liesInAll 14 = .ok (.iload_n 2, 1) := by decide +kernel
theorem dX7_liesInAll_15 : decode cX7_liesInAll 15 = .ok (.invokevirtual 74, 3) := by decide +kernel
theorem dX7_liesInAll_18 : decode cX7_liesInAll 18 = .ok (.iadd, 1) := by decide +kernel
theorem dX7_liesInAll_19 : decode cX7_liesInAll 19 = .ok (.istore_n 1, 1) := by decide +kernel
theorem dX7_liesInAll_20 : decode cX7_liesInAll 20 = .ok (.iinc 2 1, 3) := by decide +kernel
theorem dX7_liesInAll_23 : decode cX7_liesInAll 23 = .ok (.goto (-19), 3) := by decide +kernel
theorem dX7_liesInAll_26 : decode cX7_liesInAll 26 = .ok (.iload_n 1, 1) := by decide +kernel
theorem dX7_liesInAll_27 : decode cX7_liesInAll 27 = .ok (.ireturn, 1) := by decide +kernel
theorem dX7_quilts_0 : decode cX7_quilts 0 = .ok (.iconst 0, 1) := by decide +kernel
theorem dX7_quilts_1 : decode cX7_quilts 1 = .ok (.istore_n 1, 1) := by decide +kernel
theorem dX7_quilts_2 : decode cX7_quilts 2 = .ok (.iconst 0, 1) := by decide +kernel
theorem dX7_quilts_3 : decode cX7_quilts 3 = .ok (.istore_n 2, 1) := by decide +kernel
theorem dX7_quilts_4 : decode cX7_quilts 4 = .ok (.iload_n 2, 1) := by decide +kernel
theorem dX7_quilts_5 : decode cX7_quilts 5 = .ok (.aload_n 0, 1) := by decide +kernel
theorem dX7_quilts_6 : decode cX7_quilts 6 = .ok (.getfield 37, 3) := by decide +kernel
theorem dX7_quilts_9 : decode cX7_quilts 9 = .ok (.if_icmp .ge 29, 3) := by decide +kernel
theorem dX7_quilts_12 : decode cX7_quilts 12 = .ok (.iload_n 1, 1) := by decide +kernel
theorem dX7_quilts_13 : decode cX7_quilts 13 = .ok (.aload_n 0, 1) := by decide +kernel
theorem dX7_quilts_14 : decode cX7_quilts 14 = .ok (.iload_n 2, 1) := by decide +kernel
theorem dX7_quilts_15 : decode cX7_quilts 15 = .ok (.invokevirtual 57, 3) := by decide +kernel
theorem dX7_quilts_18 : decode cX7_quilts 18 = .ok (.iconst 2, 1) := by decide +kernel
theorem dX7_quilts_19 : decode cX7_quilts 19 = .ok (.invokestatic 90, 3) := by decide +kernel
theorem dX7_quilts_22 : decode cX7_quilts 22 = .ok (.ifCond .eq 7, 3) := by decide +kernel
theorem dX7_quilts_25 : decode cX7_quilts 25 = .ok (.iconst 1, 1) := by decide +kernel
theorem dX7_quilts_26 : decode cX7_quilts 26 = .ok (.goto 4, 3) := by decide +kernel
theorem dX7_quilts_29 : decode cX7_quilts 29 = .ok (.iconst 0, 1) := by decide +kernel
theorem dX7_quilts_30 : decode cX7_quilts 30 = .ok (.iadd, 1) := by decide +kernel
theorem dX7_quilts_31 : decode cX7_quilts 31 = .ok (.istore_n 1, 1) := by decide +kernel
theorem dX7_quilts_32 : decode cX7_quilts 32 = .ok (.iinc 2 1, 3) := by decide +kernel
theorem dX7_quilts_35 : decode cX7_quilts 35 = .ok (.goto (-31), 3) := by decide +kernel
theorem dX7_quilts_38 : decode cX7_quilts 38 = .ok (.iload_n 1, 1) := by decide +kernel
theorem dX7_quilts_39 : decode cX7_quilts 39 = .ok (.ireturn, 1) := by decide +kernel
theorem dX7_mostLying_0 : decode cX7_mostLying 0 = .ok (.iconst 0, 1) := by decide +kernel
theorem dX7_mostLying_1 : decode cX7_mostLying 1 = .ok (.istore_n 2, 1) := by decide +kernel
theorem dX7_mostLying_2 : decode cX7_mostLying 2 = .ok (.iconst 0, 1) := by decide +kernel
theorem dX7_mostLying_3 : decode cX7_mostLying 3 = .ok (.istore_n 3, 1) := by decide +kernel
theorem dX7_mostLying_4 : decode cX7_mostLying 4 = .ok (.iload_n 3, 1) := by decide +kernel
theorem dX7_mostLying_5 : decode cX7_mostLying 5 = .ok (.aload_n 0, 1) := by decide +kernel
theorem dX7_mostLying_6 : decode cX7_mostLying 6 = .ok (.getfield 37, 3) := by decide +kernel
theorem dX7_mostLying_9 : decode cX7_mostLying 9 = .ok (.if_icmp .ge 32, 3) := by decide +kernel
theorem dX7_mostLying_12 : decode cX7_mostLying 12 = .ok (.iload_n 1, 1) := by decide +kernel
theorem dX7_mostLying_13 : decode cX7_mostLying 13 = .ok (.iload_n 3, 1) := by decide +kernel
theorem dX7_mostLying_14 : decode cX7_mostLying 14 = .ok (.ishr, 1) := by decide +kernel
theorem dX7_mostLying_15 : decode cX7_mostLying 15 = .ok (.iconst 1, 1) := by decide +kernel
theorem dX7_mostLying_16 : decode cX7_mostLying 16 = .ok (.iand, 1) := by decide +kernel
theorem dX7_mostLying_17 : decode cX7_mostLying 17 = .ok (.iconst 1, 1) := by decide +kernel
theorem dX7_mostLying_18 : decode cX7_mostLying 18 = .ok (.if_icmp .ne 15, 3) := by decide +kernel
theorem dX7_mostLying_21 : decode cX7_mostLying 21 = .ok (.iload_n 2, 1) := by decide +kernel
theorem dX7_mostLying_22 : decode cX7_mostLying 22 = .ok (.aload_n 0, 1) := by decide +kernel
theorem dX7_mostLying_23 : decode cX7_mostLying 23 = .ok (.iload_n 3, 1) := by decide +kernel
theorem dX7_mostLying_24 : decode cX7_mostLying 24 = .ok (.invokevirtual 74, 3) := by decide +kernel
theorem dX7_mostLying_27 : decode cX7_mostLying 27 = .ok (.invokestatic 94, 3) := by decide +kernel
theorem dX7_mostLying_30 : decode cX7_mostLying 30 = .ok (.goto 4, 3) := by decide +kernel
theorem dX7_mostLying_33 : decode cX7_mostLying 33 = .ok (.iload_n 2, 1) := by decide +kernel
theorem dX7_mostLying_34 : decode cX7_mostLying 34 = .ok (.istore_n 2, 1) := by decide +kernel
theorem dX7_mostLying_35 : decode cX7_mostLying 35 = .ok (.iinc 3 1, 3) := by decide +kernel
theorem dX7_mostLying_38 : decode cX7_mostLying 38 = .ok (.goto (-34), 3) := by decide +kernel
theorem dX7_mostLying_41 : decode cX7_mostLying 41 = .ok (.iload_n 2, 1) := by decide +kernel
theorem dX7_mostLying_42 : decode cX7_mostLying 42 = .ok (.ireturn, 1) := by decide +kernel
theorem dX7_carryOut_0 : decode cX7_carryOut 0 = .ok (.iload_n 1, 1) := by decide +kernel
theorem dX7_carryOut_1 : decode cX7_carryOut 1 = .ok (.bipush 10, 2) := by decide +kernel
theorem dX7_carryOut_3 : decode cX7_carryOut 3 = .ok (.idiv, 1) := by decide +kernel
theorem dX7_carryOut_4 : decode cX7_carryOut 4 = .ok (.bipush 10, 2) := by decide +kernel
theorem dX7_carryOut_6 : decode cX7_carryOut 6 = .ok (.irem, 1) := by decide +kernel
theorem dX7_carryOut_7 : decode cX7_carryOut 7 = .ok (.istore_n 2, 1) := by decide +kernel
theorem dX7_carryOut_8 : decode cX7_carryOut 8 = .ok (.iload_n 1, 1) := by decide +kernel
theorem dX7_carryOut_9 : decode cX7_carryOut 9 = .ok (.bipush 100, 2) := by decide +kernel
theorem dX7_carryOut_11 : decode cX7_carryOut 11 = .ok (.idiv, 1) := by decide +kernel
theorem dX7_carryOut_12 : decode cX7_carryOut 12 = .ok (.tableswitch 62 1 3 #[28, 34, 46], 28) := by decide +kernel
theorem dX7_carryOut_40 : decode cX7_carryOut 40 = .ok (.aload_n 0, 1) := by decide +kernel
theorem dX7_carryOut_41 : decode cX7_carryOut 41 = .ok (.iload_n 2, 1) := by decide +kernel
theorem dX7_carryOut_42 : decode cX7_carryOut 42 = .ok (.invokevirtual 97, 3) := by decide +kernel
theorem dX7_carryOut_45 : decode cX7_carryOut 45 = .ok (.ireturn, 1) := by decide +kernel
theorem dX7_carryOut_46 : decode cX7_carryOut 46 = .ok (.aload_n 0, 1) := by decide +kernel
theorem dX7_carryOut_47 : decode cX7_carryOut 47 = .ok (.iload_n 2, 1) := by decide +kernel
theorem dX7_carryOut_48 : decode cX7_carryOut 48 = .ok (.iconst 1, 1) := by decide +kernel
theorem dX7_carryOut_49 : decode cX7_carryOut 49 = .ok (.invokevirtual 100, 3) := by decide +kernel
theorem dX7_carryOut_52 : decode cX7_carryOut 52 = .ok (.aload_n 0, 1) := by decide +kernel
theorem dX7_carryOut_53 : decode cX7_carryOut 53 = .ok (.iload_n 2, 1) := by decide +kernel
theorem dX7_carryOut_54 : decode cX7_carryOut 54 = .ok (.invokevirtual 64, 3) := by decide +kernel
theorem dX7_carryOut_57 : decode cX7_carryOut 57 = .ok (.ireturn, 1) := by decide +kernel
theorem dX7_carryOut_58 : decode cX7_carryOut 58 = .ok (.aload_n 0, 1) := by decide +kernel
theorem dX7_carryOut_59 : decode cX7_carryOut 59 = .ok (.iload_n 2, 1) := by decide +kernel
theorem dX7_carryOut_60 : decode cX7_carryOut 60 = .ok (.iload_n 1, 1) := by decide +kernel
theorem dX7_carryOut_61 : decode cX7_carryOut 61 = .ok (.bipush 10, 2) := by decide +kernel
theorem dX7_carryOut_63 : decode cX7_carryOut 63 = .ok (.irem, 1) := by decide +kernel
theorem dX7_carryOut_64 : decode cX7_carryOut 64 = .ok (.invokevirtual 104, 3) := by decide +kernel
theorem dX7_carryOut_67 : decode cX7_carryOut 67 = .ok (.aload_n 0, 1) := by decide +kernel
theorem dX7_carryOut_68 : decode cX7_carryOut 68 = .ok (.iload_n 2, 1) := by decide +kernel
theorem dX7_carryOut_69 : decode cX7_carryOut 69 = .ok (.iload_n 2, 1) := by decide +kernel
theorem dX7_carryOut_70 : decode cX7_carryOut 70 = .ok (.invokevirtual 60, 3) := by decide +kernel
theorem dX7_carryOut_73 : decode cX7_carryOut 73 = .ok (.ireturn, 1) := by decide +kernel
theorem dX7_carryOut_74 : decode cX7_carryOut 74 = .ok (.aload_n 0, 1) := by decide +kernel
theorem dX7_carryOut_75 : decode cX7_carryOut 75 = .ok (.invokevirtual 107, 3) := by decide +kernel
theorem dX7_carryOut_78 : decode cX7_carryOut 78 = .ok (.ireturn, 1) := by decide +kernel
theorem dX7_passNight_0 : decode cX7_passNight 0 = .ok (.iconst 0, 1) := by decide +kernel
theorem dX7_passNight_1 : decode cX7_passNight 1 = .ok (.istore_n 1, 1) := by decide +kernel
theorem dX7_passNight_2 : decode cX7_passNight 2 = .ok (.iconst 0, 1) := by decide +kernel
theorem dX7_passNight_3 : decode cX7_passNight 3 = .ok (.istore_n 2, 1) := by decide +kernel
theorem dX7_passNight_4 : decode cX7_passNight 4 = .ok (.iload_n 2, 1) := by decide +kernel
theorem dX7_passNight_5 : decode cX7_passNight 5 = .ok (.aload_n 0, 1) := by decide +kernel
theorem dX7_passNight_6 : decode cX7_passNight 6 = .ok (.getfield 37, 3) := by decide +kernel
theorem dX7_passNight_9 : decode cX7_passNight 9 = .ok (.if_icmp .ge 17, 3) := by decide +kernel
theorem dX7_passNight_12 : decode cX7_passNight 12 = .ok (.iload_n 1, 1) := by decide +kernel
theorem dX7_passNight_13 : decode cX7_passNight 13 = .ok (.aload_n 0, 1) := by decide +kernel
theorem dX7_passNight_14 : decode cX7_passNight 14 = .ok (.iload_n 2, 1) := by decide +kernel
theorem dX7_passNight_15 : decode cX7_passNight 15 = .ok (.invokevirtual 111, 3) := by decide +kernel
theorem dX7_passNight_18 : decode cX7_passNight 18 = .ok (.iadd, 1) := by decide +kernel
theorem dX7_passNight_19 : decode cX7_passNight 19 = .ok (.istore_n 1, 1) := by decide +kernel
theorem dX7_passNight_20 : decode cX7_passNight 20 = .ok (.iinc 2 1, 3) := by decide +kernel
theorem dX7_passNight_23 : decode cX7_passNight 23 = .ok (.goto (-19), 3) := by decide +kernel
theorem dX7_passNight_26 : decode cX7_passNight 26 = .ok (.aload_n 0, 1) := by decide +kernel
theorem dX7_passNight_27 : decode cX7_passNight 27 = .ok (.dup, 1) := by decide +kernel
theorem dX7_passNight_28 : decode cX7_passNight 28 = .ok (.getfield 40, 3) := by decide +kernel
theorem dX7_passNight_31 : decode cX7_passNight 31 = .ok (.iconst 1, 1) := by decide +kernel
theorem dX7_passNight_32 : decode cX7_passNight 32 = .ok (.iadd, 1) := by decide +kernel
theorem dX7_passNight_33 : decode cX7_passNight 33 = .ok (.putfield 40, 3) := by decide +kernel
theorem dX7_passNight_36 : decode cX7_passNight 36 = .ok (.iload_n 1, 1) := by decide +kernel
theorem dX7_passNight_37 : decode cX7_passNight 37 = .ok (.ireturn, 1) := by decide +kernel
theorem dX7_passAlone_0 : decode cX7_passAlone 0 = .ok (.iconst 0, 1) := by decide +kernel
theorem dX7_passAlone_1 : decode cX7_passAlone 1 = .ok (.istore_n 3, 1) := by decide +kernel
theorem dX7_passAlone_2 : decode cX7_passAlone 2 = .ok (.iload_n 3, 1) := by decide +kernel
theorem dX7_passAlone_3 : decode cX7_passAlone 3 = .ok (.iload_n 2, 1) := by decide +kernel
theorem dX7_passAlone_4 : decode cX7_passAlone 4 = .ok (.if_icmp .ge 25, 3) := by decide +kernel
theorem dX7_passAlone_7 : decode cX7_passAlone 7 = .ok (.aload_n 0, 1) := by decide +kernel
theorem dX7_passAlone_8 : decode cX7_passAlone 8 = .ok (.iload_n 1, 1) := by decide +kernel
theorem dX7_passAlone_9 : decode cX7_passAlone 9 = .ok (.invokevirtual 111, 3) := by decide +kernel
theorem dX7_passAlone_12 : decode cX7_passAlone 12 = .ok (.pop, 1) := by decide +kernel
theorem dX7_passAlone_13 : decode cX7_passAlone 13 = .ok (.aload_n 0, 1) := by decide +kernel
theorem dX7_passAlone_14 : decode cX7_passAlone 14 = .ok (.dup, 1) := by decide +kernel
theorem dX7_passAlone_15 : decode cX7_passAlone 15 = .ok (.getfield 40, 3) := by decide +kernel
theorem dX7_passAlone_18 : decode cX7_passAlone 18 = .ok (.iconst 1, 1) := by decide +kernel
theorem dX7_passAlone_19 : decode cX7_passAlone 19 = .ok (.iadd, 1) := by decide +kernel
theorem dX7_passAlone_20 : decode cX7_passAlone 20 = .ok (.putfield 40, 3) := by decide +kernel
theorem dX7_passAlone_23 : decode cX7_passAlone 23 = .ok (.iinc 3 1, 3) := by decide +kernel
theorem dX7_passAlone_26 : decode cX7_passAlone 26 = .ok (.goto (-24), 3) := by decide +kernel
theorem dX7_passAlone_29 : decode cX7_passAlone 29 = .ok (.return_, 1) := by decide +kernel
theorem dX7_sleepIn_0 : decode cX7_sleepIn 0 = .ok (.aload_n 0, 1) := by decide +kernel
theorem dX7_sleepIn_1 : decode cX7_sleepIn 1 = .ok (.iload_n 1, 1) := by decide +kernel
theorem dX7_sleepIn_2 : decode cX7_sleepIn 2 = .ok (.invokevirtual 57, 3) := by decide +kernel
theorem dX7_sleepIn_5 : decode cX7_sleepIn 5 = .ok (.aload_n 0, 1) := by decide +kernel
theorem dX7_sleepIn_6 : decode cX7_sleepIn 6 = .ok (.iload_n 1, 1) := by decide +kernel
theorem dX7_sleepIn_7 : decode cX7_sleepIn 7 = .ok (.iload_n 1, 1) := by decide +kernel
theorem dX7_sleepIn_8 : decode cX7_sleepIn 8 = .ok (.invokevirtual 60, 3) := by decide +kernel
theorem dX7_sleepIn_11 : decode cX7_sleepIn 11 = .ok (.aload_n 0, 1) := by decide +kernel
theorem dX7_sleepIn_12 : decode cX7_sleepIn 12 = .ok (.iload_n 1, 1) := by decide +kernel
theorem dX7_sleepIn_13 : decode cX7_sleepIn 13 = .ok (.invokevirtual 64, 3) := by decide +kernel
theorem dX7_sleepIn_16 : decode cX7_sleepIn 16 = .ok (.aload_n 0, 1) := by decide +kernel
theorem dX7_sleepIn_17 : decode cX7_sleepIn 17 = .ok (.getfield 40, 3) := by decide +kernel
theorem dX7_sleepIn_20 : decode cX7_sleepIn 20 = .ok (.aload_n 0, 1) := by decide +kernel
theorem dX7_sleepIn_21 : decode cX7_sleepIn 21 = .ok (.aload_n 0, 1) := by decide +kernel
theorem dX7_sleepIn_22 : decode cX7_sleepIn 22 = .ok (.getfield 40, 3) := by decide +kernel
theorem dX7_sleepIn_25 : decode cX7_sleepIn 25 = .ok (.invokevirtual 67, 3) := by decide +kernel
theorem dX7_sleepIn_28 : decode cX7_sleepIn 28 = .ok (.invokestatic 70, 3) := by decide +kernel
theorem dX7_sleepIn_31 : decode cX7_sleepIn 31 = .ok (.istore_n 2, 1) := by decide +kernel
theorem dX7_sleepIn_32 : decode cX7_sleepIn 32 = .ok (.aload_n 0, 1) := by decide +kernel
theorem dX7_sleepIn_33 : decode cX7_sleepIn 33 = .ok (.getfield 27, 3) := by decide +kernel
theorem dX7_sleepIn_36 : decode cX7_sleepIn 36 = .ok (.iload_n 1, 1) := by decide +kernel
theorem dX7_sleepIn_37 : decode cX7_sleepIn 37 = .ok (.bipush 99, 2) := by decide +kernel
theorem dX7_sleepIn_39 : decode cX7_sleepIn 39 = .ok (.aload_n 0, 1) := by decide +kernel
theorem dX7_sleepIn_40 : decode cX7_sleepIn 40 = .ok (.iload_n 1, 1) := by decide +kernel
theorem dX7_sleepIn_41 : decode cX7_sleepIn 41 = .ok (.invokevirtual 74, 3) := by decide +kernel
theorem dX7_sleepIn_44 : decode cX7_sleepIn 44 = .ok (.iload_n 2, 1) := by decide +kernel
theorem dX7_sleepIn_45 : decode cX7_sleepIn 45 = .ok (.iadd, 1) := by decide +kernel
theorem dX7_sleepIn_46 : decode cX7_sleepIn 46 = .ok (.invokestatic 114, 3) := by decide +kernel
theorem dX7_sleepIn_49 : decode cX7_sleepIn 49 = .ok (.invokestatic 117, 3) := by decide +kernel
theorem dX7_sleepIn_52 : decode cX7_sleepIn 52 = .ok (.iload_n 2, 1) := by decide +kernel
theorem dX7_sleepIn_53 : decode cX7_sleepIn 53 = .ok (.iconst 3, 1) := by decide +kernel
theorem dX7_sleepIn_54 : decode cX7_sleepIn 54 = .ok (.if_icmp .lt 9, 3) := by decide +kernel
theorem dX7_sleepIn_57 : decode cX7_sleepIn 57 = .ok (.aload_n 0, 1) := by decide +kernel
theorem dX7_sleepIn_58 : decode cX7_sleepIn 58 = .ok (.iload_n 1, 1) := by decide +kernel
theorem dX7_sleepIn_59 : decode cX7_sleepIn 59 = .ok (.iconst 1, 1) := by decide +kernel
theorem dX7_sleepIn_60 : decode cX7_sleepIn 60 = .ok (.invokevirtual 100, 3) := by decide +kernel
theorem dX7_sleepIn_63 : decode cX7_sleepIn 63 = .ok (.iload_n 2, 1) := by decide +kernel
theorem dX7_sleepIn_64 : decode cX7_sleepIn 64 = .ok (.ireturn, 1) := by decide +kernel
theorem dX7_inspectBed_0 : decode cX7_inspectBed 0 = .ok (.aload_n 0, 1) := by decide +kernel
theorem dX7_inspectBed_1 : decode cX7_inspectBed 1 = .ok (.iload_n 1, 1) := by decide +kernel
theorem dX7_inspectBed_2 : decode cX7_inspectBed 2 = .ok (.invokevirtual 87, 3) := by decide +kernel
theorem dX7_inspectBed_5 : decode cX7_inspectBed 5 = .ok (.ifCond .ne 5, 3) := by decide +kernel
theorem dX7_inspectBed_8 : decode cX7_inspectBed 8 = .ok (.iconst 0, 1) := by decide +kernel
theorem dX7_inspectBed_9 : decode cX7_inspectBed 9 = .ok (.ireturn, 1) := by decide +kernel
theorem dX7_inspectBed_10 : decode cX7_inspectBed 10 = .ok (.aload_n 0, 1) := by decide +kernel
theorem dX7_inspectBed_11 : decode cX7_inspectBed 11 = .ok (.iload_n 1, 1) := by decide +kernel
theorem dX7_inspectBed_12 : decode cX7_inspectBed 12 = .ok (.invokevirtual 74, 3) := by decide +kernel
theorem dX7_inspectBed_15 : decode cX7_inspectBed 15 = .ok (.istore_n 2, 1) := by decide +kernel
theorem dX7_inspectBed_16 : decode cX7_inspectBed 16 = .ok (.aload_n 0, 1) := by decide +kernel
theorem dX7_inspectBed_17 : decode cX7_inspectBed 17 = .ok (.getfield 27, 3) := by decide +kernel
theorem dX7_inspectBed_20 : decode cX7_inspectBed 20 = .ok (.iload_n 1, 1) := by decide +kernel
theorem dX7_inspectBed_21 : decode cX7_inspectBed 21 = .ok (.iconst 0, 1) := by decide +kernel
theorem dX7_inspectBed_22 : decode cX7_inspectBed 22 = .ok (.invokestatic 117, 3) := by decide +kernel
theorem dX7_inspectBed_25 : decode cX7_inspectBed 25 = .ok (.aload_n 0, 1) := by decide +kernel
theorem dX7_inspectBed_26 : decode cX7_inspectBed 26 = .ok (.getfield 24, 3) := by decide +kernel
theorem dX7_inspectBed_29 : decode cX7_inspectBed 29 = .ok (.iload_n 1, 1) := by decide +kernel
theorem dX7_inspectBed_30 : decode cX7_inspectBed 30 = .ok (.bipush 9, 2) := by decide +kernel
theorem dX7_inspectBed_32 : decode cX7_inspectBed 32 = .ok (.invokestatic 117, 3) := by decide +kernel
theorem dX7_inspectBed_35 : decode cX7_inspectBed 35 = .ok (.aload_n 0, 1) := by decide +kernel
theorem dX7_inspectBed_36 : decode cX7_inspectBed 36 = .ok (.getfield 30, 3) := by decide +kernel
theorem dX7_inspectBed_39 : decode cX7_inspectBed 39 = .ok (.iload_n 1, 1) := by decide +kernel
theorem dX7_inspectBed_40 : decode cX7_inspectBed 40 = .ok (.aload_n 0, 1) := by decide +kernel
theorem dX7_inspectBed_41 : decode cX7_inspectBed 41 = .ok (.getfield 30, 3) := by decide +kernel
theorem dX7_inspectBed_44 : decode cX7_inspectBed 44 = .ok (.iload_n 1, 1) := by decide +kernel
theorem dX7_inspectBed_45 : decode cX7_inspectBed 45 = .ok (.invokestatic 47, 3) := by decide +kernel
theorem dX7_inspectBed_48 : decode cX7_inspectBed 48 = .ok (.iconst 1, 1) := by decide +kernel
theorem dX7_inspectBed_49 : decode cX7_inspectBed 49 = .ok (.iadd, 1) := by decide +kernel
theorem dX7_inspectBed_50 : decode cX7_inspectBed 50 = .ok (.invokestatic 117, 3) := by decide +kernel
theorem dX7_inspectBed_53 : decode cX7_inspectBed 53 = .ok (.iload_n 2, 1) := by decide +kernel
theorem dX7_inspectBed_54 : decode cX7_inspectBed 54 = .ok (.ireturn, 1) := by decide +kernel
theorem dX7_thinBed_0 : decode cX7_thinBed 0 = .ok (.aload_n 0, 1) := by decide +kernel
theorem dX7_thinBed_1 : decode cX7_thinBed 1 = .ok (.getfield 24, 3) := by decide +kernel
theorem dX7_thinBed_4 : decode cX7_thinBed 4 = .ok (.iload_n 1, 1) := by decide +kernel
theorem dX7_thinBed_5 : decode cX7_thinBed 5 = .ok (.iconst 0, 1) := by decide +kernel
theorem dX7_thinBed_6 : decode cX7_thinBed 6 = .ok (.aload_n 0, 1) := by decide +kernel
theorem dX7_thinBed_7 : decode cX7_thinBed 7 = .ok (.getfield 24, 3) := by decide +kernel
theorem dX7_thinBed_10 : decode cX7_thinBed 10 = .ok (.iload_n 1, 1) := by decide +kernel
theorem dX7_thinBed_11 : decode cX7_thinBed 11 = .ok (.invokestatic 47, 3) := by decide +kernel
theorem dX7_thinBed_14 : decode cX7_thinBed 14 = .ok (.iload_n 2, 1) := by decide +kernel
theorem dX7_thinBed_15 : decode cX7_thinBed 15 = .ok (.isub, 1) := by decide +kernel
theorem dX7_thinBed_16 : decode cX7_thinBed 16 = .ok (.invokestatic 94, 3) := by decide +kernel
theorem dX7_thinBed_19 : decode cX7_thinBed 19 = .ok (.invokestatic 117, 3) := by decide +kernel
theorem dX7_thinBed_22 : decode cX7_thinBed 22 = .ok (.return_, 1) := by decide +kernel
theorem dX7_swapRights_0 : decode cX7_swapRights 0 = .ok (.aload_n 0, 1) := by decide +kernel
theorem dX7_swapRights_1 : decode cX7_swapRights 1 = .ok (.getfield 21, 3) := by decide +kernel
theorem dX7_swapRights_4 : decode cX7_swapRights 4 = .ok (.iload_n 1, 1) := by decide +kernel
theorem dX7_swapRights_5 : decode cX7_swapRights 5 = .ok (.invokestatic 47, 3) := by decide +kernel
theorem dX7_swapRights_8 : decode cX7_swapRights 8 = .ok (.istore_n 3, 1) := by decide +kernel
theorem dX7_swapRights_9 : decode cX7_swapRights 9 = .ok (.aload_n 0, 1) := by decide +kernel
theorem dX7_swapRights_10 : decode cX7_swapRights 10 = .ok (.getfield 21, 3) := by decide +kernel
theorem dX7_swapRights_13 : decode cX7_swapRights 13 = .ok (.iload_n 1, 1) := by decide +kernel
theorem dX7_swapRights_14 : decode cX7_swapRights 14 = .ok (.aload_n 0, 1) := by decide +kernel
theorem dX7_swapRights_15 : decode cX7_swapRights 15 = .ok (.getfield 21, 3) := by decide +kernel
theorem dX7_swapRights_18 : decode cX7_swapRights 18 = .ok (.iload_n 2, 1) := by decide +kernel
theorem dX7_swapRights_19 : decode cX7_swapRights 19 = .ok (.invokestatic 47, 3) := by decide +kernel
theorem dX7_swapRights_22 : decode cX7_swapRights 22 = .ok (.invokestatic 117, 3) := by decide +kernel
theorem dX7_swapRights_25 : decode cX7_swapRights 25 = .ok (.aload_n 0, 1) := by decide +kernel
theorem dX7_swapRights_26 : decode cX7_swapRights 26 = .ok (.getfield 21, 3) := by decide +kernel
theorem dX7_swapRights_29 : decode cX7_swapRights 29 = .ok (.iload_n 2, 1) := by decide +kernel
theorem dX7_swapRights_30 : decode cX7_swapRights 30 = .ok (.iload_n 3, 1) := by decide +kernel
theorem dX7_swapRights_31 : decode cX7_swapRights 31 = .ok (.invokestatic 117, 3) := by decide +kernel
theorem dX7_swapRights_34 : decode cX7_swapRights 34 = .ok (.return_, 1) := by decide +kernel
theorem dX7_clearBeds_0 : decode cX7_clearBeds 0 = .ok (.aload_n 0, 1) := by decide +kernel
theorem dX7_clearBeds_1 : decode cX7_clearBeds 1 = .ok (.iconst 0, 1) := by decide +kernel
theorem dX7_clearBeds_2 : decode cX7_clearBeds 2 = .ok (.putfield 37, 3) := by decide +kernel
theorem dX7_clearBeds_5 : decode cX7_clearBeds 5 = .ok (.return_, 1) := by decide +kernel
theorem dX7_addBed_0 : decode cX7_addBed 0 = .ok (.aload_n 0, 1) := by decide +kernel
theorem dX7_addBed_1 : decode cX7_addBed 1 = .ok (.getfield 15, 3) := by decide +kernel
theorem dX7_addBed_4 : decode cX7_addBed 4 = .ok (.aload_n 0, 1) := by decide +kernel
theorem dX7_addBed_5 : decode cX7_addBed 5 = .ok (.getfield 37, 3) := by decide +kernel
theorem dX7_addBed_8 : decode cX7_addBed 8 = .ok (.iload_n 1, 1) := by decide +kernel
theorem dX7_addBed_9 : decode cX7_addBed 9 = .ok (.invokestatic 117, 3) := by decide +kernel
theorem dX7_addBed_12 : decode cX7_addBed 12 = .ok (.aload_n 0, 1) := by decide +kernel
theorem dX7_addBed_13 : decode cX7_addBed 13 = .ok (.getfield 18, 3) := by decide +kernel
theorem dX7_addBed_16 : decode cX7_addBed 16 = .ok (.aload_n 0, 1) := by decide +kernel
theorem dX7_addBed_17 : decode cX7_addBed 17 = .ok (.getfield 37, 3) := by decide +kernel
theorem dX7_addBed_20 : decode cX7_addBed 20 = .ok (.iload_n 2, 1) := by decide +kernel
theorem dX7_addBed_21 : decode cX7_addBed 21 = .ok (.invokestatic 117, 3) := by decide +kernel
theorem dX7_addBed_24 : decode cX7_addBed 24 = .ok (.aload_n 0, 1) := by decide +kernel
theorem dX7_addBed_25 : decode cX7_addBed 25 = .ok (.getfield 21, 3) := by decide +kernel
theorem dX7_addBed_28 : decode cX7_addBed 28 = .ok (.aload_n 0, 1) := by decide +kernel
theorem dX7_addBed_29 : decode cX7_addBed 29 = .ok (.getfield 37, 3) := by decide +kernel
theorem dX7_addBed_32 : decode cX7_addBed 32 = .ok (.iload_n 3, 1) := by decide +kernel
theorem dX7_addBed_33 : decode cX7_addBed 33 = .ok (.invokestatic 117, 3) := by decide +kernel
theorem dX7_addBed_36 : decode cX7_addBed 36 = .ok (.aload_n 0, 1) := by decide +kernel
theorem dX7_addBed_37 : decode cX7_addBed 37 = .ok (.getfield 24, 3) := by decide +kernel
theorem dX7_addBed_40 : decode cX7_addBed 40 = .ok (.aload_n 0, 1) := by decide +kernel
theorem dX7_addBed_41 : decode cX7_addBed 41 = .ok (.getfield 37, 3) := by decide +kernel
theorem dX7_addBed_44 : decode cX7_addBed 44 = .ok (.iload 4, 2) := by decide +kernel
theorem dX7_addBed_46 : decode cX7_addBed 46 = .ok (.invokestatic 117, 3) := by decide +kernel
theorem dX7_addBed_49 : decode cX7_addBed 49 = .ok (.aload_n 0, 1) := by decide +kernel
theorem dX7_addBed_50 : decode cX7_addBed 50 = .ok (.dup, 1) := by decide +kernel
theorem dX7_addBed_51 : decode cX7_addBed 51 = .ok (.getfield 37, 3) := by decide +kernel
theorem dX7_addBed_54 : decode cX7_addBed 54 = .ok (.iconst 1, 1) := by decide +kernel
theorem dX7_addBed_55 : decode cX7_addBed 55 = .ok (.iadd, 1) := by decide +kernel
theorem dX7_addBed_56 : decode cX7_addBed 56 = .ok (.putfield 37, 3) := by decide +kernel
theorem dX7_addBed_59 : decode cX7_addBed 59 = .ok (.return_, 1) := by decide +kernel
theorem dJ6_bitCount_0f7a4_0 : decode cJ6_bitCount_0f7a4 0 = .ok (.iload_n 0, 1) := by decide +kernel
theorem dJ6_bitCount_0f7a4_1 : decode cJ6_bitCount_0f7a4 1 = .ok (.iload_n 0, 1) := by decide +kernel
theorem dJ6_bitCount_0f7a4_2 : decode cJ6_bitCount_0f7a4 2 = .ok (.iconst 1, 1) := by decide +kernel
theorem dJ6_bitCount_0f7a4_3 : decode cJ6_bitCount_0f7a4 3 = .ok (.iushr, 1) := by decide +kernel
theorem dJ6_bitCount_0f7a4_4 : decode cJ6_bitCount_0f7a4 4 = .ok (.ldc_w 265, 3) := by decide +kernel
theorem dJ6_bitCount_0f7a4_7 : decode cJ6_bitCount_0f7a4 7 = .ok (.iand, 1) := by decide +kernel
theorem dJ6_bitCount_0f7a4_8 : decode cJ6_bitCount_0f7a4 8 = .ok (.isub, 1) := by decide +kernel
theorem dJ6_bitCount_0f7a4_9 : decode cJ6_bitCount_0f7a4 9 = .ok (.istore_n 0, 1) := by decide +kernel
theorem dJ6_bitCount_0f7a4_10 : decode cJ6_bitCount_0f7a4 10 = .ok (.iload_n 0, 1) := by decide +kernel
theorem dJ6_bitCount_0f7a4_11 : decode cJ6_bitCount_0f7a4 11 = .ok (.ldc_w 266, 3) := by decide +kernel
theorem dJ6_bitCount_0f7a4_14 : decode cJ6_bitCount_0f7a4 14 = .ok (.iand, 1) := by decide +kernel
theorem dJ6_bitCount_0f7a4_15 : decode cJ6_bitCount_0f7a4 15 = .ok (.iload_n 0, 1) := by decide +kernel
theorem dJ6_bitCount_0f7a4_16 : decode cJ6_bitCount_0f7a4 16 = .ok (.iconst 2, 1) := by decide +kernel
theorem dJ6_bitCount_0f7a4_17 : decode cJ6_bitCount_0f7a4 17 = .ok (.iushr, 1) := by decide +kernel
theorem dJ6_bitCount_0f7a4_18 : decode cJ6_bitCount_0f7a4 18 = .ok (.ldc_w 266, 3) := by decide +kernel
theorem dJ6_bitCount_0f7a4_21 : decode cJ6_bitCount_0f7a4 21 = .ok (.iand, 1) := by decide +kernel
theorem dJ6_bitCount_0f7a4_22 : decode cJ6_bitCount_0f7a4 22 = .ok (.iadd, 1) := by decide +kernel
theorem dJ6_bitCount_0f7a4_23 : decode cJ6_bitCount_0f7a4 23 = .ok (.istore_n 0, 1) := by decide +kernel
theorem dJ6_bitCount_0f7a4_24 : decode cJ6_bitCount_0f7a4 24 = .ok (.iload_n 0, 1) := by decide +kernel
theorem dJ6_bitCount_0f7a4_25 : decode cJ6_bitCount_0f7a4 25 = .ok (.iload_n 0, 1) := by decide +kernel
theorem dJ6_bitCount_0f7a4_26 : decode cJ6_bitCount_0f7a4 26 = .ok (.iconst 4, 1) := by decide +kernel
theorem dJ6_bitCount_0f7a4_27 : decode cJ6_bitCount_0f7a4 27 = .ok (.iushr, 1) := by decide +kernel
theorem dJ6_bitCount_0f7a4_28 : decode cJ6_bitCount_0f7a4 28 = .ok (.iadd, 1) := by decide +kernel
theorem dJ6_bitCount_0f7a4_29 : decode cJ6_bitCount_0f7a4 29 = .ok (.ldc_w 267, 3) := by decide +kernel
theorem dJ6_bitCount_0f7a4_32 : decode cJ6_bitCount_0f7a4 32 = .ok (.iand, 1) := by decide +kernel
theorem dJ6_bitCount_0f7a4_33 : decode cJ6_bitCount_0f7a4 33 = .ok (.istore_n 0, 1) := by decide +kernel
theorem dJ6_bitCount_0f7a4_34 : decode cJ6_bitCount_0f7a4 34 = .ok (.iload_n 0, 1) := by decide +kernel
theorem dJ6_bitCount_0f7a4_35 : decode cJ6_bitCount_0f7a4 35 = .ok (.iload_n 0, 1) := by decide +kernel
theorem dJ6_bitCount_0f7a4_36 : decode cJ6_bitCount_0f7a4 36 = .ok (.bipush 8, 2) := by decide +kernel
theorem dJ6_bitCount_0f7a4_38 : decode cJ6_bitCount_0f7a4 38 = .ok (.iushr, 1) := by decide +kernel
theorem dJ6_bitCount_0f7a4_39 : decode cJ6_bitCount_0f7a4 39 = .ok (.iadd, 1) := by decide +kernel
theorem dJ6_bitCount_0f7a4_40 : decode cJ6_bitCount_0f7a4 40 = .ok (.istore_n 0, 1) := by decide +kernel
theorem dJ6_bitCount_0f7a4_41 : decode cJ6_bitCount_0f7a4 41 = .ok (.iload_n 0, 1) := by decide +kernel
theorem dJ6_bitCount_0f7a4_42 : decode cJ6_bitCount_0f7a4 42 = .ok (.iload_n 0, 1) := by decide +kernel
theorem dJ6_bitCount_0f7a4_43 : decode cJ6_bitCount_0f7a4 43 = .ok (.bipush 16, 2) := by decide +kernel
theorem dJ6_bitCount_0f7a4_45 : decode cJ6_bitCount_0f7a4 45 = .ok (.iushr, 1) := by decide +kernel
theorem dJ6_bitCount_0f7a4_46 : decode cJ6_bitCount_0f7a4 46 = .ok (.iadd, 1) := by decide +kernel
theorem dJ6_bitCount_0f7a4_47 : decode cJ6_bitCount_0f7a4 47 = .ok (.istore_n 0, 1) := by decide +kernel
theorem dJ6_bitCount_0f7a4_48 : decode cJ6_bitCount_0f7a4 48 = .ok (.iload_n 0, 1) := by decide +kernel
theorem dJ6_bitCount_0f7a4_49 : decode cJ6_bitCount_0f7a4 49 = .ok (.bipush 63, 2) := by decide +kernel
theorem dJ6_bitCount_0f7a4_51 : decode cJ6_bitCount_0f7a4 51 = .ok (.iand, 1) := by decide +kernel
theorem dJ6_bitCount_0f7a4_52 : decode cJ6_bitCount_0f7a4 52 = .ok (.ireturn, 1) := by decide +kernel
theorem dJ9_abs_0f7a4_0 : decode cJ9_abs_0f7a4 0 = .ok (.iload_n 0, 1) := by decide +kernel
theorem dJ9_abs_0f7a4_1 : decode cJ9_abs_0f7a4 1 = .ok (.ifCond .ge 8, 3) := by decide +kernel
theorem dJ9_abs_0f7a4_4 : decode cJ9_abs_0f7a4 4 = .ok (.iload_n 0, 1) := by decide +kernel
theorem dJ9_abs_0f7a4_5 : decode cJ9_abs_0f7a4 5 = .ok (.ineg, 1) := by decide +kernel
theorem dJ9_abs_0f7a4_6 : decode cJ9_abs_0f7a4 6 = .ok (.goto 4, 3) := by decide +kernel
theorem dJ9_abs_0f7a4_9 : decode cJ9_abs_0f7a4 9 = .ok (.iload_n 0, 1) := by decide +kernel
theorem dJ9_abs_0f7a4_10 : decode cJ9_abs_0f7a4 10 = .ok (.ireturn, 1) := by decide +kernel
theorem dJ9_max_7cf53_0 : decode cJ9_max_7cf53 0 = .ok (.iload_n 0, 1) := by decide +kernel
theorem dJ9_max_7cf53_1 : decode cJ9_max_7cf53 1 = .ok (.iload_n 1, 1) := by decide +kernel
theorem dJ9_max_7cf53_2 : decode cJ9_max_7cf53 2 = .ok (.if_icmp .lt 7, 3) := by decide +kernel
theorem dJ9_max_7cf53_5 : decode cJ9_max_7cf53 5 = .ok (.iload_n 0, 1) := by decide +kernel
theorem dJ9_max_7cf53_6 : decode cJ9_max_7cf53 6 = .ok (.goto 4, 3) := by decide +kernel
theorem dJ9_max_7cf53_9 : decode cJ9_max_7cf53 9 = .ok (.iload_n 1, 1) := by decide +kernel
theorem dJ9_max_7cf53_10 : decode cJ9_max_7cf53 10 = .ok (.ireturn, 1) := by decide +kernel
theorem dJ9_min_7cf53_0 : decode cJ9_min_7cf53 0 = .ok (.iload_n 0, 1) := by decide +kernel
theorem dJ9_min_7cf53_1 : decode cJ9_min_7cf53 1 = .ok (.iload_n 1, 1) := by decide +kernel
theorem dJ9_min_7cf53_2 : decode cJ9_min_7cf53 2 = .ok (.if_icmp .gt 7, 3) := by decide +kernel
theorem dJ9_min_7cf53_5 : decode cJ9_min_7cf53 5 = .ok (.iload_n 0, 1) := by decide +kernel
theorem dJ9_min_7cf53_6 : decode cJ9_min_7cf53 6 = .ok (.goto 4, 3) := by decide +kernel
theorem dJ9_min_7cf53_9 : decode cJ9_min_7cf53 9 = .ok (.iload_n 1, 1) := by decide +kernel
theorem dJ9_min_7cf53_10 : decode cJ9_min_7cf53 10 = .ok (.ireturn, 1) := by decide +kernel
theorem dJ7_fill_53178_0 : decode cJ7_fill_53178 0 = .ok (.iconst 0, 1) := by decide +kernel
theorem dJ7_fill_53178_1 : decode cJ7_fill_53178 1 = .ok (.istore_n 2, 1) := by decide +kernel
theorem dJ7_fill_53178_2 : decode cJ7_fill_53178 2 = .ok (.aload_n 0, 1) := by decide +kernel
theorem dJ7_fill_53178_3 : decode cJ7_fill_53178 3 = .ok (.arraylength, 1) := by decide +kernel
theorem dJ7_fill_53178_4 : decode cJ7_fill_53178 4 = .ok (.istore_n 3, 1) := by decide +kernel
theorem dJ7_fill_53178_5 : decode cJ7_fill_53178 5 = .ok (.iload_n 2, 1) := by decide +kernel
theorem dJ7_fill_53178_6 : decode cJ7_fill_53178 6 = .ok (.iload_n 3, 1) := by decide +kernel
theorem dJ7_fill_53178_7 : decode cJ7_fill_53178 7 = .ok (.if_icmp .ge 13, 3) := by decide +kernel
theorem dJ7_fill_53178_10 : decode cJ7_fill_53178 10 = .ok (.aload_n 0, 1) := by decide +kernel
theorem dJ7_fill_53178_11 : decode cJ7_fill_53178 11 = .ok (.iload_n 2, 1) := by decide +kernel
theorem dJ7_fill_53178_12 : decode cJ7_fill_53178 12 = .ok (.iload_n 1, 1) := by decide +kernel
theorem dJ7_fill_53178_13 : decode cJ7_fill_53178 13 = .ok (.iastore, 1) := by decide +kernel
theorem dJ7_fill_53178_14 : decode cJ7_fill_53178 14 = .ok (.iinc 2 1, 3) := by decide +kernel
theorem dJ7_fill_53178_17 : decode cJ7_fill_53178 17 = .ok (.goto (-12), 3) := by decide +kernel
theorem dJ7_fill_53178_20 : decode cJ7_fill_53178 20 = .ok (.return_, 1) := by decide +kernel
end
section
theorem dX8_init_0 : decode cX8_init 0 = .ok (.aload_n 0, 1) := by decide +kernel
theorem dX8_init_1 : decode cX8_init 1 = .ok (.invokespecial 1, 3) := by decide +kernel
theorem dX8_init_4 : decode cX8_init 4 = .ok (.aload_n 0, 1) := by decide +kernel
theorem dX8_init_5 : decode cX8_init 5 = .ok (.new 7, 3) := by decide +kernel
theorem dX8_init_8 : decode cX8_init 8 = .ok (.dup, 1) := by decide +kernel
theorem dX8_init_9 : decode cX8_init 9 = .ok (.bipush 6, 2) := by decide +kernel
theorem dX8_init_11 : decode cX8_init 11 = .ok (.bipush 40, 2) := by decide +kernel
theorem dX8_init_13 : decode cX8_init 13 = .ok (.invokespecial 11, 3) := by decide +kernel
theorem dX8_init_16 : decode cX8_init 16 = .ok (.putfield 14, 3) := by decide +kernel
theorem dX8_init_19 : decode cX8_init 19 = .ok (.aload_n 0, 1) := by decide +kernel
theorem dX8_init_20 : decode cX8_init 20 = .ok (.new 7, 3) := by decide +kernel
theorem dX8_init_23 : decode cX8_init 23 = .ok (.dup, 1) := by decide +kernel
theorem dX8_init_24 : decode cX8_init 24 = .ok (.iconst 4, 1) := by decide +kernel
theorem dX8_init_25 : decode cX8_init 25 = .ok (.bipush 60, 2) := by decide +kernel
theorem dX8_init_27 : decode cX8_init 27 = .ok (.invokespecial 11, 3) := by decide +kernel
theorem dX8_init_30 : decode cX8_init 30 = .ok (.putfield 18, 3) := by decide +kernel
theorem dX8_init_33 : decode cX8_init 33 = .ok (.aload_n 0, 1) := by decide +kernel
theorem dX8_init_34 : decode cX8_init 34 = .ok (.new 7, 3) := by decide +kernel
theorem dX8_init_37 : decode cX8_init 37 = .ok (.dup, 1) := by decide +kernel
theorem dX8_init_38 : decode cX8_init 38 = .ok (.iconst 3, 1) := by decide +kernel
theorem dX8_init_39 : decode cX8_init 39 = .ok (.bipush 40, 2) := by decide +kernel
theorem dX8_init_41 : decode cX8_init 41 = .ok (.invokespecial 11, 3) := by decide +kernel
theorem dX8_init_44 : decode cX8_init 44 = .ok (.putfield 21, 3) := by decide +kernel
theorem dX8_init_47 : decode cX8_init 47 = .ok (.aload_n 0, 1) := by decide +kernel
theorem dX8_init_48 : decode cX8_init 48 = .ok (.new 24, 3) := by decide +kernel
theorem dX8_init_51 : decode cX8_init 51 = .ok (.dup, 1) := by decide +kernel
theorem dX8_init_52 : decode cX8_init 52 = .ok (.invokespecial 26, 3) := by decide +kernel
theorem dX8_init_55 : decode cX8_init 55 = .ok (.putfield 27, 3) := by decide +kernel
theorem dX8_init_58 : decode cX8_init 58 = .ok (.aload_n 0, 1) := by decide +kernel
theorem dX8_init_59 : decode cX8_init 59 = .ok (.new 24, 3) := by decide +kernel
theorem dX8_init_62 : decode cX8_init 62 = .ok (.dup, 1) := by decide +kernel
theorem dX8_init_63 : decode cX8_init 63 = .ok (.invokespecial 26, 3) := by decide +kernel
theorem dX8_init_66 : decode cX8_init 66 = .ok (.putfield 31, 3) := by decide +kernel
theorem dX8_init_69 : decode cX8_init 69 = .ok (.aload_n 0, 1) := by decide +kernel
theorem dX8_init_70 : decode cX8_init 70 = .ok (.new 24, 3) := by decide +kernel
theorem dX8_init_73 : decode cX8_init 73 = .ok (.dup, 1) := by decide +kernel
theorem dX8_init_74 : decode cX8_init 74 = .ok (.invokespecial 26, 3) := by decide +kernel
theorem dX8_init_77 : decode cX8_init 77 = .ok (.putfield 34, 3) := by decide +kernel
theorem dX8_init_80 : decode cX8_init 80 = .ok (.aload_n 0, 1) := by decide +kernel
theorem dX8_init_81 : decode cX8_init 81 = .ok (.bipush 40, 2) := by decide +kernel
theorem dX8_init_83 : decode cX8_init 83 = .ok (.newarray .int, 2) := by decide +kernel
theorem dX8_init_85 : decode cX8_init 85 = .ok (.putfield 37, 3) := by decide +kernel
theorem dX8_init_88 : decode cX8_init 88 = .ok (.aload_n 0, 1) := by decide +kernel
theorem dX8_init_89 : decode cX8_init 89 = .ok (.iconst 0, 1) := by decide +kernel
theorem dX8_init_90 : decode cX8_init 90 = .ok (.putfield 41, 3) := by decide +kernel
theorem dX8_init_93 : decode cX8_init 93 = .ok (.aload_n 0, 1) := by decide +kernel
theorem dX8_init_94 : decode cX8_init 94 = .ok (.new 45, 3) := by decide +kernel
theorem dX8_init_97 : decode cX8_init 97 = .ok (.dup, 1) := by decide +kernel
theorem dX8_init_98 : decode cX8_init 98 = .ok (.invokespecial 47, 3) := by decide +kernel
theorem dX8_init_101 : decode cX8_init 101 = .ok (.putfield 48, 3) := by decide +kernel
theorem dX8_init_104 : decode cX8_init 104 = .ok (.aload_n 0, 1) := by decide +kernel
theorem dX8_init_105 : decode cX8_init 105 = .ok (.new 52, 3) := by decide +kernel
theorem dX8_init_108 : decode cX8_init 108 = .ok (.dup, 1) := by decide +kernel
theorem dX8_init_109 : decode cX8_init 109 = .ok (.invokespecial 54, 3) := by decide +kernel
theorem dX8_init_112 : decode cX8_init 112 = .ok (.putfield 55, 3) := by decide +kernel
theorem dX8_init_115 : decode cX8_init 115 = .ok (.aload_n 0, 1) := by decide +kernel
theorem dX8_init_116 : decode cX8_init 116 = .ok (.new 59, 3) := by decide +kernel
theorem dX8_init_119 : decode cX8_init 119 = .ok (.dup, 1) := by decide +kernel
theorem dX8_init_120 : decode cX8_init 120 = .ok (.invokespecial 61, 3) := by decide +kernel
theorem dX8_init_123 : decode cX8_init 123 = .ok (.putfield 62, 3) := by decide +kernel
theorem dX8_init_126 : decode cX8_init 126 = .ok (.aload_n 0, 1) := by decide +kernel
theorem dX8_init_127 : decode cX8_init 127 = .ok (.new 66, 3) := by decide +kernel
theorem dX8_init_130 : decode cX8_init 130 = .ok (.dup, 1) := by decide +kernel
theorem dX8_init_131 : decode cX8_init 131 = .ok (.invokespecial 68, 3) := by decide +kernel
theorem dX8_init_134 : decode cX8_init 134 = .ok (.putfield 69, 3) := by decide +kernel
theorem dX8_init_137 : decode cX8_init 137 = .ok (.aload_n 0, 1) := by decide +kernel
theorem dX8_init_138 : decode cX8_init 138 = .ok (.new 73, 3) := by decide +kernel
theorem dX8_init_141 : decode cX8_init 141 = .ok (.dup, 1) := by decide +kernel
theorem dX8_init_142 : decode cX8_init 142 = .ok (.invokespecial 75, 3) := by decide +kernel
theorem dX8_init_145 : decode cX8_init 145 = .ok (.putfield 76, 3) := by decide +kernel
theorem dX8_init_148 : decode cX8_init 148 = .ok (.aload_n 0, 1) := by decide +kernel
theorem dX8_init_149 : decode cX8_init 149 = .ok (.iconst 0, 1) := by decide +kernel
theorem dX8_init_150 : decode cX8_init 150 = .ok (.putfield 80, 3) := by decide +kernel
theorem dX8_init_153 : decode cX8_init 153 = .ok (.aload_n 0, 1) := by decide +kernel
theorem dX8_init_154 : decode cX8_init 154 = .ok (.lconst 0, 1) := by decide +kernel
theorem dX8_init_155 : decode cX8_init 155 = .ok (.putfield 83, 3) := by decide +kernel
theorem dX8_init_158 : decode cX8_init 158 = .ok (.aload_n 0, 1) := by decide +kernel
theorem dX8_init_159 : decode cX8_init 159 = .ok (.lconst 1, 1) := by decide +kernel
theorem dX8_init_160 : decode cX8_init 160 = .ok (.putfield 87, 3) := by decide +kernel
theorem dX8_init_163 : decode cX8_init 163 = .ok (.aload_n 0, 1) := by decide +kernel
theorem dX8_init_164 : decode cX8_init 164 = .ok (.iconst 0, 1) := by decide +kernel
theorem dX8_init_165 : decode cX8_init 165 = .ok (.putfield 90, 3) := by decide +kernel
theorem dX8_init_168 : decode cX8_init 168 = .ok (.aload_n 0, 1) := by decide +kernel
theorem dX8_init_169 : decode cX8_init 169 = .ok (.bipush 6, 2) := by decide +kernel
theorem dX8_init_171 : decode cX8_init 171 = .ok (.newarray .int, 2) := by decide +kernel
theorem dX8_init_173 : decode cX8_init 173 = .ok (.putfield 93, 3) := by decide +kernel
theorem dX8_init_176 : decode cX8_init 176 = .ok (.return_, 1) := by decide +kernel
theorem dX8_row_0 : decode cX8_row 0 = .ok (.aload_n 0, 1) := by decide +kernel
theorem dX8_row_1 : decode cX8_row 1 = .ok (.aload_n 0, 1) := by decide +kernel
theorem dX8_row_2 : decode cX8_row 2 = .ok (.getfield 14, 3) := by decide +kernel
theorem dX8_row_5 : decode cX8_row 5 = .ok (.iload_n 1, 1) := by decide +kernel
theorem dX8_row_6 : decode cX8_row 6 = .ok (.iload_n 2, 1) := by decide +kernel
theorem dX8_row_7 : decode cX8_row 7 = .ok (.iconst 0, 1) := by decide +kernel
theorem dX8_row_8 : decode cX8_row 8 = .ok (.invokevirtual 96, 3) := by decide +kernel
theorem dX8_row_11 : decode cX8_row 11 = .ok (.ireturn, 1) := by decide +kernel
theorem dX8_lay_0 : decode cX8_lay 0 = .ok (.aload_n 0, 1) := by decide +kernel
theorem dX8_lay_1 : decode cX8_lay 1 = .ok (.aload_n 0, 1) := by decide +kernel
theorem dX8_lay_2 : decode cX8_lay 2 = .ok (.getfield 14, 3) := by decide +kernel
theorem dX8_lay_5 : decode cX8_lay 5 = .ok (.iload_n 1, 1) := by decide +kernel
theorem dX8_lay_6 : decode cX8_lay 6 = .ok (.iload_n 2, 1) := by decide +kernel
theorem dX8_lay_7 : decode cX8_lay 7 = .ok (.invokevirtual 100, 3) := by decide +kernel
theorem dX8_lay_10 : decode cX8_lay 10 = .ok (.istore 4, 2) := by decide +kernel
theorem dX8_lay_12 : decode cX8_lay 12 = .ok (.iload 4, 2) := by decide +kernel
theorem dX8_lay_14 : decode cX8_lay 14 = .ok (.ifCond .eq 6, 3) := by decide +kernel
theorem dX8_lay_17 : decode cX8_lay 17 = .ok (.iload 4, 2) := by decide +kernel
theorem dX8_lay_19 : decode cX8_lay 19 = .ok (.ireturn, 1) := by decide +kernel
theorem dX8_lay_20 : decode cX8_lay 20 = .ok (.aload_n 0, 1) := by decide +kernel
theorem dX8_lay_21 : decode cX8_lay 21 = .ok (.getfield 14, 3) := by decide +kernel
theorem dX8_lay_24 : decode cX8_lay 24 = .ok (.iload_n 1, 1) := by decide +kernel
theorem dX8_lay_25 : decode cX8_lay 25 = .ok (.iload_n 2, 1) := by decide +kernel
theorem dX8_lay_26 : decode cX8_lay 26 = .ok (.invokevirtual 104, 3) := by decide +kernel
theorem dX8_lay_29 : decode cX8_lay 29 = .ok (.istore 5, 2) := by decide +kernel
theorem dX8_lay_31 : decode cX8_lay 31 = .ok (.aload_n 0, 1) := by decide +kernel
theorem dX8_lay_32 : decode cX8_lay 32 = .ok (.getfield 14, 3) := by decide +kernel
theorem dX8_lay_35 : decode cX8_lay 35 = .ok (.iload_n 1, 1) := by decide +kernel
theorem dX8_lay_36 : decode cX8_lay 36 = .ok (.iload_n 2, 1) := by decide +kernel
theorem dX8_lay_37 : decode cX8_lay 37 = .ok (.iload_n 3, 1) := by decide +kernel
theorem dX8_lay_38 : decode cX8_lay 38 = .ok (.invokevirtual 108, 3) := by decide +kernel
theorem dX8_lay_41 : decode cX8_lay 41 = .ok (.aload_n 0, 1) := by decide +kernel
theorem dX8_lay_42 : decode cX8_lay 42 = .ok (.iload 5, 2) := by decide +kernel
theorem dX8_lay_44 : decode cX8_lay 44 = .ok (.invokevirtual 112, 3) := by decide +kernel
theorem dX8_lay_47 : decode cX8_lay 47 = .ok (.ireturn, 1) := by decide +kernel
theorem dX8_at_0 : decode cX8_at 0 = .ok (.aload_n 0, 1) := by decide +kernel
theorem dX8_at_1 : decode cX8_at 1 = .ok (.aload_n 0, 1) := by decide +kernel
theorem dX8_at_2 : decode cX8_at 2 = .ok (.getfield 14, 3) := by decide +kernel
theorem dX8_at_5 : decode cX8_at 5 = .ok (.iload_n 1, 1) := by decide +kernel
theorem dX8_at_6 : decode cX8_at 6 = .ok (.iload_n 2, 1) := by decide +kernel
theorem dX8_at_7 : decode cX8_at 7 = .ok (.invokevirtual 100, 3) := by decide +kernel
theorem dX8_at_10 : decode cX8_at 10 = .ok (.istore_n 3, 1) := by decide +kernel
theorem dX8_at_11 : decode cX8_at 11 = .ok (.iload_n 3, 1) := by decide +kernel
theorem dX8_at_12 : decode cX8_at 12 = .ok (.ifCond .eq 7, 3) := by decide +kernel
theorem dX8_at_15 : decode cX8_at 15 = .ok (.iload_n 3, 1) := by decide +kernel
theorem dX8_at_16 : decode cX8_at 16 = .ok (.goto 16, 3) := by decide +kernel
theorem dX8_at_19 : decode cX8_at 19 = .ok (.aload_n 0, 1) := by decide +kernel
theorem dX8_at_20 : decode cX8_at 20 = .ok (.aload_n 0, 1) := by decide +kernel
theorem dX8_at_21 : decode cX8_at 21 = .ok (.getfield 14, 3) := by decide +kernel
theorem dX8_at_24 : decode cX8_at 24 = .ok (.iload_n 1, 1) := by decide +kernel
theorem dX8_at_25 : decode cX8_at 25 = .ok (.iload_n 2, 1) := by decide +kernel
theorem dX8_at_26 : decode cX8_at 26 = .ok (.invokevirtual 104, 3) := by decide +kernel
theorem dX8_at_29 : decode cX8_at 29 = .ok (.invokevirtual 112, 3) := by decide +kernel
theorem dX8_at_32 : decode cX8_at 32 = .ok (.ireturn, 1) := by decide +kernel
theorem dX8_tear_0 : decode cX8_tear 0 = .ok (.aload_n 0, 1) := by decide +kernel
theorem dX8_tear_1 : decode cX8_tear 1 = .ok (.aload_n 0, 1) := by decide +kernel
theorem dX8_tear_2 : decode cX8_tear 2 = .ok (.getfield 14, 3) := by decide +kernel
theorem dX8_tear_5 : decode cX8_tear 5 = .ok (.iload_n 1, 1) := by decide +kernel
theorem dX8_tear_6 : decode cX8_tear 6 = .ok (.invokevirtual 116, 3) := by decide +kernel
theorem dX8_tear_9 : decode cX8_tear 9 = .ok (.istore_n 2, 1) := by decide +kernel
theorem dX8_tear_10 : decode cX8_tear 10 = .ok (.iload_n 2, 1) := by decide +kernel
theorem dX8_tear_11 : decode cX8_tear 11 = .ok (.ifCond .eq 5, 3) := by decide +kernel
theorem dX8_tear_14 : decode cX8_tear 14 = .ok (.iload_n 2, 1) := by decide +kernel
theorem dX8_tear_15 : decode cX8_tear 15 = .ok (.ireturn, 1) := by decide +kernel
theorem dX8_tear_16 : decode cX8_tear 16 = .ok (.aload_n 0, 1) := by decide +kernel
theorem dX8_tear_17 : decode cX8_tear 17 = .ok (.getfield 14, 3) := by decide +kernel
theorem dX8_tear_20 : decode cX8_tear 20 = .ok (.iload_n 1, 1) := by decide +kernel
theorem dX8_tear_21 : decode cX8_tear 21 = .ok (.invokevirtual 120, 3) := by decide +kernel
theorem dX8_tear_24 : decode cX8_tear 24 = .ok (.iconst 1, 1) := by decide +kernel
theorem dX8_tear_25 : decode cX8_tear 25 = .ok (.ireturn, 1) := by decide +kernel
theorem dX8_copy_0 : decode cX8_copy 0 = .ok (.aload_n 0, 1) := by decide +kernel
theorem dX8_copy_1 : decode cX8_copy 1 = .ok (.getfield 14, 3) := by decide +kernel
theorem dX8_copy_4 : decode cX8_copy 4 = .ok (.iload_n 1, 1) := by decide +kernel
theorem dX8_copy_5 : decode cX8_copy 5 = .ok (.invokevirtual 124, 3) := by decide +kernel
theorem dX8_copy_8 : decode cX8_copy 8 = .ok (.ifCond .eq 14, 3) := by decide +kernel
theorem dX8_copy_11 : decode cX8_copy 11 = .ok (.aload_n 0, 1) := by decide +kernel
theorem dX8_copy_12 : decode cX8_copy 12 = .ok (.getfield 14, 3) := by decide +kernel
theorem dX8_copy_15 : decode cX8_copy 15 = .ok (.iload_n 3, 1) := by decide +kernel
theorem dX8_copy_16 : decode cX8_copy 16 = .ok (.invokevirtual 124, 3) := by decide +kernel
theorem dX8_copy_19 : decode cX8_copy 19 = .ok (.ifCond .ne 5, 3) := by decide +kernel
theorem dX8_copy_22 : decode cX8_copy 22 = .ok (.iconst (-1), 1) := by decide +kernel
theorem dX8_copy_23 : decode cX8_copy 23 = .ok (.ireturn, 1) := by decide +kernel
theorem dX8_copy_24 : decode cX8_copy 24 = .ok (.iload 5, 2) := by decide +kernel
theorem dX8_copy_26 : decode cX8_copy 26 = .ok (.ifCond .ge 9, 3) := by decide +kernel
theorem dX8_copy_29 : decode cX8_copy 29 = .ok (.aload_n 0, 1) := by decide +kernel
theorem dX8_copy_30 : decode cX8_copy 30 = .ok (.iconst 5, 1) := by decide +kernel
theorem dX8_copy_31 : decode cX8_copy 31 = .ok (.invokevirtual 128, 3) := by decide +kernel
theorem dX8_copy_34 : decode cX8_copy 34 = .ok (.ireturn, 1) := by decide +kernel
theorem dX8_copy_35 : decode cX8_copy 35 = .ok (.aload_n 0, 1) := by decide +kernel
theorem dX8_copy_36 : decode cX8_copy 36 = .ok (.getfield 14, 3) := by decide +kernel
theorem dX8_copy_39 : decode cX8_copy 39 = .ok (.iload_n 1, 1) := by decide +kernel
theorem dX8_copy_40 : decode cX8_copy 40 = .ok (.invokevirtual 131, 3) := by decide +kernel
theorem dX8_copy_43 : decode cX8_copy 43 = .ok (.ifCond .eq 14, 3) := by decide +kernel
theorem dX8_copy_46 : decode cX8_copy 46 = .ok (.aload_n 0, 1) := by decide +kernel
theorem dX8_copy_47 : decode cX8_copy 47 = .ok (.getfield 14, 3) := by decide +kernel
theorem dX8_copy_50 : decode cX8_copy 50 = .ok (.iload_n 3, 1) := by decide +kernel
theorem dX8_copy_51 : decode cX8_copy 51 = .ok (.invokevirtual 131, 3) := by decide +kernel
theorem dX8_copy_54 : decode cX8_copy 54 = .ok (.ifCond .ne 9, 3) := by decide +kernel
theorem dX8_copy_57 : decode cX8_copy 57 = .ok (.aload_n 0, 1) := by decide +kernel
theorem dX8_copy_58 : decode cX8_copy 58 = .ok (.iconst 1, 1) := by decide +kernel
theorem dX8_copy_59 : decode cX8_copy 59 = .ok (.invokevirtual 128, 3) := by decide +kernel
theorem dX8_copy_62 : decode cX8_copy 62 = .ok (.ireturn, 1) := by decide +kernel
theorem dX8_copy_63 : decode cX8_copy 63 = .ok (.aload_n 0, 1) := by decide +kernel
theorem dX8_copy_64 : decode cX8_copy 64 = .ok (.getfield 14, 3) := by decide +kernel
theorem dX8_copy_67 : decode cX8_copy 67 = .ok (.iload_n 1, 1) := by decide +kernel
theorem dX8_copy_68 : decode cX8_copy 68 = .ok (.iload_n 2, 1) := by decide +kernel
theorem dX8_copy_69 : decode cX8_copy 69 = .ok (.iload 5, 2) := by decide +kernel
theorem dX8_copy_71 : decode cX8_copy 71 = .ok (.invokevirtual 134, 3) := by decide +kernel
theorem dX8_copy_74 : decode cX8_copy 74 = .ok (.ifCond .eq 18, 3) := by decide +kernel
theorem dX8_copy_77 : decode cX8_copy 77 = .ok (.aload_n 0, 1) := by decide +kernel
theorem dX8_copy_78 : decode cX8_copy 78 = .ok (.getfield 14, 3) := by decide +kernel
theorem dX8_copy_81 : decode cX8_copy 81 = .ok (.iload_n 3, 1) := by decide +kernel
theorem dX8_copy_82 : decode cX8_copy 82 = .ok (.iload 4, 2) := by decide +kernel
theorem dX8_copy_84 : decode cX8_copy 84 = .ok (.iload 5, 2) := by decide +kernel
theorem dX8_copy_86 : decode cX8_copy 86 = .ok (.invokevirtual 134, 3) := by decide +kernel
theorem dX8_copy_89 : decode cX8_copy 89 = .ok (.ifCond .ne 9, 3) := by decide +kernel
theorem dX8_copy_92 : decode cX8_copy 92 = .ok (.aload_n 0, 1) := by decide +kernel
theorem dX8_copy_93 : decode cX8_copy 93 = .ok (.iconst 2, 1) := by decide +kernel
theorem dX8_copy_94 : decode cX8_copy 94 = .ok (.invokevirtual 128, 3) := by decide +kernel
theorem dX8_copy_97 : decode cX8_copy 97 = .ok (.ireturn, 1) := by decide +kernel
theorem dX8_copy_98 : decode cX8_copy 98 = .ok (.aload_n 0, 1) := by decide +kernel
theorem dX8_copy_99 : decode cX8_copy 99 = .ok (.getfield 14, 3) := by decide +kernel
theorem dX8_copy_102 : decode cX8_copy 102 = .ok (.iload_n 1, 1) := by decide +kernel
theorem dX8_copy_103 : decode cX8_copy 103 = .ok (.iload_n 2, 1) := by decide +kernel
theorem dX8_copy_104 : decode cX8_copy 104 = .ok (.iload_n 3, 1) := by decide +kernel
theorem dX8_copy_105 : decode cX8_copy 105 = .ok (.iload 4, 2) := by decide +kernel
theorem dX8_copy_107 : decode cX8_copy 107 = .ok (.iload 5, 2) := by decide +kernel
theorem dX8_copy_109 : decode cX8_copy 109 = .ok (.invokevirtual 138, 3) := by decide +kernel
theorem dX8_copy_112 : decode cX8_copy 112 = .ok (.iconst 1, 1) := by decide +kernel
theorem dX8_copy_113 : decode cX8_copy 113 = .ok (.ireturn, 1) := by decide +kernel
theorem dX8_mean_0 : decode cX8_mean 0 = .ok (.aload_n 0, 1) := by decide +kernel
theorem dX8_mean_1 : decode cX8_mean 1 = .ok (.aload_n 0, 1) := by decide +kernel
theorem dX8_mean_2 : decode cX8_mean 2 = .ok (.getfield 14, 3) := by decide +kernel
theorem dX8_mean_5 : decode cX8_mean 5 = .ok (.iload_n 1, 1) := by decide +kernel
theorem dX8_mean_6 : decode cX8_mean 6 = .ok (.invokevirtual 116, 3) := by decide +kernel
theorem dX8_mean_9 : decode cX8_mean 9 = .ok (.istore_n 2, 1) := by decide +kernel
theorem dX8_mean_10 : decode cX8_mean 10 = .ok (.iload_n 2, 1) := by decide +kernel
theorem dX8_mean_11 : decode cX8_mean 11 = .ok (.ifCond .eq 5, 3) := by decide +kernel
theorem dX8_mean_14 : decode cX8_mean 14 = .ok (.iload_n 2, 1) := by decide +kernel
theorem dX8_mean_15 : decode cX8_mean 15 = .ok (.ireturn, 1) := by decide +kernel
theorem dX8_mean_16 : decode cX8_mean 16 = .ok (.aload_n 0, 1) := by decide +kernel
theorem dX8_mean_17 : decode cX8_mean 17 = .ok (.getfield 14, 3) := by decide +kernel
theorem dX8_mean_20 : decode cX8_mean 20 = .ok (.iload_n 1, 1) := by decide +kernel
theorem dX8_mean_21 : decode cX8_mean 21 = .ok (.invokevirtual 142, 3) := by decide +kernel
theorem dX8_mean_24 : decode cX8_mean 24 = .ok (.istore_n 3, 1) := by decide +kernel
theorem dX8_mean_25 : decode cX8_mean 25 = .ok (.iload_n 3, 1) := by decide +kernel
theorem dX8_mean_26 : decode cX8_mean 26 = .ok (.ifCond .gt 9, 3) := by decide +kernel
theorem dX8_mean_29 : decode cX8_mean 29 = .ok (.aload_n 0, 1) := by decide +kernel
theorem dX8_mean_30 : decode cX8_mean 30 = .ok (.iconst 4, 1) := by decide +kernel
theorem dX8_mean_31 : decode cX8_mean 31 = .ok (.invokevirtual 128, 3) := by decide +kernel
theorem dX8_mean_34 : decode cX8_mean 34 = .ok (.ireturn, 1) := by decide +kernel
theorem dX8_mean_35 : decode cX8_mean 35 = .ok (.lconst 0, 1) := by decide +kernel
theorem dX8_mean_36 : decode cX8_mean 36 = .ok (.lstore 4, 2) := by decide +kernel
theorem dX8_mean_38 : decode cX8_mean 38 = .ok (.iconst 0, 1) := by decide +kernel
theorem dX8_mean_39 : decode cX8_mean 39 = .ok (.istore 6, 2) := by decide +kernel
theorem dX8_mean_41 : decode cX8_mean 41 = .ok (.iload 6, 2) := by decide +kernel
theorem dX8_mean_43 : decode cX8_mean 43 = .ok (.iload_n 3, 1) := by decide +kernel
theorem dX8_mean_44 : decode cX8_mean 44 = .ok (.if_icmp .ge 25, 3) := by decide +kernel
theorem dX8_mean_47 : decode cX8_mean 47 = .ok (.lload 4, 2) := by decide +kernel
theorem dX8_mean_49 : decode cX8_mean 49 = .ok (.aload_n 0, 1) := by decide +kernel
theorem dX8_mean_50 : decode cX8_mean 50 = .ok (.getfield 14, 3) := by decide +kernel
theorem dX8_mean_53 : decode cX8_mean 53 = .ok (.iload_n 1, 1) := by decide +kernel
theorem dX8_mean_54 : decode cX8_mean 54 = .ok (.iload 6, 2) := by decide +kernel
theorem dX8_mean_56 : decode cX8_mean 56 = .ok (.invokevirtual 104, 3) := by decide +kernel
theorem dX8_mean_59 : decode cX8_mean 59 = .ok (.i2l, 1) := by decide +kernel
theorem dX8_mean_60 : decode cX8_mean 60 = .ok (.ladd, 1) := by decide +kernel
theorem dX8_mean_61 : decode cX8_mean 61 = .ok (.lstore 4, 2) := by decide +kernel
theorem dX8_mean_63 : decode cX8_mean 63 = .ok (.iinc 6 1, 3) := by decide +kernel
theorem dX8_mean_66 : decode cX8_mean 66 = .ok (.goto (-25), 3) := by decide +kernel
theorem dX8_mean_69 : decode cX8_mean 69 = .ok (.aload_n 0, 1) := by decide +kernel
theorem dX8_mean_70 : decode cX8_mean 70 = .ok (.lload 4, 2) := by decide +kernel
theorem dX8_mean_72 : decode cX8_mean 72 = .ok (.iload_n 3, 1) := by decide +kernel
theorem dX8_mean_73 : decode cX8_mean 73 = .ok (.i2l, 1) := by decide +kernel
theorem dX8_mean_74 : decode cX8_mean 74 = .ok (.ldiv, 1) := by decide +kernel
theorem dX8_mean_75 : decode cX8_mean 75 = .ok (.l2i, 1) := by decide +kernel
theorem dX8_mean_76 : decode cX8_mean 76 = .ok (.invokevirtual 112, 3) := by decide +kernel
theorem dX8_mean_79 : decode cX8_mean 79 = .ok (.ireturn, 1) := by decide +kernel
theorem dX8_text_0 : decode cX8_text 0 = .ok (.aload_n 0, 1) := by decide +kernel
theorem dX8_text_1 : decode cX8_text 1 = .ok (.aload_n 0, 1) := by decide +kernel
theorem dX8_text_2 : decode cX8_text 2 = .ok (.getfield 18, 3) := by decide +kernel
theorem dX8_text_5 : decode cX8_text 5 = .ok (.iload_n 1, 1) := by decide +kernel
theorem dX8_text_6 : decode cX8_text 6 = .ok (.iload_n 2, 1) := by decide +kernel
theorem dX8_text_7 : decode cX8_text 7 = .ok (.bipush 32, 2) := by decide +kernel
theorem dX8_text_9 : decode cX8_text 9 = .ok (.invokevirtual 96, 3) := by decide +kernel
theorem dX8_text_12 : decode cX8_text 12 = .ok (.ireturn, 1) := by decide +kernel
theorem dX8_put_0 : decode cX8_put 0 = .ok (.aload_n 0, 1) := by decide +kernel
theorem dX8_put_1 : decode cX8_put 1 = .ok (.aload_n 0, 1) := by decide +kernel
theorem dX8_put_2 : decode cX8_put 2 = .ok (.getfield 18, 3) := by decide +kernel
theorem dX8_put_5 : decode cX8_put 5 = .ok (.iload_n 1, 1) := by decide +kernel
theorem dX8_put_6 : decode cX8_put 6 = .ok (.iload_n 2, 1) := by decide +kernel
theorem dX8_put_7 : decode cX8_put 7 = .ok (.invokevirtual 100, 3) := by decide +kernel
theorem dX8_put_10 : decode cX8_put 10 = .ok (.istore 4, 2) := by decide +kernel
theorem dX8_put_12 : decode cX8_put 12 = .ok (.iload 4, 2) := by decide +kernel
theorem dX8_put_14 : decode cX8_put 14 = .ok (.ifCond .eq 6, 3) := by decide +kernel
theorem dX8_put_17 : decode cX8_put 17 = .ok (.iload 4, 2) := by decide +kernel
theorem dX8_put_19 : decode cX8_put 19 = .ok (.ireturn, 1) := by decide +kernel
theorem dX8_put_20 : decode cX8_put 20 = .ok (.aload_n 0, 1) := by decide +kernel
theorem dX8_put_21 : decode cX8_put 21 = .ok (.getfield 18, 3) := by decide +kernel
theorem dX8_put_24 : decode cX8_put 24 = .ok (.iload_n 1, 1) := by decide +kernel
theorem dX8_put_25 : decode cX8_put 25 = .ok (.iload_n 2, 1) := by decide +kernel
theorem dX8_put_26 : decode cX8_put 26 = .ok (.invokevirtual 104, 3) := by decide +kernel
theorem dX8_put_29 : decode cX8_put 29 = .ok (.istore 5, 2) := by decide +kernel
theorem dX8_put_31 : decode cX8_put 31 = .ok (.aload_n 0, 1) := by decide +kernel
theorem dX8_put_32 : decode cX8_put 32 = .ok (.getfield 18, 3) := by decide +kernel
theorem dX8_put_35 : decode cX8_put 35 = .ok (.iload_n 1, 1) := by decide +kernel
theorem dX8_put_36 : decode cX8_put 36 = .ok (.iload_n 2, 1) := by decide +kernel
theorem dX8_put_37 : decode cX8_put 37 = .ok (.iload_n 3, 1) := by decide +kernel
theorem dX8_put_38 : decode cX8_put 38 = .ok (.i2b, 1) := by decide +kernel
theorem dX8_put_39 : decode cX8_put 39 = .ok (.invokevirtual 108, 3) := by decide +kernel
theorem dX8_put_42 : decode cX8_put 42 = .ok (.iload 5, 2) := by decide +kernel
theorem dX8_put_44 : decode cX8_put 44 = .ok (.sipush 1000, 3) := by decide +kernel
theorem dX8_put_47 : decode cX8_put 47 = .ok (.iadd, 1) := by decide +kernel
theorem dX8_put_48 : decode cX8_put 48 = .ok (.ireturn, 1) := by decide +kernel
theorem dX8_fault_0 : decode cX8_fault 0 = .ok (.aload_n 0, 1) := by decide +kernel
theorem dX8_fault_1 : decode cX8_fault 1 = .ok (.aload_n 0, 1) := by decide +kernel
theorem dX8_fault_2 : decode cX8_fault 2 = .ok (.getfield 18, 3) := by decide +kernel
theorem dX8_fault_5 : decode cX8_fault 5 = .ok (.iload_n 1, 1) := by decide +kernel
theorem dX8_fault_6 : decode cX8_fault 6 = .ok (.invokevirtual 116, 3) := by decide +kernel
theorem dX8_fault_9 : decode cX8_fault 9 = .ok (.istore_n 2, 1) := by decide +kernel
theorem dX8_fault_10 : decode cX8_fault 10 = .ok (.iload_n 2, 1) := by decide +kernel
theorem dX8_fault_11 : decode cX8_fault 11 = .ok (.ifCond .eq 7, 3) := by decide +kernel
theorem dX8_fault_14 : decode cX8_fault 14 = .ok (.iload_n 2, 1) := by decide +kernel
theorem dX8_fault_15 : decode cX8_fault 15 = .ok (.goto 15, 3) := by decide +kernel
theorem dX8_fault_18 : decode cX8_fault 18 = .ok (.aload_n 0, 1) := by decide +kernel
theorem dX8_fault_19 : decode cX8_fault 19 = .ok (.getfield 48, 3) := by decide +kernel
theorem dX8_fault_22 : decode cX8_fault 22 = .ok (.aload_n 0, 1) := by decide +kernel
theorem dX8_fault_23 : decode cX8_fault 23 = .ok (.getfield 18, 3) := by decide +kernel
theorem dX8_fault_26 : decode cX8_fault 26 = .ok (.iload_n 1, 1) := by decide +kernel
theorem dX8_fault_27 : decode cX8_fault 27 = .ok (.invokevirtual 145, 3) := by decide +kernel
theorem dX8_fault_30 : decode cX8_fault 30 = .ok (.ireturn, 1) := by decide +kernel
theorem dX8_town_0 : decode cX8_town 0 = .ok (.aload_n 0, 1) := by decide +kernel
theorem dX8_town_1 : decode cX8_town 1 = .ok (.aload_n 0, 1) := by decide +kernel
theorem dX8_town_2 : decode cX8_town 2 = .ok (.getfield 18, 3) := by decide +kernel
theorem dX8_town_5 : decode cX8_town 5 = .ok (.iload_n 1, 1) := by decide +kernel
theorem dX8_town_6 : decode cX8_town 6 = .ok (.invokevirtual 116, 3) := by decide +kernel
theorem dX8_town_9 : decode cX8_town 9 = .ok (.istore_n 2, 1) := by decide +kernel
theorem dX8_town_10 : decode cX8_town 10 = .ok (.iload_n 2, 1) := by decide +kernel
theorem dX8_town_11 : decode cX8_town 11 = .ok (.ifCond .eq 5, 3) := by decide +kernel
theorem dX8_town_14 : decode cX8_town 14 = .ok (.iload_n 2, 1) := by decide +kernel
theorem dX8_town_15 : decode cX8_town 15 = .ok (.ireturn, 1) := by decide +kernel
theorem dX8_town_16 : decode cX8_town 16 = .ok (.aload_n 0, 1) := by decide +kernel
theorem dX8_town_17 : decode cX8_town 17 = .ok (.getfield 48, 3) := by decide +kernel
theorem dX8_town_20 : decode cX8_town 20 = .ok (.aload_n 0, 1) := by decide +kernel
theorem dX8_town_21 : decode cX8_town 21 = .ok (.getfield 18, 3) := by decide +kernel
theorem dX8_town_24 : decode cX8_town 24 = .ok (.iload_n 1, 1) := by decide +kernel
theorem dX8_town_25 : decode cX8_town 25 = .ok (.invokevirtual 145, 3) := by decide +kernel
theorem dX8_town_28 : decode cX8_town 28 = .ok (.bipush (-9), 2) := by decide +kernel
theorem dX8_town_30 : decode cX8_town 30 = .ok (.if_icmp .eq 6, 3) := by decide +kernel
theorem dX8_town_33 : decode cX8_town 33 = .ok (.bipush (-4), 2) := by decide +kernel
theorem dX8_town_35 : decode cX8_town 35 = .ok (.ireturn, 1) := by decide +kernel
theorem dX8_town_36 : decode cX8_town 36 = .ok (.aload_n 0, 1) := by decide +kernel
theorem dX8_town_37 : decode cX8_town 37 = .ok (.getfield 27, 3) := by decide +kernel
theorem dX8_town_40 : decode cX8_town 40 = .ok (.aload_n 0, 1) := by decide +kernel
theorem dX8_town_41 : decode cX8_town 41 = .ok (.getfield 48, 3) := by decide +kernel
theorem dX8_town_44 : decode cX8_town 44 = .ok (.getfield 148, 3) := by decide +kernel
theorem dX8_town_47 : decode cX8_town 47 = .ok (.invokevirtual 151, 3) := by decide +kernel
theorem dX8_town_50 : decode cX8_town 50 = .ok (.aload_n 0, 1) := by decide +kernel
theorem dX8_town_51 : decode cX8_town 51 = .ok (.getfield 31, 3) := by decide +kernel
theorem dX8_town_54 : decode cX8_town 54 = .ok (.aload_n 0, 1) := by decide +kernel
theorem dX8_town_55 : decode cX8_town 55 = .ok (.getfield 27, 3) := by decide +kernel
theorem dX8_town_58 : decode cX8_town 58 = .ok (.invokevirtual 151, 3) := by decide +kernel
theorem dX8_town_61 : decode cX8_town 61 = .ok (.aload_n 0, 1) := by decide +kernel
theorem dX8_town_62 : decode cX8_town 62 = .ok (.iconst 0, 1) := by decide +kernel
theorem dX8_town_63 : decode cX8_town 63 = .ok (.putfield 41, 3) := by decide +kernel
theorem dX8_town_66 : decode cX8_town 66 = .ok (.aload_n 0, 1) := by decide +kernel
theorem dX8_town_67 : decode cX8_town 67 = .ok (.getfield 21, 3) := by decide +kernel
theorem dX8_town_70 : decode cX8_town 70 = .ok (.invokevirtual 155, 3) := by decide +kernel
theorem dX8_town_73 : decode cX8_town 73 = .ok (.aload_n 0, 1) := by decide +kernel
theorem dX8_town_74 : decode cX8_town 74 = .ok (.getfield 31, 3) := by decide +kernel
theorem dX8_town_77 : decode cX8_town 77 = .ok (.getfield 158, 3) := by decide +kernel
theorem dX8_town_80 : decode cX8_town 80 = .ok (.ireturn, 1) := by decide +kernel
theorem dX8_bed_0 : decode cX8_bed 0 = .ok (.aload_n 0, 1) := by decide +kernel
theorem dX8_bed_1 : decode cX8_bed 1 = .ok (.getfield 31, 3) := by decide +kernel
theorem dX8_bed_4 : decode cX8_bed 4 = .ok (.iload_n 1, 1) := by decide +kernel
theorem dX8_bed_5 : decode cX8_bed 5 = .ok (.invokevirtual 161, 3) := by decide +kernel
theorem dX8_bed_8 : decode cX8_bed 8 = .ok (.ifCond .eq 13, 3) := by decide +kernel
theorem dX8_bed_11 : decode cX8_bed 11 = .ok (.iload_n 2, 1) := by decide +kernel
theorem dX8_bed_12 : decode cX8_bed 12 = .ok (.ifCond .lt 9, 3) := by decide +kernel
theorem dX8_bed_15 : decode cX8_bed 15 = .ok (.iload_n 2, 1) := by decide +kernel
theorem dX8_bed_16 : decode cX8_bed 16 = .ok (.bipush 8, 2) := by decide +kernel
theorem dX8_bed_18 : decode cX8_bed 18 = .ok (.if_icmp .lt 5, 3) := by decide +kernel
theorem dX8_bed_21 : decode cX8_bed 21 = .ok (.iconst (-1), 1) := by decide +kernel
theorem dX8_bed_22 : decode cX8_bed 22 = .ok (.ireturn, 1) := by decide +kernel
theorem dX8_bed_23 : decode cX8_bed 23 = .ok (.aload_n 0, 1) := by decide +kernel
theorem dX8_bed_24 : decode cX8_bed 24 = .ok (.aload_n 0, 1) := by decide +kernel
theorem dX8_bed_25 : decode cX8_bed 25 = .ok (.getfield 31, 3) := by decide +kernel
theorem dX8_bed_28 : decode cX8_bed 28 = .ok (.iload_n 1, 1) := by decide +kernel
theorem dX8_bed_29 : decode cX8_bed 29 = .ok (.iload_n 2, 1) := by decide +kernel
theorem dX8_bed_30 : decode cX8_bed 30 = .ok (.invokevirtual 164, 3) := by decide +kernel
theorem dX8_bed_33 : decode cX8_bed 33 = .ok (.invokevirtual 112, 3) := by decide +kernel
theorem dX8_bed_36 : decode cX8_bed 36 = .ok (.ireturn, 1) := by decide +kernel
theorem dX8_mark_0 : decode cX8_mark 0 = .ok (.aload_n 0, 1) := by decide +kernel
theorem dX8_mark_1 : decode cX8_mark 1 = .ok (.getfield 31, 3) := by decide +kernel
theorem dX8_mark_4 : decode cX8_mark 4 = .ok (.iload_n 1, 1) := by decide +kernel
theorem dX8_mark_5 : decode cX8_mark 5 = .ok (.invokevirtual 161, 3) := by decide +kernel
theorem dX8_mark_8 : decode cX8_mark 8 = .ok (.ifCond .eq 13, 3) := by decide +kernel
theorem dX8_mark_11 : decode cX8_mark 11 = .ok (.iload_n 2, 1) := by decide +kernel
theorem dX8_mark_12 : decode cX8_mark 12 = .ok (.ifCond .le 9, 3) := by decide +kernel
theorem dX8_mark_15 : decode cX8_mark 15 = .ok (.iload_n 2, 1) := by decide +kernel
theorem dX8_mark_16 : decode cX8_mark 16 = .ok (.bipush 6, 2) := by decide +kernel
theorem dX8_mark_18 : decode cX8_mark 18 = .ok (.if_icmp .lt 5, 3) := by decide +kernel
theorem dX8_mark_21 : decode cX8_mark 21 = .ok (.iconst (-1), 1) := by decide +kernel
theorem dX8_mark_22 : decode cX8_mark 22 = .ok (.ireturn, 1) := by decide +kernel
theorem dX8_mark_23 : decode cX8_mark 23 = .ok (.aload_n 0, 1) := by decide +kernel
theorem dX8_mark_24 : decode cX8_mark 24 = .ok (.getfield 31, 3) := by decide +kernel
theorem dX8_mark_27 : decode cX8_mark 27 = .ok (.iload_n 1, 1) := by decide +kernel
theorem dX8_mark_28 : decode cX8_mark 28 = .ok (.invokevirtual 167, 3) := by decide +kernel
theorem dX8_mark_31 : decode cX8_mark 31 = .ok (.iload_n 2, 1) := by decide +kernel
theorem dX8_mark_32 : decode cX8_mark 32 = .ok (.invokestatic 170, 3) := by decide +kernel
theorem dX8_mark_35 : decode cX8_mark 35 = .ok (.ifCond .ne 9, 3) := by decide +kernel
theorem dX8_mark_38 : decode cX8_mark 38 = .ok (.aload_n 0, 1) := by decide +kernel
theorem dX8_mark_39 : decode cX8_mark 39 = .ok (.iconst 3, 1) := by decide +kernel
theorem dX8_mark_40 : decode cX8_mark 40 = .ok (.invokevirtual 128, 3) := by decide +kernel
theorem dX8_mark_43 : decode cX8_mark 43 = .ok (.ireturn, 1) := by decide +kernel
theorem dX8_mark_44 : decode cX8_mark 44 = .ok (.aload_n 0, 1) := by decide +kernel
theorem dX8_mark_45 : decode cX8_mark 45 = .ok (.getfield 31, 3) := by decide +kernel
theorem dX8_mark_48 : decode cX8_mark 48 = .ok (.iload_n 1, 1) := by decide +kernel
theorem dX8_mark_49 : decode cX8_mark 49 = .ok (.invokevirtual 174, 3) := by decide +kernel
theorem dX8_mark_52 : decode cX8_mark 52 = .ok (.istore_n 3, 1) := by decide +kernel
theorem dX8_mark_53 : decode cX8_mark 53 = .ok (.aload_n 0, 1) := by decide +kernel
theorem dX8_mark_54 : decode cX8_mark 54 = .ok (.getfield 31, 3) := by decide +kernel
theorem dX8_mark_57 : decode cX8_mark 57 = .ok (.iload_n 1, 1) := by decide +kernel
theorem dX8_mark_58 : decode cX8_mark 58 = .ok (.aload_n 0, 1) := by decide +kernel
theorem dX8_mark_59 : decode cX8_mark 59 = .ok (.getfield 31, 3) := by decide +kernel
theorem dX8_mark_62 : decode cX8_mark 62 = .ok (.getfield 177, 3) := by decide +kernel
theorem dX8_mark_65 : decode cX8_mark 65 = .ok (.invokevirtual 180, 3) := by decide +kernel
theorem dX8_mark_68 : decode cX8_mark 68 = .ok (.istore 4, 2) := by decide +kernel
theorem dX8_mark_70 : decode cX8_mark 70 = .ok (.iload_n 2, 1) := by decide +kernel
theorem dX8_mark_71 : decode cX8_mark 71 = .ok (.tableswitch 89 1 4 #[29, 50, 58, 68], 29) := by decide +kernel
theorem dX8_mark_100 : decode cX8_mark 100 = .ok (.aload_n 0, 1) := by decide +kernel
theorem dX8_mark_101 : decode cX8_mark 101 = .ok (.getfield 31, 3) := by decide +kernel
theorem dX8_mark_104 : decode cX8_mark 104 = .ok (.iload_n 1, 1) := by decide +kernel
theorem dX8_mark_105 : decode cX8_mark 105 = .ok (.iconst 0, 1) := by decide +kernel
theorem dX8_mark_106 : decode cX8_mark 106 = .ok (.iload_n 3, 1) := by decide +kernel
theorem dX8_mark_107 : decode cX8_mark 107 = .ok (.aload_n 0, 1) := by decide +kernel
theorem dX8_mark_108 : decode cX8_mark 108 = .ok (.getfield 31, 3) := by decide +kernel
theorem dX8_mark_111 : decode cX8_mark 111 = .ok (.getfield 177, 3) := by decide +kernel
theorem dX8_mark_114 : decode cX8_mark 114 = .ok (.invokevirtual 183, 3) := by decide +kernel
theorem dX8_mark_117 : decode cX8_mark 117 = .ok (.iload 4, 2) := by decide +kernel
theorem dX8_mark_119 : decode cX8_mark 119 = .ok (.isub, 1) := by decide +kernel
theorem dX8_mark_120 : decode cX8_mark 120 = .ok (.ireturn, 1) := by decide +kernel
theorem dX8_mark_121 : decode cX8_mark 121 = .ok (.iload_n 3, 1) := by decide +kernel
theorem dX8_mark_122 : decode cX8_mark 122 = .ok (.iconst 2, 1) := by decide +kernel
theorem dX8_mark_123 : decode cX8_mark 123 = .ok (.iload_n 3, 1) := by decide +kernel
theorem dX8_mark_124 : decode cX8_mark 124 = .ok (.invokestatic 187, 3) := by decide +kernel
theorem dX8_mark_127 : decode cX8_mark 127 = .ok (.isub, 1) := by decide +kernel
theorem dX8_mark_128 : decode cX8_mark 128 = .ok (.ireturn, 1) := by decide +kernel
theorem dX8_mark_129 : decode cX8_mark 129 = .ok (.aload_n 0, 1) := by decide +kernel
theorem dX8_mark_130 : decode cX8_mark 130 = .ok (.getfield 31, 3) := by decide +kernel
theorem dX8_mark_133 : decode cX8_mark 133 = .ok (.getfield 177, 3) := by decide +kernel
theorem dX8_mark_136 : decode cX8_mark 136 = .ok (.iconst 2, 1) := by decide +kernel
theorem dX8_mark_137 : decode cX8_mark 137 = .ok (.irem, 1) := by decide +kernel
theorem dX8_mark_138 : decode cX8_mark 138 = .ok (.ireturn, 1) := by decide +kernel
theorem dX8_mark_139 : decode cX8_mark 139 = .ok (.iload 4, 2) := by decide +kernel
theorem dX8_mark_141 : decode cX8_mark 141 = .ok (.aload_n 0, 1) := by decide +kernel
theorem dX8_mark_142 : decode cX8_mark 142 = .ok (.getfield 31, 3) := by decide +kernel
theorem dX8_mark_145 : decode cX8_mark 145 = .ok (.iload_n 1, 1) := by decide +kernel
theorem dX8_mark_146 : decode cX8_mark 146 = .ok (.iconst 2, 1) := by decide +kernel
theorem dX8_mark_147 : decode cX8_mark 147 = .ok (.iload_n 3, 1) := by decide +kernel
theorem dX8_mark_148 : decode cX8_mark 148 = .ok (.aload_n 0, 1) := by decide +kernel
theorem dX8_mark_149 : decode cX8_mark 149 = .ok (.getfield 31, 3) := by decide +kernel
theorem dX8_mark_152 : decode cX8_mark 152 = .ok (.getfield 177, 3) := by decide +kernel
theorem dX8_mark_155 : decode cX8_mark 155 = .ok (.invokevirtual 183, 3) := by decide +kernel
theorem dX8_mark_158 : decode cX8_mark 158 = .ok (.isub, 1) := by decide +kernel
theorem dX8_mark_159 : decode cX8_mark 159 = .ok (.ireturn, 1) := by decide +kernel
theorem dX8_mark_160 : decode cX8_mark 160 = .ok (.aload_n 0, 1) := by decide +kernel
theorem dX8_mark_161 : decode cX8_mark 161 = .ok (.getfield 31, 3) := by decide +kernel
theorem dX8_mark_164 : decode cX8_mark 164 = .ok (.iload_n 1, 1) := by decide +kernel
theorem dX8_mark_165 : decode cX8_mark 165 = .ok (.iconst 1, 1) := by decide +kernel
theorem dX8_mark_166 : decode cX8_mark 166 = .ok (.iload_n 3, 1) := by decide +kernel
theorem dX8_mark_167 : decode cX8_mark 167 = .ok (.aload_n 0, 1) := by decide +kernel
theorem dX8_mark_168 : decode cX8_mark 168 = .ok (.getfield 31, 3) := by decide +kernel
theorem dX8_mark_171 : decode cX8_mark 171 = .ok (.getfield 177, 3) := by decide +kernel
theorem dX8_mark_174 : decode cX8_mark 174 = .ok (.invokevirtual 183, 3) := by decide +kernel
theorem dX8_mark_177 : decode cX8_mark 177 = .ok (.iload 4, 2) := by decide +kernel
theorem dX8_mark_179 : decode cX8_mark 179 = .ok (.isub, 1) := by decide +kernel
theorem dX8_mark_180 : decode cX8_mark 180 = .ok (.ireturn, 1) := by decide +kernel
theorem dX8_cross_0 : decode cX8_cross 0 = .ok (.aload_n 0, 1) := by decide +kernel
theorem dX8_cross_1 : decode cX8_cross 1 = .ok (.getfield 31, 3) := by decide +kernel
theorem dX8_cross_4 : decode cX8_cross 4 = .ok (.iload_n 1, 1) := by decide +kernel
theorem dX8_cross_5 : decode cX8_cross 5 = .ok (.invokevirtual 161, 3) := by decide +kernel
theorem dX8_cross_8 : decode cX8_cross 8 = .ok (.ifCond .eq 13, 3) := by decide +kernel
theorem dX8_cross_11 : decode cX8_cross 11 = .ok (.iload_n 2, 1) := by decide +kernel
theorem dX8_cross_12 : decode cX8_cross 12 = .ok (.ifCond .lt 9, 3) := by decide +kernel
theorem dX8_cross_15 : decode cX8_cross 15 = .ok (.iload_n 2, 1) := by decide +kernel
theorem dX8_cross_16 : decode cX8_cross 16 = .ok (.bipush 99, 2) := by decide +kernel
theorem dX8_cross_18 : decode cX8_cross 18 = .ok (.if_icmp .le 5, 3) := by decide +kernel
theorem dX8_cross_21 : decode cX8_cross 21 = .ok (.iconst (-1), 1) := by decide +kernel
theorem dX8_cross_22 : decode cX8_cross 22 = .ok (.ireturn, 1) := by decide +kernel
theorem dX8_cross_23 : decode cX8_cross 23 = .ok (.aload_n 0, 1) := by decide +kernel
theorem dX8_cross_24 : decode cX8_cross 24 = .ok (.getfield 31, 3) := by decide +kernel
theorem dX8_cross_27 : decode cX8_cross 27 = .ok (.iload_n 1, 1) := by decide +kernel
theorem dX8_cross_28 : decode cX8_cross 28 = .ok (.iload_n 2, 1) := by decide +kernel
theorem dX8_cross_29 : decode cX8_cross 29 = .ok (.invokevirtual 180, 3) := by decide +kernel
theorem dX8_cross_32 : decode cX8_cross 32 = .ok (.ireturn, 1) := by decide +kernel
theorem dX8_night_0 : decode cX8_night 0 = .ok (.aload_n 0, 1) := by decide +kernel
theorem dX8_night_1 : decode cX8_night 1 = .ok (.getfield 31, 3) := by decide +kernel
theorem dX8_night_4 : decode cX8_night 4 = .ok (.getfield 158, 3) := by decide +kernel
theorem dX8_night_7 : decode cX8_night 7 = .ok (.ifCond .ne 6, 3) := by decide +kernel
theorem dX8_night_10 : decode cX8_night 10 = .ok (.bipush (-4), 2) := by decide +kernel
theorem dX8_night_12 : decode cX8_night 12 = .ok (.ireturn, 1) := by decide +kernel
theorem dX8_night_13 : decode cX8_night 13 = .ok (.aload_n 0, 1) := by decide +kernel
theorem dX8_night_14 : decode cX8_night 14 = .ok (.getfield 41, 3) := by decide +kernel
theorem dX8_night_17 : decode cX8_night 17 = .ok (.bipush 40, 2) := by decide +kernel
theorem dX8_night_19 : decode cX8_night 19 = .ok (.if_icmp .lt 8, 3) := by decide +kernel
theorem dX8_night_22 : decode cX8_night 22 = .ok (.bipush (-2), 2) := by decide +kernel
theorem dX8_night_24 : decode cX8_night 24 = .ok (.goto 10, 3) := by decide +kernel
theorem dX8_night_27 : decode cX8_night 27 = .ok (.aload_n 0, 1) := by decide +kernel
theorem dX8_night_28 : decode cX8_night 28 = .ok (.iconst 0, 1) := by decide +kernel
theorem dX8_night_29 : decode cX8_night 29 = .ok (.iconst 0, 1) := by decide +kernel
theorem dX8_night_30 : decode cX8_night 30 = .ok (.iconst 0, 1) := by decide +kernel
theorem dX8_night_31 : decode cX8_night 31 = .ok (.invokevirtual 190, 3) := by decide +kernel
theorem dX8_night_34 : decode cX8_night 34 = .ok (.ireturn, 1) := by decide +kernel
theorem dX8_inspect_0 : decode cX8_inspect 0 = .ok (.aload_n 0, 1) := by decide +kernel
theorem dX8_inspect_1 : decode cX8_inspect 1 = .ok (.getfield 31, 3) := by decide +kernel
theorem dX8_inspect_4 : decode cX8_inspect 4 = .ok (.iload_n 1, 1) := by decide +kernel
theorem dX8_inspect_5 : decode cX8_inspect 5 = .ok (.invokevirtual 161, 3) := by decide +kernel
theorem dX8_inspect_8 : decode cX8_inspect 8 = .ok (.ifCond .ne 5, 3) := by decide +kernel
theorem dX8_inspect_11 : decode cX8_inspect 11 = .ok (.iconst (-1), 1) := by decide +kernel
theorem dX8_inspect_12 : decode cX8_inspect 12 = .ok (.ireturn, 1) := by decide +kernel
theorem dX8_inspect_13 : decode cX8_inspect 13 = .ok (.aload_n 0, 1) := by decide +kernel
theorem dX8_inspect_14 : decode cX8_inspect 14 = .ok (.getfield 41, 3) := by decide +kernel
theorem dX8_inspect_17 : decode cX8_inspect 17 = .ok (.bipush 40, 2) := by decide +kernel
theorem dX8_inspect_19 : decode cX8_inspect 19 = .ok (.if_icmp .lt 8, 3) := by decide +kernel
theorem dX8_inspect_22 : decode cX8_inspect 22 = .ok (.bipush (-2), 2) := by decide +kernel
theorem dX8_inspect_24 : decode cX8_inspect 24 = .ok (.goto 10, 3) := by decide +kernel
theorem dX8_inspect_27 : decode cX8_inspect 27 = .ok (.aload_n 0, 1) := by decide +kernel
theorem dX8_inspect_28 : decode cX8_inspect 28 = .ok (.iconst 1, 1) := by decide +kernel
theorem dX8_inspect_29 : decode cX8_inspect 29 = .ok (.iload_n 1, 1) := by decide +kernel
theorem dX8_inspect_30 : decode cX8_inspect 30 = .ok (.iconst 0, 1) := by decide +kernel
theorem dX8_inspect_31 : decode cX8_inspect 31 = .ok (.invokevirtual 190, 3) := by decide +kernel
theorem dX8_inspect_34 : decode cX8_inspect 34 = .ok (.ireturn, 1) := by decide +kernel
theorem dX8_thin_0 : decode cX8_thin 0 = .ok (.aload_n 0, 1) := by decide +kernel
theorem dX8_thin_1 : decode cX8_thin 1 = .ok (.getfield 31, 3) := by decide +kernel
theorem dX8_thin_4 : decode cX8_thin 4 = .ok (.iload_n 1, 1) := by decide +kernel
theorem dX8_thin_5 : decode cX8_thin 5 = .ok (.invokevirtual 161, 3) := by decide +kernel
theorem dX8_thin_8 : decode cX8_thin 8 = .ok (.ifCond .ne 5, 3) := by decide +kernel
theorem dX8_thin_11 : decode cX8_thin 11 = .ok (.iconst (-1), 1) := by decide +kernel
theorem dX8_thin_12 : decode cX8_thin 12 = .ok (.ireturn, 1) := by decide +kernel
theorem dX8_thin_13 : decode cX8_thin 13 = .ok (.aload_n 0, 1) := by decide +kernel
theorem dX8_thin_14 : decode cX8_thin 14 = .ok (.getfield 31, 3) := by decide +kernel
theorem dX8_thin_17 : decode cX8_thin 17 = .ok (.iload_n 1, 1) := by decide +kernel
theorem dX8_thin_18 : decode cX8_thin 18 = .ok (.invokevirtual 174, 3) := by decide +kernel
theorem dX8_thin_21 : decode cX8_thin 21 = .ok (.ifCond .ne 6, 3) := by decide +kernel
theorem dX8_thin_24 : decode cX8_thin 24 = .ok (.bipush (-4), 2) := by decide +kernel
theorem dX8_thin_26 : decode cX8_thin 26 = .ok (.ireturn, 1) := by decide +kernel
theorem dX8_thin_27 : decode cX8_thin 27 = .ok (.aload_n 0, 1) := by decide +kernel
theorem dX8_thin_28 : decode cX8_thin 28 = .ok (.getfield 41, 3) := by decide +kernel
theorem dX8_thin_31 : decode cX8_thin 31 = .ok (.bipush 40, 2) := by decide +kernel
theorem dX8_thin_33 : decode cX8_thin 33 = .ok (.if_icmp .lt 8, 3) := by decide +kernel
theorem dX8_thin_36 : decode cX8_thin 36 = .ok (.bipush (-2), 2) := by decide +kernel
theorem dX8_thin_38 : decode cX8_thin 38 = .ok (.goto 10, 3) := by decide +kernel
theorem dX8_thin_41 : decode cX8_thin 41 = .ok (.aload_n 0, 1) := by decide +kernel
theorem dX8_thin_42 : decode cX8_thin 42 = .ok (.iconst 2, 1) := by decide +kernel
theorem dX8_thin_43 : decode cX8_thin 43 = .ok (.iload_n 1, 1) := by decide +kernel
theorem dX8_thin_44 : decode cX8_thin 44 = .ok (.iconst 0, 1) := by decide +kernel
theorem dX8_thin_45 : decode cX8_thin 45 = .ok (.invokevirtual 190, 3) := by decide +kernel
theorem dX8_thin_48 : decode cX8_thin 48 = .ok (.ireturn, 1) := by decide +kernel
theorem dX8_swap_0 : decode cX8_swap 0 = .ok (.aload_n 0, 1) := by decide +kernel
theorem dX8_swap_1 : decode cX8_swap 1 = .ok (.getfield 31, 3) := by decide +kernel
theorem dX8_swap_4 : decode cX8_swap 4 = .ok (.iload_n 1, 1) := by decide +kernel
theorem dX8_swap_5 : decode cX8_swap 5 = .ok (.invokevirtual 161, 3) := by decide +kernel
theorem dX8_swap_8 : decode cX8_swap 8 = .ok (.ifCond .eq 19, 3) := by decide +kernel
theorem dX8_swap_11 : decode cX8_swap 11 = .ok (.aload_n 0, 1) := by decide +kernel
theorem dX8_swap_12 : decode cX8_swap 12 = .ok (.getfield 31, 3) := by decide +kernel
theorem dX8_swap_15 : decode cX8_swap 15 = .ok (.iload_n 2, 1) := by decide +kernel
theorem dX8_swap_16 : decode cX8_swap 16 = .ok (.invokevirtual 161, 3) := by decide +kernel
theorem dX8_swap_19 : decode cX8_swap 19 = .ok (.ifCond .eq 8, 3) := by decide +kernel
theorem dX8_swap_22 : decode cX8_swap 22 = .ok (.iload_n 1, 1) := by decide +kernel
theorem dX8_swap_23 : decode cX8_swap 23 = .ok (.iload_n 2, 1) := by decide +kernel
theorem dX8_swap_24 : decode cX8_swap 24 = .ok (.if_icmp .ne 5, 3) := by decide +kernel
theorem dX8_swap_27 : decode cX8_swap 27 = .ok (.iconst (-1), 1) := by decide +kernel
theorem dX8_swap_28 : decode cX8_swap 28 = .ok (.ireturn, 1) := by decide +kernel
theorem dX8_swap_29 : decode cX8_swap 29 = .ok (.aload_n 0, 1) := by decide +kernel
theorem dX8_swap_30 : decode cX8_swap 30 = .ok (.getfield 41, 3) := by decide +kernel
theorem dX8_swap_33 : decode cX8_swap 33 = .ok (.bipush 40, 2) := by decide +kernel
theorem dX8_swap_35 : decode cX8_swap 35 = .ok (.if_icmp .lt 8, 3) := by decide +kernel
theorem dX8_swap_38 : decode cX8_swap 38 = .ok (.bipush (-2), 2) := by decide +kernel
theorem dX8_swap_40 : decode cX8_swap 40 = .ok (.goto 10, 3) := by decide +kernel
theorem dX8_swap_43 : decode cX8_swap 43 = .ok (.aload_n 0, 1) := by decide +kernel
theorem dX8_swap_44 : decode cX8_swap 44 = .ok (.iconst 3, 1) := by decide +kernel
theorem dX8_swap_45 : decode cX8_swap 45 = .ok (.iload_n 1, 1) := by decide +kernel
theorem dX8_swap_46 : decode cX8_swap 46 = .ok (.iload_n 2, 1) := by decide +kernel
theorem dX8_swap_47 : decode cX8_swap 47 = .ok (.invokevirtual 190, 3) := by decide +kernel
theorem dX8_swap_50 : decode cX8_swap 50 = .ok (.ireturn, 1) := by decide +kernel
theorem dX8_undo_0 : decode cX8_undo 0 = .ok (.iload_n 1, 1) := by decide +kernel
theorem dX8_undo_1 : decode cX8_undo 1 = .ok (.ifCond .lt 11, 3) := by decide +kernel
theorem dX8_undo_4 : decode cX8_undo 4 = .ok (.iload_n 1, 1) := by decide +kernel
theorem dX8_undo_5 : decode cX8_undo 5 = .ok (.aload_n 0, 1) := by decide +kernel
theorem dX8_undo_6 : decode cX8_undo 6 = .ok (.getfield 41, 3) := by decide +kernel
theorem dX8_undo_9 : decode cX8_undo 9 = .ok (.if_icmp .le 5, 3) := by decide +kernel
theorem dX8_undo_12 : decode cX8_undo 12 = .ok (.iconst (-1), 1) := by decide +kernel
theorem dX8_undo_13 : decode cX8_undo 13 = .ok (.ireturn, 1) := by decide +kernel
theorem dX8_undo_14 : decode cX8_undo 14 = .ok (.aload_n 0, 1) := by decide +kernel
theorem dX8_undo_15 : decode cX8_undo 15 = .ok (.getfield 41, 3) := by decide +kernel
theorem dX8_undo_18 : decode cX8_undo 18 = .ok (.iload_n 1, 1) := by decide +kernel
theorem dX8_undo_19 : decode cX8_undo 19 = .ok (.isub, 1) := by decide +kernel
theorem dX8_undo_20 : decode cX8_undo 20 = .ok (.istore_n 2, 1) := by decide +kernel
theorem dX8_undo_21 : decode cX8_undo 21 = .ok (.aload_n 0, 1) := by decide +kernel
theorem dX8_undo_22 : decode cX8_undo 22 = .ok (.iload_n 1, 1) := by decide +kernel
theorem dX8_undo_23 : decode cX8_undo 23 = .ok (.putfield 41, 3) := by decide +kernel
theorem dX8_undo_26 : decode cX8_undo 26 = .ok (.aload_n 0, 1) := by decide +kernel
theorem dX8_undo_27 : decode cX8_undo 27 = .ok (.invokevirtual 194, 3) := by decide +kernel
theorem dX8_undo_30 : decode cX8_undo 30 = .ok (.iload_n 2, 1) := by decide +kernel
theorem dX8_undo_31 : decode cX8_undo 31 = .ok (.ireturn, 1) := by decide +kernel
theorem dX8_keep_0 : decode cX8_keep 0 = .ok (.aload_n 0, 1) := by decide +kernel
theorem dX8_keep_1 : decode cX8_keep 1 = .ok (.getfield 21, 3) := by decide +kernel
theorem dX8_keep_4 : decode cX8_keep 4 = .ok (.iload_n 1, 1) := by decide +kernel
theorem dX8_keep_5 : decode cX8_keep 5 = .ok (.invokevirtual 124, 3) := by decide +kernel
theorem dX8_keep_8 : decode cX8_keep 8 = .ok (.ifCond .ne 5, 3) := by decide +kernel
theorem dX8_keep_11 : decode cX8_keep 11 = .ok (.iconst (-1), 1) := by decide +kernel
theorem dX8_keep_12 : decode cX8_keep 12 = .ok (.ireturn, 1) := by decide +kernel
theorem dX8_keep_13 : decode cX8_keep 13 = .ok (.aload_n 0, 1) := by decide +kernel
theorem dX8_keep_14 : decode cX8_keep 14 = .ok (.getfield 31, 3) := by decide +kernel
theorem dX8_keep_17 : decode cX8_keep 17 = .ok (.getfield 158, 3) := by decide +kernel
theorem dX8_keep_20 : decode cX8_keep 20 = .ok (.ifCond .ne 6, 3) := by decide +kernel
theorem dX8_keep_23 : decode cX8_keep 23 = .ok (.bipush (-4), 2) := by decide +kernel
theorem dX8_keep_25 : decode cX8_keep 25 = .ok (.ireturn, 1) := by decide +kernel
theorem dX8_keep_26 : decode cX8_keep 26 = .ok (.aload_n 0, 1) := by decide +kernel
theorem dX8_keep_27 : decode cX8_keep 27 = .ok (.getfield 21, 3) := by decide +kernel
theorem dX8_keep_30 : decode cX8_keep 30 = .ok (.iload_n 1, 1) := by decide +kernel
theorem dX8_keep_31 : decode cX8_keep 31 = .ok (.aload_n 0, 1) := by decide +kernel
theorem dX8_keep_32 : decode cX8_keep 32 = .ok (.getfield 41, 3) := by decide +kernel
theorem dX8_keep_35 : decode cX8_keep 35 = .ok (.aload_n 0, 1) := by decide +kernel
theorem dX8_keep_36 : decode cX8_keep 36 = .ok (.getfield 37, 3) := by decide +kernel
theorem dX8_keep_39 : decode cX8_keep 39 = .ok (.invokevirtual 197, 3) := by decide +kernel
theorem dX8_keep_42 : decode cX8_keep 42 = .ok (.aload_n 0, 1) := by decide +kernel
theorem dX8_keep_43 : decode cX8_keep 43 = .ok (.getfield 41, 3) := by decide +kernel
theorem dX8_keep_46 : decode cX8_keep 46 = .ok (.ireturn, 1) := by decide +kernel
theorem dX8_on_0 : decode cX8_on 0 = .ok (.aload_n 0, 1) := by decide +kernel
theorem dX8_on_1 : decode cX8_on 1 = .ok (.aload_n 0, 1) := by decide +kernel
theorem dX8_on_2 : decode cX8_on 2 = .ok (.getfield 21, 3) := by decide +kernel
theorem dX8_on_5 : decode cX8_on 5 = .ok (.iload_n 1, 1) := by decide +kernel
theorem dX8_on_6 : decode cX8_on 6 = .ok (.invokevirtual 116, 3) := by decide +kernel
theorem dX8_on_9 : decode cX8_on 9 = .ok (.istore_n 2, 1) := by decide +kernel
theorem dX8_on_10 : decode cX8_on 10 = .ok (.iload_n 2, 1) := by decide +kernel
theorem dX8_on_11 : decode cX8_on 11 = .ok (.ifCond .eq 5, 3) := by decide +kernel
theorem dX8_on_14 : decode cX8_on 14 = .ok (.iload_n 2, 1) := by decide +kernel
theorem dX8_on_15 : decode cX8_on 15 = .ok (.ireturn, 1) := by decide +kernel
theorem dX8_on_16 : decode cX8_on 16 = .ok (.aload_n 0, 1) := by decide +kernel
theorem dX8_on_17 : decode cX8_on 17 = .ok (.aload_n 0, 1) := by decide +kernel
theorem dX8_on_18 : decode cX8_on 18 = .ok (.getfield 21, 3) := by decide +kernel
theorem dX8_on_21 : decode cX8_on 21 = .ok (.iload_n 1, 1) := by decide +kernel
theorem dX8_on_22 : decode cX8_on 22 = .ok (.invokevirtual 142, 3) := by decide +kernel
theorem dX8_on_25 : decode cX8_on 25 = .ok (.putfield 41, 3) := by decide +kernel
theorem dX8_on_28 : decode cX8_on 28 = .ok (.iconst 0, 1) := by decide +kernel
theorem dX8_on_29 : decode cX8_on 29 = .ok (.istore_n 3, 1) := by decide +kernel
theorem dX8_on_30 : decode cX8_on 30 = .ok (.iload_n 3, 1) := by decide +kernel
theorem dX8_on_31 : decode cX8_on 31 = .ok (.aload_n 0, 1) := by decide +kernel
theorem dX8_on_32 : decode cX8_on 32 = .ok (.getfield 41, 3) := by decide +kernel
theorem dX8_on_35 : decode cX8_on 35 = .ok (.if_icmp .ge 26, 3) := by decide +kernel
theorem dX8_on_38 : decode cX8_on 38 = .ok (.aload_n 0, 1) := by decide +kernel
theorem dX8_on_39 : decode cX8_on 39 = .ok (.getfield 37, 3) := by decide +kernel
theorem dX8_on_42 : decode cX8_on 42 = .ok (.iload_n 3, 1) := by decide +kernel
theorem dX8_on_43 : decode cX8_on 43 = .ok (.aload_n 0, 1) := by decide +kernel
theorem dX8_on_44 : decode cX8_on 44 = .ok (.getfield 21, 3) := by decide +kernel
theorem dX8_on_47 : decode cX8_on 47 = .ok (.iload_n 1, 1) := by decide +kernel
theorem dX8_on_48 : decode cX8_on 48 = .ok (.iload_n 3, 1) := by decide +kernel
theorem dX8_on_49 : decode cX8_on 49 = .ok (.invokevirtual 104, 3) := by decide +kernel
theorem dX8_on_52 : decode cX8_on 52 = .ok (.invokestatic 201, 3) := by decide +kernel
theorem dX8_on_55 : decode cX8_on 55 = .ok (.iinc 3 1, 3) := by decide +kernel
theorem dX8_on_58 : decode cX8_on 58 = .ok (.goto (-28), 3) := by decide +kernel
theorem dX8_on_61 : decode cX8_on 61 = .ok (.aload_n 0, 1) := by decide +kernel
theorem dX8_on_62 : decode cX8_on 62 = .ok (.invokevirtual 194, 3) := by decide +kernel
theorem dX8_on_65 : decode cX8_on 65 = .ok (.aload_n 0, 1) := by decide +kernel
theorem dX8_on_66 : decode cX8_on 66 = .ok (.getfield 41, 3) := by decide +kernel
theorem dX8_on_69 : decode cX8_on 69 = .ok (.ireturn, 1) := by decide +kernel
theorem dX8_then_0 : decode cX8_then 0 = .ok (.aload_n 0, 1) := by decide +kernel
theorem dX8_then_1 : decode cX8_then 1 = .ok (.getfield 31, 3) := by decide +kernel
theorem dX8_then_4 : decode cX8_then 4 = .ok (.iload_n 1, 1) := by decide +kernel
theorem dX8_then_5 : decode cX8_then 5 = .ok (.invokevirtual 161, 3) := by decide +kernel
theorem dX8_then_8 : decode cX8_then 8 = .ok (.ifCond .eq 13, 3) := by decide +kernel
theorem dX8_then_11 : decode cX8_then 11 = .ok (.iload_n 2, 1) := by decide +kernel
theorem dX8_then_12 : decode cX8_then 12 = .ok (.ifCond .lt 9, 3) := by decide +kernel
theorem dX8_then_15 : decode cX8_then 15 = .ok (.iload_n 2, 1) := by decide +kernel
theorem dX8_then_16 : decode cX8_then 16 = .ok (.bipush 40, 2) := by decide +kernel
theorem dX8_then_18 : decode cX8_then 18 = .ok (.if_icmp .le 5, 3) := by decide +kernel
theorem dX8_then_21 : decode cX8_then 21 = .ok (.iconst (-1), 1) := by decide +kernel
theorem dX8_then_22 : decode cX8_then 22 = .ok (.ireturn, 1) := by decide +kernel
theorem dX8_then_23 : decode cX8_then 23 = .ok (.aload_n 0, 1) := by decide +kernel
theorem dX8_then_24 : decode cX8_then 24 = .ok (.getfield 34, 3) := by decide +kernel
theorem dX8_then_27 : decode cX8_then 27 = .ok (.aload_n 0, 1) := by decide +kernel
theorem dX8_then_28 : decode cX8_then 28 = .ok (.getfield 31, 3) := by decide +kernel
theorem dX8_then_31 : decode cX8_then 31 = .ok (.invokevirtual 151, 3) := by decide +kernel
theorem dX8_then_34 : decode cX8_then 34 = .ok (.aload_n 0, 1) := by decide +kernel
theorem dX8_then_35 : decode cX8_then 35 = .ok (.getfield 34, 3) := by decide +kernel
theorem dX8_then_38 : decode cX8_then 38 = .ok (.iload_n 1, 1) := by decide +kernel
theorem dX8_then_39 : decode cX8_then 39 = .ok (.iload_n 2, 1) := by decide +kernel
theorem dX8_then_40 : decode cX8_then 40 = .ok (.invokevirtual 205, 3) := by decide +kernel
theorem dX8_then_43 : decode cX8_then 43 = .ok (.aload_n 0, 1) := by decide +kernel
theorem dX8_then_44 : decode cX8_then 44 = .ok (.aload_n 0, 1) := by decide +kernel
theorem dX8_then_45 : decode cX8_then 45 = .ok (.getfield 34, 3) := by decide +kernel
theorem dX8_then_48 : decode cX8_then 48 = .ok (.iload_n 1, 1) := by decide +kernel
theorem dX8_then_49 : decode cX8_then 49 = .ok (.invokevirtual 174, 3) := by decide +kernel
theorem dX8_then_52 : decode cX8_then 52 = .ok (.putfield 80, 3) := by decide +kernel
theorem dX8_then_55 : decode cX8_then 55 = .ok (.aload_n 0, 1) := by decide +kernel
theorem dX8_then_56 : decode cX8_then 56 = .ok (.getfield 34, 3) := by decide +kernel
theorem dX8_then_59 : decode cX8_then 59 = .ok (.iload_n 1, 1) := by decide +kernel
theorem dX8_then_60 : decode cX8_then 60 = .ok (.invokevirtual 208, 3) := by decide +kernel
theorem dX8_then_63 : decode cX8_then 63 = .ok (.ireturn, 1) := by decide +kernel
theorem dX8_when_0 : decode cX8_when 0 = .ok (.aload_n 0, 1) := by decide +kernel
theorem dX8_when_1 : decode cX8_when 1 = .ok (.getfield 31, 3) := by decide +kernel
theorem dX8_when_4 : decode cX8_when 4 = .ok (.iload_n 1, 1) := by decide +kernel
theorem dX8_when_5 : decode cX8_when 5 = .ok (.invokevirtual 161, 3) := by decide +kernel
theorem dX8_when_8 : decode cX8_when 8 = .ok (.ifCond .ne 5, 3) := by decide +kernel
theorem dX8_when_11 : decode cX8_when 11 = .ok (.iconst (-1), 1) := by decide +kernel
theorem dX8_when_12 : decode cX8_when 12 = .ok (.ireturn, 1) := by decide +kernel
theorem dX8_when_13 : decode cX8_when 13 = .ok (.aload_n 0, 1) := by decide +kernel
theorem dX8_when_14 : decode cX8_when 14 = .ok (.getfield 34, 3) := by decide +kernel
theorem dX8_when_17 : decode cX8_when 17 = .ok (.aload_n 0, 1) := by decide +kernel
theorem dX8_when_18 : decode cX8_when 18 = .ok (.getfield 31, 3) := by decide +kernel
theorem dX8_when_21 : decode cX8_when 21 = .ok (.invokevirtual 151, 3) := by decide +kernel
theorem dX8_when_24 : decode cX8_when 24 = .ok (.iconst 0, 1) := by decide +kernel
theorem dX8_when_25 : decode cX8_when 25 = .ok (.istore_n 2, 1) := by decide +kernel
theorem dX8_when_26 : decode cX8_when 26 = .ok (.iload_n 2, 1) := by decide +kernel
theorem dX8_when_27 : decode cX8_when 27 = .ok (.bipush 40, 2) := by decide +kernel
theorem dX8_when_29 : decode cX8_when 29 = .ok (.if_icmp .gt 31, 3) := by decide +kernel
theorem dX8_when_32 : decode cX8_when 32 = .ok (.aload_n 0, 1) := by decide +kernel
theorem dX8_when_33 : decode cX8_when 33 = .ok (.getfield 34, 3) := by decide +kernel
theorem dX8_when_36 : decode cX8_when 36 = .ok (.iload_n 1, 1) := by decide +kernel
theorem dX8_when_37 : decode cX8_when 37 = .ok (.invokevirtual 211, 3) := by decide +kernel
theorem dX8_when_40 : decode cX8_when 40 = .ok (.ifCond .eq 5, 3) := by decide +kernel
theorem dX8_when_43 : decode cX8_when 43 = .ok (.iload_n 2, 1) := by decide +kernel
theorem dX8_when_44 : decode cX8_when 44 = .ok (.ireturn, 1) := by decide +kernel
theorem dX8_when_45 : decode cX8_when 45 = .ok (.aload_n 0, 1) := by decide +kernel
theorem dX8_when_46 : decode cX8_when 46 = .ok (.getfield 34, 3) := by decide +kernel
theorem dX8_when_49 : decode cX8_when 49 = .ok (.iload_n 1, 1) := by decide +kernel
theorem dX8_when_50 : decode cX8_when 50 = .ok (.iconst 1, 1) := by decide +kernel
theorem dX8_when_51 : decode cX8_when 51 = .ok (.invokevirtual 205, 3) := by decide +kernel
theorem dX8_when_54 : decode cX8_when 54 = .ok (.iinc 2 1, 3) := by decide +kernel
theorem dX8_when_57 : decode cX8_when 57 = .ok (.goto (-31), 3) := by decide +kernel
theorem dX8_when_60 : decode cX8_when 60 = .ok (.bipush (-9), 2) := by decide +kernel
theorem dX8_when_62 : decode cX8_when 62 = .ok (.ireturn, 1) := by decide +kernel
theorem dX8_least_0 : decode cX8_least 0 = .ok (.aload_n 0, 1) := by decide +kernel
theorem dX8_least_1 : decode cX8_least 1 = .ok (.getfield 31, 3) := by decide +kernel
theorem dX8_least_4 : decode cX8_least 4 = .ok (.iload_n 1, 1) := by decide +kernel
theorem dX8_least_5 : decode cX8_least 5 = .ok (.invokevirtual 161, 3) := by decide +kernel
theorem dX8_least_8 : decode cX8_least 8 = .ok (.ifCond .eq 13, 3) := by decide +kernel
theorem dX8_least_11 : decode cX8_least 11 = .ok (.iload_n 2, 1) := by decide +kernel
theorem dX8_least_12 : decode cX8_least 12 = .ok (.ifCond .lt 9, 3) := by decide +kernel
theorem dX8_least_15 : decode cX8_least 15 = .ok (.iload_n 2, 1) := by decide +kernel
theorem dX8_least_16 : decode cX8_least 16 = .ok (.bipush 40, 2) := by decide +kernel
theorem dX8_least_18 : decode cX8_least 18 = .ok (.if_icmp .le 5, 3) := by decide +kernel
theorem dX8_least_21 : decode cX8_least 21 = .ok (.iconst (-1), 1) := by decide +kernel
theorem dX8_least_22 : decode cX8_least 22 = .ok (.ireturn, 1) := by decide +kernel
theorem dX8_least_23 : decode cX8_least 23 = .ok (.aload_n 0, 1) := by decide +kernel
theorem dX8_least_24 : decode cX8_least 24 = .ok (.getfield 31, 3) := by decide +kernel
theorem dX8_least_27 : decode cX8_least 27 = .ok (.iload_n 1, 1) := by decide +kernel
theorem dX8_least_28 : decode cX8_least 28 = .ok (.invokevirtual 174, 3) := by decide +kernel
theorem dX8_least_31 : decode cX8_least 31 = .ok (.istore_n 3, 1) := by decide +kernel
theorem dX8_least_32 : decode cX8_least 32 = .ok (.iconst 0, 1) := by decide +kernel
theorem dX8_least_33 : decode cX8_least 33 = .ok (.istore 4, 2) := by decide +kernel
theorem dX8_least_35 : decode cX8_least 35 = .ok (.iload 4, 2) := by decide +kernel
theorem dX8_least_37 : decode cX8_least 37 = .ok (.iload_n 3, 1) := by decide +kernel
theorem dX8_least_38 : decode cX8_least 38 = .ok (.if_icmp .gt 53, 3) := by decide +kernel
theorem dX8_least_41 : decode cX8_least 41 = .ok (.aload_n 0, 1) := by decide +kernel
theorem dX8_least_42 : decode cX8_least 42 = .ok (.getfield 34, 3) := by decide +kernel
theorem dX8_least_45 : decode cX8_least 45 = .ok (.aload_n 0, 1) := by decide +kernel
theorem dX8_least_46 : decode cX8_least 46 = .ok (.getfield 31, 3) := by decide +kernel
theorem dX8_least_49 : decode cX8_least 49 = .ok (.invokevirtual 151, 3) := by decide +kernel
theorem dX8_least_52 : decode cX8_least 52 = .ok (.aload_n 0, 1) := by decide +kernel
theorem dX8_least_53 : decode cX8_least 53 = .ok (.getfield 34, 3) := by decide +kernel
theorem dX8_least_56 : decode cX8_least 56 = .ok (.iload_n 1, 1) := by decide +kernel
theorem dX8_least_57 : decode cX8_least 57 = .ok (.iload 4, 2) := by decide +kernel
theorem dX8_least_59 : decode cX8_least 59 = .ok (.invokevirtual 214, 3) := by decide +kernel
theorem dX8_least_62 : decode cX8_least 62 = .ok (.aload_n 0, 1) := by decide +kernel
theorem dX8_least_63 : decode cX8_least 63 = .ok (.getfield 34, 3) := by decide +kernel
theorem dX8_least_66 : decode cX8_least 66 = .ok (.iload_n 1, 1) := by decide +kernel
theorem dX8_least_67 : decode cX8_least 67 = .ok (.iload_n 2, 1) := by decide +kernel
theorem dX8_least_68 : decode cX8_least 68 = .ok (.invokevirtual 205, 3) := by decide +kernel
theorem dX8_least_71 : decode cX8_least 71 = .ok (.aload_n 0, 1) := by decide +kernel
theorem dX8_least_72 : decode cX8_least 72 = .ok (.getfield 34, 3) := by decide +kernel
theorem dX8_least_75 : decode cX8_least 75 = .ok (.iload_n 1, 1) := by decide +kernel
theorem dX8_least_76 : decode cX8_least 76 = .ok (.invokevirtual 211, 3) := by decide +kernel
theorem dX8_least_79 : decode cX8_least 79 = .ok (.ifCond .eq 6, 3) := by decide +kernel
theorem dX8_least_82 : decode cX8_least 82 = .ok (.iload 4, 2) := by decide +kernel
theorem dX8_least_84 : decode cX8_least 84 = .ok (.ireturn, 1) := by decide +kernel
theorem dX8_least_85 : decode cX8_least 85 = .ok (.iinc 4 1, 3) := by decide +kernel
theorem dX8_least_88 : decode cX8_least 88 = .ok (.goto (-53), 3) := by decide +kernel
theorem dX8_least_91 : decode cX8_least 91 = .ok (.bipush (-9), 2) := by decide +kernel
theorem dX8_least_93 : decode cX8_least 93 = .ok (.ireturn, 1) := by decide +kernel
theorem dX8_round_0 : decode cX8_round 0 = .ok (.iload_n 1, 1) := by decide +kernel
theorem dX8_round_1 : decode cX8_round 1 = .ok (.ifCond .lt 19, 3) := by decide +kernel
theorem dX8_round_4 : decode cX8_round 4 = .ok (.iload_n 1, 1) := by decide +kernel
theorem dX8_round_5 : decode cX8_round 5 = .ok (.iconst 4, 1) := by decide +kernel
theorem dX8_round_6 : decode cX8_round 6 = .ok (.if_icmp .gt 14, 3) := by decide +kernel
theorem dX8_round_9 : decode cX8_round 9 = .ok (.aload_n 0, 1) := by decide +kernel
theorem dX8_round_10 : decode cX8_round 10 = .ok (.getfield 14, 3) := by decide +kernel
theorem dX8_round_13 : decode cX8_round 13 = .ok (.iload_n 2, 1) := by decide +kernel
theorem dX8_round_14 : decode cX8_round 14 = .ok (.invokevirtual 124, 3) := by decide +kernel
theorem dX8_round_17 : decode cX8_round 17 = .ok (.ifCond .ne 5, 3) := by decide +kernel
theorem dX8_round_20 : decode cX8_round 20 = .ok (.iconst (-1), 1) := by decide +kernel
theorem dX8_round_21 : decode cX8_round 21 = .ok (.ireturn, 1) := by decide +kernel
theorem dX8_round_22 : decode cX8_round 22 = .ok (.aload_n 0, 1) := by decide +kernel
theorem dX8_round_23 : decode cX8_round 23 = .ok (.getfield 31, 3) := by decide +kernel
theorem dX8_round_26 : decode cX8_round 26 = .ok (.getfield 158, 3) := by decide +kernel
theorem dX8_round_29 : decode cX8_round 29 = .ok (.ifCond .ne 6, 3) := by decide +kernel
theorem dX8_round_32 : decode cX8_round 32 = .ok (.bipush (-4), 2) := by decide +kernel
theorem dX8_round_34 : decode cX8_round 34 = .ok (.ireturn, 1) := by decide +kernel
theorem dX8_round_35 : decode cX8_round 35 = .ok (.aload_n 0, 1) := by decide +kernel
theorem dX8_round_36 : decode cX8_round 36 = .ok (.getfield 55, 3) := by decide +kernel
theorem dX8_round_39 : decode cX8_round 39 = .ok (.aload_n 0, 1) := by decide +kernel
theorem dX8_round_40 : decode cX8_round 40 = .ok (.getfield 31, 3) := by decide +kernel
theorem dX8_round_43 : decode cX8_round 43 = .ok (.iload_n 1, 1) := by decide +kernel
theorem dX8_round_44 : decode cX8_round 44 = .ok (.invokevirtual 217, 3) := by decide +kernel
theorem dX8_round_47 : decode cX8_round 47 = .ok (.istore_n 3, 1) := by decide +kernel
theorem dX8_round_48 : decode cX8_round 48 = .ok (.aload_n 0, 1) := by decide +kernel
theorem dX8_round_49 : decode cX8_round 49 = .ok (.getfield 14, 3) := by decide +kernel
theorem dX8_round_52 : decode cX8_round 52 = .ok (.iload_n 2, 1) := by decide +kernel
theorem dX8_round_53 : decode cX8_round 53 = .ok (.iload_n 1, 1) := by decide +kernel
theorem dX8_round_54 : decode cX8_round 54 = .ok (.aload_n 0, 1) := by decide +kernel
theorem dX8_round_55 : decode cX8_round 55 = .ok (.getfield 55, 3) := by decide +kernel
theorem dX8_round_58 : decode cX8_round 58 = .ok (.getfield 221, 3) := by decide +kernel
theorem dX8_round_61 : decode cX8_round 61 = .ok (.invokevirtual 197, 3) := by decide +kernel
theorem dX8_round_64 : decode cX8_round 64 = .ok (.iload_n 3, 1) := by decide +kernel
theorem dX8_round_65 : decode cX8_round 65 = .ok (.ireturn, 1) := by decide +kernel
theorem dX8_brings_0 : decode cX8_brings 0 = .ok (.aload_n 0, 1) := by decide +kernel
theorem dX8_brings_1 : decode cX8_brings 1 = .ok (.getfield 14, 3) := by decide +kernel
theorem dX8_brings_4 : decode cX8_brings 4 = .ok (.iload_n 1, 1) := by decide +kernel
theorem dX8_brings_5 : decode cX8_brings 5 = .ok (.invokevirtual 124, 3) := by decide +kernel
theorem dX8_brings_8 : decode cX8_brings 8 = .ok (.ifCond .ne 5, 3) := by decide +kernel
theorem dX8_brings_11 : decode cX8_brings 11 = .ok (.iconst (-1), 1) := by decide +kernel
theorem dX8_brings_12 : decode cX8_brings 12 = .ok (.ireturn, 1) := by decide +kernel
theorem dX8_brings_13 : decode cX8_brings 13 = .ok (.aload_n 0, 1) := by decide +kernel
theorem dX8_brings_14 : decode cX8_brings 14 = .ok (.getfield 31, 3) := by decide +kernel
theorem dX8_brings_17 : decode cX8_brings 17 = .ok (.getfield 158, 3) := by decide +kernel
theorem dX8_brings_20 : decode cX8_brings 20 = .ok (.ifCond .ne 6, 3) := by decide +kernel
theorem dX8_brings_23 : decode cX8_brings 23 = .ok (.bipush (-4), 2) := by decide +kernel
theorem dX8_brings_25 : decode cX8_brings 25 = .ok (.ireturn, 1) := by decide +kernel
theorem dX8_brings_26 : decode cX8_brings 26 = .ok (.aload_n 0, 1) := by decide +kernel
theorem dX8_brings_27 : decode cX8_brings 27 = .ok (.getfield 14, 3) := by decide +kernel
theorem dX8_brings_30 : decode cX8_brings 30 = .ok (.iload_n 1, 1) := by decide +kernel
theorem dX8_brings_31 : decode cX8_brings 31 = .ok (.invokevirtual 131, 3) := by decide +kernel
theorem dX8_brings_34 : decode cX8_brings 34 = .ok (.ifCond .ne 9, 3) := by decide +kernel
theorem dX8_brings_37 : decode cX8_brings 37 = .ok (.aload_n 0, 1) := by decide +kernel
theorem dX8_brings_38 : decode cX8_brings 38 = .ok (.iconst 1, 1) := by decide +kernel
theorem dX8_brings_39 : decode cX8_brings 39 = .ok (.invokevirtual 128, 3) := by decide +kernel
theorem dX8_brings_42 : decode cX8_brings 42 = .ok (.ireturn, 1) := by decide +kernel
theorem dX8_brings_43 : decode cX8_brings 43 = .ok (.aload_n 0, 1) := by decide +kernel
theorem dX8_brings_44 : decode cX8_brings 44 = .ok (.getfield 14, 3) := by decide +kernel
theorem dX8_brings_47 : decode cX8_brings 47 = .ok (.iload_n 1, 1) := by decide +kernel
theorem dX8_brings_48 : decode cX8_brings 48 = .ok (.invokevirtual 142, 3) := by decide +kernel
theorem dX8_brings_51 : decode cX8_brings 51 = .ok (.bipush 10, 2) := by decide +kernel
theorem dX8_brings_53 : decode cX8_brings 53 = .ok (.if_icmp .le 9, 3) := by decide +kernel
theorem dX8_brings_56 : decode cX8_brings 56 = .ok (.aload_n 0, 1) := by decide +kernel
theorem dX8_brings_57 : decode cX8_brings 57 = .ok (.iconst 5, 1) := by decide +kernel
theorem dX8_brings_58 : decode cX8_brings 58 = .ok (.invokevirtual 128, 3) := by decide +kernel
theorem dX8_brings_61 : decode cX8_brings 61 = .ok (.ireturn, 1) := by decide +kernel
theorem dX8_brings_62 : decode cX8_brings 62 = .ok (.aload_n 0, 1) := by decide +kernel
theorem dX8_brings_63 : decode cX8_brings 63 = .ok (.iload_n 1, 1) := by decide +kernel
theorem dX8_brings_64 : decode cX8_brings 64 = .ok (.invokevirtual 224, 3) := by decide +kernel
theorem dX8_brings_67 : decode cX8_brings 67 = .ok (.ifCond .ne 9, 3) := by decide +kernel
theorem dX8_brings_70 : decode cX8_brings 70 = .ok (.aload_n 0, 1) := by decide +kernel
theorem dX8_brings_71 : decode cX8_brings 71 = .ok (.iconst 3, 1) := by decide +kernel
theorem dX8_brings_72 : decode cX8_brings 72 = .ok (.invokevirtual 128, 3) := by decide +kernel
theorem dX8_brings_75 : decode cX8_brings 75 = .ok (.ireturn, 1) := by decide +kernel
theorem dX8_brings_76 : decode cX8_brings 76 = .ok (.aload_n 0, 1) := by decide +kernel
theorem dX8_brings_77 : decode cX8_brings 77 = .ok (.getfield 34, 3) := by decide +kernel
theorem dX8_brings_80 : decode cX8_brings 80 = .ok (.aload_n 0, 1) := by decide +kernel
theorem dX8_brings_81 : decode cX8_brings 81 = .ok (.getfield 31, 3) := by decide +kernel
theorem dX8_brings_84 : decode cX8_brings 84 = .ok (.invokevirtual 151, 3) := by decide +kernel
theorem dX8_brings_87 : decode cX8_brings 87 = .ok (.iconst 0, 1) := by decide +kernel
theorem dX8_brings_88 : decode cX8_brings 88 = .ok (.istore_n 2, 1) := by decide +kernel
theorem dX8_brings_89 : decode cX8_brings 89 = .ok (.iconst 0, 1) := by decide +kernel
theorem dX8_brings_90 : decode cX8_brings 90 = .ok (.istore_n 3, 1) := by decide +kernel
theorem dX8_brings_91 : decode cX8_brings 91 = .ok (.iload_n 3, 1) := by decide +kernel
theorem dX8_brings_92 : decode cX8_brings 92 = .ok (.aload_n 0, 1) := by decide +kernel
theorem dX8_brings_93 : decode cX8_brings 93 = .ok (.getfield 14, 3) := by decide +kernel
theorem dX8_brings_96 : decode cX8_brings 96 = .ok (.iload_n 1, 1) := by decide +kernel
theorem dX8_brings_97 : decode cX8_brings 97 = .ok (.invokevirtual 142, 3) := by decide +kernel
theorem dX8_brings_100 : decode cX8_brings 100 = .ok (.if_icmp .ge 36, 3) := by decide +kernel
theorem dX8_brings_103 : decode cX8_brings 103 = .ok (.aload_n 0, 1) := by decide +kernel
theorem dX8_brings_104 : decode cX8_brings 104 = .ok (.getfield 34, 3) := by decide +kernel
theorem dX8_brings_107 : decode cX8_brings 107 = .ok (.invokevirtual 227, 3) := by decide +kernel
theorem dX8_brings_110 : decode cX8_brings 110 = .ok (.pop, 1) := by decide +kernel
theorem dX8_brings_111 : decode cX8_brings 111 = .ok (.iload_n 2, 1) := by decide +kernel
theorem dX8_brings_112 : decode cX8_brings 112 = .ok (.aload_n 0, 1) := by decide +kernel
theorem dX8_brings_113 : decode cX8_brings 113 = .ok (.getfield 34, 3) := by decide +kernel
theorem dX8_brings_116 : decode cX8_brings 116 = .ok (.aload_n 0, 1) := by decide +kernel
theorem dX8_brings_117 : decode cX8_brings 117 = .ok (.getfield 14, 3) := by decide +kernel
theorem dX8_brings_120 : decode cX8_brings 120 = .ok (.iload_n 1, 1) := by decide +kernel
theorem dX8_brings_121 : decode cX8_brings 121 = .ok (.iload_n 3, 1) := by decide +kernel
theorem dX8_brings_122 : decode cX8_brings 122 = .ok (.invokevirtual 104, 3) := by decide +kernel
theorem dX8_brings_125 : decode cX8_brings 125 = .ok (.invokevirtual 231, 3) := by decide +kernel
theorem dX8_brings_128 : decode cX8_brings 128 = .ok (.iadd, 1) := by decide +kernel
theorem dX8_brings_129 : decode cX8_brings 129 = .ok (.istore_n 2, 1) := by decide +kernel
theorem dX8_brings_130 : decode cX8_brings 130 = .ok (.iinc 3 1, 3) := by decide +kernel
theorem dX8_brings_133 : decode cX8_brings 133 = .ok (.goto (-42), 3) := by decide +kernel
theorem dX8_brings_136 : decode cX8_brings 136 = .ok (.aload_n 0, 1) := by decide +kernel
theorem dX8_brings_137 : decode cX8_brings 137 = .ok (.aload_n 0, 1) := by decide +kernel
theorem dX8_brings_138 : decode cX8_brings 138 = .ok (.getfield 34, 3) := by decide +kernel
theorem dX8_brings_141 : decode cX8_brings 141 = .ok (.invokevirtual 234, 3) := by decide +kernel
theorem dX8_brings_144 : decode cX8_brings 144 = .ok (.aload_n 0, 1) := by decide +kernel
theorem dX8_brings_145 : decode cX8_brings 145 = .ok (.getfield 31, 3) := by decide +kernel
theorem dX8_brings_148 : decode cX8_brings 148 = .ok (.invokevirtual 234, 3) := by decide +kernel
theorem dX8_brings_151 : decode cX8_brings 151 = .ok (.isub, 1) := by decide +kernel
theorem dX8_brings_152 : decode cX8_brings 152 = .ok (.putfield 80, 3) := by decide +kernel
theorem dX8_brings_155 : decode cX8_brings 155 = .ok (.iload_n 2, 1) := by decide +kernel
theorem dX8_brings_156 : decode cX8_brings 156 = .ok (.ireturn, 1) := by decide +kernel
theorem dX8_marry_0 : decode cX8_marry 0 = .ok (.aload_n 0, 1) := by decide +kernel
theorem dX8_marry_1 : decode cX8_marry 1 = .ok (.getfield 14, 3) := by decide +kernel
theorem dX8_marry_4 : decode cX8_marry 4 = .ok (.iload_n 1, 1) := by decide +kernel
theorem dX8_marry_5 : decode cX8_marry 5 = .ok (.invokevirtual 124, 3) := by decide +kernel
theorem dX8_marry_8 : decode cX8_marry 8 = .ok (.ifCond .ne 5, 3) := by decide +kernel
theorem dX8_marry_11 : decode cX8_marry 11 = .ok (.iconst (-1), 1) := by decide +kernel
theorem dX8_marry_12 : decode cX8_marry 12 = .ok (.ireturn, 1) := by decide +kernel
theorem dX8_marry_13 : decode cX8_marry 13 = .ok (.aload_n 0, 1) := by decide +kernel
theorem dX8_marry_14 : decode cX8_marry 14 = .ok (.getfield 31, 3) := by decide +kernel
theorem dX8_marry_17 : decode cX8_marry 17 = .ok (.getfield 158, 3) := by decide +kernel
theorem dX8_marry_20 : decode cX8_marry 20 = .ok (.ifCond .ne 6, 3) := by decide +kernel
theorem dX8_marry_23 : decode cX8_marry 23 = .ok (.bipush (-4), 2) := by decide +kernel
theorem dX8_marry_25 : decode cX8_marry 25 = .ok (.ireturn, 1) := by decide +kernel
theorem dX8_marry_26 : decode cX8_marry 26 = .ok (.aload_n 0, 1) := by decide +kernel
theorem dX8_marry_27 : decode cX8_marry 27 = .ok (.getfield 62, 3) := by decide +kernel
theorem dX8_marry_30 : decode cX8_marry 30 = .ok (.aload_n 0, 1) := by decide +kernel
theorem dX8_marry_31 : decode cX8_marry 31 = .ok (.getfield 31, 3) := by decide +kernel
theorem dX8_marry_34 : decode cX8_marry 34 = .ok (.invokevirtual 237, 3) := by decide +kernel
theorem dX8_marry_37 : decode cX8_marry 37 = .ok (.istore_n 2, 1) := by decide +kernel
theorem dX8_marry_38 : decode cX8_marry 38 = .ok (.aload_n 0, 1) := by decide +kernel
theorem dX8_marry_39 : decode cX8_marry 39 = .ok (.getfield 14, 3) := by decide +kernel
theorem dX8_marry_42 : decode cX8_marry 42 = .ok (.iload_n 1, 1) := by decide +kernel
theorem dX8_marry_43 : decode cX8_marry 43 = .ok (.aload_n 0, 1) := by decide +kernel
theorem dX8_marry_44 : decode cX8_marry 44 = .ok (.getfield 31, 3) := by decide +kernel
theorem dX8_marry_47 : decode cX8_marry 47 = .ok (.getfield 158, 3) := by decide +kernel
theorem dX8_marry_50 : decode cX8_marry 50 = .ok (.aload_n 0, 1) := by decide +kernel
theorem dX8_marry_51 : decode cX8_marry 51 = .ok (.getfield 62, 3) := by decide +kernel
theorem dX8_marry_54 : decode cX8_marry 54 = .ok (.getfield 241, 3) := by decide +kernel
theorem dX8_marry_57 : decode cX8_marry 57 = .ok (.invokevirtual 197, 3) := by decide +kernel
theorem dX8_marry_60 : decode cX8_marry 60 = .ok (.iload_n 2, 1) := by decide +kernel
theorem dX8_marry_61 : decode cX8_marry 61 = .ok (.ireturn, 1) := by decide +kernel
theorem dX8_rather_0 : decode cX8_rather 0 = .ok (.aload_n 0, 1) := by decide +kernel
theorem dX8_rather_1 : decode cX8_rather 1 = .ok (.getfield 31, 3) := by decide +kernel
theorem dX8_rather_4 : decode cX8_rather 4 = .ok (.getfield 158, 3) := by decide +kernel
theorem dX8_rather_7 : decode cX8_rather 7 = .ok (.ifCond .ne 6, 3) := by decide +kernel
theorem dX8_rather_10 : decode cX8_rather 10 = .ok (.bipush (-4), 2) := by decide +kernel
theorem dX8_rather_12 : decode cX8_rather 12 = .ok (.ireturn, 1) := by decide +kernel
theorem dX8_rather_13 : decode cX8_rather 13 = .ok (.iconst 0, 1) := by decide +kernel
theorem dX8_rather_14 : decode cX8_rather 14 = .ok (.istore_n 1, 1) := by decide +kernel
theorem dX8_rather_15 : decode cX8_rather 15 = .ok (.bipush (-9), 2) := by decide +kernel
theorem dX8_rather_17 : decode cX8_rather 17 = .ok (.istore_n 2, 1) := by decide +kernel
theorem dX8_rather_18 : decode cX8_rather 18 = .ok (.iconst 0, 1) := by decide +kernel
theorem dX8_rather_19 : decode cX8_rather 19 = .ok (.istore_n 3, 1) := by decide +kernel
theorem dX8_rather_20 : decode cX8_rather 20 = .ok (.iload_n 3, 1) := by decide +kernel
theorem dX8_rather_21 : decode cX8_rather 21 = .ok (.aload_n 0, 1) := by decide +kernel
theorem dX8_rather_22 : decode cX8_rather 22 = .ok (.getfield 31, 3) := by decide +kernel
theorem dX8_rather_25 : decode cX8_rather 25 = .ok (.getfield 158, 3) := by decide +kernel
theorem dX8_rather_28 : decode cX8_rather 28 = .ok (.if_icmp .ge 97, 3) := by decide +kernel
theorem dX8_rather_31 : decode cX8_rather 31 = .ok (.iload_n 3, 1) := by decide +kernel
theorem dX8_rather_32 : decode cX8_rather 32 = .ok (.iconst 1, 1) := by decide +kernel
theorem dX8_rather_33 : decode cX8_rather 33 = .ok (.iadd, 1) := by decide +kernel
theorem dX8_rather_34 : decode cX8_rather 34 = .ok (.istore 4, 2) := by decide +kernel
theorem dX8_rather_36 : decode cX8_rather 36 = .ok (.iload 4, 2) := by decide +kernel
theorem dX8_rather_38 : decode cX8_rather 38 = .ok (.aload_n 0, 1) := by decide +kernel
theorem dX8_rather_39 : decode cX8_rather 39 = .ok (.getfield 31, 3) := by decide +kernel
theorem dX8_rather_42 : decode cX8_rather 42 = .ok (.getfield 158, 3) := by decide +kernel
theorem dX8_rather_45 : decode cX8_rather 45 = .ok (.if_icmp .ge 74, 3) := by decide +kernel
theorem dX8_rather_48 : decode cX8_rather 48 = .ok (.aload_n 0, 1) := by decide +kernel
theorem dX8_rather_49 : decode cX8_rather 49 = .ok (.getfield 31, 3) := by decide +kernel
theorem dX8_rather_52 : decode cX8_rather 52 = .ok (.iload_n 3, 1) := by decide +kernel
theorem dX8_rather_53 : decode cX8_rather 53 = .ok (.iload 4, 2) := by decide +kernel
theorem dX8_rather_55 : decode cX8_rather 55 = .ok (.invokevirtual 242, 3) := by decide +kernel
theorem dX8_rather_58 : decode cX8_rather 58 = .ok (.aload_n 0, 1) := by decide +kernel
theorem dX8_rather_59 : decode cX8_rather 59 = .ok (.getfield 31, 3) := by decide +kernel
theorem dX8_rather_62 : decode cX8_rather 62 = .ok (.iload_n 3, 1) := by decide +kernel
theorem dX8_rather_63 : decode cX8_rather 63 = .ok (.iload_n 3, 1) := by decide +kernel
theorem dX8_rather_64 : decode cX8_rather 64 = .ok (.invokevirtual 242, 3) := by decide +kernel
theorem dX8_rather_67 : decode cX8_rather 67 = .ok (.if_icmp .ge 46, 3) := by decide +kernel
theorem dX8_rather_70 : decode cX8_rather 70 = .ok (.aload_n 0, 1) := by decide +kernel
theorem dX8_rather_71 : decode cX8_rather 71 = .ok (.getfield 31, 3) := by decide +kernel
theorem dX8_rather_74 : decode cX8_rather 74 = .ok (.iload 4, 2) := by decide +kernel
theorem dX8_rather_76 : decode cX8_rather 76 = .ok (.iload_n 3, 1) := by decide +kernel
theorem dX8_rather_77 : decode cX8_rather 77 = .ok (.invokevirtual 242, 3) := by decide +kernel
theorem dX8_rather_80 : decode cX8_rather 80 = .ok (.aload_n 0, 1) := by decide +kernel
theorem dX8_rather_81 : decode cX8_rather 81 = .ok (.getfield 31, 3) := by decide +kernel
theorem dX8_rather_84 : decode cX8_rather 84 = .ok (.iload 4, 2) := by decide +kernel
theorem dX8_rather_86 : decode cX8_rather 86 = .ok (.iload 4, 2) := by decide +kernel
theorem dX8_rather_88 : decode cX8_rather 88 = .ok (.invokevirtual 242, 3) := by decide +kernel
theorem dX8_rather_91 : decode cX8_rather 91 = .ok (.if_icmp .ge 22, 3) := by decide +kernel
theorem dX8_rather_94 : decode cX8_rather 94 = .ok (.iload_n 1, 1) := by decide +kernel
theorem dX8_rather_95 : decode cX8_rather 95 = .ok (.ifCond .ne 13, 3) := by decide +kernel
theorem dX8_rather_98 : decode cX8_rather 98 = .ok (.bipush 10, 2) := by decide +kernel
theorem dX8_rather_100 : decode cX8_rather 100 = .ok (.iload_n 3, 1) := by decide +kernel
theorem dX8_rather_101 : decode cX8_rather 101 = .ok (.imul, 1) := by decide +kernel
theorem dX8_rather_102 : decode cX8_rather 102 = .ok (.iload 4, 2) := by decide +kernel
theorem dX8_rather_104 : decode cX8_rather 104 = .ok (.iadd, 1) := by decide +kernel
theorem dX8_rather_105 : decode cX8_rather 105 = .ok (.goto 4, 3) := by decide +kernel
theorem dX8_rather_108 : decode cX8_rather 108 = .ok (.iload_n 2, 1) := by decide +kernel
theorem dX8_rather_109 : decode cX8_rather 109 = .ok (.istore_n 2, 1) := by decide +kernel
theorem dX8_rather_110 : decode cX8_rather 110 = .ok (.iinc 1 1, 3) := by decide +kernel
theorem dX8_rather_113 : decode cX8_rather 113 = .ok (.iinc 4 1, 3) := by decide +kernel
theorem dX8_rather_116 : decode cX8_rather 116 = .ok (.goto (-80), 3) := by decide +kernel
theorem dX8_rather_119 : decode cX8_rather 119 = .ok (.iinc 3 1, 3) := by decide +kernel
theorem dX8_rather_122 : decode cX8_rather 122 = .ok (.goto (-102), 3) := by decide +kernel
theorem dX8_rather_125 : decode cX8_rather 125 = .ok (.aload_n 0, 1) := by decide +kernel
theorem dX8_rather_126 : decode cX8_rather 126 = .ok (.iload_n 2, 1) := by decide +kernel
theorem dX8_rather_127 : decode cX8_rather 127 = .ok (.putfield 80, 3) := by decide +kernel
theorem dX8_rather_130 : decode cX8_rather 130 = .ok (.iload_n 1, 1) := by decide +kernel
theorem dX8_rather_131 : decode cX8_rather 131 = .ok (.ireturn, 1) := by decide +kernel
theorem dX8_thicks_0 : decode cX8_thicks 0 = .ok (.aload_n 0, 1) := by decide +kernel
theorem dX8_thicks_1 : decode cX8_thicks 1 = .ok (.iload_n 1, 1) := by decide +kernel
theorem dX8_thicks_2 : decode cX8_thicks 2 = .ok (.iload_n 2, 1) := by decide +kernel
theorem dX8_thicks_3 : decode cX8_thicks 3 = .ok (.invokevirtual 245, 3) := by decide +kernel
theorem dX8_thicks_6 : decode cX8_thicks 6 = .ok (.istore_n 3, 1) := by decide +kernel
theorem dX8_thicks_7 : decode cX8_thicks 7 = .ok (.iload_n 3, 1) := by decide +kernel
theorem dX8_thicks_8 : decode cX8_thicks 8 = .ok (.ifCond .eq 7, 3) := by decide +kernel
theorem dX8_thicks_11 : decode cX8_thicks 11 = .ok (.iload_n 3, 1) := by decide +kernel
theorem dX8_thicks_12 : decode cX8_thicks 12 = .ok (.goto 23, 3) := by decide +kernel
theorem dX8_thicks_15 : decode cX8_thicks 15 = .ok (.aload_n 0, 1) := by decide +kernel
theorem dX8_thicks_16 : decode cX8_thicks 16 = .ok (.getfield 69, 3) := by decide +kernel
theorem dX8_thicks_19 : decode cX8_thicks 19 = .ok (.aload_n 0, 1) := by decide +kernel
theorem dX8_thicks_20 : decode cX8_thicks 20 = .ok (.getfield 31, 3) := by decide +kernel
theorem dX8_thicks_23 : decode cX8_thicks 23 = .ok (.iload_n 1, 1) := by decide +kernel
theorem dX8_thicks_24 : decode cX8_thicks 24 = .ok (.aload_n 0, 1) := by decide +kernel
theorem dX8_thicks_25 : decode cX8_thicks 25 = .ok (.getfield 31, 3) := by decide +kernel
theorem dX8_thicks_28 : decode cX8_thicks 28 = .ok (.iload_n 1, 1) := by decide +kernel
theorem dX8_thicks_29 : decode cX8_thicks 29 = .ok (.invokevirtual 167, 3) := by decide +kernel
theorem dX8_thicks_32 : decode cX8_thicks 32 = .ok (.invokevirtual 248, 3) := by decide +kernel
theorem dX8_thicks_35 : decode cX8_thicks 35 = .ok (.ireturn, 1) := by decide +kernel
theorem dX8_kinds_0 : decode cX8_kinds 0 = .ok (.aload_n 0, 1) := by decide +kernel
theorem dX8_kinds_1 : decode cX8_kinds 1 = .ok (.iload_n 1, 1) := by decide +kernel
theorem dX8_kinds_2 : decode cX8_kinds 2 = .ok (.iload_n 2, 1) := by decide +kernel
theorem dX8_kinds_3 : decode cX8_kinds 3 = .ok (.invokevirtual 245, 3) := by decide +kernel
theorem dX8_kinds_6 : decode cX8_kinds 6 = .ok (.istore_n 3, 1) := by decide +kernel
theorem dX8_kinds_7 : decode cX8_kinds 7 = .ok (.iload_n 3, 1) := by decide +kernel
theorem dX8_kinds_8 : decode cX8_kinds 8 = .ok (.ifCond .eq 7, 3) := by decide +kernel
theorem dX8_kinds_11 : decode cX8_kinds 11 = .ok (.iload_n 3, 1) := by decide +kernel
theorem dX8_kinds_12 : decode cX8_kinds 12 = .ok (.goto 23, 3) := by decide +kernel
theorem dX8_kinds_15 : decode cX8_kinds 15 = .ok (.aload_n 0, 1) := by decide +kernel
theorem dX8_kinds_16 : decode cX8_kinds 16 = .ok (.getfield 69, 3) := by decide +kernel
theorem dX8_kinds_19 : decode cX8_kinds 19 = .ok (.aload_n 0, 1) := by decide +kernel
theorem dX8_kinds_20 : decode cX8_kinds 20 = .ok (.getfield 31, 3) := by decide +kernel
theorem dX8_kinds_23 : decode cX8_kinds 23 = .ok (.iload_n 1, 1) := by decide +kernel
theorem dX8_kinds_24 : decode cX8_kinds 24 = .ok (.aload_n 0, 1) := by decide +kernel
theorem dX8_kinds_25 : decode cX8_kinds 25 = .ok (.getfield 31, 3) := by decide +kernel
theorem dX8_kinds_28 : decode cX8_kinds 28 = .ok (.iload_n 1, 1) := by decide +kernel
theorem dX8_kinds_29 : decode cX8_kinds 29 = .ok (.invokevirtual 174, 3) := by decide +kernel
theorem dX8_kinds_32 : decode cX8_kinds 32 = .ok (.invokevirtual 252, 3) := by decide +kernel
theorem dX8_kinds_35 : decode cX8_kinds 35 = .ok (.ireturn, 1) := by decide +kernel
theorem dX8_test_0 : decode cX8_test 0 = .ok (.aload_n 0, 1) := by decide +kernel
theorem dX8_test_1 : decode cX8_test 1 = .ok (.iload_n 1, 1) := by decide +kernel
theorem dX8_test_2 : decode cX8_test 2 = .ok (.iload_n 2, 1) := by decide +kernel
theorem dX8_test_3 : decode cX8_test 3 = .ok (.invokevirtual 245, 3) := by decide +kernel
theorem dX8_test_6 : decode cX8_test 6 = .ok (.istore_n 3, 1) := by decide +kernel
theorem dX8_test_7 : decode cX8_test 7 = .ok (.iload_n 3, 1) := by decide +kernel
theorem dX8_test_8 : decode cX8_test 8 = .ok (.ifCond .eq 5, 3) := by decide +kernel
theorem dX8_test_11 : decode cX8_test 11 = .ok (.iload_n 3, 1) := by decide +kernel
theorem dX8_test_12 : decode cX8_test 12 = .ok (.ireturn, 1) := by decide +kernel
theorem dX8_test_13 : decode cX8_test 13 = .ok (.aload_n 0, 1) := by decide +kernel
theorem dX8_test_14 : decode cX8_test 14 = .ok (.getfield 69, 3) := by decide +kernel
theorem dX8_test_17 : decode cX8_test 17 = .ok (.aload_n 0, 1) := by decide +kernel
theorem dX8_test_18 : decode cX8_test 18 = .ok (.getfield 31, 3) := by decide +kernel
theorem dX8_test_21 : decode cX8_test 21 = .ok (.iload_n 1, 1) := by decide +kernel
theorem dX8_test_22 : decode cX8_test 22 = .ok (.invokevirtual 255, 3) := by decide +kernel
theorem dX8_test_25 : decode cX8_test 25 = .ok (.istore 4, 2) := by decide +kernel
theorem dX8_test_27 : decode cX8_test 27 = .ok (.iload 4, 2) := by decide +kernel
theorem dX8_test_29 : decode cX8_test 29 = .ok (.bipush (-9), 2) := by decide +kernel
theorem dX8_test_31 : decode cX8_test 31 = .ok (.if_icmp .eq 14, 3) := by decide +kernel
theorem dX8_test_34 : decode cX8_test 34 = .ok (.aload_n 0, 1) := by decide +kernel
theorem dX8_test_35 : decode cX8_test 35 = .ok (.aload_n 0, 1) := by decide +kernel
theorem dX8_test_36 : decode cX8_test 36 = .ok (.getfield 69, 3) := by decide +kernel
theorem dX8_test_39 : decode cX8_test 39 = .ok (.getfield 258, 3) := by decide +kernel
theorem dX8_test_42 : decode cX8_test 42 = .ok (.putfield 80, 3) := by decide +kernel
theorem dX8_test_45 : decode cX8_test 45 = .ok (.iload 4, 2) := by decide +kernel
theorem dX8_test_47 : decode cX8_test 47 = .ok (.ireturn, 1) := by decide +kernel
theorem dX8_duel_0 : decode cX8_duel 0 = .ok (.iload_n 1, 1) := by decide +kernel
theorem dX8_duel_1 : decode cX8_duel 1 = .ok (.ifCond .lt 8, 3) := by decide +kernel
theorem dX8_duel_4 : decode cX8_duel 4 = .ok (.iload_n 1, 1) := by decide +kernel
theorem dX8_duel_5 : decode cX8_duel 5 = .ok (.iconst 4, 1) := by decide +kernel
theorem dX8_duel_6 : decode cX8_duel 6 = .ok (.if_icmp .le 5, 3) := by decide +kernel
theorem dX8_duel_9 : decode cX8_duel 9 = .ok (.iconst (-1), 1) := by decide +kernel
theorem dX8_duel_10 : decode cX8_duel 10 = .ok (.ireturn, 1) := by decide +kernel
theorem dX8_duel_11 : decode cX8_duel 11 = .ok (.aload_n 0, 1) := by decide +kernel
theorem dX8_duel_12 : decode cX8_duel 12 = .ok (.getfield 31, 3) := by decide +kernel
theorem dX8_duel_15 : decode cX8_duel 15 = .ok (.getfield 158, 3) := by decide +kernel
theorem dX8_duel_18 : decode cX8_duel 18 = .ok (.ifCond .ne 8, 3) := by decide +kernel
theorem dX8_duel_21 : decode cX8_duel 21 = .ok (.bipush (-4), 2) := by decide +kernel
theorem dX8_duel_23 : decode cX8_duel 23 = .ok (.goto 16, 3) := by decide +kernel
theorem dX8_duel_26 : decode cX8_duel 26 = .ok (.aload_n 0, 1) := by decide +kernel
theorem dX8_duel_27 : decode cX8_duel 27 = .ok (.getfield 76, 3) := by decide +kernel
theorem dX8_duel_30 : decode cX8_duel 30 = .ok (.aload_n 0, 1) := by decide +kernel
theorem dX8_duel_31 : decode cX8_duel 31 = .ok (.getfield 31, 3) := by decide +kernel
theorem dX8_duel_34 : decode cX8_duel 34 = .ok (.iconst 0, 1) := by decide +kernel
theorem dX8_duel_35 : decode cX8_duel 35 = .ok (.iload_n 1, 1) := by decide +kernel
theorem dX8_duel_36 : decode cX8_duel 36 = .ok (.invokevirtual 261, 3) := by decide +kernel
theorem dX8_duel_39 : decode cX8_duel 39 = .ok (.ireturn, 1) := by decide +kernel
theorem dX8_odds_0 : decode cX8_odds 0 = .ok (.iload_n 1, 1) := by decide +kernel
theorem dX8_odds_1 : decode cX8_odds 1 = .ok (.ifCond .lt 19, 3) := by decide +kernel
theorem dX8_odds_4 : decode cX8_odds 4 = .ok (.iload_n 1, 1) := by decide +kernel
theorem dX8_odds_5 : decode cX8_odds 5 = .ok (.bipush 6, 2) := by decide +kernel
theorem dX8_odds_7 : decode cX8_odds 7 = .ok (.if_icmp .gt 13, 3) := by decide +kernel
theorem dX8_odds_10 : decode cX8_odds 10 = .ok (.iload_n 2, 1) := by decide +kernel
theorem dX8_odds_11 : decode cX8_odds 11 = .ok (.ifCond .lt 9, 3) := by decide +kernel
theorem dX8_odds_14 : decode cX8_odds 14 = .ok (.iload_n 2, 1) := by decide +kernel
theorem dX8_odds_15 : decode cX8_odds 15 = .ok (.bipush 12, 2) := by decide +kernel
theorem dX8_odds_17 : decode cX8_odds 17 = .ok (.if_icmp .le 5, 3) := by decide +kernel
theorem dX8_odds_20 : decode cX8_odds 20 = .ok (.iconst (-1), 1) := by decide +kernel
theorem dX8_odds_21 : decode cX8_odds 21 = .ok (.ireturn, 1) := by decide +kernel
theorem dX8_odds_22 : decode cX8_odds 22 = .ok (.aload_n 0, 1) := by decide +kernel
theorem dX8_odds_23 : decode cX8_odds 23 = .ok (.getfield 31, 3) := by decide +kernel
theorem dX8_odds_26 : decode cX8_odds 26 = .ok (.getfield 158, 3) := by decide +kernel
theorem dX8_odds_29 : decode cX8_odds 29 = .ok (.ifCond .ne 6, 3) := by decide +kernel
theorem dX8_odds_32 : decode cX8_odds 32 = .ok (.bipush (-4), 2) := by decide +kernel
theorem dX8_odds_34 : decode cX8_odds 34 = .ok (.ireturn, 1) := by decide +kernel
theorem dX8_odds_35 : decode cX8_odds 35 = .ok (.aload_n 0, 1) := by decide +kernel
theorem dX8_odds_36 : decode cX8_odds 36 = .ok (.getfield 31, 3) := by decide +kernel
theorem dX8_odds_39 : decode cX8_odds 39 = .ok (.invokevirtual 264, 3) := by decide +kernel
theorem dX8_odds_42 : decode cX8_odds 42 = .ok (.istore_n 3, 1) := by decide +kernel
theorem dX8_odds_43 : decode cX8_odds 43 = .ok (.lconst 0, 1) := by decide +kernel
theorem dX8_odds_44 : decode cX8_odds 44 = .ok (.lstore 4, 2) := by decide +kernel
theorem dX8_odds_46 : decode cX8_odds 46 = .ok (.iconst 0, 1) := by decide +kernel
theorem dX8_odds_47 : decode cX8_odds 47 = .ok (.istore 6, 2) := by decide +kernel
theorem dX8_odds_49 : decode cX8_odds 49 = .ok (.iload 6, 2) := by decide +kernel
theorem dX8_odds_51 : decode cX8_odds 51 = .ok (.bipush 64, 2) := by decide +kernel
theorem dX8_odds_53 : decode cX8_odds 53 = .ok (.if_icmp .ge 39, 3) := by decide +kernel
theorem dX8_odds_56 : decode cX8_odds 56 = .ok (.iload 6, 2) := by decide +kernel
theorem dX8_odds_58 : decode cX8_odds 58 = .ok (.iload_n 3, 1) := by decide +kernel
theorem dX8_odds_59 : decode cX8_odds 59 = .ok (.iconst (-1), 1) := by decide +kernel
theorem dX8_odds_60 : decode cX8_odds 60 = .ok (.ixor, 1) := by decide +kernel
theorem dX8_odds_61 : decode cX8_odds 61 = .ok (.iand, 1) := by decide +kernel
theorem dX8_odds_62 : decode cX8_odds 62 = .ok (.ifCond .ne 24, 3) := by decide +kernel
theorem dX8_odds_65 : decode cX8_odds 65 = .ok (.iload 6, 2) := by decide +kernel
theorem dX8_odds_67 : decode cX8_odds 67 = .ok (.invokestatic 267, 3) := by decide +kernel
theorem dX8_odds_70 : decode cX8_odds 70 = .ok (.iload_n 1, 1) := by decide +kernel
theorem dX8_odds_71 : decode cX8_odds 71 = .ok (.if_icmp .lt 15, 3) := by decide +kernel
theorem dX8_odds_74 : decode cX8_odds 74 = .ok (.lload 4, 2) := by decide +kernel
theorem dX8_odds_76 : decode cX8_odds 76 = .ok (.iload 6, 2) := by decide +kernel
theorem dX8_odds_78 : decode cX8_odds 78 = .ok (.iload_n 3, 1) := by decide +kernel
theorem dX8_odds_79 : decode cX8_odds 79 = .ok (.iload_n 2, 1) := by decide +kernel
theorem dX8_odds_80 : decode cX8_odds 80 = .ok (.invokestatic 272, 3) := by decide +kernel
theorem dX8_odds_83 : decode cX8_odds 83 = .ok (.ladd, 1) := by decide +kernel
theorem dX8_odds_84 : decode cX8_odds 84 = .ok (.lstore 4, 2) := by decide +kernel
theorem dX8_odds_86 : decode cX8_odds 86 = .ok (.iinc 6 1, 3) := by decide +kernel
theorem dX8_odds_89 : decode cX8_odds 89 = .ok (.goto (-40), 3) := by decide +kernel
theorem dX8_odds_92 : decode cX8_odds 92 = .ok (.aload_n 0, 1) := by decide +kernel
theorem dX8_odds_93 : decode cX8_odds 93 = .ok (.lload 4, 2) := by decide +kernel
theorem dX8_odds_95 : decode cX8_odds 95 = .ok (.bipush 12, 2) := by decide +kernel
theorem dX8_odds_97 : decode cX8_odds 97 = .ok (.iload_n 3, 1) := by decide +kernel
theorem dX8_odds_98 : decode cX8_odds 98 = .ok (.invokestatic 267, 3) := by decide +kernel
theorem dX8_odds_101 : decode cX8_odds 101 = .ok (.invokestatic 276, 3) := by decide +kernel
theorem dX8_odds_104 : decode cX8_odds 104 = .ok (.invokevirtual 280, 3) := by decide +kernel
theorem dX8_odds_107 : decode cX8_odds 107 = .ok (.ireturn, 1) := by decide +kernel
theorem dX8_mid_0 : decode cX8_mid 0 = .ok (.iload_n 1, 1) := by decide +kernel
theorem dX8_mid_1 : decode cX8_mid 1 = .ok (.ifCond .lt 9, 3) := by decide +kernel
theorem dX8_mid_4 : decode cX8_mid 4 = .ok (.iload_n 1, 1) := by decide +kernel
theorem dX8_mid_5 : decode cX8_mid 5 = .ok (.bipush 12, 2) := by decide +kernel
theorem dX8_mid_7 : decode cX8_mid 7 = .ok (.if_icmp .le 5, 3) := by decide +kernel
theorem dX8_mid_10 : decode cX8_mid 10 = .ok (.iconst (-1), 1) := by decide +kernel
theorem dX8_mid_11 : decode cX8_mid 11 = .ok (.ireturn, 1) := by decide +kernel
theorem dX8_mid_12 : decode cX8_mid 12 = .ok (.aload_n 0, 1) := by decide +kernel
theorem dX8_mid_13 : decode cX8_mid 13 = .ok (.getfield 31, 3) := by decide +kernel
theorem dX8_mid_16 : decode cX8_mid 16 = .ok (.getfield 158, 3) := by decide +kernel
theorem dX8_mid_19 : decode cX8_mid 19 = .ok (.ifCond .ne 6, 3) := by decide +kernel
theorem dX8_mid_22 : decode cX8_mid 22 = .ok (.bipush (-4), 2) := by decide +kernel
theorem dX8_mid_24 : decode cX8_mid 24 = .ok (.ireturn, 1) := by decide +kernel
theorem dX8_mid_25 : decode cX8_mid 25 = .ok (.aload_n 0, 1) := by decide +kernel
theorem dX8_mid_26 : decode cX8_mid 26 = .ok (.getfield 31, 3) := by decide +kernel
theorem dX8_mid_29 : decode cX8_mid 29 = .ok (.invokevirtual 264, 3) := by decide +kernel
theorem dX8_mid_32 : decode cX8_mid 32 = .ok (.istore_n 2, 1) := by decide +kernel
theorem dX8_mid_33 : decode cX8_mid 33 = .ok (.lconst 0, 1) := by decide +kernel
theorem dX8_mid_34 : decode cX8_mid 34 = .ok (.lstore_n 3, 1) := by decide +kernel
theorem dX8_mid_35 : decode cX8_mid 35 = .ok (.iconst 0, 1) := by decide +kernel
theorem dX8_mid_36 : decode cX8_mid 36 = .ok (.istore 5, 2) := by decide +kernel
theorem dX8_mid_38 : decode cX8_mid 38 = .ok (.iload 5, 2) := by decide +kernel
theorem dX8_mid_40 : decode cX8_mid 40 = .ok (.bipush 64, 2) := by decide +kernel
theorem dX8_mid_42 : decode cX8_mid 42 = .ok (.if_icmp .ge 39, 3) := by decide +kernel
theorem dX8_mid_45 : decode cX8_mid 45 = .ok (.iload 5, 2) := by decide +kernel
theorem dX8_mid_47 : decode cX8_mid 47 = .ok (.iload_n 2, 1) := by decide +kernel
theorem dX8_mid_48 : decode cX8_mid 48 = .ok (.iconst (-1), 1) := by decide +kernel
theorem dX8_mid_49 : decode cX8_mid 49 = .ok (.ixor, 1) := by decide +kernel
theorem dX8_mid_50 : decode cX8_mid 50 = .ok (.iand, 1) := by decide +kernel
theorem dX8_mid_51 : decode cX8_mid 51 = .ok (.ifCond .ne 24, 3) := by decide +kernel
theorem dX8_mid_54 : decode cX8_mid 54 = .ok (.lload_n 3, 1) := by decide +kernel
theorem dX8_mid_55 : decode cX8_mid 55 = .ok (.aload_n 0, 1) := by decide +kernel
theorem dX8_mid_56 : decode cX8_mid 56 = .ok (.getfield 31, 3) := by decide +kernel
theorem dX8_mid_59 : decode cX8_mid 59 = .ok (.iload 5, 2) := by decide +kernel
theorem dX8_mid_61 : decode cX8_mid 61 = .ok (.invokevirtual 284, 3) := by decide +kernel
theorem dX8_mid_64 : decode cX8_mid 64 = .ok (.i2l, 1) := by decide +kernel
theorem dX8_mid_65 : decode cX8_mid 65 = .ok (.iload 5, 2) := by decide +kernel
theorem dX8_mid_67 : decode cX8_mid 67 = .ok (.iload_n 2, 1) := by decide +kernel
theorem dX8_mid_68 : decode cX8_mid 68 = .ok (.iload_n 1, 1) := by decide +kernel
theorem dX8_mid_69 : decode cX8_mid 69 = .ok (.invokestatic 272, 3) := by decide +kernel
theorem dX8_mid_72 : decode cX8_mid 72 = .ok (.lmul, 1) := by decide +kernel
theorem dX8_mid_73 : decode cX8_mid 73 = .ok (.ladd, 1) := by decide +kernel
theorem dX8_mid_74 : decode cX8_mid 74 = .ok (.lstore_n 3, 1) := by decide +kernel
theorem dX8_mid_75 : decode cX8_mid 75 = .ok (.iinc 5 1, 3) := by decide +kernel
theorem dX8_mid_78 : decode cX8_mid 78 = .ok (.goto (-40), 3) := by decide +kernel
theorem dX8_mid_81 : decode cX8_mid 81 = .ok (.aload_n 0, 1) := by decide +kernel
theorem dX8_mid_82 : decode cX8_mid 82 = .ok (.lload_n 3, 1) := by decide +kernel
theorem dX8_mid_83 : decode cX8_mid 83 = .ok (.bipush 12, 2) := by decide +kernel
theorem dX8_mid_85 : decode cX8_mid 85 = .ok (.iload_n 2, 1) := by decide +kernel
theorem dX8_mid_86 : decode cX8_mid 86 = .ok (.invokestatic 267, 3) := by decide +kernel
theorem dX8_mid_89 : decode cX8_mid 89 = .ok (.invokestatic 276, 3) := by decide +kernel
theorem dX8_mid_92 : decode cX8_mid 92 = .ok (.invokevirtual 280, 3) := by decide +kernel
theorem dX8_mid_95 : decode cX8_mid 95 = .ok (.ireturn, 1) := by decide +kernel
theorem dX8_lots_0 : decode cX8_lots 0 = .ok (.iload_n 1, 1) := by decide +kernel
theorem dX8_lots_1 : decode cX8_lots 1 = .ok (.iconst 1, 1) := by decide +kernel
theorem dX8_lots_2 : decode cX8_lots 2 = .ok (.if_icmp .lt 21, 3) := by decide +kernel
theorem dX8_lots_5 : decode cX8_lots 5 = .ok (.iload_n 1, 1) := by decide +kernel
theorem dX8_lots_6 : decode cX8_lots 6 = .ok (.bipush 20, 2) := by decide +kernel
theorem dX8_lots_8 : decode cX8_lots 8 = .ok (.if_icmp .gt 15, 3) := by decide +kernel
theorem dX8_lots_11 : decode cX8_lots 11 = .ok (.iload_n 2, 1) := by decide +kernel
theorem dX8_lots_12 : decode cX8_lots 12 = .ok (.iconst 1, 1) := by decide +kernel
theorem dX8_lots_13 : decode cX8_lots 13 = .ok (.if_icmp .lt 10, 3) := by decide +kernel
theorem dX8_lots_16 : decode cX8_lots 16 = .ok (.iload_n 2, 1) := by decide +kernel
theorem dX8_lots_17 : decode cX8_lots 17 = .ok (.ldc_w 287, 3) := by decide +kernel
theorem dX8_lots_20 : decode cX8_lots 20 = .ok (.if_icmp .le 5, 3) := by decide +kernel
theorem dX8_lots_23 : decode cX8_lots 23 = .ok (.iconst (-1), 1) := by decide +kernel
theorem dX8_lots_24 : decode cX8_lots 24 = .ok (.ireturn, 1) := by decide +kernel
theorem dX8_lots_25 : decode cX8_lots 25 = .ok (.aload_n 0, 1) := by decide +kernel
theorem dX8_lots_26 : decode cX8_lots 26 = .ok (.getfield 31, 3) := by decide +kernel
theorem dX8_lots_29 : decode cX8_lots 29 = .ok (.getfield 158, 3) := by decide +kernel
theorem dX8_lots_32 : decode cX8_lots 32 = .ok (.istore_n 3, 1) := by decide +kernel
theorem dX8_lots_33 : decode cX8_lots 33 = .ok (.iload_n 3, 1) := by decide +kernel
theorem dX8_lots_34 : decode cX8_lots 34 = .ok (.ifCond .gt 6, 3) := by decide +kernel
theorem dX8_lots_37 : decode cX8_lots 37 = .ok (.bipush (-4), 2) := by decide +kernel
theorem dX8_lots_39 : decode cX8_lots 39 = .ok (.ireturn, 1) := by decide +kernel
theorem dX8_lots_40 : decode cX8_lots 40 = .ok (.aload_n 0, 1) := by decide +kernel
theorem dX8_lots_41 : decode cX8_lots 41 = .ok (.getfield 41, 3) := by decide +kernel
theorem dX8_lots_44 : decode cX8_lots 44 = .ok (.iload_n 1, 1) := by decide +kernel
theorem dX8_lots_45 : decode cX8_lots 45 = .ok (.iadd, 1) := by decide +kernel
theorem dX8_lots_46 : decode cX8_lots 46 = .ok (.bipush 40, 2) := by decide +kernel
theorem dX8_lots_48 : decode cX8_lots 48 = .ok (.if_icmp .le 6, 3) := by decide +kernel
theorem dX8_lots_51 : decode cX8_lots 51 = .ok (.bipush (-2), 2) := by decide +kernel
theorem dX8_lots_53 : decode cX8_lots 53 = .ok (.ireturn, 1) := by decide +kernel
theorem dX8_lots_54 : decode cX8_lots 54 = .ok (.iconst 0, 1) := by decide +kernel
theorem dX8_lots_55 : decode cX8_lots 55 = .ok (.istore 4, 2) := by decide +kernel
theorem dX8_lots_57 : decode cX8_lots 57 = .ok (.iload_n 2, 1) := by decide +kernel
theorem dX8_lots_58 : decode cX8_lots 58 = .ok (.i2l, 1) := by decide +kernel
theorem dX8_lots_59 : decode cX8_lots 59 = .ok (.lstore 5, 2) := by decide +kernel
theorem dX8_lots_61 : decode cX8_lots 61 = .ok (.iconst 0, 1) := by decide +kernel
theorem dX8_lots_62 : decode cX8_lots 62 = .ok (.istore 7, 2) := by decide +kernel
theorem dX8_lots_64 : decode cX8_lots 64 = .ok (.iload 7, 2) := by decide +kernel
theorem dX8_lots_66 : decode cX8_lots 66 = .ok (.iload_n 1, 1) := by decide +kernel
theorem dX8_lots_67 : decode cX8_lots 67 = .ok (.if_icmp .ge 103, 3) := by decide +kernel
theorem dX8_lots_70 : decode cX8_lots 70 = .ok (.lload 5, 2) := by decide +kernel
theorem dX8_lots_72 : decode cX8_lots 72 = .ok (.ldc2_w 288, 3) := by decide +kernel
theorem dX8_lots_75 : decode cX8_lots 75 = .ok (.lmul, 1) := by decide +kernel
theorem dX8_lots_76 : decode cX8_lots 76 = .ok (.ldc2_w 290, 3) := by decide +kernel
theorem dX8_lots_79 : decode cX8_lots 79 = .ok (.lrem, 1) := by decide +kernel
theorem dX8_lots_80 : decode cX8_lots 80 = .ok (.lstore 5, 2) := by decide +kernel
theorem dX8_lots_82 : decode cX8_lots 82 = .ok (.lload 5, 2) := by decide +kernel
theorem dX8_lots_84 : decode cX8_lots 84 = .ok (.ldc2_w 292, 3) := by decide +kernel
theorem dX8_lots_87 : decode cX8_lots 87 = .ok (.ldiv, 1) := by decide +kernel
theorem dX8_lots_88 : decode cX8_lots 88 = .ok (.iload_n 3, 1) := by decide +kernel
theorem dX8_lots_89 : decode cX8_lots 89 = .ok (.i2l, 1) := by decide +kernel
theorem dX8_lots_90 : decode cX8_lots 90 = .ok (.lrem, 1) := by decide +kernel
theorem dX8_lots_91 : decode cX8_lots 91 = .ok (.l2i, 1) := by decide +kernel
theorem dX8_lots_92 : decode cX8_lots 92 = .ok (.istore 8, 2) := by decide +kernel
theorem dX8_lots_94 : decode cX8_lots 94 = .ok (.lload 5, 2) := by decide +kernel
theorem dX8_lots_96 : decode cX8_lots 96 = .ok (.ldc2_w 294, 3) := by decide +kernel
theorem dX8_lots_99 : decode cX8_lots 99 = .ok (.lrem, 1) := by decide +kernel
theorem dX8_lots_100 : decode cX8_lots 100 = .ok (.l2i, 1) := by decide +kernel
theorem dX8_lots_101 : decode cX8_lots 101 = .ok (.lookupswitch 55 #[(2, 27), (3, 43)], 27) := by decide +kernel
theorem dX8_lots_128 : decode cX8_lots 128 = .ok (.iload 4, 2) := by decide +kernel
theorem dX8_lots_130 : decode cX8_lots 130 = .ok (.aload_n 0, 1) := by decide +kernel
theorem dX8_lots_131 : decode cX8_lots 131 = .ok (.iconst 1, 1) := by decide +kernel
theorem dX8_lots_132 : decode cX8_lots 132 = .ok (.iload 8, 2) := by decide +kernel
theorem dX8_lots_134 : decode cX8_lots 134 = .ok (.iconst 0, 1) := by decide +kernel
theorem dX8_lots_135 : decode cX8_lots 135 = .ok (.invokevirtual 190, 3) := by decide +kernel
theorem dX8_lots_138 : decode cX8_lots 138 = .ok (.iadd, 1) := by decide +kernel
theorem dX8_lots_139 : decode cX8_lots 139 = .ok (.istore 4, 2) := by decide +kernel
theorem dX8_lots_141 : decode cX8_lots 141 = .ok (.goto 23, 3) := by decide +kernel
theorem dX8_lots_144 : decode cX8_lots 144 = .ok (.aload_n 0, 1) := by decide +kernel
theorem dX8_lots_145 : decode cX8_lots 145 = .ok (.iconst 2, 1) := by decide +kernel
theorem dX8_lots_146 : decode cX8_lots 146 = .ok (.iload 8, 2) := by decide +kernel
theorem dX8_lots_148 : decode cX8_lots 148 = .ok (.iconst 0, 1) := by decide +kernel
theorem dX8_lots_149 : decode cX8_lots 149 = .ok (.invokevirtual 190, 3) := by decide +kernel
theorem dX8_lots_152 : decode cX8_lots 152 = .ok (.pop, 1) := by decide +kernel
theorem dX8_lots_153 : decode cX8_lots 153 = .ok (.goto 11, 3) := by decide +kernel
theorem dX8_lots_156 : decode cX8_lots 156 = .ok (.aload_n 0, 1) := by decide +kernel
theorem dX8_lots_157 : decode cX8_lots 157 = .ok (.iconst 0, 1) := by decide +kernel
theorem dX8_lots_158 : decode cX8_lots 158 = .ok (.iconst 0, 1) := by decide +kernel
theorem dX8_lots_159 : decode cX8_lots 159 = .ok (.iconst 0, 1) := by decide +kernel
theorem dX8_lots_160 : decode cX8_lots 160 = .ok (.invokevirtual 190, 3) := by decide +kernel
theorem dX8_lots_163 : decode cX8_lots 163 = .ok (.pop, 1) := by decide +kernel
theorem dX8_lots_164 : decode cX8_lots 164 = .ok (.iinc 7 1, 3) := by decide +kernel
theorem dX8_lots_167 : decode cX8_lots 167 = .ok (.goto (-103), 3) := by decide +kernel
theorem dX8_lots_170 : decode cX8_lots 170 = .ok (.iload 4, 2) := by decide +kernel
theorem dX8_lots_172 : decode cX8_lots 172 = .ok (.ireturn, 1) := by decide +kernel
theorem dX8_asked_0 : decode cX8_asked 0 = .ok (.aload_n 0, 1) := by decide +kernel
theorem dX8_asked_1 : decode cX8_asked 1 = .ok (.getfield 80, 3) := by decide +kernel
theorem dX8_asked_4 : decode cX8_asked 4 = .ok (.ireturn, 1) := by decide +kernel
theorem dX8_upper_0 : decode cX8_upper 0 = .ok (.aload_n 0, 1) := by decide +kernel
theorem dX8_upper_1 : decode cX8_upper 1 = .ok (.getfield 83, 3) := by decide +kernel
theorem dX8_upper_4 : decode cX8_upper 4 = .ok (.lreturn, 1) := by decide +kernel
theorem dX8_lower_0 : decode cX8_lower 0 = .ok (.aload_n 0, 1) := by decide +kernel
theorem dX8_lower_1 : decode cX8_lower 1 = .ok (.getfield 87, 3) := by decide +kernel
theorem dX8_lower_4 : decode cX8_lower 4 = .ok (.lreturn, 1) := by decide +kernel
theorem dX8_count_0 : decode cX8_count 0 = .ok (.iload_n 1, 1) := by decide +kernel
theorem dX8_count_1 : decode cX8_count 1 = .ok (.tableswitch 151 0 10 #[59, 67, 75, 80, 88, 96, 104, 119, 127, 135, 143], 59) := by decide +kernel
theorem dX8_count_60 : decode cX8_count 60 = .ok (.aload_n 0, 1) := by decide +kernel
theorem dX8_count_61 : decode cX8_count 61 = .ok (.getfield 31, 3) := by decide +kernel
theorem dX8_count_64 : decode cX8_count 64 = .ok (.getfield 158, 3) := by decide +kernel
theorem dX8_count_67 : decode cX8_count 67 = .ok (.ireturn, 1) := by decide +kernel
theorem dX8_count_68 : decode cX8_count 68 = .ok (.aload_n 0, 1) := by decide +kernel
theorem dX8_count_69 : decode cX8_count 69 = .ok (.getfield 31, 3) := by decide +kernel
theorem dX8_count_72 : decode cX8_count 72 = .ok (.getfield 177, 3) := by decide +kernel
theorem dX8_count_75 : decode cX8_count 75 = .ok (.ireturn, 1) := by decide +kernel
theorem dX8_count_76 : decode cX8_count 76 = .ok (.aload_n 0, 1) := by decide +kernel
theorem dX8_count_77 : decode cX8_count 77 = .ok (.getfield 41, 3) := by decide +kernel
theorem dX8_count_80 : decode cX8_count 80 = .ok (.ireturn, 1) := by decide +kernel
theorem dX8_count_81 : decode cX8_count 81 = .ok (.aload_n 0, 1) := by decide +kernel
theorem dX8_count_82 : decode cX8_count 82 = .ok (.getfield 31, 3) := by decide +kernel
theorem dX8_count_85 : decode cX8_count 85 = .ok (.invokevirtual 234, 3) := by decide +kernel
theorem dX8_count_88 : decode cX8_count 88 = .ok (.ireturn, 1) := by decide +kernel
theorem dX8_count_89 : decode cX8_count 89 = .ok (.aload_n 0, 1) := by decide +kernel
theorem dX8_count_90 : decode cX8_count 90 = .ok (.getfield 31, 3) := by decide +kernel
theorem dX8_count_93 : decode cX8_count 93 = .ok (.invokevirtual 296, 3) := by decide +kernel
theorem dX8_count_96 : decode cX8_count 96 = .ok (.ireturn, 1) := by decide +kernel
theorem dX8_count_97 : decode cX8_count 97 = .ok (.aload_n 0, 1) := by decide +kernel
theorem dX8_count_98 : decode cX8_count 98 = .ok (.getfield 31, 3) := by decide +kernel
theorem dX8_count_101 : decode cX8_count 101 = .ok (.invokevirtual 264, 3) := by decide +kernel
theorem dX8_count_104 : decode cX8_count 104 = .ok (.ireturn, 1) := by decide +kernel
theorem dX8_count_105 : decode cX8_count 105 = .ok (.aload_n 0, 1) := by decide +kernel
theorem dX8_count_106 : decode cX8_count 106 = .ok (.getfield 31, 3) := by decide +kernel
theorem dX8_count_109 : decode cX8_count 109 = .ok (.aload_n 0, 1) := by decide +kernel
theorem dX8_count_110 : decode cX8_count 110 = .ok (.getfield 31, 3) := by decide +kernel
theorem dX8_count_113 : decode cX8_count 113 = .ok (.getfield 177, 3) := by decide +kernel
theorem dX8_count_116 : decode cX8_count 116 = .ok (.invokevirtual 299, 3) := by decide +kernel
theorem dX8_count_119 : decode cX8_count 119 = .ok (.ireturn, 1) := by decide +kernel
theorem dX8_count_120 : decode cX8_count 120 = .ok (.aload_n 0, 1) := by decide +kernel
theorem dX8_count_121 : decode cX8_count 121 = .ok (.getfield 31, 3) := by decide +kernel
theorem dX8_count_124 : decode cX8_count 124 = .ok (.invokevirtual 302, 3) := by decide +kernel
theorem dX8_count_127 : decode cX8_count 127 = .ok (.ireturn, 1) := by decide +kernel
theorem dX8_count_128 : decode cX8_count 128 = .ok (.aload_n 0, 1) := by decide +kernel
theorem dX8_count_129 : decode cX8_count 129 = .ok (.getfield 14, 3) := by decide +kernel
theorem dX8_count_132 : decode cX8_count 132 = .ok (.invokevirtual 305, 3) := by decide +kernel
theorem dX8_count_135 : decode cX8_count 135 = .ok (.ireturn, 1) := by decide +kernel
theorem dX8_count_136 : decode cX8_count 136 = .ok (.aload_n 0, 1) := by decide +kernel
theorem dX8_count_137 : decode cX8_count 137 = .ok (.getfield 18, 3) := by decide +kernel
theorem dX8_count_140 : decode cX8_count 140 = .ok (.invokevirtual 305, 3) := by decide +kernel
theorem dX8_count_143 : decode cX8_count 143 = .ok (.ireturn, 1) := by decide +kernel
theorem dX8_count_144 : decode cX8_count 144 = .ok (.aload_n 0, 1) := by decide +kernel
theorem dX8_count_145 : decode cX8_count 145 = .ok (.getfield 21, 3) := by decide +kernel
theorem dX8_count_148 : decode cX8_count 148 = .ok (.invokevirtual 305, 3) := by decide +kernel
theorem dX8_count_151 : decode cX8_count 151 = .ok (.ireturn, 1) := by decide +kernel
theorem dX8_count_152 : decode cX8_count 152 = .ok (.iconst (-1), 1) := by decide +kernel
theorem dX8_count_153 : decode cX8_count 153 = .ok (.ireturn, 1) := by decide +kernel
theorem dX8_finding_0 : decode cX8_finding 0 = .ok (.aload_n 0, 1) := by decide +kernel
theorem dX8_finding_1 : decode cX8_finding 1 = .ok (.getfield 90, 3) := by decide +kernel
theorem dX8_finding_4 : decode cX8_finding 4 = .ok (.ireturn, 1) := by decide +kernel
theorem dX8_findings_0 : decode cX8_findings 0 = .ok (.iload_n 1, 1) := by decide +kernel
theorem dX8_findings_1 : decode cX8_findings 1 = .ok (.iconst 1, 1) := by decide +kernel
theorem dX8_findings_2 : decode cX8_findings 2 = .ok (.if_icmp .lt 8, 3) := by decide +kernel
theorem dX8_findings_5 : decode cX8_findings 5 = .ok (.iload_n 1, 1) := by decide +kernel
theorem dX8_findings_6 : decode cX8_findings 6 = .ok (.iconst 5, 1) := by decide +kernel
theorem dX8_findings_7 : decode cX8_findings 7 = .ok (.if_icmp .le 7, 3) := by decide +kernel
theorem dX8_findings_10 : decode cX8_findings 10 = .ok (.iconst (-1), 1) := by decide +kernel
theorem dX8_findings_11 : decode cX8_findings 11 = .ok (.goto 11, 3) := by decide +kernel
theorem dX8_findings_14 : decode cX8_findings 14 = .ok (.aload_n 0, 1) := by decide +kernel
theorem dX8_findings_15 : decode cX8_findings 15 = .ok (.getfield 93, 3) := by decide +kernel
theorem dX8_findings_18 : decode cX8_findings 18 = .ok (.iload_n 1, 1) := by decide +kernel
theorem dX8_findings_19 : decode cX8_findings 19 = .ok (.invokestatic 308, 3) := by decide +kernel
theorem dX8_findings_22 : decode cX8_findings 22 = .ok (.ireturn, 1) := by decide +kernel
theorem dX8_digest_0 : decode cX8_digest 0 = .ok (.ldc2_w 312, 3) := by decide +kernel
theorem dX8_digest_3 : decode cX8_digest 3 = .ok (.lstore_n 1, 1) := by decide +kernel
theorem dX8_digest_4 : decode cX8_digest 4 = .ok (.iconst 0, 1) := by decide +kernel
theorem dX8_digest_5 : decode cX8_digest 5 = .ok (.istore_n 3, 1) := by decide +kernel
theorem dX8_digest_6 : decode cX8_digest 6 = .ok (.iload_n 3, 1) := by decide +kernel
theorem dX8_digest_7 : decode cX8_digest 7 = .ok (.bipush 11, 2) := by decide +kernel
theorem dX8_digest_9 : decode cX8_digest 9 = .ok (.if_icmp .ge 22, 3) := by decide +kernel
theorem dX8_digest_12 : decode cX8_digest 12 = .ok (.ldc2_w 314, 3) := by decide +kernel
theorem dX8_digest_15 : decode cX8_digest 15 = .ok (.lload_n 1, 1) := by decide +kernel
theorem dX8_digest_16 : decode cX8_digest 16 = .ok (.lmul, 1) := by decide +kernel
theorem dX8_digest_17 : decode cX8_digest 17 = .ok (.aload_n 0, 1) := by decide +kernel
theorem dX8_digest_18 : decode cX8_digest 18 = .ok (.iload_n 3, 1) := by decide +kernel
theorem dX8_digest_19 : decode cX8_digest 19 = .ok (.invokevirtual 316, 3) := by decide +kernel
theorem dX8_digest_22 : decode cX8_digest 22 = .ok (.i2l, 1) := by decide +kernel
theorem dX8_digest_23 : decode cX8_digest 23 = .ok (.ladd, 1) := by decide +kernel
theorem dX8_digest_24 : decode cX8_digest 24 = .ok (.lstore_n 1, 1) := by decide +kernel
theorem dX8_digest_25 : decode cX8_digest 25 = .ok (.iinc 3 1, 3) := by decide +kernel
theorem dX8_digest_28 : decode cX8_digest 28 = .ok (.goto (-22), 3) := by decide +kernel
theorem dX8_digest_31 : decode cX8_digest 31 = .ok (.iconst 0, 1) := by decide +kernel
theorem dX8_digest_32 : decode cX8_digest 32 = .ok (.istore_n 3, 1) := by decide +kernel
theorem dX8_digest_33 : decode cX8_digest 33 = .ok (.iload_n 3, 1) := by decide +kernel
theorem dX8_digest_34 : decode cX8_digest 34 = .ok (.aload_n 0, 1) := by decide +kernel
theorem dX8_digest_35 : decode cX8_digest 35 = .ok (.getfield 31, 3) := by decide +kernel
theorem dX8_digest_38 : decode cX8_digest 38 = .ok (.getfield 158, 3) := by decide +kernel
theorem dX8_digest_41 : decode cX8_digest 41 = .ok (.if_icmp .ge 43, 3) := by decide +kernel
theorem dX8_digest_44 : decode cX8_digest 44 = .ok (.iconst 0, 1) := by decide +kernel
theorem dX8_digest_45 : decode cX8_digest 45 = .ok (.istore 4, 2) := by decide +kernel
theorem dX8_digest_47 : decode cX8_digest 47 = .ok (.iload 4, 2) := by decide +kernel
theorem dX8_digest_49 : decode cX8_digest 49 = .ok (.bipush 8, 2) := by decide +kernel
theorem dX8_digest_51 : decode cX8_digest 51 = .ok (.if_icmp .ge 27, 3) := by decide +kernel
theorem dX8_digest_54 : decode cX8_digest 54 = .ok (.ldc2_w 314, 3) := by decide +kernel
theorem dX8_digest_57 : decode cX8_digest 57 = .ok (.lload_n 1, 1) := by decide +kernel
theorem dX8_digest_58 : decode cX8_digest 58 = .ok (.lmul, 1) := by decide +kernel
theorem dX8_digest_59 : decode cX8_digest 59 = .ok (.aload_n 0, 1) := by decide +kernel
theorem dX8_digest_60 : decode cX8_digest 60 = .ok (.getfield 31, 3) := by decide +kernel
theorem dX8_digest_63 : decode cX8_digest 63 = .ok (.iload_n 3, 1) := by decide +kernel
theorem dX8_digest_64 : decode cX8_digest 64 = .ok (.iload 4, 2) := by decide +kernel
theorem dX8_digest_66 : decode cX8_digest 66 = .ok (.invokevirtual 164, 3) := by decide +kernel
theorem dX8_digest_69 : decode cX8_digest 69 = .ok (.i2l, 1) := by decide +kernel
theorem dX8_digest_70 : decode cX8_digest 70 = .ok (.ladd, 1) := by decide +kernel
theorem dX8_digest_71 : decode cX8_digest 71 = .ok (.lstore_n 1, 1) := by decide +kernel
theorem dX8_digest_72 : decode cX8_digest 72 = .ok (.iinc 4 1, 3) := by decide +kernel
theorem dX8_digest_75 : decode cX8_digest 75 = .ok (.goto (-28), 3) := by decide +kernel
theorem dX8_digest_78 : decode cX8_digest 78 = .ok (.iinc 3 1, 3) := by decide +kernel
theorem dX8_digest_81 : decode cX8_digest 81 = .ok (.goto (-48), 3) := by decide +kernel
theorem dX8_digest_84 : decode cX8_digest 84 = .ok (.iconst 0, 1) := by decide +kernel
theorem dX8_digest_85 : decode cX8_digest 85 = .ok (.istore_n 3, 1) := by decide +kernel
theorem dX8_digest_86 : decode cX8_digest 86 = .ok (.iload_n 3, 1) := by decide +kernel
theorem dX8_digest_87 : decode cX8_digest 87 = .ok (.iconst 3, 1) := by decide +kernel
theorem dX8_digest_88 : decode cX8_digest 88 = .ok (.if_icmp .ge 25, 3) := by decide +kernel
theorem dX8_digest_91 : decode cX8_digest 91 = .ok (.ldc2_w 314, 3) := by decide +kernel
theorem dX8_digest_94 : decode cX8_digest 94 = .ok (.lload_n 1, 1) := by decide +kernel
theorem dX8_digest_95 : decode cX8_digest 95 = .ok (.lmul, 1) := by decide +kernel
theorem dX8_digest_96 : decode cX8_digest 96 = .ok (.aload_n 0, 1) := by decide +kernel
theorem dX8_digest_97 : decode cX8_digest 97 = .ok (.getfield 21, 3) := by decide +kernel
theorem dX8_digest_100 : decode cX8_digest 100 = .ok (.iload_n 3, 1) := by decide +kernel
theorem dX8_digest_101 : decode cX8_digest 101 = .ok (.invokevirtual 142, 3) := by decide +kernel
theorem dX8_digest_104 : decode cX8_digest 104 = .ok (.i2l, 1) := by decide +kernel
theorem dX8_digest_105 : decode cX8_digest 105 = .ok (.ladd, 1) := by decide +kernel
theorem dX8_digest_106 : decode cX8_digest 106 = .ok (.lstore_n 1, 1) := by decide +kernel
theorem dX8_digest_107 : decode cX8_digest 107 = .ok (.iinc 3 1, 3) := by decide +kernel
theorem dX8_digest_110 : decode cX8_digest 110 = .ok (.goto (-24), 3) := by decide +kernel
theorem dX8_digest_113 : decode cX8_digest 113 = .ok (.aload_n 0, 1) := by decide +kernel
theorem dX8_digest_114 : decode cX8_digest 114 = .ok (.getfield 18, 3) := by decide +kernel
theorem dX8_digest_117 : decode cX8_digest 117 = .ok (.aload_n 0, 1) := by decide +kernel
theorem dX8_digest_118 : decode cX8_digest 118 = .ok (.getfield 14, 3) := by decide +kernel
theorem dX8_digest_121 : decode cX8_digest 121 = .ok (.lload_n 1, 1) := by decide +kernel
theorem dX8_digest_122 : decode cX8_digest 122 = .ok (.invokevirtual 319, 3) := by decide +kernel
theorem dX8_digest_125 : decode cX8_digest 125 = .ok (.invokevirtual 319, 3) := by decide +kernel
theorem dX8_digest_128 : decode cX8_digest 128 = .ok (.lreturn, 1) := by decide +kernel
theorem dX8_tell_0 : decode cX8_tell 0 = .ok (.aload_n 0, 1) := by decide +kernel
theorem dX8_tell_1 : decode cX8_tell 1 = .ok (.iload_n 1, 1) := by decide +kernel
theorem dX8_tell_2 : decode cX8_tell 2 = .ok (.putfield 80, 3) := by decide +kernel
theorem dX8_tell_5 : decode cX8_tell 5 = .ok (.iconst 1, 1) := by decide +kernel
theorem dX8_tell_6 : decode cX8_tell 6 = .ok (.ireturn, 1) := by decide +kernel
theorem dX8_refuse_0 : decode cX8_refuse 0 = .ok (.aload_n 0, 1) := by decide +kernel
theorem dX8_refuse_1 : decode cX8_refuse 1 = .ok (.iload_n 1, 1) := by decide +kernel
theorem dX8_refuse_2 : decode cX8_refuse 2 = .ok (.putfield 90, 3) := by decide +kernel
theorem dX8_refuse_5 : decode cX8_refuse 5 = .ok (.aload_n 0, 1) := by decide +kernel
theorem dX8_refuse_6 : decode cX8_refuse 6 = .ok (.getfield 93, 3) := by decide +kernel
theorem dX8_refuse_9 : decode cX8_refuse 9 = .ok (.iload_n 1, 1) := by decide +kernel
theorem dX8_refuse_10 : decode cX8_refuse 10 = .ok (.aload_n 0, 1) := by decide +kernel
theorem dX8_refuse_11 : decode cX8_refuse 11 = .ok (.getfield 93, 3) := by decide +kernel
theorem dX8_refuse_14 : decode cX8_refuse 14 = .ok (.iload_n 1, 1) := by decide +kernel
theorem dX8_refuse_15 : decode cX8_refuse 15 = .ok (.invokestatic 308, 3) := by decide +kernel
theorem dX8_refuse_18 : decode cX8_refuse 18 = .ok (.iconst 1, 1) := by decide +kernel
theorem dX8_refuse_19 : decode cX8_refuse 19 = .ok (.iadd, 1) := by decide +kernel
theorem dX8_refuse_20 : decode cX8_refuse 20 = .ok (.invokestatic 201, 3) := by decide +kernel
theorem dX8_refuse_23 : decode cX8_refuse 23 = .ok (.bipush (-3), 2) := by decide +kernel
theorem dX8_refuse_25 : decode cX8_refuse 25 = .ok (.ireturn, 1) := by decide +kernel
theorem dX8_makeAnew_0 : decode cX8_makeAnew 0 = .ok (.aload_n 1, 1) := by decide +kernel
theorem dX8_makeAnew_1 : decode cX8_makeAnew 1 = .ok (.iload_n 2, 1) := by decide +kernel
theorem dX8_makeAnew_2 : decode cX8_makeAnew 2 = .ok (.invokevirtual 124, 3) := by decide +kernel
theorem dX8_makeAnew_5 : decode cX8_makeAnew 5 = .ok (.ifCond .eq 11, 3) := by decide +kernel
theorem dX8_makeAnew_8 : decode cX8_makeAnew 8 = .ok (.iload_n 3, 1) := by decide +kernel
theorem dX8_makeAnew_9 : decode cX8_makeAnew 9 = .ok (.aload_n 1, 1) := by decide +kernel
theorem dX8_makeAnew_10 : decode cX8_makeAnew 10 = .ok (.getfield 323, 3) := by decide +kernel
theorem dX8_makeAnew_13 : decode cX8_makeAnew 13 = .ok (.if_icmp .le 5, 3) := by decide +kernel
theorem dX8_makeAnew_16 : decode cX8_makeAnew 16 = .ok (.iconst (-1), 1) := by decide +kernel
theorem dX8_makeAnew_17 : decode cX8_makeAnew 17 = .ok (.ireturn, 1) := by decide +kernel
theorem dX8_makeAnew_18 : decode cX8_makeAnew 18 = .ok (.iload_n 3, 1) := by decide +kernel
theorem dX8_makeAnew_19 : decode cX8_makeAnew 19 = .ok (.ifCond .ge 9, 3) := by decide +kernel
theorem dX8_makeAnew_22 : decode cX8_makeAnew 22 = .ok (.aload_n 0, 1) := by decide +kernel
theorem dX8_makeAnew_23 : decode cX8_makeAnew 23 = .ok (.iconst 5, 1) := by decide +kernel
theorem dX8_makeAnew_24 : decode cX8_makeAnew 24 = .ok (.invokevirtual 128, 3) := by decide +kernel
theorem dX8_makeAnew_27 : decode cX8_makeAnew 27 = .ok (.ireturn, 1) := by decide +kernel
theorem dX8_makeAnew_28 : decode cX8_makeAnew 28 = .ok (.aload_n 1, 1) := by decide +kernel
theorem dX8_makeAnew_29 : decode cX8_makeAnew 29 = .ok (.iload_n 2, 1) := by decide +kernel
theorem dX8_makeAnew_30 : decode cX8_makeAnew 30 = .ok (.iload_n 3, 1) := by decide +kernel
theorem dX8_makeAnew_31 : decode cX8_makeAnew 31 = .ok (.iload 4, 2) := by decide +kernel
theorem dX8_makeAnew_33 : decode cX8_makeAnew 33 = .ok (.invokevirtual 326, 3) := by decide +kernel
theorem dX8_makeAnew_36 : decode cX8_makeAnew 36 = .ok (.iload_n 3, 1) := by decide +kernel
theorem dX8_makeAnew_37 : decode cX8_makeAnew 37 = .ok (.ireturn, 1) := by decide +kernel
theorem dX8_refusalOfMissing_0 : decode cX8_refusalOfMissing 0 = .ok (.aload_n 1, 1) := by decide +kernel
theorem dX8_refusalOfMissing_1 : decode cX8_refusalOfMissing 1 = .ok (.iload_n 2, 1) := by decide +kernel
theorem dX8_refusalOfMissing_2 : decode cX8_refusalOfMissing 2 = .ok (.invokevirtual 124, 3) := by decide +kernel
theorem dX8_refusalOfMissing_5 : decode cX8_refusalOfMissing 5 = .ok (.ifCond .ne 5, 3) := by decide +kernel
theorem dX8_refusalOfMissing_8 : decode cX8_refusalOfMissing 8 = .ok (.iconst (-1), 1) := by decide +kernel
theorem dX8_refusalOfMissing_9 : decode cX8_refusalOfMissing 9 = .ok (.ireturn, 1) := by decide +kernel
theorem dX8_refusalOfMissing_10 : decode cX8_refusalOfMissing 10 = .ok (.aload_n 1, 1) := by decide +kernel
theorem dX8_refusalOfMissing_11 : decode cX8_refusalOfMissing 11 = .ok (.iload_n 2, 1) := by decide +kernel
theorem dX8_refusalOfMissing_12 : decode cX8_refusalOfMissing 12 = .ok (.invokevirtual 131, 3) := by decide +kernel
theorem dX8_refusalOfMissing_15 : decode cX8_refusalOfMissing 15 = .ok (.ifCond .eq 7, 3) := by decide +kernel
theorem dX8_refusalOfMissing_18 : decode cX8_refusalOfMissing 18 = .ok (.iconst 0, 1) := by decide +kernel
theorem dX8_refusalOfMissing_19 : decode cX8_refusalOfMissing 19 = .ok (.goto 8, 3) := by decide +kernel
theorem dX8_refusalOfMissing_22 : decode cX8_refusalOfMissing 22 = .ok (.aload_n 0, 1) := by decide +kernel
theorem dX8_refusalOfMissing_23 : decode cX8_refusalOfMissing 23 = .ok (.iconst 1, 1) := by decide +kernel
theorem dX8_refusalOfMissing_24 : decode cX8_refusalOfMissing 24 = .ok (.invokevirtual 128, 3) := by decide +kernel
theorem dX8_refusalOfMissing_27 : decode cX8_refusalOfMissing 27 = .ok (.ireturn, 1) := by decide +kernel
theorem dX8_refusalOfPlace_0 : decode cX8_refusalOfPlace 0 = .ok (.aload_n 0, 1) := by decide +kernel
theorem dX8_refusalOfPlace_1 : decode cX8_refusalOfPlace 1 = .ok (.aload_n 1, 1) := by decide +kernel
theorem dX8_refusalOfPlace_2 : decode cX8_refusalOfPlace 2 = .ok (.iload_n 2, 1) := by decide +kernel
theorem dX8_refusalOfPlace_3 : decode cX8_refusalOfPlace 3 = .ok (.invokevirtual 116, 3) := by decide +kernel
theorem dX8_refusalOfPlace_6 : decode cX8_refusalOfPlace 6 = .ok (.istore 4, 2) := by decide +kernel
theorem dX8_refusalOfPlace_8 : decode cX8_refusalOfPlace 8 = .ok (.iload 4, 2) := by decide +kernel
theorem dX8_refusalOfPlace_10 : decode cX8_refusalOfPlace 10 = .ok (.ifCond .eq 6, 3) := by decide +kernel
theorem dX8_refusalOfPlace_13 : decode cX8_refusalOfPlace 13 = .ok (.iload 4, 2) := by decide +kernel
theorem dX8_refusalOfPlace_15 : decode cX8_refusalOfPlace 15 = .ok (.ireturn, 1) := by decide +kernel
theorem dX8_refusalOfPlace_16 : decode cX8_refusalOfPlace 16 = .ok (.aload_n 1, 1) := by decide +kernel
theorem dX8_refusalOfPlace_17 : decode cX8_refusalOfPlace 17 = .ok (.iload_n 2, 1) := by decide +kernel
theorem dX8_refusalOfPlace_18 : decode cX8_refusalOfPlace 18 = .ok (.iload_n 3, 1) := by decide +kernel
theorem dX8_refusalOfPlace_19 : decode cX8_refusalOfPlace 19 = .ok (.iconst 1, 1) := by decide +kernel
theorem dX8_refusalOfPlace_20 : decode cX8_refusalOfPlace 20 = .ok (.invokevirtual 134, 3) := by decide +kernel
theorem dX8_refusalOfPlace_23 : decode cX8_refusalOfPlace 23 = .ok (.ifCond .eq 7, 3) := by decide +kernel
theorem dX8_refusalOfPlace_26 : decode cX8_refusalOfPlace 26 = .ok (.iconst 0, 1) := by decide +kernel
theorem dX8_refusalOfPlace_27 : decode cX8_refusalOfPlace 27 = .ok (.goto 8, 3) := by decide +kernel
theorem dX8_refusalOfPlace_30 : decode cX8_refusalOfPlace 30 = .ok (.aload_n 0, 1) := by decide +kernel
theorem dX8_refusalOfPlace_31 : decode cX8_refusalOfPlace 31 = .ok (.iconst 2, 1) := by decide +kernel
theorem dX8_refusalOfPlace_32 : decode cX8_refusalOfPlace 32 = .ok (.invokevirtual 128, 3) := by decide +kernel
theorem dX8_refusalOfPlace_35 : decode cX8_refusalOfPlace 35 = .ok (.ireturn, 1) := by decide +kernel
theorem dX8_takePairs_0 : decode cX8_takePairs 0 = .ok (.aload_n 0, 1) := by decide +kernel
theorem dX8_takePairs_1 : decode cX8_takePairs 1 = .ok (.getfield 31, 3) := by decide +kernel
theorem dX8_takePairs_4 : decode cX8_takePairs 4 = .ok (.iload_n 1, 1) := by decide +kernel
theorem dX8_takePairs_5 : decode cX8_takePairs 5 = .ok (.invokevirtual 161, 3) := by decide +kernel
theorem dX8_takePairs_8 : decode cX8_takePairs 8 = .ok (.ifCond .ne 5, 3) := by decide +kernel
theorem dX8_takePairs_11 : decode cX8_takePairs 11 = .ok (.iconst (-1), 1) := by decide +kernel
theorem dX8_takePairs_12 : decode cX8_takePairs 12 = .ok (.ireturn, 1) := by decide +kernel
theorem dX8_takePairs_13 : decode cX8_takePairs 13 = .ok (.aload_n 0, 1) := by decide +kernel
theorem dX8_takePairs_14 : decode cX8_takePairs 14 = .ok (.aload_n 0, 1) := by decide +kernel
theorem dX8_takePairs_15 : decode cX8_takePairs 15 = .ok (.getfield 14, 3) := by decide +kernel
theorem dX8_takePairs_18 : decode cX8_takePairs 18 = .ok (.iload_n 2, 1) := by decide +kernel
theorem dX8_takePairs_19 : decode cX8_takePairs 19 = .ok (.invokevirtual 116, 3) := by decide +kernel
theorem dX8_takePairs_22 : decode cX8_takePairs 22 = .ok (.istore_n 3, 1) := by decide +kernel
theorem dX8_takePairs_23 : decode cX8_takePairs 23 = .ok (.iload_n 3, 1) := by decide +kernel
theorem dX8_takePairs_24 : decode cX8_takePairs 24 = .ok (.ifCond .eq 5, 3) := by decide +kernel
theorem dX8_takePairs_27 : decode cX8_takePairs 27 = .ok (.iload_n 3, 1) := by decide +kernel
theorem dX8_takePairs_28 : decode cX8_takePairs 28 = .ok (.ireturn, 1) := by decide +kernel
theorem dX8_takePairs_29 : decode cX8_takePairs 29 = .ok (.aload_n 0, 1) := by decide +kernel
theorem dX8_takePairs_30 : decode cX8_takePairs 30 = .ok (.getfield 14, 3) := by decide +kernel
theorem dX8_takePairs_33 : decode cX8_takePairs 33 = .ok (.iload_n 2, 1) := by decide +kernel
theorem dX8_takePairs_34 : decode cX8_takePairs 34 = .ok (.invokevirtual 142, 3) := by decide +kernel
theorem dX8_takePairs_37 : decode cX8_takePairs 37 = .ok (.iconst 2, 1) := by decide +kernel
theorem dX8_takePairs_38 : decode cX8_takePairs 38 = .ok (.irem, 1) := by decide +kernel
theorem dX8_takePairs_39 : decode cX8_takePairs 39 = .ok (.ifCond .eq 9, 3) := by decide +kernel
theorem dX8_takePairs_42 : decode cX8_takePairs 42 = .ok (.aload_n 0, 1) := by decide +kernel
theorem dX8_takePairs_43 : decode cX8_takePairs 43 = .ok (.iconst 5, 1) := by decide +kernel
theorem dX8_takePairs_44 : decode cX8_takePairs 44 = .ok (.invokevirtual 128, 3) := by decide +kernel
theorem dX8_takePairs_47 : decode cX8_takePairs 47 = .ok (.ireturn, 1) := by decide +kernel
theorem dX8_takePairs_48 : decode cX8_takePairs 48 = .ok (.aload_n 0, 1) := by decide +kernel
theorem dX8_takePairs_49 : decode cX8_takePairs 49 = .ok (.getfield 69, 3) := by decide +kernel
theorem dX8_takePairs_52 : decode cX8_takePairs 52 = .ok (.aload_n 0, 1) := by decide +kernel
theorem dX8_takePairs_53 : decode cX8_takePairs 53 = .ok (.getfield 14, 3) := by decide +kernel
theorem dX8_takePairs_56 : decode cX8_takePairs 56 = .ok (.iload_n 2, 1) := by decide +kernel
theorem dX8_takePairs_57 : decode cX8_takePairs 57 = .ok (.invokevirtual 329, 3) := by decide +kernel
theorem dX8_takePairs_60 : decode cX8_takePairs 60 = .ok (.ifCond .eq 7, 3) := by decide +kernel
theorem dX8_takePairs_63 : decode cX8_takePairs 63 = .ok (.iconst 0, 1) := by decide +kernel
theorem dX8_takePairs_64 : decode cX8_takePairs 64 = .ok (.goto 8, 3) := by decide +kernel
theorem dX8_takePairs_67 : decode cX8_takePairs 67 = .ok (.aload_n 0, 1) := by decide +kernel
theorem dX8_takePairs_68 : decode cX8_takePairs 68 = .ok (.iconst 3, 1) := by decide +kernel
theorem dX8_takePairs_69 : decode cX8_takePairs 69 = .ok (.invokevirtual 128, 3) := by decide +kernel
theorem dX8_takePairs_72 : decode cX8_takePairs 72 = .ok (.ireturn, 1) := by decide +kernel
theorem dX8_isRound_0 : decode cX8_isRound 0 = .ok (.iconst 0, 1) := by decide +kernel
theorem dX8_isRound_1 : decode cX8_isRound 1 = .ok (.istore_n 2, 1) := by decide +kernel
theorem dX8_isRound_2 : decode cX8_isRound 2 = .ok (.iload_n 2, 1) := by decide +kernel
theorem dX8_isRound_3 : decode cX8_isRound 3 = .ok (.aload_n 0, 1) := by decide +kernel
theorem dX8_isRound_4 : decode cX8_isRound 4 = .ok (.getfield 14, 3) := by decide +kernel
theorem dX8_isRound_7 : decode cX8_isRound 7 = .ok (.iload_n 1, 1) := by decide +kernel
theorem dX8_isRound_8 : decode cX8_isRound 8 = .ok (.invokevirtual 142, 3) := by decide +kernel
theorem dX8_isRound_11 : decode cX8_isRound 11 = .ok (.if_icmp .ge 38, 3) := by decide +kernel
theorem dX8_isRound_14 : decode cX8_isRound 14 = .ok (.aload_n 0, 1) := by decide +kernel
theorem dX8_isRound_15 : decode cX8_isRound 15 = .ok (.getfield 14, 3) := by decide +kernel
theorem dX8_isRound_18 : decode cX8_isRound 18 = .ok (.iload_n 1, 1) := by decide +kernel
theorem dX8_isRound_19 : decode cX8_isRound 19 = .ok (.iload_n 2, 1) := by decide +kernel
theorem dX8_isRound_20 : decode cX8_isRound 20 = .ok (.invokevirtual 104, 3) := by decide +kernel
theorem dX8_isRound_23 : decode cX8_isRound 23 = .ok (.istore_n 3, 1) := by decide +kernel
theorem dX8_isRound_24 : decode cX8_isRound 24 = .ok (.iload_n 3, 1) := by decide +kernel
theorem dX8_isRound_25 : decode cX8_isRound 25 = .ok (.bipush (-9), 2) := by decide +kernel
theorem dX8_isRound_27 : decode cX8_isRound 27 = .ok (.if_icmp .eq 16, 3) := by decide +kernel
theorem dX8_isRound_30 : decode cX8_isRound 30 = .ok (.aload_n 0, 1) := by decide +kernel
theorem dX8_isRound_31 : decode cX8_isRound 31 = .ok (.getfield 31, 3) := by decide +kernel
theorem dX8_isRound_34 : decode cX8_isRound 34 = .ok (.iload_n 3, 1) := by decide +kernel
theorem dX8_isRound_35 : decode cX8_isRound 35 = .ok (.invokevirtual 161, 3) := by decide +kernel
theorem dX8_isRound_38 : decode cX8_isRound 38 = .ok (.ifCond .ne 5, 3) := by decide +kernel
theorem dX8_isRound_41 : decode cX8_isRound 41 = .ok (.iconst 0, 1) := by decide +kernel
theorem dX8_isRound_42 : decode cX8_isRound 42 = .ok (.ireturn, 1) := by decide +kernel
theorem dX8_isRound_43 : decode cX8_isRound 43 = .ok (.iinc 2 1, 3) := by decide +kernel
theorem dX8_isRound_46 : decode cX8_isRound 46 = .ok (.goto (-44), 3) := by decide +kernel
theorem dX8_isRound_49 : decode cX8_isRound 49 = .ok (.iconst 1, 1) := by decide +kernel
theorem dX8_isRound_50 : decode cX8_isRound 50 = .ok (.ireturn, 1) := by decide +kernel
theorem dX8_enact_0 : decode cX8_enact 0 = .ok (.bipush 100, 2) := by decide +kernel
theorem dX8_enact_2 : decode cX8_enact 2 = .ok (.iload_n 1, 1) := by decide +kernel
theorem dX8_enact_3 : decode cX8_enact 3 = .ok (.imul, 1) := by decide +kernel
theorem dX8_enact_4 : decode cX8_enact 4 = .ok (.bipush 10, 2) := by decide +kernel
theorem dX8_enact_6 : decode cX8_enact 6 = .ok (.iload_n 2, 1) := by decide +kernel
theorem dX8_enact_7 : decode cX8_enact 7 = .ok (.imul, 1) := by decide +kernel
theorem dX8_enact_8 : decode cX8_enact 8 = .ok (.iadd, 1) := by decide +kernel
theorem dX8_enact_9 : decode cX8_enact 9 = .ok (.iload_n 3, 1) := by decide +kernel
theorem dX8_enact_10 : decode cX8_enact 10 = .ok (.iadd, 1) := by decide +kernel
theorem dX8_enact_11 : decode cX8_enact 11 = .ok (.istore 4, 2) := by decide +kernel
theorem dX8_enact_13 : decode cX8_enact 13 = .ok (.aload_n 0, 1) := by decide +kernel
theorem dX8_enact_14 : decode cX8_enact 14 = .ok (.getfield 37, 3) := by decide +kernel
theorem dX8_enact_17 : decode cX8_enact 17 = .ok (.aload_n 0, 1) := by decide +kernel
theorem dX8_enact_18 : decode cX8_enact 18 = .ok (.getfield 41, 3) := by decide +kernel
theorem dX8_enact_21 : decode cX8_enact 21 = .ok (.iload 4, 2) := by decide +kernel
theorem dX8_enact_23 : decode cX8_enact 23 = .ok (.invokestatic 201, 3) := by decide +kernel
theorem dX8_enact_26 : decode cX8_enact 26 = .ok (.aload_n 0, 1) := by decide +kernel
theorem dX8_enact_27 : decode cX8_enact 27 = .ok (.dup, 1) := by decide +kernel
theorem dX8_enact_28 : decode cX8_enact 28 = .ok (.getfield 41, 3) := by decide +kernel
theorem dX8_enact_31 : decode cX8_enact 31 = .ok (.iconst 1, 1) := by decide +kernel
theorem dX8_enact_32 : decode cX8_enact 32 = .ok (.iadd, 1) := by decide +kernel
theorem dX8_enact_33 : decode cX8_enact 33 = .ok (.putfield 41, 3) := by decide +kernel
theorem dX8_enact_36 : decode cX8_enact 36 = .ok (.aload_n 0, 1) := by decide +kernel
theorem dX8_enact_37 : decode cX8_enact 37 = .ok (.getfield 31, 3) := by decide +kernel
theorem dX8_enact_40 : decode cX8_enact 40 = .ok (.iload 4, 2) := by decide +kernel
theorem dX8_enact_42 : decode cX8_enact 42 = .ok (.invokevirtual 333, 3) := by decide +kernel
theorem dX8_enact_45 : decode cX8_enact 45 = .ok (.ireturn, 1) := by decide +kernel
theorem dX8_redoFromStart_0 : decode cX8_redoFromStart 0 = .ok (.aload_n 0, 1) := by decide +kernel
theorem dX8_redoFromStart_1 : decode cX8_redoFromStart 1 = .ok (.getfield 31, 3) := by decide +kernel
theorem dX8_redoFromStart_4 : decode cX8_redoFromStart 4 = .ok (.aload_n 0, 1) := by decide +kernel
theorem dX8_redoFromStart_5 : decode cX8_redoFromStart 5 = .ok (.getfield 27, 3) := by decide +kernel
theorem dX8_redoFromStart_8 : decode cX8_redoFromStart 8 = .ok (.invokevirtual 151, 3) := by decide +kernel
theorem dX8_redoFromStart_11 : decode cX8_redoFromStart 11 = .ok (.iconst 0, 1) := by decide +kernel
theorem dX8_redoFromStart_12 : decode cX8_redoFromStart 12 = .ok (.istore_n 1, 1) := by decide +kernel
theorem dX8_redoFromStart_13 : decode cX8_redoFromStart 13 = .ok (.iload_n 1, 1) := by decide +kernel
theorem dX8_redoFromStart_14 : decode cX8_redoFromStart 14 = .ok (.aload_n 0, 1) := by decide +kernel
theorem dX8_redoFromStart_15 : decode cX8_redoFromStart 15 = .ok (.getfield 41, 3) := by decide +kernel
theorem dX8_redoFromStart_18 : decode cX8_redoFromStart 18 = .ok (.if_icmp .ge 25, 3) := by decide +kernel
theorem dX8_redoFromStart_21 : decode cX8_redoFromStart 21 = .ok (.aload_n 0, 1) := by decide +kernel
theorem dX8_redoFromStart_22 : decode cX8_redoFromStart 22 = .ok (.getfield 31, 3) := by decide +kernel
theorem dX8_redoFromStart_25 : decode cX8_redoFromStart 25 = .ok (.aload_n 0, 1) := by decide +kernel
theorem dX8_redoFromStart_26 : decode cX8_redoFromStart 26 = .ok (.getfield 37, 3) := by decide +kernel
theorem dX8_redoFromStart_29 : decode cX8_redoFromStart 29 = .ok (.iload_n 1, 1) := by decide +kernel
theorem dX8_redoFromStart_30 : decode cX8_redoFromStart 30 = .ok (.invokestatic 308, 3) := by decide +kernel
theorem dX8_redoFromStart_33 : decode cX8_redoFromStart 33 = .ok (.invokevirtual 333, 3) := by decide +kernel
theorem dX8_redoFromStart_36 : decode cX8_redoFromStart 36 = .ok (.pop, 1) := by decide +kernel
theorem dX8_redoFromStart_37 : decode cX8_redoFromStart 37 = .ok (.iinc 1 1, 3) := by decide +kernel
theorem dX8_redoFromStart_40 : decode cX8_redoFromStart 40 = .ok (.goto (-27), 3) := by decide +kernel
theorem dX8_redoFromStart_43 : decode cX8_redoFromStart 43 = .ok (.return_, 1) := by decide +kernel
theorem dX8_tellChance_0 : decode cX8_tellChance 0 = .ok (.lload_n 1, 1) := by decide +kernel
theorem dX8_tellChance_1 : decode cX8_tellChance 1 = .ok (.lload_n 3, 1) := by decide +kernel
theorem dX8_tellChance_2 : decode cX8_tellChance 2 = .ok (.invokestatic 336, 3) := by decide +kernel
theorem dX8_tellChance_5 : decode cX8_tellChance 5 = .ok (.lstore 5, 2) := by decide +kernel
theorem dX8_tellChance_7 : decode cX8_tellChance 7 = .ok (.lload 5, 2) := by decide +kernel
theorem dX8_tellChance_9 : decode cX8_tellChance 9 = .ok (.lconst 0, 1) := by decide +kernel
theorem dX8_tellChance_10 : decode cX8_tellChance 10 = .ok (.lcmp, 1) := by decide +kernel
theorem dX8_tellChance_11 : decode cX8_tellChance 11 = .ok (.ifCond .le 19, 3) := by decide +kernel
theorem dX8_tellChance_14 : decode cX8_tellChance 14 = .ok (.aload_n 0, 1) := by decide +kernel
theorem dX8_tellChance_15 : decode cX8_tellChance 15 = .ok (.lload_n 1, 1) := by decide +kernel
theorem dX8_tellChance_16 : decode cX8_tellChance 16 = .ok (.lload 5, 2) := by decide +kernel
theorem dX8_tellChance_18 : decode cX8_tellChance 18 = .ok (.ldiv, 1) := by decide +kernel
theorem dX8_tellChance_19 : decode cX8_tellChance 19 = .ok (.putfield 83, 3) := by decide +kernel
theorem dX8_tellChance_22 : decode cX8_tellChance 22 = .ok (.aload_n 0, 1) := by decide +kernel
theorem dX8_tellChance_23 : decode cX8_tellChance 23 = .ok (.lload_n 3, 1) := by decide +kernel
theorem dX8_tellChance_24 : decode cX8_tellChance 24 = .ok (.lload 5, 2) := by decide +kernel
theorem dX8_tellChance_26 : decode cX8_tellChance 26 = .ok (.ldiv, 1) := by decide +kernel
theorem dX8_tellChance_27 : decode cX8_tellChance 27 = .ok (.putfield 87, 3) := by decide +kernel
theorem dX8_tellChance_30 : decode cX8_tellChance 30 = .ok (.iconst 1, 1) := by decide +kernel
theorem dX8_tellChance_31 : decode cX8_tellChance 31 = .ok (.ireturn, 1) := by decide +kernel
theorem dX8_waysOfReport_0 : decode cX8_waysOfReport 0 = .ok (.iload_n 1, 1) := by decide +kernel
theorem dX8_waysOfReport_1 : decode cX8_waysOfReport 1 = .ok (.iload_n 0, 1) := by decide +kernel
theorem dX8_waysOfReport_2 : decode cX8_waysOfReport 2 = .ok (.iconst (-1), 1) := by decide +kernel
theorem dX8_waysOfReport_3 : decode cX8_waysOfReport 3 = .ok (.ixor, 1) := by decide +kernel
theorem dX8_waysOfReport_4 : decode cX8_waysOfReport 4 = .ok (.iand, 1) := by decide +kernel
theorem dX8_waysOfReport_5 : decode cX8_waysOfReport 5 = .ok (.istore_n 3, 1) := by decide +kernel
theorem dX8_waysOfReport_6 : decode cX8_waysOfReport 6 = .ok (.iload_n 2, 1) := by decide +kernel
theorem dX8_waysOfReport_7 : decode cX8_waysOfReport 7 = .ok (.iload_n 0, 1) := by decide +kernel
theorem dX8_waysOfReport_8 : decode cX8_waysOfReport 8 = .ok (.invokestatic 267, 3) := by decide +kernel
theorem dX8_waysOfReport_11 : decode cX8_waysOfReport 11 = .ok (.invokestatic 276, 3) := by decide +kernel
theorem dX8_waysOfReport_14 : decode cX8_waysOfReport 14 = .ok (.bipush 12, 2) := by decide +kernel
theorem dX8_waysOfReport_16 : decode cX8_waysOfReport 16 = .ok (.iload_n 2, 1) := by decide +kernel
theorem dX8_waysOfReport_17 : decode cX8_waysOfReport 17 = .ok (.isub, 1) := by decide +kernel
theorem dX8_waysOfReport_18 : decode cX8_waysOfReport 18 = .ok (.iload_n 3, 1) := by decide +kernel
theorem dX8_waysOfReport_19 : decode cX8_waysOfReport 19 = .ok (.invokestatic 267, 3) := by decide +kernel
theorem dX8_waysOfReport_22 : decode cX8_waysOfReport 22 = .ok (.invokestatic 276, 3) := by decide +kernel
theorem dX8_waysOfReport_25 : decode cX8_waysOfReport 25 = .ok (.lmul, 1) := by decide +kernel
theorem dX8_waysOfReport_26 : decode cX8_waysOfReport 26 = .ok (.lreturn, 1) := by decide +kernel
theorem dX8_power_0 : decode cX8_power 0 = .ok (.lconst 1, 1) := by decide +kernel
theorem dX8_power_1 : decode cX8_power 1 = .ok (.lstore_n 2, 1) := by decide +kernel
theorem dX8_power_2 : decode cX8_power 2 = .ok (.iconst 0, 1) := by decide +kernel
theorem dX8_power_3 : decode cX8_power 3 = .ok (.istore 4, 2) := by decide +kernel
theorem dX8_power_5 : decode cX8_power 5 = .ok (.iload 4, 2) := by decide +kernel
theorem dX8_power_7 : decode cX8_power 7 = .ok (.iload_n 1, 1) := by decide +kernel
theorem dX8_power_8 : decode cX8_power 8 = .ok (.if_icmp .ge 14, 3) := by decide +kernel
theorem dX8_power_11 : decode cX8_power 11 = .ok (.lload_n 2, 1) := by decide +kernel
theorem dX8_power_12 : decode cX8_power 12 = .ok (.iload_n 0, 1) := by decide +kernel
theorem dX8_power_13 : decode cX8_power 13 = .ok (.i2l, 1) := by decide +kernel
theorem dX8_power_14 : decode cX8_power 14 = .ok (.lmul, 1) := by decide +kernel
theorem dX8_power_15 : decode cX8_power 15 = .ok (.lstore_n 2, 1) := by decide +kernel
theorem dX8_power_16 : decode cX8_power 16 = .ok (.iinc 4 1, 3) := by decide +kernel
theorem dX8_power_19 : decode cX8_power 19 = .ok (.goto (-14), 3) := by decide +kernel
theorem dX8_power_22 : decode cX8_power 22 = .ok (.lload_n 2, 1) := by decide +kernel
theorem dX8_power_23 : decode cX8_power 23 = .ok (.lreturn, 1) := by decide +kernel
theorem dX8_commonDivisor_0 : decode cX8_commonDivisor 0 = .ok (.iconst 0, 1) := by decide +kernel
theorem dX8_commonDivisor_1 : decode cX8_commonDivisor 1 = .ok (.istore 4, 2) := by decide +kernel
theorem dX8_commonDivisor_3 : decode cX8_commonDivisor 3 = .ok (.iload 4, 2) := by decide +kernel
theorem dX8_commonDivisor_5 : decode cX8_commonDivisor 5 = .ok (.sipush 1000, 3) := by decide +kernel
theorem dX8_commonDivisor_8 : decode cX8_commonDivisor 8 = .ok (.if_icmp .ge 25, 3) := by decide +kernel
theorem dX8_commonDivisor_11 : decode cX8_commonDivisor 11 = .ok (.lload_n 2, 1) := by decide +kernel
theorem dX8_commonDivisor_12 : decode cX8_commonDivisor 12 = .ok (.lconst 0, 1) := by decide +kernel
theorem dX8_commonDivisor_13 : decode cX8_commonDivisor 13 = .ok (.lcmp, 1) := by decide +kernel
theorem dX8_commonDivisor_14 : decode cX8_commonDivisor 14 = .ok (.ifCond .eq 19, 3) := by decide +kernel
theorem dX8_commonDivisor_17 : decode cX8_commonDivisor 17 = .ok (.lload_n 0, 1) := by decide +kernel
theorem dX8_commonDivisor_18 : decode cX8_commonDivisor 18 = .ok (.lload_n 2, 1) := by decide +kernel
theorem dX8_commonDivisor_19 : decode cX8_commonDivisor 19 = .ok (.lrem, 1) := by decide +kernel
theorem dX8_commonDivisor_20 : decode cX8_commonDivisor 20 = .ok (.lstore 5, 2) := by decide +kernel
theorem dX8_commonDivisor_22 : decode cX8_commonDivisor 22 = .ok (.lload_n 2, 1) := by decide +kernel
theorem dX8_commonDivisor_23 : decode cX8_commonDivisor 23 = .ok (.lstore_n 0, 1) := by decide +kernel
theorem dX8_commonDivisor_24 : decode cX8_commonDivisor 24 = .ok (.lload 5, 2) := by decide +kernel
theorem dX8_commonDivisor_26 : decode cX8_commonDivisor 26 = .ok (.lstore_n 2, 1) := by decide +kernel
theorem dX8_commonDivisor_27 : decode cX8_commonDivisor 27 = .ok (.iinc 4 1, 3) := by decide +kernel
theorem dX8_commonDivisor_30 : decode cX8_commonDivisor 30 = .ok (.goto (-27), 3) := by decide +kernel
theorem dX8_commonDivisor_33 : decode cX8_commonDivisor 33 = .ok (.lload_n 0, 1) := by decide +kernel
theorem dX8_commonDivisor_34 : decode cX8_commonDivisor 34 = .ok (.lreturn, 1) := by decide +kernel
theorem dX8_read_0 : decode cX8_read 0 = .ok (.iload_n 1, 1) := by decide +kernel
theorem dX8_read_1 : decode cX8_read 1 = .ok (.ifCond .lt 15, 3) := by decide +kernel
theorem dX8_read_4 : decode cX8_read 4 = .ok (.iload_n 1, 1) := by decide +kernel
theorem dX8_read_5 : decode cX8_read 5 = .ok (.aload_n 0, 1) := by decide +kernel
theorem dX8_read_6 : decode cX8_read 6 = .ok (.arraylength, 1) := by decide +kernel
theorem dX8_read_7 : decode cX8_read 7 = .ok (.if_icmp .ge 9, 3) := by decide +kernel
theorem dX8_read_10 : decode cX8_read 10 = .ok (.aload_n 0, 1) := by decide +kernel
theorem dX8_read_11 : decode cX8_read 11 = .ok (.iload_n 1, 1) := by decide +kernel
theorem dX8_read_12 : decode cX8_read 12 = .ok (.iaload, 1) := by decide +kernel
theorem dX8_read_13 : decode cX8_read 13 = .ok (.goto 4, 3) := by decide +kernel
theorem dX8_read_16 : decode cX8_read 16 = .ok (.iconst 0, 1) := by decide +kernel
theorem dX8_read_17 : decode cX8_read 17 = .ok (.ireturn, 1) := by decide +kernel
theorem dX8_write_0 : decode cX8_write 0 = .ok (.iload_n 1, 1) := by decide +kernel
theorem dX8_write_1 : decode cX8_write 1 = .ok (.ifCond .lt 13, 3) := by decide +kernel
theorem dX8_write_4 : decode cX8_write 4 = .ok (.iload_n 1, 1) := by decide +kernel
theorem dX8_write_5 : decode cX8_write 5 = .ok (.aload_n 0, 1) := by decide +kernel
theorem dX8_write_6 : decode cX8_write 6 = .ok (.arraylength, 1) := by decide +kernel
theorem dX8_write_7 : decode cX8_write 7 = .ok (.if_icmp .ge 7, 3) := by decide +kernel
theorem dX8_write_10 : decode cX8_write 10 = .ok (.aload_n 0, 1) := by decide +kernel
theorem dX8_write_11 : decode cX8_write 11 = .ok (.iload_n 1, 1) := by decide +kernel
theorem dX8_write_12 : decode cX8_write 12 = .ok (.iload_n 2, 1) := by decide +kernel
theorem dX8_write_13 : decode cX8_write 13 = .ok (.iastore, 1) := by decide +kernel
theorem dX8_write_14 : decode cX8_write 14 = .ok (.return_, 1) := by decide +kernel
theorem dX8_shift_0 : decode cX8_shift 0 = .ok (.aload_n 0, 1) := by decide +kernel
theorem dX8_shift_1 : decode cX8_shift 1 = .ok (.arraylength, 1) := by decide +kernel
theorem dX8_shift_2 : decode cX8_shift 2 = .ok (.iload_n 3, 1) := by decide +kernel
theorem dX8_shift_3 : decode cX8_shift 3 = .ok (.isub, 1) := by decide +kernel
theorem dX8_shift_4 : decode cX8_shift 4 = .ok (.istore 4, 2) := by decide +kernel
theorem dX8_shift_6 : decode cX8_shift 6 = .ok (.iload_n 3, 1) := by decide +kernel
theorem dX8_shift_7 : decode cX8_shift 7 = .ok (.ifCond .lt 31, 3) := by decide +kernel
theorem dX8_shift_10 : decode cX8_shift 10 = .ok (.iload_n 1, 1) := by decide +kernel
theorem dX8_shift_11 : decode cX8_shift 11 = .ok (.ifCond .lt 27, 3) := by decide +kernel
theorem dX8_shift_14 : decode cX8_shift 14 = .ok (.iload_n 1, 1) := by decide +kernel
theorem dX8_shift_15 : decode cX8_shift 15 = .ok (.iload 4, 2) := by decide +kernel
theorem dX8_shift_17 : decode cX8_shift 17 = .ok (.if_icmp .gt 21, 3) := by decide +kernel
theorem dX8_shift_20 : decode cX8_shift 20 = .ok (.iload_n 2, 1) := by decide +kernel
theorem dX8_shift_21 : decode cX8_shift 21 = .ok (.ifCond .lt 17, 3) := by decide +kernel
theorem dX8_shift_24 : decode cX8_shift 24 = .ok (.iload_n 2, 1) := by decide +kernel
theorem dX8_shift_25 : decode cX8_shift 25 = .ok (.iload 4, 2) := by decide +kernel
theorem dX8_shift_27 : decode cX8_shift 27 = .ok (.if_icmp .gt 11, 3) := by decide +kernel
theorem dX8_shift_30 : decode cX8_shift 30 = .ok (.aload_n 0, 1) := by decide +kernel
theorem dX8_shift_31 : decode cX8_shift 31 = .ok (.iload_n 1, 1) := by decide +kernel
theorem dX8_shift_32 : decode cX8_shift 32 = .ok (.aload_n 0, 1) := by decide +kernel
theorem dX8_shift_33 : decode cX8_shift 33 = .ok (.iload_n 2, 1) := by decide +kernel
theorem dX8_shift_34 : decode cX8_shift 34 = .ok (.iload_n 3, 1) := by decide +kernel
theorem dX8_shift_35 : decode cX8_shift 35 = .ok (.invokestatic 340, 3) := by decide +kernel
theorem dX8_shift_38 : decode cX8_shift 38 = .ok (.return_, 1) := by decide +kernel
theorem dX8_copyAll_0 : decode cX8_copyAll 0 = .ok (.aload_n 0, 1) := by decide +kernel
theorem dX8_copyAll_1 : decode cX8_copyAll 1 = .ok (.iconst 0, 1) := by decide +kernel
theorem dX8_copyAll_2 : decode cX8_copyAll 2 = .ok (.aload_n 1, 1) := by decide +kernel
theorem dX8_copyAll_3 : decode cX8_copyAll 3 = .ok (.iconst 0, 1) := by decide +kernel
theorem dX8_copyAll_4 : decode cX8_copyAll 4 = .ok (.aload_n 0, 1) := by decide +kernel
theorem dX8_copyAll_5 : decode cX8_copyAll 5 = .ok (.arraylength, 1) := by decide +kernel
theorem dX8_copyAll_6 : decode cX8_copyAll 6 = .ok (.aload_n 1, 1) := by decide +kernel
theorem dX8_copyAll_7 : decode cX8_copyAll 7 = .ok (.arraylength, 1) := by decide +kernel
theorem dX8_copyAll_8 : decode cX8_copyAll 8 = .ok (.invokestatic 346, 3) := by decide +kernel
theorem dX8_copyAll_11 : decode cX8_copyAll 11 = .ok (.invokestatic 340, 3) := by decide +kernel
theorem dX8_copyAll_14 : decode cX8_copyAll 14 = .ok (.return_, 1) := by decide +kernel
theorem dX8_isOfKind_0 : decode cX8_isOfKind 0 = .ok (.iload_n 0, 1) := by decide +kernel
theorem dX8_isOfKind_1 : decode cX8_isOfKind 1 = .ok (.iload_n 1, 1) := by decide +kernel
theorem dX8_isOfKind_2 : decode cX8_isOfKind 2 = .ok (.if_icmp .eq 27, 3) := by decide +kernel
theorem dX8_isOfKind_5 : decode cX8_isOfKind 5 = .ok (.iload_n 1, 1) := by decide +kernel
theorem dX8_isOfKind_6 : decode cX8_isOfKind 6 = .ok (.ifCond .eq 23, 3) := by decide +kernel
theorem dX8_isOfKind_9 : decode cX8_isOfKind 9 = .ok (.iload_n 0, 1) := by decide +kernel
theorem dX8_isOfKind_10 : decode cX8_isOfKind 10 = .ok (.iconst 4, 1) := by decide +kernel
theorem dX8_isOfKind_11 : decode cX8_isOfKind 11 = .ok (.if_icmp .ne 8, 3) := by decide +kernel
theorem dX8_isOfKind_14 : decode cX8_isOfKind 14 = .ok (.iload_n 1, 1) := by decide +kernel
theorem dX8_isOfKind_15 : decode cX8_isOfKind 15 = .ok (.iconst 2, 1) := by decide +kernel
theorem dX8_isOfKind_16 : decode cX8_isOfKind 16 = .ok (.if_icmp .eq 13, 3) := by decide +kernel
theorem dX8_isOfKind_19 : decode cX8_isOfKind 19 = .ok (.iload_n 0, 1) := by decide +kernel
theorem dX8_isOfKind_20 : decode cX8_isOfKind 20 = .ok (.iconst 5, 1) := by decide +kernel
theorem dX8_isOfKind_21 : decode cX8_isOfKind 21 = .ok (.if_icmp .ne 12, 3) := by decide +kernel
theorem dX8_isOfKind_24 : decode cX8_isOfKind 24 = .ok (.iload_n 1, 1) := by decide +kernel
theorem dX8_isOfKind_25 : decode cX8_isOfKind 25 = .ok (.iconst 1, 1) := by decide +kernel
theorem dX8_isOfKind_26 : decode cX8_isOfKind 26 = .ok (.if_icmp .ne 7, 3) := by decide +kernel
theorem dX8_isOfKind_29 : decode cX8_isOfKind 29 = .ok (.iconst 1, 1) := by decide +kernel
theorem dX8_isOfKind_30 : decode cX8_isOfKind 30 = .ok (.goto 4, 3) := by decide +kernel
theorem dX8_isOfKind_33 : decode cX8_isOfKind 33 = .ok (.iconst 0, 1) := by decide +kernel
theorem dX8_isOfKind_34 : decode cX8_isOfKind 34 = .ok (.ireturn, 1) := by decide +kernel
theorem dX8_barOf_0 : decode cX8_barOf 0 = .ok (.iload_n 0, 1) := by decide +kernel
theorem dX8_barOf_1 : decode cX8_barOf 1 = .ok (.tableswitch 43 1 5 #[35, 39, 43, 39, 35], 35) := by decide +kernel
theorem dX8_barOf_36 : decode cX8_barOf 36 = .ok (.iload_n 1, 1) := by decide +kernel
theorem dX8_barOf_37 : decode cX8_barOf 37 = .ok (.iconst 2, 1) := by decide +kernel
theorem dX8_barOf_38 : decode cX8_barOf 38 = .ok (.iadd, 1) := by decide +kernel
theorem dX8_barOf_39 : decode cX8_barOf 39 = .ok (.ireturn, 1) := by decide +kernel
theorem dX8_barOf_40 : decode cX8_barOf 40 = .ok (.iload_n 1, 1) := by decide +kernel
theorem dX8_barOf_41 : decode cX8_barOf 41 = .ok (.iconst 2, 1) := by decide +kernel
theorem dX8_barOf_42 : decode cX8_barOf 42 = .ok (.idiv, 1) := by decide +kernel
theorem dX8_barOf_43 : decode cX8_barOf 43 = .ok (.ireturn, 1) := by decide +kernel
theorem dX8_barOf_44 : decode cX8_barOf 44 = .ok (.iload_n 1, 1) := by decide +kernel
theorem dX8_barOf_45 : decode cX8_barOf 45 = .ok (.ireturn, 1) := by decide +kernel
theorem dX8_crossing_0 : decode cX8_crossing 0 = .ok (.iconst 0, 1) := by decide +kernel
theorem dX8_crossing_1 : decode cX8_crossing 1 = .ok (.iload_n 1, 1) := by decide +kernel
theorem dX8_crossing_2 : decode cX8_crossing 2 = .ok (.iload 4, 2) := by decide +kernel
theorem dX8_crossing_4 : decode cX8_crossing 4 = .ok (.iadd, 1) := by decide +kernel
theorem dX8_crossing_5 : decode cX8_crossing 5 = .ok (.iload_n 0, 1) := by decide +kernel
theorem dX8_crossing_6 : decode cX8_crossing 6 = .ok (.iload_n 2, 1) := by decide +kernel
theorem dX8_crossing_7 : decode cX8_crossing 7 = .ok (.invokestatic 187, 3) := by decide +kernel
theorem dX8_crossing_10 : decode cX8_crossing 10 = .ok (.isub, 1) := by decide +kernel
theorem dX8_crossing_11 : decode cX8_crossing 11 = .ok (.invokestatic 351, 3) := by decide +kernel
theorem dX8_crossing_14 : decode cX8_crossing 14 = .ok (.istore 5, 2) := by decide +kernel
theorem dX8_crossing_16 : decode cX8_crossing 16 = .ok (.iload_n 0, 1) := by decide +kernel
theorem dX8_crossing_17 : decode cX8_crossing 17 = .ok (.tableswitch 59 3 5 #[27, 40, 54], 27) := by decide +kernel
theorem dX8_crossing_44 : decode cX8_crossing 44 = .ok (.iload_n 3, 1) := by decide +kernel
theorem dX8_crossing_45 : decode cX8_crossing 45 = .ok (.iconst 2, 1) := by decide +kernel
theorem dX8_crossing_46 : decode cX8_crossing 46 = .ok (.irem, 1) := by decide +kernel
theorem dX8_crossing_47 : decode cX8_crossing 47 = .ok (.ifCond .ne 8, 3) := by decide +kernel
theorem dX8_crossing_50 : decode cX8_crossing 50 = .ok (.iload 5, 2) := by decide +kernel
theorem dX8_crossing_52 : decode cX8_crossing 52 = .ok (.goto 4, 3) := by decide +kernel
theorem dX8_crossing_55 : decode cX8_crossing 55 = .ok (.iconst 0, 1) := by decide +kernel
theorem dX8_crossing_56 : decode cX8_crossing 56 = .ok (.ireturn, 1) := by decide +kernel
theorem dX8_crossing_57 : decode cX8_crossing 57 = .ok (.iload 5, 2) := by decide +kernel
theorem dX8_crossing_59 : decode cX8_crossing 59 = .ok (.ifCond .le 10, 3) := by decide +kernel
theorem dX8_crossing_62 : decode cX8_crossing 62 = .ok (.iload 5, 2) := by decide +kernel
theorem dX8_crossing_64 : decode cX8_crossing 64 = .ok (.iconst 1, 1) := by decide +kernel
theorem dX8_crossing_65 : decode cX8_crossing 65 = .ok (.iadd, 1) := by decide +kernel
theorem dX8_crossing_66 : decode cX8_crossing 66 = .ok (.goto 4, 3) := by decide +kernel
theorem dX8_crossing_69 : decode cX8_crossing 69 = .ok (.iconst 0, 1) := by decide +kernel
theorem dX8_crossing_70 : decode cX8_crossing 70 = .ok (.ireturn, 1) := by decide +kernel
theorem dX8_crossing_71 : decode cX8_crossing 71 = .ok (.iload 5, 2) := by decide +kernel
theorem dX8_crossing_73 : decode cX8_crossing 73 = .ok (.iconst 2, 1) := by decide +kernel
theorem dX8_crossing_74 : decode cX8_crossing 74 = .ok (.idiv, 1) := by decide +kernel
theorem dX8_crossing_75 : decode cX8_crossing 75 = .ok (.ireturn, 1) := by decide +kernel
theorem dX8_crossing_76 : decode cX8_crossing 76 = .ok (.iload 5, 2) := by decide +kernel
theorem dX8_crossing_78 : decode cX8_crossing 78 = .ok (.ireturn, 1) := by decide +kernel
end
section
theorem dX9_init_0 : decode cX9_init 0 = .ok (.aload_n 0, 1) := by decide +kernel
theorem dX9_init_1 : decode cX9_init 1 = .ok (.invokespecial 1, 3) := by decide +kernel
theorem dX9_init_4 : decode cX9_init 4 = .ok (.aload_n 0, 1) := by decide +kernel
theorem dX9_init_5 : decode cX9_init 5 = .ok (.sipush 7304, 3) := by decide +kernel
theorem dX9_init_8 : decode cX9_init 8 = .ok (.newarray .int, 2) := by decide +kernel
theorem dX9_init_10 : decode cX9_init 10 = .ok (.putfield 7, 3) := by decide +kernel
theorem dX9_init_13 : decode cX9_init 13 = .ok (.aload_n 0, 1) := by decide +kernel
theorem dX9_init_14 : decode cX9_init 14 = .ok (.iconst 3, 1) := by decide +kernel
theorem dX9_init_15 : decode cX9_init 15 = .ok (.newarray .int, 2) := by decide +kernel
theorem dX9_init_17 : decode cX9_init 17 = .ok (.putfield 13, 3) := by decide +kernel
theorem dX9_init_20 : decode cX9_init 20 = .ok (.aload_n 0, 1) := by decide +kernel
theorem dX9_init_21 : decode cX9_init 21 = .ok (.sipush 240, 3) := by decide +kernel
theorem dX9_init_24 : decode cX9_init 24 = .ok (.newarray .int, 2) := by decide +kernel
theorem dX9_init_26 : decode cX9_init 26 = .ok (.putfield 16, 3) := by decide +kernel
theorem dX9_init_29 : decode cX9_init 29 = .ok (.aload_n 0, 1) := by decide +kernel
theorem dX9_init_30 : decode cX9_init 30 = .ok (.bipush 6, 2) := by decide +kernel
theorem dX9_init_32 : decode cX9_init 32 = .ok (.newarray .int, 2) := by decide +kernel
theorem dX9_init_34 : decode cX9_init 34 = .ok (.putfield 19, 3) := by decide +kernel
theorem dX9_init_37 : decode cX9_init 37 = .ok (.aload_n 0, 1) := by decide +kernel
theorem dX9_init_38 : decode cX9_init 38 = .ok (.sipush 240, 3) := by decide +kernel
theorem dX9_init_41 : decode cX9_init 41 = .ok (.newarray .int, 2) := by decide +kernel
theorem dX9_init_43 : decode cX9_init 43 = .ok (.putfield 22, 3) := by decide +kernel
theorem dX9_init_46 : decode cX9_init 46 = .ok (.aload_n 0, 1) := by decide +kernel
theorem dX9_init_47 : decode cX9_init 47 = .ok (.iconst 4, 1) := by decide +kernel
theorem dX9_init_48 : decode cX9_init 48 = .ok (.newarray .int, 2) := by decide +kernel
theorem dX9_init_50 : decode cX9_init 50 = .ok (.putfield 25, 3) := by decide +kernel
theorem dX9_init_53 : decode cX9_init 53 = .ok (.aload_n 0, 1) := by decide +kernel
theorem dX9_init_54 : decode cX9_init 54 = .ok (.bipush 40, 2) := by decide +kernel
theorem dX9_init_56 : decode cX9_init 56 = .ok (.newarray .int, 2) := by decide +kernel
theorem dX9_init_58 : decode cX9_init 58 = .ok (.putfield 28, 3) := by decide +kernel
theorem dX9_init_61 : decode cX9_init 61 = .ok (.aload_n 0, 1) := by decide +kernel
theorem dX9_init_62 : decode cX9_init 62 = .ok (.bipush 6, 2) := by decide +kernel
theorem dX9_init_64 : decode cX9_init 64 = .ok (.newarray .int, 2) := by decide +kernel
theorem dX9_init_66 : decode cX9_init 66 = .ok (.putfield 31, 3) := by decide +kernel
theorem dX9_init_69 : decode cX9_init 69 = .ok (.aload_n 0, 1) := by decide +kernel
theorem dX9_init_70 : decode cX9_init 70 = .ok (.lconst 1, 1) := by decide +kernel
theorem dX9_init_71 : decode cX9_init 71 = .ok (.putfield 34, 3) := by decide +kernel
theorem dX9_init_74 : decode cX9_init 74 = .ok (.aload_n 0, 1) := by decide +kernel
theorem dX9_init_75 : decode cX9_init 75 = .ok (.bipush 32, 2) := by decide +kernel
theorem dX9_init_77 : decode cX9_init 77 = .ok (.newarray .int, 2) := by decide +kernel
theorem dX9_init_79 : decode cX9_init 79 = .ok (.putfield 38, 3) := by decide +kernel
theorem dX9_init_82 : decode cX9_init 82 = .ok (.aload_n 0, 1) := by decide +kernel
theorem dX9_init_83 : decode cX9_init 83 = .ok (.sipush 2401, 3) := by decide +kernel
theorem dX9_init_86 : decode cX9_init 86 = .ok (.newarray .int, 2) := by decide +kernel
theorem dX9_init_88 : decode cX9_init 88 = .ok (.putfield 41, 3) := by decide +kernel
theorem dX9_init_91 : decode cX9_init 91 = .ok (.iconst 0, 1) := by decide +kernel
theorem dX9_init_92 : decode cX9_init 92 = .ok (.istore_n 1, 1) := by decide +kernel
theorem dX9_init_93 : decode cX9_init 93 = .ok (.iload_n 1, 1) := by decide +kernel
theorem dX9_init_94 : decode cX9_init 94 = .ok (.bipush 6, 2) := by decide +kernel
theorem dX9_init_96 : decode cX9_init 96 = .ok (.if_icmp .ge 16, 3) := by decide +kernel
theorem dX9_init_99 : decode cX9_init 99 = .ok (.aload_n 0, 1) := by decide +kernel
theorem dX9_init_100 : decode cX9_init 100 = .ok (.getfield 19, 3) := by decide +kernel
theorem dX9_init_103 : decode cX9_init 103 = .ok (.iload_n 1, 1) := by decide +kernel
theorem dX9_init_104 : decode cX9_init 104 = .ok (.iconst (-1), 1) := by decide +kernel
theorem dX9_init_105 : decode cX9_init 105 = .ok (.iastore, 1) := by decide +kernel
theorem dX9_init_106 : decode cX9_init 106 = .ok (.iinc 1 1, 3) := by decide +kernel
theorem dX9_init_109 : decode cX9_init 109 = .ok (.goto (-16), 3) := by decide +kernel
theorem dX9_init_112 : decode cX9_init 112 = .ok (.iconst 0, 1) := by decide +kernel
theorem dX9_init_113 : decode cX9_init 113 = .ok (.istore_n 1, 1) := by decide +kernel
theorem dX9_init_114 : decode cX9_init 114 = .ok (.iload_n 1, 1) := by decide +kernel
theorem dX9_init_115 : decode cX9_init 115 = .ok (.iconst 4, 1) := by decide +kernel
theorem dX9_init_116 : decode cX9_init 116 = .ok (.if_icmp .ge 16, 3) := by decide +kernel
theorem dX9_init_119 : decode cX9_init 119 = .ok (.aload_n 0, 1) := by decide +kernel
theorem dX9_init_120 : decode cX9_init 120 = .ok (.getfield 25, 3) := by decide +kernel
theorem dX9_init_123 : decode cX9_init 123 = .ok (.iload_n 1, 1) := by decide +kernel
theorem dX9_init_124 : decode cX9_init 124 = .ok (.iconst (-1), 1) := by decide +kernel
theorem dX9_init_125 : decode cX9_init 125 = .ok (.iastore, 1) := by decide +kernel
theorem dX9_init_126 : decode cX9_init 126 = .ok (.iinc 1 1, 3) := by decide +kernel
theorem dX9_init_129 : decode cX9_init 129 = .ok (.goto (-15), 3) := by decide +kernel
theorem dX9_init_132 : decode cX9_init 132 = .ok (.iconst 0, 1) := by decide +kernel
theorem dX9_init_133 : decode cX9_init 133 = .ok (.istore_n 1, 1) := by decide +kernel
theorem dX9_init_134 : decode cX9_init 134 = .ok (.iload_n 1, 1) := by decide +kernel
theorem dX9_init_135 : decode cX9_init 135 = .ok (.iconst 3, 1) := by decide +kernel
theorem dX9_init_136 : decode cX9_init 136 = .ok (.if_icmp .ge 16, 3) := by decide +kernel
theorem dX9_init_139 : decode cX9_init 139 = .ok (.aload_n 0, 1) := by decide +kernel
theorem dX9_init_140 : decode cX9_init 140 = .ok (.getfield 13, 3) := by decide +kernel
theorem dX9_init_143 : decode cX9_init 143 = .ok (.iload_n 1, 1) := by decide +kernel
theorem dX9_init_144 : decode cX9_init 144 = .ok (.iconst (-1), 1) := by decide +kernel
theorem dX9_init_145 : decode cX9_init 145 = .ok (.iastore, 1) := by decide +kernel
theorem dX9_init_146 : decode cX9_init 146 = .ok (.iinc 1 1, 3) := by decide +kernel
theorem dX9_init_149 : decode cX9_init 149 = .ok (.goto (-15), 3) := by decide +kernel
theorem dX9_init_152 : decode cX9_init 152 = .ok (.return_, 1) := by decide +kernel
theorem dX9_in_0 : decode cX9_in 0 = .ok (.lload_n 0, 1) := by decide +kernel
theorem dX9_in_1 : decode cX9_in 1 = .ok (.lload_n 2, 1) := by decide +kernel
theorem dX9_in_2 : decode cX9_in 2 = .ok (.lcmp, 1) := by decide +kernel
theorem dX9_in_3 : decode cX9_in 3 = .ok (.ifCond .lt 14, 3) := by decide +kernel
theorem dX9_in_6 : decode cX9_in 6 = .ok (.lload_n 0, 1) := by decide +kernel
theorem dX9_in_7 : decode cX9_in 7 = .ok (.lload 4, 2) := by decide +kernel
theorem dX9_in_9 : decode cX9_in 9 = .ok (.lcmp, 1) := by decide +kernel
theorem dX9_in_10 : decode cX9_in 10 = .ok (.ifCond .gt 7, 3) := by decide +kernel
theorem dX9_in_13 : decode cX9_in 13 = .ok (.iconst 1, 1) := by decide +kernel
theorem dX9_in_14 : decode cX9_in 14 = .ok (.goto 4, 3) := by decide +kernel
theorem dX9_in_17 : decode cX9_in 17 = .ok (.iconst 0, 1) := by decide +kernel
theorem dX9_in_18 : decode cX9_in 18 = .ok (.ireturn, 1) := by decide +kernel
theorem dX9_has_0 : decode cX9_has 0 = .ok (.iload_n 0, 1) := by decide +kernel
theorem dX9_has_1 : decode cX9_has 1 = .ok (.iload_n 1, 1) := by decide +kernel
theorem dX9_has_2 : decode cX9_has 2 = .ok (.ishr, 1) := by decide +kernel
theorem dX9_has_3 : decode cX9_has 3 = .ok (.iconst 1, 1) := by decide +kernel
theorem dX9_has_4 : decode cX9_has 4 = .ok (.iand, 1) := by decide +kernel
theorem dX9_has_5 : decode cX9_has 5 = .ok (.iconst 1, 1) := by decide +kernel
theorem dX9_has_6 : decode cX9_has 6 = .ok (.if_icmp .ne 7, 3) := by decide +kernel
theorem dX9_has_9 : decode cX9_has 9 = .ok (.iconst 1, 1) := by decide +kernel
theorem dX9_has_10 : decode cX9_has 10 = .ok (.goto 4, 3) := by decide +kernel
theorem dX9_has_13 : decode cX9_has 13 = .ok (.iconst 0, 1) := by decide +kernel
theorem dX9_has_14 : decode cX9_has 14 = .ok (.ireturn, 1) := by decide +kernel
theorem dX9_ones_0 : decode cX9_ones 0 = .ok (.iconst 0, 1) := by decide +kernel
theorem dX9_ones_1 : decode cX9_ones 1 = .ok (.istore_n 1, 1) := by decide +kernel
theorem dX9_ones_2 : decode cX9_ones 2 = .ok (.iconst 0, 1) := by decide +kernel
theorem dX9_ones_3 : decode cX9_ones 3 = .ok (.istore_n 2, 1) := by decide +kernel
theorem dX9_ones_4 : decode cX9_ones 4 = .ok (.iload_n 2, 1) := by decide +kernel
theorem dX9_ones_5 : decode cX9_ones 5 = .ok (.bipush 6, 2) := by decide +kernel
theorem dX9_ones_7 : decode cX9_ones 7 = .ok (.if_icmp .ge 17, 3) := by decide +kernel
theorem dX9_ones_10 : decode cX9_ones 10 = .ok (.iload_n 1, 1) := by decide +kernel
theorem dX9_ones_11 : decode cX9_ones 11 = .ok (.iload_n 0, 1) := by decide +kernel
theorem dX9_ones_12 : decode cX9_ones 12 = .ok (.iload_n 2, 1) := by decide +kernel
theorem dX9_ones_13 : decode cX9_ones 13 = .ok (.ishr, 1) := by decide +kernel
theorem dX9_ones_14 : decode cX9_ones 14 = .ok (.iconst 1, 1) := by decide +kernel
theorem dX9_ones_15 : decode cX9_ones 15 = .ok (.iand, 1) := by decide +kernel
theorem dX9_ones_16 : decode cX9_ones 16 = .ok (.iadd, 1) := by decide +kernel
theorem dX9_ones_17 : decode cX9_ones 17 = .ok (.istore_n 1, 1) := by decide +kernel
theorem dX9_ones_18 : decode cX9_ones 18 = .ok (.iinc 2 1, 3) := by decide +kernel
theorem dX9_ones_21 : decode cX9_ones 21 = .ok (.goto (-17), 3) := by decide +kernel
theorem dX9_ones_24 : decode cX9_ones 24 = .ok (.iload_n 1, 1) := by decide +kernel
theorem dX9_ones_25 : decode cX9_ones 25 = .ok (.ireturn, 1) := by decide +kernel
theorem dX9_off_0 : decode cX9_off 0 = .ok (.iload_n 0, 1) := by decide +kernel
theorem dX9_off_1 : decode cX9_off 1 = .ok (.iload_n 1, 1) := by decide +kernel
theorem dX9_off_2 : decode cX9_off 2 = .ok (.if_icmp .ge 9, 3) := by decide +kernel
theorem dX9_off_5 : decode cX9_off 5 = .ok (.iload_n 1, 1) := by decide +kernel
theorem dX9_off_6 : decode cX9_off 6 = .ok (.iload_n 0, 1) := by decide +kernel
theorem dX9_off_7 : decode cX9_off 7 = .ok (.isub, 1) := by decide +kernel
theorem dX9_off_8 : decode cX9_off 8 = .ok (.goto 6, 3) := by decide +kernel
theorem dX9_off_11 : decode cX9_off 11 = .ok (.iload_n 0, 1) := by decide +kernel
theorem dX9_off_12 : decode cX9_off 12 = .ok (.iload_n 1, 1) := by decide +kernel
theorem dX9_off_13 : decode cX9_off 13 = .ok (.isub, 1) := by decide +kernel
theorem dX9_off_14 : decode cX9_off 14 = .ok (.ireturn, 1) := by decide +kernel
theorem dX9_found_0 : decode cX9_found 0 = .ok (.aload_n 0, 1) := by decide +kernel
theorem dX9_found_1 : decode cX9_found 1 = .ok (.iload_n 1, 1) := by decide +kernel
theorem dX9_found_2 : decode cX9_found 2 = .ok (.putfield 44, 3) := by decide +kernel
theorem dX9_found_5 : decode cX9_found 5 = .ok (.aload_n 0, 1) := by decide +kernel
theorem dX9_found_6 : decode cX9_found 6 = .ok (.getfield 31, 3) := by decide +kernel
theorem dX9_found_9 : decode cX9_found 9 = .ok (.iload_n 1, 1) := by decide +kernel
theorem dX9_found_10 : decode cX9_found 10 = .ok (.dup2, 1) := by decide +kernel
theorem dX9_found_11 : decode cX9_found 11 = .ok (.iaload, 1) := by decide +kernel
theorem dX9_found_12 : decode cX9_found 12 = .ok (.iconst 1, 1) := by decide +kernel
theorem dX9_found_13 : decode cX9_found 13 = .ok (.iadd, 1) := by decide +kernel
theorem dX9_found_14 : decode cX9_found 14 = .ok (.iastore, 1) := by decide +kernel
theorem dX9_found_15 : decode cX9_found 15 = .ok (.bipush (-3), 2) := by decide +kernel
theorem dX9_found_17 : decode cX9_found 17 = .ok (.ireturn, 1) := by decide +kernel
theorem dX9_tells_0 : decode cX9_tells 0 = .ok (.aload_n 0, 1) := by decide +kernel
theorem dX9_tells_1 : decode cX9_tells 1 = .ok (.iload_n 1, 1) := by decide +kernel
theorem dX9_tells_2 : decode cX9_tells 2 = .ok (.putfield 48, 3) := by decide +kernel
theorem dX9_tells_5 : decode cX9_tells 5 = .ok (.iload_n 2, 1) := by decide +kernel
theorem dX9_tells_6 : decode cX9_tells 6 = .ok (.ireturn, 1) := by decide +kernel
theorem dX9_copyAll_0 : decode cX9_copyAll 0 = .ok (.iconst 0, 1) := by decide +kernel
theorem dX9_copyAll_1 : decode cX9_copyAll 1 = .ok (.istore 4, 2) := by decide +kernel
theorem dX9_copyAll_3 : decode cX9_copyAll 3 = .ok (.iload 4, 2) := by decide +kernel
theorem dX9_copyAll_5 : decode cX9_copyAll 5 = .ok (.iload_n 3, 1) := by decide +kernel
theorem dX9_copyAll_6 : decode cX9_copyAll 6 = .ok (.if_icmp .ge 27, 3) := by decide +kernel
theorem dX9_copyAll_9 : decode cX9_copyAll 9 = .ok (.aload_n 0, 1) := by decide +kernel
theorem dX9_copyAll_10 : decode cX9_copyAll 10 = .ok (.getfield 7, 3) := by decide +kernel
theorem dX9_copyAll_13 : decode cX9_copyAll 13 = .ok (.iload_n 2, 1) := by decide +kernel
theorem dX9_copyAll_14 : decode cX9_copyAll 14 = .ok (.iload 4, 2) := by decide +kernel
theorem dX9_copyAll_16 : decode cX9_copyAll 16 = .ok (.iadd, 1) := by decide +kernel
theorem dX9_copyAll_17 : decode cX9_copyAll 17 = .ok (.aload_n 0, 1) := by decide +kernel
theorem dX9_copyAll_18 : decode cX9_copyAll 18 = .ok (.getfield 7, 3) := by decide +kernel
theorem dX9_copyAll_21 : decode cX9_copyAll 21 = .ok (.iload_n 1, 1) := by decide +kernel
theorem dX9_copyAll_22 : decode cX9_copyAll 22 = .ok (.iload 4, 2) := by decide +kernel
theorem dX9_copyAll_24 : decode cX9_copyAll 24 = .ok (.iadd, 1) := by decide +kernel
theorem dX9_copyAll_25 : decode cX9_copyAll 25 = .ok (.iaload, 1) := by decide +kernel
theorem dX9_copyAll_26 : decode cX9_copyAll 26 = .ok (.iastore, 1) := by decide +kernel
theorem dX9_copyAll_27 : decode cX9_copyAll 27 = .ok (.iinc 4 1, 3) := by decide +kernel
theorem dX9_copyAll_30 : decode cX9_copyAll 30 = .ok (.goto (-27), 3) := by decide +kernel
theorem dX9_copyAll_33 : decode cX9_copyAll 33 = .ok (.return_, 1) := by decide +kernel
theorem dX9_isRow_0 : decode cX9_isRow 0 = .ok (.iload_n 0, 1) := by decide +kernel
theorem dX9_isRow_1 : decode cX9_isRow 1 = .ok (.i2l, 1) := by decide +kernel
theorem dX9_isRow_2 : decode cX9_isRow 2 = .ok (.lconst 0, 1) := by decide +kernel
theorem dX9_isRow_3 : decode cX9_isRow 3 = .ok (.ldc2_w 51, 3) := by decide +kernel
theorem dX9_isRow_6 : decode cX9_isRow 6 = .ok (.invokestatic 53, 3) := by decide +kernel
theorem dX9_isRow_9 : decode cX9_isRow 9 = .ok (.ireturn, 1) := by decide +kernel
theorem dX9_isText_0 : decode cX9_isText 0 = .ok (.iload_n 0, 1) := by decide +kernel
theorem dX9_isText_1 : decode cX9_isText 1 = .ok (.i2l, 1) := by decide +kernel
theorem dX9_isText_2 : decode cX9_isText 2 = .ok (.lconst 0, 1) := by decide +kernel
theorem dX9_isText_3 : decode cX9_isText 3 = .ok (.ldc2_w 57, 3) := by decide +kernel
theorem dX9_isText_6 : decode cX9_isText 6 = .ok (.invokestatic 53, 3) := by decide +kernel
theorem dX9_isText_9 : decode cX9_isText 9 = .ok (.ireturn, 1) := by decide +kernel
theorem dX9_anew_0 : decode cX9_anew 0 = .ok (.aload_n 0, 1) := by decide +kernel
theorem dX9_anew_1 : decode cX9_anew 1 = .ok (.getfield 19, 3) := by decide +kernel
theorem dX9_anew_4 : decode cX9_anew 4 = .ok (.iload_n 1, 1) := by decide +kernel
theorem dX9_anew_5 : decode cX9_anew 5 = .ok (.iload_n 2, 1) := by decide +kernel
theorem dX9_anew_6 : decode cX9_anew 6 = .ok (.iastore, 1) := by decide +kernel
theorem dX9_anew_7 : decode cX9_anew 7 = .ok (.iconst 0, 1) := by decide +kernel
theorem dX9_anew_8 : decode cX9_anew 8 = .ok (.istore_n 3, 1) := by decide +kernel
theorem dX9_anew_9 : decode cX9_anew 9 = .ok (.iload_n 3, 1) := by decide +kernel
theorem dX9_anew_10 : decode cX9_anew 10 = .ok (.bipush 40, 2) := by decide +kernel
theorem dX9_anew_12 : decode cX9_anew 12 = .ok (.if_icmp .ge 21, 3) := by decide +kernel
theorem dX9_anew_15 : decode cX9_anew 15 = .ok (.aload_n 0, 1) := by decide +kernel
theorem dX9_anew_16 : decode cX9_anew 16 = .ok (.getfield 16, 3) := by decide +kernel
theorem dX9_anew_19 : decode cX9_anew 19 = .ok (.bipush 40, 2) := by decide +kernel
theorem dX9_anew_21 : decode cX9_anew 21 = .ok (.iload_n 1, 1) := by decide +kernel
theorem dX9_anew_22 : decode cX9_anew 22 = .ok (.imul, 1) := by decide +kernel
theorem dX9_anew_23 : decode cX9_anew 23 = .ok (.iload_n 3, 1) := by decide +kernel
theorem dX9_anew_24 : decode cX9_anew 24 = .ok (.iadd, 1) := by decide +kernel
theorem dX9_anew_25 : decode cX9_anew 25 = .ok (.iconst 0, 1) := by decide +kernel
theorem dX9_anew_26 : decode cX9_anew 26 = .ok (.iastore, 1) := by decide +kernel
theorem dX9_anew_27 : decode cX9_anew 27 = .ok (.iinc 3 1, 3) := by decide +kernel
theorem dX9_anew_30 : decode cX9_anew 30 = .ok (.goto (-21), 3) := by decide +kernel
theorem dX9_anew_33 : decode cX9_anew 33 = .ok (.return_, 1) := by decide +kernel
theorem dX9_row_0 : decode cX9_row 0 = .ok (.iload_n 1, 1) := by decide +kernel
theorem dX9_row_1 : decode cX9_row 1 = .ok (.invokestatic 59, 3) := by decide +kernel
theorem dX9_row_4 : decode cX9_row 4 = .ok (.ifCond .eq 9, 3) := by decide +kernel
theorem dX9_row_7 : decode cX9_row 7 = .ok (.iload_n 2, 1) := by decide +kernel
theorem dX9_row_8 : decode cX9_row 8 = .ok (.bipush 40, 2) := by decide +kernel
theorem dX9_row_10 : decode cX9_row 10 = .ok (.if_icmp .le 5, 3) := by decide +kernel
theorem dX9_row_13 : decode cX9_row 13 = .ok (.iconst (-1), 1) := by decide +kernel
theorem dX9_row_14 : decode cX9_row 14 = .ok (.ireturn, 1) := by decide +kernel
theorem dX9_row_15 : decode cX9_row 15 = .ok (.iload_n 2, 1) := by decide +kernel
theorem dX9_row_16 : decode cX9_row 16 = .ok (.ifCond .ge 9, 3) := by decide +kernel
theorem dX9_row_19 : decode cX9_row 19 = .ok (.aload_n 0, 1) := by decide +kernel
theorem dX9_row_20 : decode cX9_row 20 = .ok (.iconst 5, 1) := by decide +kernel
theorem dX9_row_21 : decode cX9_row 21 = .ok (.invokevirtual 63, 3) := by decide +kernel
theorem dX9_row_24 : decode cX9_row 24 = .ok (.ireturn, 1) := by decide +kernel
theorem dX9_row_25 : decode cX9_row 25 = .ok (.aload_n 0, 1) := by decide +kernel
theorem dX9_row_26 : decode cX9_row 26 = .ok (.iload_n 1, 1) := by decide +kernel
theorem dX9_row_27 : decode cX9_row 27 = .ok (.iload_n 2, 1) := by decide +kernel
theorem dX9_row_28 : decode cX9_row 28 = .ok (.invokevirtual 67, 3) := by decide +kernel
theorem dX9_row_31 : decode cX9_row 31 = .ok (.iload_n 2, 1) := by decide +kernel
theorem dX9_row_32 : decode cX9_row 32 = .ok (.ireturn, 1) := by decide +kernel
theorem dX9_lay_0 : decode cX9_lay 0 = .ok (.aload_n 0, 1) := by decide +kernel
theorem dX9_lay_1 : decode cX9_lay 1 = .ok (.iload_n 1, 1) := by decide +kernel
theorem dX9_lay_2 : decode cX9_lay 2 = .ok (.iload_n 2, 1) := by decide +kernel
theorem dX9_lay_3 : decode cX9_lay 3 = .ok (.invokevirtual 71, 3) := by decide +kernel
theorem dX9_lay_6 : decode cX9_lay 6 = .ok (.istore 4, 2) := by decide +kernel
theorem dX9_lay_8 : decode cX9_lay 8 = .ok (.iload 4, 2) := by decide +kernel
theorem dX9_lay_10 : decode cX9_lay 10 = .ok (.iconst 1, 1) := by decide +kernel
theorem dX9_lay_11 : decode cX9_lay 11 = .ok (.if_icmp .ne 15, 3) := by decide +kernel
theorem dX9_lay_14 : decode cX9_lay 14 = .ok (.aload_n 0, 1) := by decide +kernel
theorem dX9_lay_15 : decode cX9_lay 15 = .ok (.getfield 16, 3) := by decide +kernel
theorem dX9_lay_18 : decode cX9_lay 18 = .ok (.bipush 40, 2) := by decide +kernel
theorem dX9_lay_20 : decode cX9_lay 20 = .ok (.iload_n 1, 1) := by decide +kernel
theorem dX9_lay_21 : decode cX9_lay 21 = .ok (.imul, 1) := by decide +kernel
theorem dX9_lay_22 : decode cX9_lay 22 = .ok (.iload_n 2, 1) := by decide +kernel
theorem dX9_lay_23 : decode cX9_lay 23 = .ok (.iadd, 1) := by decide +kernel
theorem dX9_lay_24 : decode cX9_lay 24 = .ok (.iload_n 3, 1) := by decide +kernel
theorem dX9_lay_25 : decode cX9_lay 25 = .ok (.iastore, 1) := by decide +kernel
theorem dX9_lay_26 : decode cX9_lay 26 = .ok (.iload 4, 2) := by decide +kernel
theorem dX9_lay_28 : decode cX9_lay 28 = .ok (.ireturn, 1) := by decide +kernel
theorem dX9_at_0 : decode cX9_at 0 = .ok (.iload_n 1, 1) := by decide +kernel
theorem dX9_at_1 : decode cX9_at 1 = .ok (.invokestatic 59, 3) := by decide +kernel
theorem dX9_at_4 : decode cX9_at 4 = .ok (.ifCond .ne 5, 3) := by decide +kernel
theorem dX9_at_7 : decode cX9_at 7 = .ok (.iconst (-1), 1) := by decide +kernel
theorem dX9_at_8 : decode cX9_at 8 = .ok (.ireturn, 1) := by decide +kernel
theorem dX9_at_9 : decode cX9_at 9 = .ok (.aload_n 0, 1) := by decide +kernel
theorem dX9_at_10 : decode cX9_at 10 = .ok (.getfield 19, 3) := by decide +kernel
theorem dX9_at_13 : decode cX9_at 13 = .ok (.iload_n 1, 1) := by decide +kernel
theorem dX9_at_14 : decode cX9_at 14 = .ok (.iaload, 1) := by decide +kernel
theorem dX9_at_15 : decode cX9_at 15 = .ok (.ifCond .ge 9, 3) := by decide +kernel
theorem dX9_at_18 : decode cX9_at 18 = .ok (.aload_n 0, 1) := by decide +kernel
theorem dX9_at_19 : decode cX9_at 19 = .ok (.iconst 1, 1) := by decide +kernel
theorem dX9_at_20 : decode cX9_at 20 = .ok (.invokevirtual 63, 3) := by decide +kernel
theorem dX9_at_23 : decode cX9_at 23 = .ok (.ireturn, 1) := by decide +kernel
theorem dX9_at_24 : decode cX9_at 24 = .ok (.iload_n 2, 1) := by decide +kernel
theorem dX9_at_25 : decode cX9_at 25 = .ok (.i2l, 1) := by decide +kernel
theorem dX9_at_26 : decode cX9_at 26 = .ok (.lconst 0, 1) := by decide +kernel
theorem dX9_at_27 : decode cX9_at 27 = .ok (.aload_n 0, 1) := by decide +kernel
theorem dX9_at_28 : decode cX9_at 28 = .ok (.getfield 19, 3) := by decide +kernel
theorem dX9_at_31 : decode cX9_at 31 = .ok (.iload_n 1, 1) := by decide +kernel
theorem dX9_at_32 : decode cX9_at 32 = .ok (.iaload, 1) := by decide +kernel
theorem dX9_at_33 : decode cX9_at 33 = .ok (.iconst 1, 1) := by decide +kernel
theorem dX9_at_34 : decode cX9_at 34 = .ok (.isub, 1) := by decide +kernel
theorem dX9_at_35 : decode cX9_at 35 = .ok (.i2l, 1) := by decide +kernel
theorem dX9_at_36 : decode cX9_at 36 = .ok (.invokestatic 53, 3) := by decide +kernel
theorem dX9_at_39 : decode cX9_at 39 = .ok (.ifCond .eq 22, 3) := by decide +kernel
theorem dX9_at_42 : decode cX9_at 42 = .ok (.aload_n 0, 1) := by decide +kernel
theorem dX9_at_43 : decode cX9_at 43 = .ok (.aload_n 0, 1) := by decide +kernel
theorem dX9_at_44 : decode cX9_at 44 = .ok (.getfield 16, 3) := by decide +kernel
theorem dX9_at_47 : decode cX9_at 47 = .ok (.bipush 40, 2) := by decide +kernel
theorem dX9_at_49 : decode cX9_at 49 = .ok (.iload_n 1, 1) := by decide +kernel
theorem dX9_at_50 : decode cX9_at 50 = .ok (.imul, 1) := by decide +kernel
theorem dX9_at_51 : decode cX9_at 51 = .ok (.iload_n 2, 1) := by decide +kernel
theorem dX9_at_52 : decode cX9_at 52 = .ok (.iadd, 1) := by decide +kernel
theorem dX9_at_53 : decode cX9_at 53 = .ok (.iaload, 1) := by decide +kernel
theorem dX9_at_54 : decode cX9_at 54 = .ok (.iconst 1, 1) := by decide +kernel
theorem dX9_at_55 : decode cX9_at 55 = .ok (.invokevirtual 75, 3) := by decide +kernel
theorem dX9_at_58 : decode cX9_at 58 = .ok (.goto 8, 3) := by decide +kernel
theorem dX9_at_61 : decode cX9_at 61 = .ok (.aload_n 0, 1) := by decide +kernel
theorem dX9_at_62 : decode cX9_at 62 = .ok (.iconst 2, 1) := by decide +kernel
theorem dX9_at_63 : decode cX9_at 63 = .ok (.invokevirtual 63, 3) := by decide +kernel
theorem dX9_at_66 : decode cX9_at 66 = .ok (.ireturn, 1) := by decide +kernel
theorem dX9_tear_0 : decode cX9_tear 0 = .ok (.iload_n 1, 1) := by decide +kernel
theorem dX9_tear_1 : decode cX9_tear 1 = .ok (.invokestatic 59, 3) := by decide +kernel
theorem dX9_tear_4 : decode cX9_tear 4 = .ok (.ifCond .ne 5, 3) := by decide +kernel
theorem dX9_tear_7 : decode cX9_tear 7 = .ok (.iconst (-1), 1) := by decide +kernel
theorem dX9_tear_8 : decode cX9_tear 8 = .ok (.ireturn, 1) := by decide +kernel
theorem dX9_tear_9 : decode cX9_tear 9 = .ok (.aload_n 0, 1) := by decide +kernel
theorem dX9_tear_10 : decode cX9_tear 10 = .ok (.getfield 19, 3) := by decide +kernel
theorem dX9_tear_13 : decode cX9_tear 13 = .ok (.iload_n 1, 1) := by decide +kernel
theorem dX9_tear_14 : decode cX9_tear 14 = .ok (.iaload, 1) := by decide +kernel
theorem dX9_tear_15 : decode cX9_tear 15 = .ok (.ifCond .ge 9, 3) := by decide +kernel
theorem dX9_tear_18 : decode cX9_tear 18 = .ok (.aload_n 0, 1) := by decide +kernel
theorem dX9_tear_19 : decode cX9_tear 19 = .ok (.iconst 1, 1) := by decide +kernel
theorem dX9_tear_20 : decode cX9_tear 20 = .ok (.invokevirtual 63, 3) := by decide +kernel
theorem dX9_tear_23 : decode cX9_tear 23 = .ok (.ireturn, 1) := by decide +kernel
theorem dX9_tear_24 : decode cX9_tear 24 = .ok (.aload_n 0, 1) := by decide +kernel
theorem dX9_tear_25 : decode cX9_tear 25 = .ok (.getfield 19, 3) := by decide +kernel
theorem dX9_tear_28 : decode cX9_tear 28 = .ok (.iload_n 1, 1) := by decide +kernel
theorem dX9_tear_29 : decode cX9_tear 29 = .ok (.iconst (-1), 1) := by decide +kernel
theorem dX9_tear_30 : decode cX9_tear 30 = .ok (.iastore, 1) := by decide +kernel
theorem dX9_tear_31 : decode cX9_tear 31 = .ok (.iconst 1, 1) := by decide +kernel
theorem dX9_tear_32 : decode cX9_tear 32 = .ok (.ireturn, 1) := by decide +kernel
theorem dX9_fits_0 : decode cX9_fits 0 = .ok (.iload_n 0, 1) := by decide +kernel
theorem dX9_fits_1 : decode cX9_fits 1 = .ok (.ifCond .lt 18, 3) := by decide +kernel
theorem dX9_fits_4 : decode cX9_fits 4 = .ok (.iload_n 0, 1) := by decide +kernel
theorem dX9_fits_5 : decode cX9_fits 5 = .ok (.i2l, 1) := by decide +kernel
theorem dX9_fits_6 : decode cX9_fits 6 = .ok (.iload_n 1, 1) := by decide +kernel
theorem dX9_fits_7 : decode cX9_fits 7 = .ok (.i2l, 1) := by decide +kernel
theorem dX9_fits_8 : decode cX9_fits 8 = .ok (.ladd, 1) := by decide +kernel
theorem dX9_fits_9 : decode cX9_fits 9 = .ok (.iload_n 2, 1) := by decide +kernel
theorem dX9_fits_10 : decode cX9_fits 10 = .ok (.i2l, 1) := by decide +kernel
theorem dX9_fits_11 : decode cX9_fits 11 = .ok (.lcmp, 1) := by decide +kernel
theorem dX9_fits_12 : decode cX9_fits 12 = .ok (.ifCond .gt 7, 3) := by decide +kernel
theorem dX9_fits_15 : decode cX9_fits 15 = .ok (.iconst 1, 1) := by decide +kernel
theorem dX9_fits_16 : decode cX9_fits 16 = .ok (.goto 4, 3) := by decide +kernel
theorem dX9_fits_19 : decode cX9_fits 19 = .ok (.iconst 0, 1) := by decide +kernel
theorem dX9_fits_20 : decode cX9_fits 20 = .ok (.ireturn, 1) := by decide +kernel
theorem dX9_copy_0 : decode cX9_copy 0 = .ok (.iload_n 1, 1) := by decide +kernel
theorem dX9_copy_1 : decode cX9_copy 1 = .ok (.invokestatic 59, 3) := by decide +kernel
theorem dX9_copy_4 : decode cX9_copy 4 = .ok (.ifCond .eq 10, 3) := by decide +kernel
theorem dX9_copy_7 : decode cX9_copy 7 = .ok (.iload_n 3, 1) := by decide +kernel
theorem dX9_copy_8 : decode cX9_copy 8 = .ok (.invokestatic 59, 3) := by decide +kernel
theorem dX9_copy_11 : decode cX9_copy 11 = .ok (.ifCond .ne 5, 3) := by decide +kernel
theorem dX9_copy_14 : decode cX9_copy 14 = .ok (.iconst (-1), 1) := by decide +kernel
theorem dX9_copy_15 : decode cX9_copy 15 = .ok (.ireturn, 1) := by decide +kernel
theorem dX9_copy_16 : decode cX9_copy 16 = .ok (.iload 5, 2) := by decide +kernel
theorem dX9_copy_18 : decode cX9_copy 18 = .ok (.ifCond .ge 9, 3) := by decide +kernel
theorem dX9_copy_21 : decode cX9_copy 21 = .ok (.aload_n 0, 1) := by decide +kernel
theorem dX9_copy_22 : decode cX9_copy 22 = .ok (.iconst 5, 1) := by decide +kernel
theorem dX9_copy_23 : decode cX9_copy 23 = .ok (.invokevirtual 63, 3) := by decide +kernel
theorem dX9_copy_26 : decode cX9_copy 26 = .ok (.ireturn, 1) := by decide +kernel
theorem dX9_copy_27 : decode cX9_copy 27 = .ok (.aload_n 0, 1) := by decide +kernel
theorem dX9_copy_28 : decode cX9_copy 28 = .ok (.getfield 19, 3) := by decide +kernel
theorem dX9_copy_31 : decode cX9_copy 31 = .ok (.iload_n 1, 1) := by decide +kernel
theorem dX9_copy_32 : decode cX9_copy 32 = .ok (.iaload, 1) := by decide +kernel
theorem dX9_copy_33 : decode cX9_copy 33 = .ok (.ifCond .lt 12, 3) := by decide +kernel
theorem dX9_copy_36 : decode cX9_copy 36 = .ok (.aload_n 0, 1) := by decide +kernel
theorem dX9_copy_37 : decode cX9_copy 37 = .ok (.getfield 19, 3) := by decide +kernel
theorem dX9_copy_40 : decode cX9_copy 40 = .ok (.iload_n 3, 1) := by decide +kernel
theorem dX9_copy_41 : decode cX9_copy 41 = .ok (.iaload, 1) := by decide +kernel
theorem dX9_copy_42 : decode cX9_copy 42 = .ok (.ifCond .ge 9, 3) := by decide +kernel
theorem dX9_copy_45 : decode cX9_copy 45 = .ok (.aload_n 0, 1) := by decide +kernel
theorem dX9_copy_46 : decode cX9_copy 46 = .ok (.iconst 1, 1) := by decide +kernel
theorem dX9_copy_47 : decode cX9_copy 47 = .ok (.invokevirtual 63, 3) := by decide +kernel
theorem dX9_copy_50 : decode cX9_copy 50 = .ok (.ireturn, 1) := by decide +kernel
theorem dX9_copy_51 : decode cX9_copy 51 = .ok (.iload_n 2, 1) := by decide +kernel
theorem dX9_copy_52 : decode cX9_copy 52 = .ok (.iload 5, 2) := by decide +kernel
theorem dX9_copy_54 : decode cX9_copy 54 = .ok (.aload_n 0, 1) := by decide +kernel
theorem dX9_copy_55 : decode cX9_copy 55 = .ok (.getfield 19, 3) := by decide +kernel
theorem dX9_copy_58 : decode cX9_copy 58 = .ok (.iload_n 1, 1) := by decide +kernel
theorem dX9_copy_59 : decode cX9_copy 59 = .ok (.iaload, 1) := by decide +kernel
theorem dX9_copy_60 : decode cX9_copy 60 = .ok (.invokestatic 78, 3) := by decide +kernel
theorem dX9_copy_63 : decode cX9_copy 63 = .ok (.ifCond .eq 19, 3) := by decide +kernel
theorem dX9_copy_66 : decode cX9_copy 66 = .ok (.iload 4, 2) := by decide +kernel
theorem dX9_copy_68 : decode cX9_copy 68 = .ok (.iload 5, 2) := by decide +kernel
theorem dX9_copy_70 : decode cX9_copy 70 = .ok (.aload_n 0, 1) := by decide +kernel
theorem dX9_copy_71 : decode cX9_copy 71 = .ok (.getfield 19, 3) := by decide +kernel
theorem dX9_copy_74 : decode cX9_copy 74 = .ok (.iload_n 3, 1) := by decide +kernel
theorem dX9_copy_75 : decode cX9_copy 75 = .ok (.iaload, 1) := by decide +kernel
theorem dX9_copy_76 : decode cX9_copy 76 = .ok (.invokestatic 78, 3) := by decide +kernel
theorem dX9_copy_79 : decode cX9_copy 79 = .ok (.ifCond .ne 9, 3) := by decide +kernel
theorem dX9_copy_82 : decode cX9_copy 82 = .ok (.aload_n 0, 1) := by decide +kernel
theorem dX9_copy_83 : decode cX9_copy 83 = .ok (.iconst 2, 1) := by decide +kernel
theorem dX9_copy_84 : decode cX9_copy 84 = .ok (.invokevirtual 63, 3) := by decide +kernel
theorem dX9_copy_87 : decode cX9_copy 87 = .ok (.ireturn, 1) := by decide +kernel
theorem dX9_copy_88 : decode cX9_copy 88 = .ok (.iconst 0, 1) := by decide +kernel
theorem dX9_copy_89 : decode cX9_copy 89 = .ok (.istore 6, 2) := by decide +kernel
theorem dX9_copy_91 : decode cX9_copy 91 = .ok (.iload 6, 2) := by decide +kernel
theorem dX9_copy_93 : decode cX9_copy 93 = .ok (.iload 5, 2) := by decide +kernel
theorem dX9_copy_95 : decode cX9_copy 95 = .ok (.if_icmp .ge 30, 3) := by decide +kernel
theorem dX9_copy_98 : decode cX9_copy 98 = .ok (.aload_n 0, 1) := by decide +kernel
theorem dX9_copy_99 : decode cX9_copy 99 = .ok (.getfield 28, 3) := by decide +kernel
theorem dX9_copy_102 : decode cX9_copy 102 = .ok (.iload 6, 2) := by decide +kernel
theorem dX9_copy_104 : decode cX9_copy 104 = .ok (.aload_n 0, 1) := by decide +kernel
theorem dX9_copy_105 : decode cX9_copy 105 = .ok (.getfield 16, 3) := by decide +kernel
theorem dX9_copy_108 : decode cX9_copy 108 = .ok (.bipush 40, 2) := by decide +kernel
theorem dX9_copy_110 : decode cX9_copy 110 = .ok (.iload_n 1, 1) := by decide +kernel
theorem dX9_copy_111 : decode cX9_copy 111 = .ok (.imul, 1) := by decide +kernel
theorem dX9_copy_112 : decode cX9_copy 112 = .ok (.iload_n 2, 1) := by decide +kernel
theorem dX9_copy_113 : decode cX9_copy 113 = .ok (.iadd, 1) := by decide +kernel
theorem dX9_copy_114 : decode cX9_copy 114 = .ok (.iload 6, 2) := by decide +kernel
theorem dX9_copy_116 : decode cX9_copy 116 = .ok (.iadd, 1) := by decide +kernel
theorem dX9_copy_117 : decode cX9_copy 117 = .ok (.iaload, 1) := by decide +kernel
theorem dX9_copy_118 : decode cX9_copy 118 = .ok (.iastore, 1) := by decide +kernel
theorem dX9_copy_119 : decode cX9_copy 119 = .ok (.iinc 6 1, 3) := by decide +kernel
theorem dX9_copy_122 : decode cX9_copy 122 = .ok (.goto (-31), 3) := by decide +kernel
theorem dX9_copy_125 : decode cX9_copy 125 = .ok (.iconst 0, 1) := by decide +kernel
theorem dX9_copy_126 : decode cX9_copy 126 = .ok (.istore 6, 2) := by decide +kernel
theorem dX9_copy_128 : decode cX9_copy 128 = .ok (.iload 6, 2) := by decide +kernel
theorem dX9_copy_130 : decode cX9_copy 130 = .ok (.iload 5, 2) := by decide +kernel
theorem dX9_copy_132 : decode cX9_copy 132 = .ok (.if_icmp .ge 31, 3) := by decide +kernel
theorem dX9_copy_135 : decode cX9_copy 135 = .ok (.aload_n 0, 1) := by decide +kernel
theorem dX9_copy_136 : decode cX9_copy 136 = .ok (.getfield 16, 3) := by decide +kernel
theorem dX9_copy_139 : decode cX9_copy 139 = .ok (.bipush 40, 2) := by decide +kernel
theorem dX9_copy_141 : decode cX9_copy 141 = .ok (.iload_n 3, 1) := by decide +kernel
theorem dX9_copy_142 : decode cX9_copy 142 = .ok (.imul, 1) := by decide +kernel
theorem dX9_copy_143 : decode cX9_copy 143 = .ok (.iload 4, 2) := by decide +kernel
theorem dX9_copy_145 : decode cX9_copy 145 = .ok (.iadd, 1) := by decide +kernel
theorem dX9_copy_146 : decode cX9_copy 146 = .ok (.iload 6, 2) := by decide +kernel
theorem dX9_copy_148 : decode cX9_copy 148 = .ok (.iadd, 1) := by decide +kernel
theorem dX9_copy_149 : decode cX9_copy 149 = .ok (.aload_n 0, 1) := by decide +kernel
theorem dX9_copy_150 : decode cX9_copy 150 = .ok (.getfield 28, 3) := by decide +kernel
theorem dX9_copy_153 : decode cX9_copy 153 = .ok (.iload 6, 2) := by decide +kernel
theorem dX9_copy_155 : decode cX9_copy 155 = .ok (.iaload, 1) := by decide +kernel
theorem dX9_copy_156 : decode cX9_copy 156 = .ok (.iastore, 1) := by decide +kernel
theorem dX9_copy_157 : decode cX9_copy 157 = .ok (.iinc 6 1, 3) := by decide +kernel
theorem dX9_copy_160 : decode cX9_copy 160 = .ok (.goto (-32), 3) := by decide +kernel
theorem dX9_copy_163 : decode cX9_copy 163 = .ok (.iconst 1, 1) := by decide +kernel
theorem dX9_copy_164 : decode cX9_copy 164 = .ok (.ireturn, 1) := by decide +kernel
theorem dX9_mean_0 : decode cX9_mean 0 = .ok (.iload_n 1, 1) := by decide +kernel
theorem dX9_mean_1 : decode cX9_mean 1 = .ok (.invokestatic 59, 3) := by decide +kernel
theorem dX9_mean_4 : decode cX9_mean 4 = .ok (.ifCond .ne 5, 3) := by decide +kernel
theorem dX9_mean_7 : decode cX9_mean 7 = .ok (.iconst (-1), 1) := by decide +kernel
theorem dX9_mean_8 : decode cX9_mean 8 = .ok (.ireturn, 1) := by decide +kernel
theorem dX9_mean_9 : decode cX9_mean 9 = .ok (.aload_n 0, 1) := by decide +kernel
theorem dX9_mean_10 : decode cX9_mean 10 = .ok (.getfield 19, 3) := by decide +kernel
theorem dX9_mean_13 : decode cX9_mean 13 = .ok (.iload_n 1, 1) := by decide +kernel
theorem dX9_mean_14 : decode cX9_mean 14 = .ok (.iaload, 1) := by decide +kernel
theorem dX9_mean_15 : decode cX9_mean 15 = .ok (.ifCond .ge 9, 3) := by decide +kernel
theorem dX9_mean_18 : decode cX9_mean 18 = .ok (.aload_n 0, 1) := by decide +kernel
theorem dX9_mean_19 : decode cX9_mean 19 = .ok (.iconst 1, 1) := by decide +kernel
theorem dX9_mean_20 : decode cX9_mean 20 = .ok (.invokevirtual 63, 3) := by decide +kernel
theorem dX9_mean_23 : decode cX9_mean 23 = .ok (.ireturn, 1) := by decide +kernel
theorem dX9_mean_24 : decode cX9_mean 24 = .ok (.aload_n 0, 1) := by decide +kernel
theorem dX9_mean_25 : decode cX9_mean 25 = .ok (.getfield 19, 3) := by decide +kernel
theorem dX9_mean_28 : decode cX9_mean 28 = .ok (.iload_n 1, 1) := by decide +kernel
theorem dX9_mean_29 : decode cX9_mean 29 = .ok (.iaload, 1) := by decide +kernel
theorem dX9_mean_30 : decode cX9_mean 30 = .ok (.ifCond .ne 9, 3) := by decide +kernel
theorem dX9_mean_33 : decode cX9_mean 33 = .ok (.aload_n 0, 1) := by decide +kernel
theorem dX9_mean_34 : decode cX9_mean 34 = .ok (.iconst 4, 1) := by decide +kernel
theorem dX9_mean_35 : decode cX9_mean 35 = .ok (.invokevirtual 63, 3) := by decide +kernel
theorem dX9_mean_38 : decode cX9_mean 38 = .ok (.ireturn, 1) := by decide +kernel
theorem dX9_mean_39 : decode cX9_mean 39 = .ok (.lconst 0, 1) := by decide +kernel
theorem dX9_mean_40 : decode cX9_mean 40 = .ok (.lstore_n 2, 1) := by decide +kernel
theorem dX9_mean_41 : decode cX9_mean 41 = .ok (.iconst 0, 1) := by decide +kernel
theorem dX9_mean_42 : decode cX9_mean 42 = .ok (.istore 4, 2) := by decide +kernel
theorem dX9_mean_44 : decode cX9_mean 44 = .ok (.iload 4, 2) := by decide +kernel
theorem dX9_mean_46 : decode cX9_mean 46 = .ok (.aload_n 0, 1) := by decide +kernel
theorem dX9_mean_47 : decode cX9_mean 47 = .ok (.getfield 19, 3) := by decide +kernel
theorem dX9_mean_50 : decode cX9_mean 50 = .ok (.iload_n 1, 1) := by decide +kernel
theorem dX9_mean_51 : decode cX9_mean 51 = .ok (.iaload, 1) := by decide +kernel
theorem dX9_mean_52 : decode cX9_mean 52 = .ok (.if_icmp .ge 25, 3) := by decide +kernel
theorem dX9_mean_55 : decode cX9_mean 55 = .ok (.lload_n 2, 1) := by decide +kernel
theorem dX9_mean_56 : decode cX9_mean 56 = .ok (.aload_n 0, 1) := by decide +kernel
theorem dX9_mean_57 : decode cX9_mean 57 = .ok (.getfield 16, 3) := by decide +kernel
theorem dX9_mean_60 : decode cX9_mean 60 = .ok (.bipush 40, 2) := by decide +kernel
theorem dX9_mean_62 : decode cX9_mean 62 = .ok (.iload_n 1, 1) := by decide +kernel
theorem dX9_mean_63 : decode cX9_mean 63 = .ok (.imul, 1) := by decide +kernel
theorem dX9_mean_64 : decode cX9_mean 64 = .ok (.iload 4, 2) := by decide +kernel
theorem dX9_mean_66 : decode cX9_mean 66 = .ok (.iadd, 1) := by decide +kernel
theorem dX9_mean_67 : decode cX9_mean 67 = .ok (.iaload, 1) := by decide +kernel
theorem dX9_mean_68 : decode cX9_mean 68 = .ok (.i2l, 1) := by decide +kernel
theorem dX9_mean_69 : decode cX9_mean 69 = .ok (.ladd, 1) := by decide +kernel
theorem dX9_mean_70 : decode cX9_mean 70 = .ok (.lstore_n 2, 1) := by decide +kernel
theorem dX9_mean_71 : decode cX9_mean 71 = .ok (.iinc 4 1, 3) := by decide +kernel
theorem dX9_mean_74 : decode cX9_mean 74 = .ok (.goto (-30), 3) := by decide +kernel
theorem dX9_mean_77 : decode cX9_mean 77 = .ok (.aload_n 0, 1) := by decide +kernel
theorem dX9_mean_78 : decode cX9_mean 78 = .ok (.lload_n 2, 1) := by decide +kernel
theorem dX9_mean_79 : decode cX9_mean 79 = .ok (.aload_n 0, 1) := by decide +kernel
theorem dX9_mean_80 : decode cX9_mean 80 = .ok (.getfield 19, 3) := by decide +kernel
theorem dX9_mean_83 : decode cX9_mean 83 = .ok (.iload_n 1, 1) := by decide +kernel
theorem dX9_mean_84 : decode cX9_mean 84 = .ok (.iaload, 1) := by decide +kernel
theorem dX9_mean_85 : decode cX9_mean 85 = .ok (.i2l, 1) := by decide +kernel
theorem dX9_mean_86 : decode cX9_mean 86 = .ok (.ldiv, 1) := by decide +kernel
theorem dX9_mean_87 : decode cX9_mean 87 = .ok (.l2i, 1) := by decide +kernel
theorem dX9_mean_88 : decode cX9_mean 88 = .ok (.iconst 1, 1) := by decide +kernel
theorem dX9_mean_89 : decode cX9_mean 89 = .ok (.invokevirtual 75, 3) := by decide +kernel
theorem dX9_mean_92 : decode cX9_mean 92 = .ok (.ireturn, 1) := by decide +kernel
theorem dX9_text_0 : decode cX9_text 0 = .ok (.iload_n 1, 1) := by decide +kernel
theorem dX9_text_1 : decode cX9_text 1 = .ok (.invokestatic 82, 3) := by decide +kernel
theorem dX9_text_4 : decode cX9_text 4 = .ok (.ifCond .eq 9, 3) := by decide +kernel
theorem dX9_text_7 : decode cX9_text 7 = .ok (.iload_n 2, 1) := by decide +kernel
theorem dX9_text_8 : decode cX9_text 8 = .ok (.bipush 60, 2) := by decide +kernel
theorem dX9_text_10 : decode cX9_text 10 = .ok (.if_icmp .le 5, 3) := by decide +kernel
theorem dX9_text_13 : decode cX9_text 13 = .ok (.iconst (-1), 1) := by decide +kernel
theorem dX9_text_14 : decode cX9_text 14 = .ok (.ireturn, 1) := by decide +kernel
theorem dX9_text_15 : decode cX9_text 15 = .ok (.iload_n 2, 1) := by decide +kernel
theorem dX9_text_16 : decode cX9_text 16 = .ok (.ifCond .ge 9, 3) := by decide +kernel
theorem dX9_text_19 : decode cX9_text 19 = .ok (.aload_n 0, 1) := by decide +kernel
theorem dX9_text_20 : decode cX9_text 20 = .ok (.iconst 5, 1) := by decide +kernel
theorem dX9_text_21 : decode cX9_text 21 = .ok (.invokevirtual 63, 3) := by decide +kernel
theorem dX9_text_24 : decode cX9_text 24 = .ok (.ireturn, 1) := by decide +kernel
theorem dX9_text_25 : decode cX9_text 25 = .ok (.aload_n 0, 1) := by decide +kernel
theorem dX9_text_26 : decode cX9_text 26 = .ok (.getfield 25, 3) := by decide +kernel
theorem dX9_text_29 : decode cX9_text 29 = .ok (.iload_n 1, 1) := by decide +kernel
theorem dX9_text_30 : decode cX9_text 30 = .ok (.iload_n 2, 1) := by decide +kernel
theorem dX9_text_31 : decode cX9_text 31 = .ok (.iastore, 1) := by decide +kernel
theorem dX9_text_32 : decode cX9_text 32 = .ok (.iconst 0, 1) := by decide +kernel
theorem dX9_text_33 : decode cX9_text 33 = .ok (.istore_n 3, 1) := by decide +kernel
theorem dX9_text_34 : decode cX9_text 34 = .ok (.iload_n 3, 1) := by decide +kernel
theorem dX9_text_35 : decode cX9_text 35 = .ok (.bipush 60, 2) := by decide +kernel
theorem dX9_text_37 : decode cX9_text 37 = .ok (.if_icmp .ge 22, 3) := by decide +kernel
theorem dX9_text_40 : decode cX9_text 40 = .ok (.aload_n 0, 1) := by decide +kernel
theorem dX9_text_41 : decode cX9_text 41 = .ok (.getfield 22, 3) := by decide +kernel
theorem dX9_text_44 : decode cX9_text 44 = .ok (.bipush 60, 2) := by decide +kernel
theorem dX9_text_46 : decode cX9_text 46 = .ok (.iload_n 1, 1) := by decide +kernel
theorem dX9_text_47 : decode cX9_text 47 = .ok (.imul, 1) := by decide +kernel
theorem dX9_text_48 : decode cX9_text 48 = .ok (.iload_n 3, 1) := by decide +kernel
theorem dX9_text_49 : decode cX9_text 49 = .ok (.iadd, 1) := by decide +kernel
theorem dX9_text_50 : decode cX9_text 50 = .ok (.bipush 32, 2) := by decide +kernel
theorem dX9_text_52 : decode cX9_text 52 = .ok (.iastore, 1) := by decide +kernel
theorem dX9_text_53 : decode cX9_text 53 = .ok (.iinc 3 1, 3) := by decide +kernel
theorem dX9_text_56 : decode cX9_text 56 = .ok (.goto (-22), 3) := by decide +kernel
theorem dX9_text_59 : decode cX9_text 59 = .ok (.iload_n 2, 1) := by decide +kernel
theorem dX9_text_60 : decode cX9_text 60 = .ok (.ireturn, 1) := by decide +kernel
theorem dX9_put_0 : decode cX9_put 0 = .ok (.iload_n 1, 1) := by decide +kernel
theorem dX9_put_1 : decode cX9_put 1 = .ok (.invokestatic 82, 3) := by decide +kernel
theorem dX9_put_4 : decode cX9_put 4 = .ok (.ifCond .ne 5, 3) := by decide +kernel
theorem dX9_put_7 : decode cX9_put 7 = .ok (.iconst (-1), 1) := by decide +kernel
theorem dX9_put_8 : decode cX9_put 8 = .ok (.ireturn, 1) := by decide +kernel
theorem dX9_put_9 : decode cX9_put 9 = .ok (.aload_n 0, 1) := by decide +kernel
theorem dX9_put_10 : decode cX9_put 10 = .ok (.getfield 25, 3) := by decide +kernel
theorem dX9_put_13 : decode cX9_put 13 = .ok (.iload_n 1, 1) := by decide +kernel
theorem dX9_put_14 : decode cX9_put 14 = .ok (.iaload, 1) := by decide +kernel
theorem dX9_put_15 : decode cX9_put 15 = .ok (.ifCond .ge 9, 3) := by decide +kernel
theorem dX9_put_18 : decode cX9_put 18 = .ok (.aload_n 0, 1) := by decide +kernel
theorem dX9_put_19 : decode cX9_put 19 = .ok (.iconst 1, 1) := by decide +kernel
theorem dX9_put_20 : decode cX9_put 20 = .ok (.invokevirtual 63, 3) := by decide +kernel
theorem dX9_put_23 : decode cX9_put 23 = .ok (.ireturn, 1) := by decide +kernel
theorem dX9_put_24 : decode cX9_put 24 = .ok (.iload_n 2, 1) := by decide +kernel
theorem dX9_put_25 : decode cX9_put 25 = .ok (.i2l, 1) := by decide +kernel
theorem dX9_put_26 : decode cX9_put 26 = .ok (.lconst 0, 1) := by decide +kernel
theorem dX9_put_27 : decode cX9_put 27 = .ok (.aload_n 0, 1) := by decide +kernel
theorem dX9_put_28 : decode cX9_put 28 = .ok (.getfield 25, 3) := by decide +kernel
theorem dX9_put_31 : decode cX9_put 31 = .ok (.iload_n 1, 1) := by decide +kernel
theorem dX9_put_32 : decode cX9_put 32 = .ok (.iaload, 1) := by decide +kernel
theorem dX9_put_33 : decode cX9_put 33 = .ok (.iconst 1, 1) := by decide +kernel
theorem dX9_put_34 : decode cX9_put 34 = .ok (.isub, 1) := by decide +kernel
theorem dX9_put_35 : decode cX9_put 35 = .ok (.i2l, 1) := by decide +kernel
theorem dX9_put_36 : decode cX9_put 36 = .ok (.invokestatic 53, 3) := by decide +kernel
theorem dX9_put_39 : decode cX9_put 39 = .ok (.ifCond .ne 9, 3) := by decide +kernel
theorem dX9_put_42 : decode cX9_put 42 = .ok (.aload_n 0, 1) := by decide +kernel
theorem dX9_put_43 : decode cX9_put 43 = .ok (.iconst 2, 1) := by decide +kernel
theorem dX9_put_44 : decode cX9_put 44 = .ok (.invokevirtual 63, 3) := by decide +kernel
theorem dX9_put_47 : decode cX9_put 47 = .ok (.ireturn, 1) := by decide +kernel
theorem dX9_put_48 : decode cX9_put 48 = .ok (.aload_n 0, 1) := by decide +kernel
theorem dX9_put_49 : decode cX9_put 49 = .ok (.getfield 22, 3) := by decide +kernel
theorem dX9_put_52 : decode cX9_put 52 = .ok (.bipush 60, 2) := by decide +kernel
theorem dX9_put_54 : decode cX9_put 54 = .ok (.iload_n 1, 1) := by decide +kernel
theorem dX9_put_55 : decode cX9_put 55 = .ok (.imul, 1) := by decide +kernel
theorem dX9_put_56 : decode cX9_put 56 = .ok (.iload_n 2, 1) := by decide +kernel
theorem dX9_put_57 : decode cX9_put 57 = .ok (.iadd, 1) := by decide +kernel
theorem dX9_put_58 : decode cX9_put 58 = .ok (.iaload, 1) := by decide +kernel
theorem dX9_put_59 : decode cX9_put 59 = .ok (.istore 4, 2) := by decide +kernel
theorem dX9_put_61 : decode cX9_put 61 = .ok (.aload_n 0, 1) := by decide +kernel
theorem dX9_put_62 : decode cX9_put 62 = .ok (.getfield 22, 3) := by decide +kernel
theorem dX9_put_65 : decode cX9_put 65 = .ok (.bipush 60, 2) := by decide +kernel
theorem dX9_put_67 : decode cX9_put 67 = .ok (.iload_n 1, 1) := by decide +kernel
theorem dX9_put_68 : decode cX9_put 68 = .ok (.imul, 1) := by decide +kernel
theorem dX9_put_69 : decode cX9_put 69 = .ok (.iload_n 2, 1) := by decide +kernel
theorem dX9_put_70 : decode cX9_put 70 = .ok (.iadd, 1) := by decide +kernel
theorem dX9_put_71 : decode cX9_put 71 = .ok (.iload_n 3, 1) := by decide +kernel
theorem dX9_put_72 : decode cX9_put 72 = .ok (.i2b, 1) := by decide +kernel
theorem dX9_put_73 : decode cX9_put 73 = .ok (.iastore, 1) := by decide +kernel
theorem dX9_put_74 : decode cX9_put 74 = .ok (.iload 4, 2) := by decide +kernel
theorem dX9_put_76 : decode cX9_put 76 = .ok (.sipush 1000, 3) := by decide +kernel
theorem dX9_put_79 : decode cX9_put 79 = .ok (.iadd, 1) := by decide +kernel
theorem dX9_put_80 : decode cX9_put 80 = .ok (.ireturn, 1) := by decide +kernel
theorem dX9_kindOf_0 : decode cX9_kindOf 0 = .ok (.iload_n 0, 1) := by decide +kernel
theorem dX9_kindOf_1 : decode cX9_kindOf 1 = .ok (.bipush 98, 2) := by decide +kernel
theorem dX9_kindOf_3 : decode cX9_kindOf 3 = .ok (.if_icmp .ne 7, 3) := by decide +kernel
theorem dX9_kindOf_6 : decode cX9_kindOf 6 = .ok (.iconst 0, 1) := by decide +kernel
theorem dX9_kindOf_7 : decode cX9_kindOf 7 = .ok (.goto 54, 3) := by decide +kernel
theorem dX9_kindOf_10 : decode cX9_kindOf 10 = .ok (.iload_n 0, 1) := by decide +kernel
theorem dX9_kindOf_11 : decode cX9_kindOf 11 = .ok (.bipush 115, 2) := by decide +kernel
theorem dX9_kindOf_13 : decode cX9_kindOf 13 = .ok (.if_icmp .ne 7, 3) := by decide +kernel
theorem dX9_kindOf_16 : decode cX9_kindOf 16 = .ok (.iconst 1, 1) := by decide +kernel
theorem dX9_kindOf_17 : decode cX9_kindOf 17 = .ok (.goto 44, 3) := by decide +kernel
theorem dX9_kindOf_20 : decode cX9_kindOf 20 = .ok (.iload_n 0, 1) := by decide +kernel
theorem dX9_kindOf_21 : decode cX9_kindOf 21 = .ok (.bipush 113, 2) := by decide +kernel
theorem dX9_kindOf_23 : decode cX9_kindOf 23 = .ok (.if_icmp .ne 7, 3) := by decide +kernel
theorem dX9_kindOf_26 : decode cX9_kindOf 26 = .ok (.iconst 2, 1) := by decide +kernel
theorem dX9_kindOf_27 : decode cX9_kindOf 27 = .ok (.goto 34, 3) := by decide +kernel
theorem dX9_kindOf_30 : decode cX9_kindOf 30 = .ok (.iload_n 0, 1) := by decide +kernel
theorem dX9_kindOf_31 : decode cX9_kindOf 31 = .ok (.bipush 99, 2) := by decide +kernel
theorem dX9_kindOf_33 : decode cX9_kindOf 33 = .ok (.if_icmp .ne 7, 3) := by decide +kernel
theorem dX9_kindOf_36 : decode cX9_kindOf 36 = .ok (.iconst 3, 1) := by decide +kernel
theorem dX9_kindOf_37 : decode cX9_kindOf 37 = .ok (.goto 24, 3) := by decide +kernel
theorem dX9_kindOf_40 : decode cX9_kindOf 40 = .ok (.iload_n 0, 1) := by decide +kernel
theorem dX9_kindOf_41 : decode cX9_kindOf 41 = .ok (.bipush 116, 2) := by decide +kernel
theorem dX9_kindOf_43 : decode cX9_kindOf 43 = .ok (.if_icmp .ne 7, 3) := by decide +kernel
theorem dX9_kindOf_46 : decode cX9_kindOf 46 = .ok (.iconst 4, 1) := by decide +kernel
theorem dX9_kindOf_47 : decode cX9_kindOf 47 = .ok (.goto 14, 3) := by decide +kernel
theorem dX9_kindOf_50 : decode cX9_kindOf 50 = .ok (.iload_n 0, 1) := by decide +kernel
theorem dX9_kindOf_51 : decode cX9_kindOf 51 = .ok (.bipush 119, 2) := by decide +kernel
theorem dX9_kindOf_53 : decode cX9_kindOf 53 = .ok (.if_icmp .ne 7, 3) := by decide +kernel
theorem dX9_kindOf_56 : decode cX9_kindOf 56 = .ok (.iconst 5, 1) := by decide +kernel
theorem dX9_kindOf_57 : decode cX9_kindOf 57 = .ok (.goto 4, 3) := by decide +kernel
theorem dX9_kindOf_60 : decode cX9_kindOf 60 = .ok (.iconst (-1), 1) := by decide +kernel
theorem dX9_kindOf_61 : decode cX9_kindOf 61 = .ok (.ireturn, 1) := by decide +kernel
theorem dX9_byteAt_0 : decode cX9_byteAt 0 = .ok (.iload_n 2, 1) := by decide +kernel
theorem dX9_byteAt_1 : decode cX9_byteAt 1 = .ok (.aload_n 0, 1) := by decide +kernel
theorem dX9_byteAt_2 : decode cX9_byteAt 2 = .ok (.getfield 25, 3) := by decide +kernel
theorem dX9_byteAt_5 : decode cX9_byteAt 5 = .ok (.iload_n 1, 1) := by decide +kernel
theorem dX9_byteAt_6 : decode cX9_byteAt 6 = .ok (.iaload, 1) := by decide +kernel
theorem dX9_byteAt_7 : decode cX9_byteAt 7 = .ok (.if_icmp .ge 17, 3) := by decide +kernel
theorem dX9_byteAt_10 : decode cX9_byteAt 10 = .ok (.aload_n 0, 1) := by decide +kernel
theorem dX9_byteAt_11 : decode cX9_byteAt 11 = .ok (.getfield 22, 3) := by decide +kernel
theorem dX9_byteAt_14 : decode cX9_byteAt 14 = .ok (.bipush 60, 2) := by decide +kernel
theorem dX9_byteAt_16 : decode cX9_byteAt 16 = .ok (.iload_n 1, 1) := by decide +kernel
theorem dX9_byteAt_17 : decode cX9_byteAt 17 = .ok (.imul, 1) := by decide +kernel
theorem dX9_byteAt_18 : decode cX9_byteAt 18 = .ok (.iload_n 2, 1) := by decide +kernel
theorem dX9_byteAt_19 : decode cX9_byteAt 19 = .ok (.iadd, 1) := by decide +kernel
theorem dX9_byteAt_20 : decode cX9_byteAt 20 = .ok (.iaload, 1) := by decide +kernel
theorem dX9_byteAt_21 : decode cX9_byteAt 21 = .ok (.goto 6, 3) := by decide +kernel
theorem dX9_byteAt_24 : decode cX9_byteAt 24 = .ok (.sipush (-1000), 3) := by decide +kernel
theorem dX9_byteAt_27 : decode cX9_byteAt 27 = .ok (.ireturn, 1) := by decide +kernel
theorem dX9_blanks_0 : decode cX9_blanks 0 = .ok (.aload_n 0, 1) := by decide +kernel
theorem dX9_blanks_1 : decode cX9_blanks 1 = .ok (.iload_n 1, 1) := by decide +kernel
theorem dX9_blanks_2 : decode cX9_blanks 2 = .ok (.aload_n 0, 1) := by decide +kernel
theorem dX9_blanks_3 : decode cX9_blanks 3 = .ok (.getfield 85, 3) := by decide +kernel
theorem dX9_blanks_6 : decode cX9_blanks 6 = .ok (.invokevirtual 88, 3) := by decide +kernel
theorem dX9_blanks_9 : decode cX9_blanks 9 = .ok (.bipush 32, 2) := by decide +kernel
theorem dX9_blanks_11 : decode cX9_blanks 11 = .ok (.if_icmp .ne 16, 3) := by decide +kernel
theorem dX9_blanks_14 : decode cX9_blanks 14 = .ok (.aload_n 0, 1) := by decide +kernel
theorem dX9_blanks_15 : decode cX9_blanks 15 = .ok (.dup, 1) := by decide +kernel
theorem dX9_blanks_16 : decode cX9_blanks 16 = .ok (.getfield 85, 3) := by decide +kernel
theorem dX9_blanks_19 : decode cX9_blanks 19 = .ok (.iconst 1, 1) := by decide +kernel
theorem dX9_blanks_20 : decode cX9_blanks 20 = .ok (.iadd, 1) := by decide +kernel
theorem dX9_blanks_21 : decode cX9_blanks 21 = .ok (.putfield 85, 3) := by decide +kernel
theorem dX9_blanks_24 : decode cX9_blanks 24 = .ok (.goto (-24), 3) := by decide +kernel
theorem dX9_blanks_27 : decode cX9_blanks 27 = .ok (.return_, 1) := by decide +kernel
theorem dX9_figures_0 : decode cX9_figures 0 = .ok (.iconst 0, 1) := by decide +kernel
theorem dX9_figures_1 : decode cX9_figures 1 = .ok (.istore 6, 2) := by decide +kernel
theorem dX9_figures_3 : decode cX9_figures 3 = .ok (.iload 6, 2) := by decide +kernel
theorem dX9_figures_5 : decode cX9_figures 5 = .ok (.iload_n 2, 1) := by decide +kernel
theorem dX9_figures_6 : decode cX9_figures 6 = .ok (.if_icmp .ge 64, 3) := by decide +kernel
theorem dX9_figures_9 : decode cX9_figures 9 = .ok (.aload_n 0, 1) := by decide +kernel
theorem dX9_figures_10 : decode cX9_figures 10 = .ok (.iload_n 1, 1) := by decide +kernel
theorem dX9_figures_11 : decode cX9_figures 11 = .ok (.aload_n 0, 1) := by decide +kernel
theorem dX9_figures_12 : decode cX9_figures 12 = .ok (.getfield 85, 3) := by decide +kernel
theorem dX9_figures_15 : decode cX9_figures 15 = .ok (.invokevirtual 88, 3) := by decide +kernel
theorem dX9_figures_18 : decode cX9_figures 18 = .ok (.bipush 48, 2) := by decide +kernel
theorem dX9_figures_20 : decode cX9_figures 20 = .ok (.isub, 1) := by decide +kernel
theorem dX9_figures_21 : decode cX9_figures 21 = .ok (.istore 7, 2) := by decide +kernel
theorem dX9_figures_23 : decode cX9_figures 23 = .ok (.iload 7, 2) := by decide +kernel
theorem dX9_figures_25 : decode cX9_figures 25 = .ok (.i2l, 1) := by decide +kernel
theorem dX9_figures_26 : decode cX9_figures 26 = .ok (.iload_n 3, 1) := by decide +kernel
theorem dX9_figures_27 : decode cX9_figures 27 = .ok (.i2l, 1) := by decide +kernel
theorem dX9_figures_28 : decode cX9_figures 28 = .ok (.ldc2_w 91, 3) := by decide +kernel
theorem dX9_figures_31 : decode cX9_figures 31 = .ok (.invokestatic 53, 3) := by decide +kernel
theorem dX9_figures_34 : decode cX9_figures 34 = .ok (.ifCond .ne 5, 3) := by decide +kernel
theorem dX9_figures_37 : decode cX9_figures 37 = .ok (.iconst 0, 1) := by decide +kernel
theorem dX9_figures_38 : decode cX9_figures 38 = .ok (.ireturn, 1) := by decide +kernel
theorem dX9_figures_39 : decode cX9_figures 39 = .ok (.aload_n 0, 1) := by decide +kernel
theorem dX9_figures_40 : decode cX9_figures 40 = .ok (.getfield 7, 3) := by decide +kernel
theorem dX9_figures_43 : decode cX9_figures 43 = .ok (.iload 4, 2) := by decide +kernel
theorem dX9_figures_45 : decode cX9_figures 45 = .ok (.iload 5, 2) := by decide +kernel
theorem dX9_figures_47 : decode cX9_figures 47 = .ok (.iload 6, 2) := by decide +kernel
theorem dX9_figures_49 : decode cX9_figures 49 = .ok (.imul, 1) := by decide +kernel
theorem dX9_figures_50 : decode cX9_figures 50 = .ok (.iadd, 1) := by decide +kernel
theorem dX9_figures_51 : decode cX9_figures 51 = .ok (.iload 7, 2) := by decide +kernel
theorem dX9_figures_53 : decode cX9_figures 53 = .ok (.iastore, 1) := by decide +kernel
theorem dX9_figures_54 : decode cX9_figures 54 = .ok (.aload_n 0, 1) := by decide +kernel
theorem dX9_figures_55 : decode cX9_figures 55 = .ok (.dup, 1) := by decide +kernel
theorem dX9_figures_56 : decode cX9_figures 56 = .ok (.getfield 85, 3) := by decide +kernel
theorem dX9_figures_59 : decode cX9_figures 59 = .ok (.iconst 1, 1) := by decide +kernel
theorem dX9_figures_60 : decode cX9_figures 60 = .ok (.iadd, 1) := by decide +kernel
theorem dX9_figures_61 : decode cX9_figures 61 = .ok (.putfield 85, 3) := by decide +kernel
theorem dX9_figures_64 : decode cX9_figures 64 = .ok (.iinc 6 1, 3) := by decide +kernel
theorem dX9_figures_67 : decode cX9_figures 67 = .ok (.goto (-64), 3) := by decide +kernel
theorem dX9_figures_70 : decode cX9_figures 70 = .ok (.iconst 1, 1) := by decide +kernel
theorem dX9_figures_71 : decode cX9_figures 71 = .ok (.ireturn, 1) := by decide +kernel
theorem dX9_takesFirst_0 : decode cX9_takesFirst 0 = .ok (.aload_n 0, 1) := by decide +kernel
theorem dX9_takesFirst_1 : decode cX9_takesFirst 1 = .ok (.iload_n 1, 1) := by decide +kernel
theorem dX9_takesFirst_2 : decode cX9_takesFirst 2 = .ok (.aload_n 0, 1) := by decide +kernel
theorem dX9_takesFirst_3 : decode cX9_takesFirst 3 = .ok (.getfield 85, 3) := by decide +kernel
theorem dX9_takesFirst_6 : decode cX9_takesFirst 6 = .ok (.invokevirtual 88, 3) := by decide +kernel
theorem dX9_takesFirst_9 : decode cX9_takesFirst 9 = .ok (.bipush 110, 2) := by decide +kernel
theorem dX9_takesFirst_11 : decode cX9_takesFirst 11 = .ok (.if_icmp .eq 5, 3) := by decide +kernel
theorem dX9_takesFirst_14 : decode cX9_takesFirst 14 = .ok (.iconst 0, 1) := by decide +kernel
theorem dX9_takesFirst_15 : decode cX9_takesFirst 15 = .ok (.ireturn, 1) := by decide +kernel
theorem dX9_takesFirst_16 : decode cX9_takesFirst 16 = .ok (.aload_n 0, 1) := by decide +kernel
theorem dX9_takesFirst_17 : decode cX9_takesFirst 17 = .ok (.dup, 1) := by decide +kernel
theorem dX9_takesFirst_18 : decode cX9_takesFirst 18 = .ok (.getfield 85, 3) := by decide +kernel
theorem dX9_takesFirst_21 : decode cX9_takesFirst 21 = .ok (.iconst 1, 1) := by decide +kernel
theorem dX9_takesFirst_22 : decode cX9_takesFirst 22 = .ok (.iadd, 1) := by decide +kernel
theorem dX9_takesFirst_23 : decode cX9_takesFirst 23 = .ok (.putfield 85, 3) := by decide +kernel
theorem dX9_takesFirst_26 : decode cX9_takesFirst 26 = .ok (.aload_n 0, 1) := by decide +kernel
theorem dX9_takesFirst_27 : decode cX9_takesFirst 27 = .ok (.iload_n 1, 1) := by decide +kernel
theorem dX9_takesFirst_28 : decode cX9_takesFirst 28 = .ok (.iconst 4, 1) := by decide +kernel
theorem dX9_takesFirst_29 : decode cX9_takesFirst 29 = .ok (.iconst 0, 1) := by decide +kernel
theorem dX9_takesFirst_30 : decode cX9_takesFirst 30 = .ok (.sipush 7255, 3) := by decide +kernel
theorem dX9_takesFirst_33 : decode cX9_takesFirst 33 = .ok (.iconst 1, 1) := by decide +kernel
theorem dX9_takesFirst_34 : decode cX9_takesFirst 34 = .ok (.invokevirtual 93, 3) := by decide +kernel
theorem dX9_takesFirst_37 : decode cX9_takesFirst 37 = .ok (.ifCond .eq 21, 3) := by decide +kernel
theorem dX9_takesFirst_40 : decode cX9_takesFirst 40 = .ok (.aload_n 0, 1) := by decide +kernel
theorem dX9_takesFirst_41 : decode cX9_takesFirst 41 = .ok (.iload_n 1, 1) := by decide +kernel
theorem dX9_takesFirst_42 : decode cX9_takesFirst 42 = .ok (.iconst 1, 1) := by decide +kernel
theorem dX9_takesFirst_43 : decode cX9_takesFirst 43 = .ok (.iconst 1, 1) := by decide +kernel
theorem dX9_takesFirst_44 : decode cX9_takesFirst 44 = .ok (.sipush 7259, 3) := by decide +kernel
theorem dX9_takesFirst_47 : decode cX9_takesFirst 47 = .ok (.iconst 1, 1) := by decide +kernel
theorem dX9_takesFirst_48 : decode cX9_takesFirst 48 = .ok (.invokevirtual 93, 3) := by decide +kernel
theorem dX9_takesFirst_51 : decode cX9_takesFirst 51 = .ok (.ifCond .eq 7, 3) := by decide +kernel
theorem dX9_takesFirst_54 : decode cX9_takesFirst 54 = .ok (.iconst 1, 1) := by decide +kernel
theorem dX9_takesFirst_55 : decode cX9_takesFirst 55 = .ok (.goto 4, 3) := by decide +kernel
theorem dX9_takesFirst_58 : decode cX9_takesFirst 58 = .ok (.iconst 0, 1) := by decide +kernel
theorem dX9_takesFirst_59 : decode cX9_takesFirst 59 = .ok (.ireturn, 1) := by decide +kernel
theorem dX9_takesBed_0 : decode cX9_takesBed 0 = .ok (.aload_n 0, 1) := by decide +kernel
theorem dX9_takesBed_1 : decode cX9_takesBed 1 = .ok (.iload_n 1, 1) := by decide +kernel
theorem dX9_takesBed_2 : decode cX9_takesBed 2 = .ok (.aload_n 0, 1) := by decide +kernel
theorem dX9_takesBed_3 : decode cX9_takesBed 3 = .ok (.getfield 85, 3) := by decide +kernel
theorem dX9_takesBed_6 : decode cX9_takesBed 6 = .ok (.invokevirtual 88, 3) := by decide +kernel
theorem dX9_takesBed_9 : decode cX9_takesBed 9 = .ok (.invokestatic 97, 3) := by decide +kernel
theorem dX9_takesBed_12 : decode cX9_takesBed 12 = .ok (.istore_n 2, 1) := by decide +kernel
theorem dX9_takesBed_13 : decode cX9_takesBed 13 = .ok (.aload_n 0, 1) := by decide +kernel
theorem dX9_takesBed_14 : decode cX9_takesBed 14 = .ok (.getfield 7, 3) := by decide +kernel
theorem dX9_takesBed_17 : decode cX9_takesBed 17 = .ok (.sipush 7216, 3) := by decide +kernel
theorem dX9_takesBed_20 : decode cX9_takesBed 20 = .ok (.iaload, 1) := by decide +kernel
theorem dX9_takesBed_21 : decode cX9_takesBed 21 = .ok (.istore_n 3, 1) := by decide +kernel
theorem dX9_takesBed_22 : decode cX9_takesBed 22 = .ok (.iload_n 2, 1) := by decide +kernel
theorem dX9_takesBed_23 : decode cX9_takesBed 23 = .ok (.ifCond .lt 9, 3) := by decide +kernel
theorem dX9_takesBed_26 : decode cX9_takesBed 26 = .ok (.iload_n 3, 1) := by decide +kernel
theorem dX9_takesBed_27 : decode cX9_takesBed 27 = .ok (.bipush 6, 2) := by decide +kernel
theorem dX9_takesBed_29 : decode cX9_takesBed 29 = .ok (.if_icmp .ne 5, 3) := by decide +kernel
theorem dX9_takesBed_32 : decode cX9_takesBed 32 = .ok (.iconst 0, 1) := by decide +kernel
theorem dX9_takesBed_33 : decode cX9_takesBed 33 = .ok (.ireturn, 1) := by decide +kernel
theorem dX9_takesBed_34 : decode cX9_takesBed 34 = .ok (.aload_n 0, 1) := by decide +kernel
theorem dX9_takesBed_35 : decode cX9_takesBed 35 = .ok (.dup, 1) := by decide +kernel
theorem dX9_takesBed_36 : decode cX9_takesBed 36 = .ok (.getfield 85, 3) := by decide +kernel
theorem dX9_takesBed_39 : decode cX9_takesBed 39 = .ok (.iconst 1, 1) := by decide +kernel
theorem dX9_takesBed_40 : decode cX9_takesBed 40 = .ok (.iadd, 1) := by decide +kernel
theorem dX9_takesBed_41 : decode cX9_takesBed 41 = .ok (.putfield 85, 3) := by decide +kernel
theorem dX9_takesBed_44 : decode cX9_takesBed 44 = .ok (.aload_n 0, 1) := by decide +kernel
theorem dX9_takesBed_45 : decode cX9_takesBed 45 = .ok (.getfield 7, 3) := by decide +kernel
theorem dX9_takesBed_48 : decode cX9_takesBed 48 = .ok (.sipush 7219, 3) := by decide +kernel
theorem dX9_takesBed_51 : decode cX9_takesBed 51 = .ok (.iload_n 3, 1) := by decide +kernel
theorem dX9_takesBed_52 : decode cX9_takesBed 52 = .ok (.iadd, 1) := by decide +kernel
theorem dX9_takesBed_53 : decode cX9_takesBed 53 = .ok (.iload_n 2, 1) := by decide +kernel
theorem dX9_takesBed_54 : decode cX9_takesBed 54 = .ok (.iastore, 1) := by decide +kernel
theorem dX9_takesBed_55 : decode cX9_takesBed 55 = .ok (.aload_n 0, 1) := by decide +kernel
theorem dX9_takesBed_56 : decode cX9_takesBed 56 = .ok (.iload_n 1, 1) := by decide +kernel
theorem dX9_takesBed_57 : decode cX9_takesBed 57 = .ok (.iconst 3, 1) := by decide +kernel
theorem dX9_takesBed_58 : decode cX9_takesBed 58 = .ok (.iconst 0, 1) := by decide +kernel
theorem dX9_takesBed_59 : decode cX9_takesBed 59 = .ok (.sipush 7225, 3) := by decide +kernel
theorem dX9_takesBed_62 : decode cX9_takesBed 62 = .ok (.iload_n 3, 1) := by decide +kernel
theorem dX9_takesBed_63 : decode cX9_takesBed 63 = .ok (.iadd, 1) := by decide +kernel
theorem dX9_takesBed_64 : decode cX9_takesBed 64 = .ok (.bipush 6, 2) := by decide +kernel
theorem dX9_takesBed_66 : decode cX9_takesBed 66 = .ok (.invokevirtual 93, 3) := by decide +kernel
theorem dX9_takesBed_69 : decode cX9_takesBed 69 = .ok (.ifCond .ne 5, 3) := by decide +kernel
theorem dX9_takesBed_72 : decode cX9_takesBed 72 = .ok (.iconst 0, 1) := by decide +kernel
theorem dX9_takesBed_73 : decode cX9_takesBed 73 = .ok (.ireturn, 1) := by decide +kernel
theorem dX9_takesBed_74 : decode cX9_takesBed 74 = .ok (.aload_n 0, 1) := by decide +kernel
theorem dX9_takesBed_75 : decode cX9_takesBed 75 = .ok (.getfield 7, 3) := by decide +kernel
theorem dX9_takesBed_78 : decode cX9_takesBed 78 = .ok (.sipush 7216, 3) := by decide +kernel
theorem dX9_takesBed_81 : decode cX9_takesBed 81 = .ok (.dup2, 1) := by decide +kernel
theorem dX9_takesBed_82 : decode cX9_takesBed 82 = .ok (.iaload, 1) := by decide +kernel
theorem dX9_takesBed_83 : decode cX9_takesBed 83 = .ok (.iconst 1, 1) := by decide +kernel
theorem dX9_takesBed_84 : decode cX9_takesBed 84 = .ok (.iadd, 1) := by decide +kernel
theorem dX9_takesBed_85 : decode cX9_takesBed 85 = .ok (.iastore, 1) := by decide +kernel
theorem dX9_takesBed_86 : decode cX9_takesBed 86 = .ok (.iconst 1, 1) := by decide +kernel
theorem dX9_takesBed_87 : decode cX9_takesBed 87 = .ok (.ireturn, 1) := by decide +kernel
theorem dX9_faultOf_0 : decode cX9_faultOf 0 = .ok (.iconst 0, 1) := by decide +kernel
theorem dX9_faultOf_1 : decode cX9_faultOf 1 = .ok (.istore_n 2, 1) := by decide +kernel
theorem dX9_faultOf_2 : decode cX9_faultOf 2 = .ok (.iload_n 2, 1) := by decide +kernel
theorem dX9_faultOf_3 : decode cX9_faultOf 3 = .ok (.bipush 44, 2) := by decide +kernel
theorem dX9_faultOf_5 : decode cX9_faultOf 5 = .ok (.if_icmp .ge 20, 3) := by decide +kernel
theorem dX9_faultOf_8 : decode cX9_faultOf 8 = .ok (.aload_n 0, 1) := by decide +kernel
theorem dX9_faultOf_9 : decode cX9_faultOf 9 = .ok (.getfield 7, 3) := by decide +kernel
theorem dX9_faultOf_12 : decode cX9_faultOf 12 = .ok (.sipush 7216, 3) := by decide +kernel
theorem dX9_faultOf_15 : decode cX9_faultOf 15 = .ok (.iload_n 2, 1) := by decide +kernel
theorem dX9_faultOf_16 : decode cX9_faultOf 16 = .ok (.iadd, 1) := by decide +kernel
theorem dX9_faultOf_17 : decode cX9_faultOf 17 = .ok (.iconst 0, 1) := by decide +kernel
theorem dX9_faultOf_18 : decode cX9_faultOf 18 = .ok (.iastore, 1) := by decide +kernel
theorem dX9_faultOf_19 : decode cX9_faultOf 19 = .ok (.iinc 2 1, 3) := by decide +kernel
theorem dX9_faultOf_22 : decode cX9_faultOf 22 = .ok (.goto (-20), 3) := by decide +kernel
theorem dX9_faultOf_25 : decode cX9_faultOf 25 = .ok (.aload_n 0, 1) := by decide +kernel
theorem dX9_faultOf_26 : decode cX9_faultOf 26 = .ok (.iconst 0, 1) := by decide +kernel
theorem dX9_faultOf_27 : decode cX9_faultOf 27 = .ok (.putfield 85, 3) := by decide +kernel
theorem dX9_faultOf_30 : decode cX9_faultOf 30 = .ok (.aload_n 0, 1) := by decide +kernel
theorem dX9_faultOf_31 : decode cX9_faultOf 31 = .ok (.iload_n 1, 1) := by decide +kernel
theorem dX9_faultOf_32 : decode cX9_faultOf 32 = .ok (.invokevirtual 100, 3) := by decide +kernel
theorem dX9_faultOf_35 : decode cX9_faultOf 35 = .ok (.aload_n 0, 1) := by decide +kernel
theorem dX9_faultOf_36 : decode cX9_faultOf 36 = .ok (.iload_n 1, 1) := by decide +kernel
theorem dX9_faultOf_37 : decode cX9_faultOf 37 = .ok (.invokevirtual 104, 3) := by decide +kernel
theorem dX9_faultOf_40 : decode cX9_faultOf 40 = .ok (.ifCond .ne 8, 3) := by decide +kernel
theorem dX9_faultOf_43 : decode cX9_faultOf 43 = .ok (.aload_n 0, 1) := by decide +kernel
theorem dX9_faultOf_44 : decode cX9_faultOf 44 = .ok (.getfield 85, 3) := by decide +kernel
theorem dX9_faultOf_47 : decode cX9_faultOf 47 = .ok (.ireturn, 1) := by decide +kernel
theorem dX9_faultOf_48 : decode cX9_faultOf 48 = .ok (.aload_n 0, 1) := by decide +kernel
theorem dX9_faultOf_49 : decode cX9_faultOf 49 = .ok (.iload_n 1, 1) := by decide +kernel
theorem dX9_faultOf_50 : decode cX9_faultOf 50 = .ok (.invokevirtual 100, 3) := by decide +kernel
theorem dX9_faultOf_53 : decode cX9_faultOf 53 = .ok (.aload_n 0, 1) := by decide +kernel
theorem dX9_faultOf_54 : decode cX9_faultOf 54 = .ok (.getfield 85, 3) := by decide +kernel
theorem dX9_faultOf_57 : decode cX9_faultOf 57 = .ok (.aload_n 0, 1) := by decide +kernel
theorem dX9_faultOf_58 : decode cX9_faultOf 58 = .ok (.getfield 25, 3) := by decide +kernel
theorem dX9_faultOf_61 : decode cX9_faultOf 61 = .ok (.iload_n 1, 1) := by decide +kernel
theorem dX9_faultOf_62 : decode cX9_faultOf 62 = .ok (.iaload, 1) := by decide +kernel
theorem dX9_faultOf_63 : decode cX9_faultOf 63 = .ok (.if_icmp .lt 14, 3) := by decide +kernel
theorem dX9_faultOf_66 : decode cX9_faultOf 66 = .ok (.aload_n 0, 1) := by decide +kernel
theorem dX9_faultOf_67 : decode cX9_faultOf 67 = .ok (.getfield 7, 3) := by decide +kernel
theorem dX9_faultOf_70 : decode cX9_faultOf 70 = .ok (.sipush 7216, 3) := by decide +kernel
theorem dX9_faultOf_73 : decode cX9_faultOf 73 = .ok (.iaload, 1) := by decide +kernel
theorem dX9_faultOf_74 : decode cX9_faultOf 74 = .ok (.ifCond .ne 24, 3) := by decide +kernel
theorem dX9_faultOf_77 : decode cX9_faultOf 77 = .ok (.aload_n 0, 1) := by decide +kernel
theorem dX9_faultOf_78 : decode cX9_faultOf 78 = .ok (.iload_n 1, 1) := by decide +kernel
theorem dX9_faultOf_79 : decode cX9_faultOf 79 = .ok (.invokevirtual 107, 3) := by decide +kernel
theorem dX9_faultOf_82 : decode cX9_faultOf 82 = .ok (.ifCond .ne 8, 3) := by decide +kernel
theorem dX9_faultOf_85 : decode cX9_faultOf 85 = .ok (.aload_n 0, 1) := by decide +kernel
theorem dX9_faultOf_86 : decode cX9_faultOf 86 = .ok (.getfield 85, 3) := by decide +kernel
theorem dX9_faultOf_89 : decode cX9_faultOf 89 = .ok (.ireturn, 1) := by decide +kernel
theorem dX9_faultOf_90 : decode cX9_faultOf 90 = .ok (.aload_n 0, 1) := by decide +kernel
theorem dX9_faultOf_91 : decode cX9_faultOf 91 = .ok (.iload_n 1, 1) := by decide +kernel
theorem dX9_faultOf_92 : decode cX9_faultOf 92 = .ok (.invokevirtual 100, 3) := by decide +kernel
theorem dX9_faultOf_95 : decode cX9_faultOf 95 = .ok (.goto (-42), 3) := by decide +kernel
theorem dX9_faultOf_98 : decode cX9_faultOf 98 = .ok (.bipush (-9), 2) := by decide +kernel
theorem dX9_faultOf_100 : decode cX9_faultOf 100 = .ok (.ireturn, 1) := by decide +kernel
theorem dX9_fault_0 : decode cX9_fault 0 = .ok (.iload_n 1, 1) := by decide +kernel
theorem dX9_fault_1 : decode cX9_fault 1 = .ok (.invokestatic 82, 3) := by decide +kernel
theorem dX9_fault_4 : decode cX9_fault 4 = .ok (.ifCond .ne 5, 3) := by decide +kernel
theorem dX9_fault_7 : decode cX9_fault 7 = .ok (.iconst (-1), 1) := by decide +kernel
theorem dX9_fault_8 : decode cX9_fault 8 = .ok (.ireturn, 1) := by decide +kernel
theorem dX9_fault_9 : decode cX9_fault 9 = .ok (.aload_n 0, 1) := by decide +kernel
theorem dX9_fault_10 : decode cX9_fault 10 = .ok (.getfield 25, 3) := by decide +kernel
theorem dX9_fault_13 : decode cX9_fault 13 = .ok (.iload_n 1, 1) := by decide +kernel
theorem dX9_fault_14 : decode cX9_fault 14 = .ok (.iaload, 1) := by decide +kernel
theorem dX9_fault_15 : decode cX9_fault 15 = .ok (.ifCond .ge 11, 3) := by decide +kernel
theorem dX9_fault_18 : decode cX9_fault 18 = .ok (.aload_n 0, 1) := by decide +kernel
theorem dX9_fault_19 : decode cX9_fault 19 = .ok (.iconst 1, 1) := by decide +kernel
theorem dX9_fault_20 : decode cX9_fault 20 = .ok (.invokevirtual 63, 3) := by decide +kernel
theorem dX9_fault_23 : decode cX9_fault 23 = .ok (.goto 8, 3) := by decide +kernel
theorem dX9_fault_26 : decode cX9_fault 26 = .ok (.aload_n 0, 1) := by decide +kernel
theorem dX9_fault_27 : decode cX9_fault 27 = .ok (.iload_n 1, 1) := by decide +kernel
theorem dX9_fault_28 : decode cX9_fault 28 = .ok (.invokevirtual 110, 3) := by decide +kernel
theorem dX9_fault_31 : decode cX9_fault 31 = .ok (.ireturn, 1) := by decide +kernel
theorem dX9_town_0 : decode cX9_town 0 = .ok (.iload_n 1, 1) := by decide +kernel
theorem dX9_town_1 : decode cX9_town 1 = .ok (.invokestatic 82, 3) := by decide +kernel
theorem dX9_town_4 : decode cX9_town 4 = .ok (.ifCond .ne 5, 3) := by decide +kernel
theorem dX9_town_7 : decode cX9_town 7 = .ok (.iconst (-1), 1) := by decide +kernel
theorem dX9_town_8 : decode cX9_town 8 = .ok (.ireturn, 1) := by decide +kernel
theorem dX9_town_9 : decode cX9_town 9 = .ok (.aload_n 0, 1) := by decide +kernel
theorem dX9_town_10 : decode cX9_town 10 = .ok (.getfield 25, 3) := by decide +kernel
theorem dX9_town_13 : decode cX9_town 13 = .ok (.iload_n 1, 1) := by decide +kernel
theorem dX9_town_14 : decode cX9_town 14 = .ok (.iaload, 1) := by decide +kernel
theorem dX9_town_15 : decode cX9_town 15 = .ok (.ifCond .ge 9, 3) := by decide +kernel
theorem dX9_town_18 : decode cX9_town 18 = .ok (.aload_n 0, 1) := by decide +kernel
theorem dX9_town_19 : decode cX9_town 19 = .ok (.iconst 1, 1) := by decide +kernel
theorem dX9_town_20 : decode cX9_town 20 = .ok (.invokevirtual 63, 3) := by decide +kernel
theorem dX9_town_23 : decode cX9_town 23 = .ok (.ireturn, 1) := by decide +kernel
theorem dX9_town_24 : decode cX9_town 24 = .ok (.aload_n 0, 1) := by decide +kernel
theorem dX9_town_25 : decode cX9_town 25 = .ok (.iload_n 1, 1) := by decide +kernel
theorem dX9_town_26 : decode cX9_town 26 = .ok (.invokevirtual 110, 3) := by decide +kernel
theorem dX9_town_29 : decode cX9_town 29 = .ok (.bipush (-9), 2) := by decide +kernel
theorem dX9_town_31 : decode cX9_town 31 = .ok (.if_icmp .eq 6, 3) := by decide +kernel
theorem dX9_town_34 : decode cX9_town 34 = .ok (.bipush (-4), 2) := by decide +kernel
theorem dX9_town_36 : decode cX9_town 36 = .ok (.ireturn, 1) := by decide +kernel
theorem dX9_town_37 : decode cX9_town 37 = .ok (.aload_n 0, 1) := by decide +kernel
theorem dX9_town_38 : decode cX9_town 38 = .ok (.sipush 7216, 3) := by decide +kernel
theorem dX9_town_41 : decode cX9_town 41 = .ok (.iconst 0, 1) := by decide +kernel
theorem dX9_town_42 : decode cX9_town 42 = .ok (.bipush 44, 2) := by decide +kernel
theorem dX9_town_44 : decode cX9_town 44 = .ok (.invokevirtual 113, 3) := by decide +kernel
theorem dX9_town_47 : decode cX9_town 47 = .ok (.aload_n 0, 1) := by decide +kernel
theorem dX9_town_48 : decode cX9_town 48 = .ok (.iconst 0, 1) := by decide +kernel
theorem dX9_town_49 : decode cX9_town 49 = .ok (.putfield 117, 3) := by decide +kernel
theorem dX9_town_52 : decode cX9_town 52 = .ok (.iconst 0, 1) := by decide +kernel
theorem dX9_town_53 : decode cX9_town 53 = .ok (.istore_n 2, 1) := by decide +kernel
theorem dX9_town_54 : decode cX9_town 54 = .ok (.iload_n 2, 1) := by decide +kernel
theorem dX9_town_55 : decode cX9_town 55 = .ok (.iconst 3, 1) := by decide +kernel
theorem dX9_town_56 : decode cX9_town 56 = .ok (.if_icmp .ge 16, 3) := by decide +kernel
theorem dX9_town_59 : decode cX9_town 59 = .ok (.aload_n 0, 1) := by decide +kernel
theorem dX9_town_60 : decode cX9_town 60 = .ok (.getfield 13, 3) := by decide +kernel
theorem dX9_town_63 : decode cX9_town 63 = .ok (.iload_n 2, 1) := by decide +kernel
theorem dX9_town_64 : decode cX9_town 64 = .ok (.iconst (-1), 1) := by decide +kernel
theorem dX9_town_65 : decode cX9_town 65 = .ok (.iastore, 1) := by decide +kernel
theorem dX9_town_66 : decode cX9_town 66 = .ok (.iinc 2 1, 3) := by decide +kernel
theorem dX9_town_69 : decode cX9_town 69 = .ok (.goto (-15), 3) := by decide +kernel
theorem dX9_town_72 : decode cX9_town 72 = .ok (.aload_n 0, 1) := by decide +kernel
theorem dX9_town_73 : decode cX9_town 73 = .ok (.getfield 7, 3) := by decide +kernel
theorem dX9_town_76 : decode cX9_town 76 = .ok (.iconst 0, 1) := by decide +kernel
theorem dX9_town_77 : decode cX9_town 77 = .ok (.iaload, 1) := by decide +kernel
theorem dX9_town_78 : decode cX9_town 78 = .ok (.ireturn, 1) := by decide +kernel
theorem dX9_isBed_0 : decode cX9_isBed 0 = .ok (.iload_n 1, 1) := by decide +kernel
theorem dX9_isBed_1 : decode cX9_isBed 1 = .ok (.i2l, 1) := by decide +kernel
theorem dX9_isBed_2 : decode cX9_isBed 2 = .ok (.lconst 0, 1) := by decide +kernel
theorem dX9_isBed_3 : decode cX9_isBed 3 = .ok (.aload_n 0, 1) := by decide +kernel
theorem dX9_isBed_4 : decode cX9_isBed 4 = .ok (.getfield 7, 3) := by decide +kernel
theorem dX9_isBed_7 : decode cX9_isBed 7 = .ok (.iconst 0, 1) := by decide +kernel
theorem dX9_isBed_8 : decode cX9_isBed 8 = .ok (.iaload, 1) := by decide +kernel
theorem dX9_isBed_9 : decode cX9_isBed 9 = .ok (.iconst 1, 1) := by decide +kernel
theorem dX9_isBed_10 : decode cX9_isBed 10 = .ok (.isub, 1) := by decide +kernel
theorem dX9_isBed_11 : decode cX9_isBed 11 = .ok (.i2l, 1) := by decide +kernel
theorem dX9_isBed_12 : decode cX9_isBed 12 = .ok (.invokestatic 53, 3) := by decide +kernel
theorem dX9_isBed_15 : decode cX9_isBed 15 = .ok (.ireturn, 1) := by decide +kernel
theorem dX9_isTown_0 : decode cX9_isTown 0 = .ok (.aload_n 0, 1) := by decide +kernel
theorem dX9_isTown_1 : decode cX9_isTown 1 = .ok (.getfield 7, 3) := by decide +kernel
theorem dX9_isTown_4 : decode cX9_isTown 4 = .ok (.iconst 0, 1) := by decide +kernel
theorem dX9_isTown_5 : decode cX9_isTown 5 = .ok (.iaload, 1) := by decide +kernel
theorem dX9_isTown_6 : decode cX9_isTown 6 = .ok (.ifCond .le 7, 3) := by decide +kernel
theorem dX9_isTown_9 : decode cX9_isTown 9 = .ok (.iconst 1, 1) := by decide +kernel
theorem dX9_isTown_10 : decode cX9_isTown 10 = .ok (.goto 4, 3) := by decide +kernel
theorem dX9_isTown_13 : decode cX9_isTown 13 = .ok (.iconst 0, 1) := by decide +kernel
theorem dX9_isTown_14 : decode cX9_isTown 14 = .ok (.ireturn, 1) := by decide +kernel
theorem dX9_barOf_0 : decode cX9_barOf 0 = .ok (.iload_n 0, 1) := by decide +kernel
theorem dX9_barOf_1 : decode cX9_barOf 1 = .ok (.iconst 1, 1) := by decide +kernel
theorem dX9_barOf_2 : decode cX9_barOf 2 = .ok (.if_icmp .eq 8, 3) := by decide +kernel
theorem dX9_barOf_5 : decode cX9_barOf 5 = .ok (.iload_n 0, 1) := by decide +kernel
theorem dX9_barOf_6 : decode cX9_barOf 6 = .ok (.iconst 5, 1) := by decide +kernel
theorem dX9_barOf_7 : decode cX9_barOf 7 = .ok (.if_icmp .ne 9, 3) := by decide +kernel
theorem dX9_barOf_10 : decode cX9_barOf 10 = .ok (.iload_n 1, 1) := by decide +kernel
theorem dX9_barOf_11 : decode cX9_barOf 11 = .ok (.iconst 2, 1) := by decide +kernel
theorem dX9_barOf_12 : decode cX9_barOf 12 = .ok (.iadd, 1) := by decide +kernel
theorem dX9_barOf_13 : decode cX9_barOf 13 = .ok (.goto 20, 3) := by decide +kernel
theorem dX9_barOf_16 : decode cX9_barOf 16 = .ok (.iload_n 0, 1) := by decide +kernel
theorem dX9_barOf_17 : decode cX9_barOf 17 = .ok (.iconst 2, 1) := by decide +kernel
theorem dX9_barOf_18 : decode cX9_barOf 18 = .ok (.if_icmp .eq 8, 3) := by decide +kernel
theorem dX9_barOf_21 : decode cX9_barOf 21 = .ok (.iload_n 0, 1) := by decide +kernel
theorem dX9_barOf_22 : decode cX9_barOf 22 = .ok (.iconst 4, 1) := by decide +kernel
theorem dX9_barOf_23 : decode cX9_barOf 23 = .ok (.if_icmp .ne 9, 3) := by decide +kernel
theorem dX9_barOf_26 : decode cX9_barOf 26 = .ok (.iload_n 1, 1) := by decide +kernel
theorem dX9_barOf_27 : decode cX9_barOf 27 = .ok (.iconst 2, 1) := by decide +kernel
theorem dX9_barOf_28 : decode cX9_barOf 28 = .ok (.idiv, 1) := by decide +kernel
theorem dX9_barOf_29 : decode cX9_barOf 29 = .ok (.goto 4, 3) := by decide +kernel
theorem dX9_barOf_32 : decode cX9_barOf 32 = .ok (.iload_n 1, 1) := by decide +kernel
theorem dX9_barOf_33 : decode cX9_barOf 33 = .ok (.ireturn, 1) := by decide +kernel
theorem dX9_crossBy_0 : decode cX9_crossBy 0 = .ok (.iload_n 3, 1) := by decide +kernel
theorem dX9_crossBy_1 : decode cX9_crossBy 1 = .ok (.aload_n 0, 1) := by decide +kernel
theorem dX9_crossBy_2 : decode cX9_crossBy 2 = .ok (.getfield 7, 3) := by decide +kernel
theorem dX9_crossBy_5 : decode cX9_crossBy 5 = .ok (.bipush 39, 2) := by decide +kernel
theorem dX9_crossBy_7 : decode cX9_crossBy 7 = .ok (.iload 4, 2) := by decide +kernel
theorem dX9_crossBy_9 : decode cX9_crossBy 9 = .ok (.iconst 4, 1) := by decide +kernel
theorem dX9_crossBy_10 : decode cX9_crossBy 10 = .ok (.irem, 1) := by decide +kernel
theorem dX9_crossBy_11 : decode cX9_crossBy 11 = .ok (.iadd, 1) := by decide +kernel
theorem dX9_crossBy_12 : decode cX9_crossBy 12 = .ok (.iaload, 1) := by decide +kernel
theorem dX9_crossBy_13 : decode cX9_crossBy 13 = .ok (.iadd, 1) := by decide +kernel
theorem dX9_crossBy_14 : decode cX9_crossBy 14 = .ok (.iload_n 1, 1) := by decide +kernel
theorem dX9_crossBy_15 : decode cX9_crossBy 15 = .ok (.iload_n 2, 1) := by decide +kernel
theorem dX9_crossBy_16 : decode cX9_crossBy 16 = .ok (.invokestatic 120, 3) := by decide +kernel
theorem dX9_crossBy_19 : decode cX9_crossBy 19 = .ok (.isub, 1) := by decide +kernel
theorem dX9_crossBy_20 : decode cX9_crossBy 20 = .ok (.istore 5, 2) := by decide +kernel
theorem dX9_crossBy_22 : decode cX9_crossBy 22 = .ok (.iload 5, 2) := by decide +kernel
theorem dX9_crossBy_24 : decode cX9_crossBy 24 = .ok (.ifCond .ge 7, 3) := by decide +kernel
theorem dX9_crossBy_27 : decode cX9_crossBy 27 = .ok (.iconst 0, 1) := by decide +kernel
theorem dX9_crossBy_28 : decode cX9_crossBy 28 = .ok (.goto 5, 3) := by decide +kernel
theorem dX9_crossBy_31 : decode cX9_crossBy 31 = .ok (.iload 5, 2) := by decide +kernel
theorem dX9_crossBy_33 : decode cX9_crossBy 33 = .ok (.istore 6, 2) := by decide +kernel
theorem dX9_crossBy_35 : decode cX9_crossBy 35 = .ok (.iload_n 1, 1) := by decide +kernel
theorem dX9_crossBy_36 : decode cX9_crossBy 36 = .ok (.tableswitch 62 3 5 #[28, 43, 57], 28) := by decide +kernel
theorem dX9_crossBy_64 : decode cX9_crossBy 64 = .ok (.iload 4, 2) := by decide +kernel
theorem dX9_crossBy_66 : decode cX9_crossBy 66 = .ok (.iconst 2, 1) := by decide +kernel
theorem dX9_crossBy_67 : decode cX9_crossBy 67 = .ok (.irem, 1) := by decide +kernel
theorem dX9_crossBy_68 : decode cX9_crossBy 68 = .ok (.iconst 1, 1) := by decide +kernel
theorem dX9_crossBy_69 : decode cX9_crossBy 69 = .ok (.if_icmp .ne 7, 3) := by decide +kernel
theorem dX9_crossBy_72 : decode cX9_crossBy 72 = .ok (.iconst 0, 1) := by decide +kernel
theorem dX9_crossBy_73 : decode cX9_crossBy 73 = .ok (.goto 5, 3) := by decide +kernel
theorem dX9_crossBy_76 : decode cX9_crossBy 76 = .ok (.iload 6, 2) := by decide +kernel
theorem dX9_crossBy_78 : decode cX9_crossBy 78 = .ok (.ireturn, 1) := by decide +kernel
theorem dX9_crossBy_79 : decode cX9_crossBy 79 = .ok (.iload 6, 2) := by decide +kernel
theorem dX9_crossBy_81 : decode cX9_crossBy 81 = .ok (.ifCond .le 10, 3) := by decide +kernel
theorem dX9_crossBy_84 : decode cX9_crossBy 84 = .ok (.iload 6, 2) := by decide +kernel
theorem dX9_crossBy_86 : decode cX9_crossBy 86 = .ok (.iconst 1, 1) := by decide +kernel
theorem dX9_crossBy_87 : decode cX9_crossBy 87 = .ok (.iadd, 1) := by decide +kernel
theorem dX9_crossBy_88 : decode cX9_crossBy 88 = .ok (.goto 4, 3) := by decide +kernel
theorem dX9_crossBy_91 : decode cX9_crossBy 91 = .ok (.iconst 0, 1) := by decide +kernel
theorem dX9_crossBy_92 : decode cX9_crossBy 92 = .ok (.ireturn, 1) := by decide +kernel
theorem dX9_crossBy_93 : decode cX9_crossBy 93 = .ok (.iload 6, 2) := by decide +kernel
theorem dX9_crossBy_95 : decode cX9_crossBy 95 = .ok (.iconst 2, 1) := by decide +kernel
theorem dX9_crossBy_96 : decode cX9_crossBy 96 = .ok (.idiv, 1) := by decide +kernel
theorem dX9_crossBy_97 : decode cX9_crossBy 97 = .ok (.ireturn, 1) := by decide +kernel
theorem dX9_crossBy_98 : decode cX9_crossBy 98 = .ok (.iload 6, 2) := by decide +kernel
theorem dX9_crossBy_100 : decode cX9_crossBy 100 = .ok (.ireturn, 1) := by decide +kernel
theorem dX9_gapIn_0 : decode cX9_gapIn 0 = .ok (.aload_n 0, 1) := by decide +kernel
theorem dX9_gapIn_1 : decode cX9_gapIn 1 = .ok (.getfield 7, 3) := by decide +kernel
theorem dX9_gapIn_4 : decode cX9_gapIn 4 = .ok (.iload_n 1, 1) := by decide +kernel
theorem dX9_gapIn_5 : decode cX9_gapIn 5 = .ok (.bipush 9, 2) := by decide +kernel
theorem dX9_gapIn_7 : decode cX9_gapIn 7 = .ok (.iadd, 1) := by decide +kernel
theorem dX9_gapIn_8 : decode cX9_gapIn 8 = .ok (.iload_n 2, 1) := by decide +kernel
theorem dX9_gapIn_9 : decode cX9_gapIn 9 = .ok (.iadd, 1) := by decide +kernel
theorem dX9_gapIn_10 : decode cX9_gapIn 10 = .ok (.iaload, 1) := by decide +kernel
theorem dX9_gapIn_11 : decode cX9_gapIn 11 = .ok (.aload_n 0, 1) := by decide +kernel
theorem dX9_gapIn_12 : decode cX9_gapIn 12 = .ok (.getfield 7, 3) := by decide +kernel
theorem dX9_gapIn_15 : decode cX9_gapIn 15 = .ok (.iload_n 1, 1) := by decide +kernel
theorem dX9_gapIn_16 : decode cX9_gapIn 16 = .ok (.bipush 15, 2) := by decide +kernel
theorem dX9_gapIn_18 : decode cX9_gapIn 18 = .ok (.iadd, 1) := by decide +kernel
theorem dX9_gapIn_19 : decode cX9_gapIn 19 = .ok (.iload_n 2, 1) := by decide +kernel
theorem dX9_gapIn_20 : decode cX9_gapIn 20 = .ok (.iadd, 1) := by decide +kernel
theorem dX9_gapIn_21 : decode cX9_gapIn 21 = .ok (.iaload, 1) := by decide +kernel
theorem dX9_gapIn_22 : decode cX9_gapIn 22 = .ok (.invokestatic 123, 3) := by decide +kernel
theorem dX9_gapIn_25 : decode cX9_gapIn 25 = .ok (.ireturn, 1) := by decide +kernel
theorem dX9_crossIn_0 : decode cX9_crossIn 0 = .ok (.aload_n 0, 1) := by decide +kernel
theorem dX9_crossIn_1 : decode cX9_crossIn 1 = .ok (.aload_n 0, 1) := by decide +kernel
theorem dX9_crossIn_2 : decode cX9_crossIn 2 = .ok (.getfield 7, 3) := by decide +kernel
theorem dX9_crossIn_5 : decode cX9_crossIn 5 = .ok (.iload_n 1, 1) := by decide +kernel
theorem dX9_crossIn_6 : decode cX9_crossIn 6 = .ok (.iconst 3, 1) := by decide +kernel
theorem dX9_crossIn_7 : decode cX9_crossIn 7 = .ok (.iadd, 1) := by decide +kernel
theorem dX9_crossIn_8 : decode cX9_crossIn 8 = .ok (.iload_n 2, 1) := by decide +kernel
theorem dX9_crossIn_9 : decode cX9_crossIn 9 = .ok (.iadd, 1) := by decide +kernel
theorem dX9_crossIn_10 : decode cX9_crossIn 10 = .ok (.iaload, 1) := by decide +kernel
theorem dX9_crossIn_11 : decode cX9_crossIn 11 = .ok (.aload_n 0, 1) := by decide +kernel
theorem dX9_crossIn_12 : decode cX9_crossIn 12 = .ok (.getfield 7, 3) := by decide +kernel
theorem dX9_crossIn_15 : decode cX9_crossIn 15 = .ok (.iload_n 1, 1) := by decide +kernel
theorem dX9_crossIn_16 : decode cX9_crossIn 16 = .ok (.bipush 21, 2) := by decide +kernel
theorem dX9_crossIn_18 : decode cX9_crossIn 18 = .ok (.iadd, 1) := by decide +kernel
theorem dX9_crossIn_19 : decode cX9_crossIn 19 = .ok (.iload_n 2, 1) := by decide +kernel
theorem dX9_crossIn_20 : decode cX9_crossIn 20 = .ok (.iadd, 1) := by decide +kernel
theorem dX9_crossIn_21 : decode cX9_crossIn 21 = .ok (.iaload, 1) := by decide +kernel
theorem dX9_crossIn_22 : decode cX9_crossIn 22 = .ok (.aload_n 0, 1) := by decide +kernel
theorem dX9_crossIn_23 : decode cX9_crossIn 23 = .ok (.iload_n 1, 1) := by decide +kernel
theorem dX9_crossIn_24 : decode cX9_crossIn 24 = .ok (.iload_n 2, 1) := by decide +kernel
theorem dX9_crossIn_25 : decode cX9_crossIn 25 = .ok (.invokevirtual 126, 3) := by decide +kernel
theorem dX9_crossIn_28 : decode cX9_crossIn 28 = .ok (.aload_n 0, 1) := by decide +kernel
theorem dX9_crossIn_29 : decode cX9_crossIn 29 = .ok (.getfield 7, 3) := by decide +kernel
theorem dX9_crossIn_32 : decode cX9_crossIn 32 = .ok (.iload_n 1, 1) := by decide +kernel
theorem dX9_crossIn_33 : decode cX9_crossIn 33 = .ok (.iconst 1, 1) := by decide +kernel
theorem dX9_crossIn_34 : decode cX9_crossIn 34 = .ok (.iadd, 1) := by decide +kernel
theorem dX9_crossIn_35 : decode cX9_crossIn 35 = .ok (.iaload, 1) := by decide +kernel
theorem dX9_crossIn_36 : decode cX9_crossIn 36 = .ok (.invokevirtual 129, 3) := by decide +kernel
theorem dX9_crossIn_39 : decode cX9_crossIn 39 = .ok (.ireturn, 1) := by decide +kernel
theorem dX9_passes_0 : decode cX9_passes 0 = .ok (.iconst 0, 1) := by decide +kernel
theorem dX9_passes_1 : decode cX9_passes 1 = .ok (.istore_n 2, 1) := by decide +kernel
theorem dX9_passes_2 : decode cX9_passes 2 = .ok (.iconst 0, 1) := by decide +kernel
theorem dX9_passes_3 : decode cX9_passes 3 = .ok (.istore_n 3, 1) := by decide +kernel
theorem dX9_passes_4 : decode cX9_passes 4 = .ok (.iload_n 3, 1) := by decide +kernel
theorem dX9_passes_5 : decode cX9_passes 5 = .ok (.aload_n 0, 1) := by decide +kernel
theorem dX9_passes_6 : decode cX9_passes 6 = .ok (.getfield 7, 3) := by decide +kernel
theorem dX9_passes_9 : decode cX9_passes 9 = .ok (.iload_n 1, 1) := by decide +kernel
theorem dX9_passes_10 : decode cX9_passes 10 = .ok (.iconst 0, 1) := by decide +kernel
theorem dX9_passes_11 : decode cX9_passes 11 = .ok (.iadd, 1) := by decide +kernel
theorem dX9_passes_12 : decode cX9_passes 12 = .ok (.iaload, 1) := by decide +kernel
theorem dX9_passes_13 : decode cX9_passes 13 = .ok (.if_icmp .ge 102, 3) := by decide +kernel
theorem dX9_passes_16 : decode cX9_passes 16 = .ok (.aload_n 0, 1) := by decide +kernel
theorem dX9_passes_17 : decode cX9_passes 17 = .ok (.iload_n 1, 1) := by decide +kernel
theorem dX9_passes_18 : decode cX9_passes 18 = .ok (.iload_n 3, 1) := by decide +kernel
theorem dX9_passes_19 : decode cX9_passes 19 = .ok (.invokevirtual 133, 3) := by decide +kernel
theorem dX9_passes_22 : decode cX9_passes 22 = .ok (.istore 4, 2) := by decide +kernel
theorem dX9_passes_24 : decode cX9_passes 24 = .ok (.aload_n 0, 1) := by decide +kernel
theorem dX9_passes_25 : decode cX9_passes 25 = .ok (.getfield 7, 3) := by decide +kernel
theorem dX9_passes_28 : decode cX9_passes 28 = .ok (.iload_n 1, 1) := by decide +kernel
theorem dX9_passes_29 : decode cX9_passes 29 = .ok (.bipush 27, 2) := by decide +kernel
theorem dX9_passes_31 : decode cX9_passes 31 = .ok (.iadd, 1) := by decide +kernel
theorem dX9_passes_32 : decode cX9_passes 32 = .ok (.iload_n 3, 1) := by decide +kernel
theorem dX9_passes_33 : decode cX9_passes 33 = .ok (.iadd, 1) := by decide +kernel
theorem dX9_passes_34 : decode cX9_passes 34 = .ok (.iaload, 1) := by decide +kernel
theorem dX9_passes_35 : decode cX9_passes 35 = .ok (.iload 4, 2) := by decide +kernel
theorem dX9_passes_37 : decode cX9_passes 37 = .ok (.iadd, 1) := by decide +kernel
theorem dX9_passes_38 : decode cX9_passes 38 = .ok (.istore 5, 2) := by decide +kernel
theorem dX9_passes_40 : decode cX9_passes 40 = .ok (.aload_n 0, 1) := by decide +kernel
theorem dX9_passes_41 : decode cX9_passes 41 = .ok (.getfield 7, 3) := by decide +kernel
theorem dX9_passes_44 : decode cX9_passes 44 = .ok (.iload_n 1, 1) := by decide +kernel
theorem dX9_passes_45 : decode cX9_passes 45 = .ok (.bipush 27, 2) := by decide +kernel
theorem dX9_passes_47 : decode cX9_passes 47 = .ok (.iadd, 1) := by decide +kernel
theorem dX9_passes_48 : decode cX9_passes 48 = .ok (.iload_n 3, 1) := by decide +kernel
theorem dX9_passes_49 : decode cX9_passes 49 = .ok (.iadd, 1) := by decide +kernel
theorem dX9_passes_50 : decode cX9_passes 50 = .ok (.iload 5, 2) := by decide +kernel
theorem dX9_passes_52 : decode cX9_passes 52 = .ok (.bipush 99, 2) := by decide +kernel
theorem dX9_passes_54 : decode cX9_passes 54 = .ok (.if_icmp .le 8, 3) := by decide +kernel
theorem dX9_passes_57 : decode cX9_passes 57 = .ok (.bipush 99, 2) := by decide +kernel
theorem dX9_passes_59 : decode cX9_passes 59 = .ok (.goto 5, 3) := by decide +kernel
theorem dX9_passes_62 : decode cX9_passes 62 = .ok (.iload 5, 2) := by decide +kernel
theorem dX9_passes_64 : decode cX9_passes 64 = .ok (.iastore, 1) := by decide +kernel
theorem dX9_passes_65 : decode cX9_passes 65 = .ok (.aload_n 0, 1) := by decide +kernel
theorem dX9_passes_66 : decode cX9_passes 66 = .ok (.getfield 7, 3) := by decide +kernel
theorem dX9_passes_69 : decode cX9_passes 69 = .ok (.iload_n 1, 1) := by decide +kernel
theorem dX9_passes_70 : decode cX9_passes 70 = .ok (.bipush 21, 2) := by decide +kernel
theorem dX9_passes_72 : decode cX9_passes 72 = .ok (.iadd, 1) := by decide +kernel
theorem dX9_passes_73 : decode cX9_passes 73 = .ok (.iload_n 3, 1) := by decide +kernel
theorem dX9_passes_74 : decode cX9_passes 74 = .ok (.iadd, 1) := by decide +kernel
theorem dX9_passes_75 : decode cX9_passes 75 = .ok (.dup2, 1) := by decide +kernel
theorem dX9_passes_76 : decode cX9_passes 76 = .ok (.iaload, 1) := by decide +kernel
theorem dX9_passes_77 : decode cX9_passes 77 = .ok (.iload 4, 2) := by decide +kernel
theorem dX9_passes_79 : decode cX9_passes 79 = .ok (.iconst 3, 1) := by decide +kernel
theorem dX9_passes_80 : decode cX9_passes 80 = .ok (.if_icmp .lt 21, 3) := by decide +kernel
theorem dX9_passes_83 : decode cX9_passes 83 = .ok (.aload_n 0, 1) := by decide +kernel
theorem dX9_passes_84 : decode cX9_passes 84 = .ok (.getfield 7, 3) := by decide +kernel
theorem dX9_passes_87 : decode cX9_passes 87 = .ok (.iload_n 1, 1) := by decide +kernel
theorem dX9_passes_88 : decode cX9_passes 88 = .ok (.bipush 21, 2) := by decide +kernel
theorem dX9_passes_90 : decode cX9_passes 90 = .ok (.iadd, 1) := by decide +kernel
theorem dX9_passes_91 : decode cX9_passes 91 = .ok (.iload_n 3, 1) := by decide +kernel
theorem dX9_passes_92 : decode cX9_passes 92 = .ok (.iadd, 1) := by decide +kernel
theorem dX9_passes_93 : decode cX9_passes 93 = .ok (.iaload, 1) := by decide +kernel
theorem dX9_passes_94 : decode cX9_passes 94 = .ok (.ifCond .le 7, 3) := by decide +kernel
theorem dX9_passes_97 : decode cX9_passes 97 = .ok (.iconst 1, 1) := by decide +kernel
theorem dX9_passes_98 : decode cX9_passes 98 = .ok (.goto 4, 3) := by decide +kernel
theorem dX9_passes_101 : decode cX9_passes 101 = .ok (.iconst 0, 1) := by decide +kernel
theorem dX9_passes_102 : decode cX9_passes 102 = .ok (.isub, 1) := by decide +kernel
theorem dX9_passes_103 : decode cX9_passes 103 = .ok (.iastore, 1) := by decide +kernel
theorem dX9_passes_104 : decode cX9_passes 104 = .ok (.iload_n 2, 1) := by decide +kernel
theorem dX9_passes_105 : decode cX9_passes 105 = .ok (.iload 4, 2) := by decide +kernel
theorem dX9_passes_107 : decode cX9_passes 107 = .ok (.iadd, 1) := by decide +kernel
theorem dX9_passes_108 : decode cX9_passes 108 = .ok (.istore_n 2, 1) := by decide +kernel
theorem dX9_passes_109 : decode cX9_passes 109 = .ok (.iinc 3 1, 3) := by decide +kernel
theorem dX9_passes_112 : decode cX9_passes 112 = .ok (.goto (-108), 3) := by decide +kernel
theorem dX9_passes_115 : decode cX9_passes 115 = .ok (.aload_n 0, 1) := by decide +kernel
theorem dX9_passes_116 : decode cX9_passes 116 = .ok (.getfield 7, 3) := by decide +kernel
theorem dX9_passes_119 : decode cX9_passes 119 = .ok (.iload_n 1, 1) := by decide +kernel
theorem dX9_passes_120 : decode cX9_passes 120 = .ok (.iconst 1, 1) := by decide +kernel
theorem dX9_passes_121 : decode cX9_passes 121 = .ok (.iadd, 1) := by decide +kernel
theorem dX9_passes_122 : decode cX9_passes 122 = .ok (.dup2, 1) := by decide +kernel
theorem dX9_passes_123 : decode cX9_passes 123 = .ok (.iaload, 1) := by decide +kernel
theorem dX9_passes_124 : decode cX9_passes 124 = .ok (.iconst 1, 1) := by decide +kernel
theorem dX9_passes_125 : decode cX9_passes 125 = .ok (.iadd, 1) := by decide +kernel
theorem dX9_passes_126 : decode cX9_passes 126 = .ok (.iastore, 1) := by decide +kernel
theorem dX9_passes_127 : decode cX9_passes 127 = .ok (.iload_n 2, 1) := by decide +kernel
theorem dX9_passes_128 : decode cX9_passes 128 = .ok (.ireturn, 1) := by decide +kernel
theorem dX9_isDue_0 : decode cX9_isDue 0 = .ok (.aload_n 0, 1) := by decide +kernel
theorem dX9_isDue_1 : decode cX9_isDue 1 = .ok (.getfield 7, 3) := by decide +kernel
theorem dX9_isDue_4 : decode cX9_isDue 4 = .ok (.iload_n 1, 1) := by decide +kernel
theorem dX9_isDue_5 : decode cX9_isDue 5 = .ok (.bipush 27, 2) := by decide +kernel
theorem dX9_isDue_7 : decode cX9_isDue 7 = .ok (.iadd, 1) := by decide +kernel
theorem dX9_isDue_8 : decode cX9_isDue 8 = .ok (.iload_n 2, 1) := by decide +kernel
theorem dX9_isDue_9 : decode cX9_isDue 9 = .ok (.iadd, 1) := by decide +kernel
theorem dX9_isDue_10 : decode cX9_isDue 10 = .ok (.iaload, 1) := by decide +kernel
theorem dX9_isDue_11 : decode cX9_isDue 11 = .ok (.aload_n 0, 1) := by decide +kernel
theorem dX9_isDue_12 : decode cX9_isDue 12 = .ok (.getfield 7, 3) := by decide +kernel
theorem dX9_isDue_15 : decode cX9_isDue 15 = .ok (.iload_n 1, 1) := by decide +kernel
theorem dX9_isDue_16 : decode cX9_isDue 16 = .ok (.bipush 43, 2) := by decide +kernel
theorem dX9_isDue_18 : decode cX9_isDue 18 = .ok (.iadd, 1) := by decide +kernel
theorem dX9_isDue_19 : decode cX9_isDue 19 = .ok (.iaload, 1) := by decide +kernel
theorem dX9_isDue_20 : decode cX9_isDue 20 = .ok (.if_icmp .lt 7, 3) := by decide +kernel
theorem dX9_isDue_23 : decode cX9_isDue 23 = .ok (.iconst 1, 1) := by decide +kernel
theorem dX9_isDue_24 : decode cX9_isDue 24 = .ok (.goto 4, 3) := by decide +kernel
theorem dX9_isDue_27 : decode cX9_isDue 27 = .ok (.iconst 0, 1) := by decide +kernel
theorem dX9_isDue_28 : decode cX9_isDue 28 = .ok (.ireturn, 1) := by decide +kernel
theorem dX9_inspects_0 : decode cX9_inspects 0 = .ok (.aload_n 0, 1) := by decide +kernel
theorem dX9_inspects_1 : decode cX9_inspects 1 = .ok (.iload_n 1, 1) := by decide +kernel
theorem dX9_inspects_2 : decode cX9_inspects 2 = .ok (.iload_n 2, 1) := by decide +kernel
theorem dX9_inspects_3 : decode cX9_inspects 3 = .ok (.invokevirtual 136, 3) := by decide +kernel
theorem dX9_inspects_6 : decode cX9_inspects 6 = .ok (.ifCond .ne 5, 3) := by decide +kernel
theorem dX9_inspects_9 : decode cX9_inspects 9 = .ok (.iconst 0, 1) := by decide +kernel
theorem dX9_inspects_10 : decode cX9_inspects 10 = .ok (.ireturn, 1) := by decide +kernel
theorem dX9_inspects_11 : decode cX9_inspects 11 = .ok (.aload_n 0, 1) := by decide +kernel
theorem dX9_inspects_12 : decode cX9_inspects 12 = .ok (.getfield 7, 3) := by decide +kernel
theorem dX9_inspects_15 : decode cX9_inspects 15 = .ok (.iload_n 1, 1) := by decide +kernel
theorem dX9_inspects_16 : decode cX9_inspects 16 = .ok (.bipush 27, 2) := by decide +kernel
theorem dX9_inspects_18 : decode cX9_inspects 18 = .ok (.iadd, 1) := by decide +kernel
theorem dX9_inspects_19 : decode cX9_inspects 19 = .ok (.iload_n 2, 1) := by decide +kernel
theorem dX9_inspects_20 : decode cX9_inspects 20 = .ok (.iadd, 1) := by decide +kernel
theorem dX9_inspects_21 : decode cX9_inspects 21 = .ok (.iaload, 1) := by decide +kernel
theorem dX9_inspects_22 : decode cX9_inspects 22 = .ok (.istore_n 3, 1) := by decide +kernel
theorem dX9_inspects_23 : decode cX9_inspects 23 = .ok (.aload_n 0, 1) := by decide +kernel
theorem dX9_inspects_24 : decode cX9_inspects 24 = .ok (.getfield 7, 3) := by decide +kernel
theorem dX9_inspects_27 : decode cX9_inspects 27 = .ok (.iload_n 1, 1) := by decide +kernel
theorem dX9_inspects_28 : decode cX9_inspects 28 = .ok (.bipush 27, 2) := by decide +kernel
theorem dX9_inspects_30 : decode cX9_inspects 30 = .ok (.iadd, 1) := by decide +kernel
theorem dX9_inspects_31 : decode cX9_inspects 31 = .ok (.iload_n 2, 1) := by decide +kernel
theorem dX9_inspects_32 : decode cX9_inspects 32 = .ok (.iadd, 1) := by decide +kernel
theorem dX9_inspects_33 : decode cX9_inspects 33 = .ok (.iconst 0, 1) := by decide +kernel
theorem dX9_inspects_34 : decode cX9_inspects 34 = .ok (.iastore, 1) := by decide +kernel
theorem dX9_inspects_35 : decode cX9_inspects 35 = .ok (.aload_n 0, 1) := by decide +kernel
theorem dX9_inspects_36 : decode cX9_inspects 36 = .ok (.getfield 7, 3) := by decide +kernel
theorem dX9_inspects_39 : decode cX9_inspects 39 = .ok (.iload_n 1, 1) := by decide +kernel
theorem dX9_inspects_40 : decode cX9_inspects 40 = .ok (.bipush 21, 2) := by decide +kernel
theorem dX9_inspects_42 : decode cX9_inspects 42 = .ok (.iadd, 1) := by decide +kernel
theorem dX9_inspects_43 : decode cX9_inspects 43 = .ok (.iload_n 2, 1) := by decide +kernel
theorem dX9_inspects_44 : decode cX9_inspects 44 = .ok (.iadd, 1) := by decide +kernel
theorem dX9_inspects_45 : decode cX9_inspects 45 = .ok (.bipush 9, 2) := by decide +kernel
theorem dX9_inspects_47 : decode cX9_inspects 47 = .ok (.iastore, 1) := by decide +kernel
theorem dX9_inspects_48 : decode cX9_inspects 48 = .ok (.aload_n 0, 1) := by decide +kernel
theorem dX9_inspects_49 : decode cX9_inspects 49 = .ok (.getfield 7, 3) := by decide +kernel
theorem dX9_inspects_52 : decode cX9_inspects 52 = .ok (.iload_n 1, 1) := by decide +kernel
theorem dX9_inspects_53 : decode cX9_inspects 53 = .ok (.bipush 33, 2) := by decide +kernel
theorem dX9_inspects_55 : decode cX9_inspects 55 = .ok (.iadd, 1) := by decide +kernel
theorem dX9_inspects_56 : decode cX9_inspects 56 = .ok (.iload_n 2, 1) := by decide +kernel
theorem dX9_inspects_57 : decode cX9_inspects 57 = .ok (.iadd, 1) := by decide +kernel
theorem dX9_inspects_58 : decode cX9_inspects 58 = .ok (.dup2, 1) := by decide +kernel
theorem dX9_inspects_59 : decode cX9_inspects 59 = .ok (.iaload, 1) := by decide +kernel
theorem dX9_inspects_60 : decode cX9_inspects 60 = .ok (.iconst 1, 1) := by decide +kernel
theorem dX9_inspects_61 : decode cX9_inspects 61 = .ok (.iadd, 1) := by decide +kernel
theorem dX9_inspects_62 : decode cX9_inspects 62 = .ok (.iastore, 1) := by decide +kernel
theorem dX9_inspects_63 : decode cX9_inspects 63 = .ok (.aload_n 0, 1) := by decide +kernel
theorem dX9_inspects_64 : decode cX9_inspects 64 = .ok (.getfield 7, 3) := by decide +kernel
theorem dX9_inspects_67 : decode cX9_inspects 67 = .ok (.iload_n 1, 1) := by decide +kernel
theorem dX9_inspects_68 : decode cX9_inspects 68 = .ok (.iconst 2, 1) := by decide +kernel
theorem dX9_inspects_69 : decode cX9_inspects 69 = .ok (.iadd, 1) := by decide +kernel
theorem dX9_inspects_70 : decode cX9_inspects 70 = .ok (.dup2, 1) := by decide +kernel
theorem dX9_inspects_71 : decode cX9_inspects 71 = .ok (.iaload, 1) := by decide +kernel
theorem dX9_inspects_72 : decode cX9_inspects 72 = .ok (.iconst 1, 1) := by decide +kernel
theorem dX9_inspects_73 : decode cX9_inspects 73 = .ok (.iadd, 1) := by decide +kernel
theorem dX9_inspects_74 : decode cX9_inspects 74 = .ok (.iastore, 1) := by decide +kernel
theorem dX9_inspects_75 : decode cX9_inspects 75 = .ok (.iload_n 3, 1) := by decide +kernel
theorem dX9_inspects_76 : decode cX9_inspects 76 = .ok (.ireturn, 1) := by decide +kernel
theorem dX9_bedTells_0 : decode cX9_bedTells 0 = .ok (.iload_n 2, 1) := by decide +kernel
theorem dX9_bedTells_1 : decode cX9_bedTells 1 = .ok (.tableswitch 120 0 6 #[43, 52, 62, 72, 82, 92, 99], 43) := by decide +kernel
theorem dX9_bedTells_44 : decode cX9_bedTells 44 = .ok (.aload_n 0, 1) := by decide +kernel
theorem dX9_bedTells_45 : decode cX9_bedTells 45 = .ok (.getfield 7, 3) := by decide +kernel
theorem dX9_bedTells_48 : decode cX9_bedTells 48 = .ok (.iconst 3, 1) := by decide +kernel
theorem dX9_bedTells_49 : decode cX9_bedTells 49 = .ok (.iload_n 1, 1) := by decide +kernel
theorem dX9_bedTells_50 : decode cX9_bedTells 50 = .ok (.iadd, 1) := by decide +kernel
theorem dX9_bedTells_51 : decode cX9_bedTells 51 = .ok (.iaload, 1) := by decide +kernel
theorem dX9_bedTells_52 : decode cX9_bedTells 52 = .ok (.ireturn, 1) := by decide +kernel
theorem dX9_bedTells_53 : decode cX9_bedTells 53 = .ok (.aload_n 0, 1) := by decide +kernel
theorem dX9_bedTells_54 : decode cX9_bedTells 54 = .ok (.getfield 7, 3) := by decide +kernel
theorem dX9_bedTells_57 : decode cX9_bedTells 57 = .ok (.bipush 9, 2) := by decide +kernel
theorem dX9_bedTells_59 : decode cX9_bedTells 59 = .ok (.iload_n 1, 1) := by decide +kernel
theorem dX9_bedTells_60 : decode cX9_bedTells 60 = .ok (.iadd, 1) := by decide +kernel
theorem dX9_bedTells_61 : decode cX9_bedTells 61 = .ok (.iaload, 1) := by decide +kernel
theorem dX9_bedTells_62 : decode cX9_bedTells 62 = .ok (.ireturn, 1) := by decide +kernel
theorem dX9_bedTells_63 : decode cX9_bedTells 63 = .ok (.aload_n 0, 1) := by decide +kernel
theorem dX9_bedTells_64 : decode cX9_bedTells 64 = .ok (.getfield 7, 3) := by decide +kernel
theorem dX9_bedTells_67 : decode cX9_bedTells 67 = .ok (.bipush 15, 2) := by decide +kernel
theorem dX9_bedTells_69 : decode cX9_bedTells 69 = .ok (.iload_n 1, 1) := by decide +kernel
theorem dX9_bedTells_70 : decode cX9_bedTells 70 = .ok (.iadd, 1) := by decide +kernel
theorem dX9_bedTells_71 : decode cX9_bedTells 71 = .ok (.iaload, 1) := by decide +kernel
theorem dX9_bedTells_72 : decode cX9_bedTells 72 = .ok (.ireturn, 1) := by decide +kernel
theorem dX9_bedTells_73 : decode cX9_bedTells 73 = .ok (.aload_n 0, 1) := by decide +kernel
theorem dX9_bedTells_74 : decode cX9_bedTells 74 = .ok (.getfield 7, 3) := by decide +kernel
theorem dX9_bedTells_77 : decode cX9_bedTells 77 = .ok (.bipush 21, 2) := by decide +kernel
theorem dX9_bedTells_79 : decode cX9_bedTells 79 = .ok (.iload_n 1, 1) := by decide +kernel
theorem dX9_bedTells_80 : decode cX9_bedTells 80 = .ok (.iadd, 1) := by decide +kernel
theorem dX9_bedTells_81 : decode cX9_bedTells 81 = .ok (.iaload, 1) := by decide +kernel
theorem dX9_bedTells_82 : decode cX9_bedTells 82 = .ok (.ireturn, 1) := by decide +kernel
theorem dX9_bedTells_83 : decode cX9_bedTells 83 = .ok (.aload_n 0, 1) := by decide +kernel
theorem dX9_bedTells_84 : decode cX9_bedTells 84 = .ok (.getfield 7, 3) := by decide +kernel
theorem dX9_bedTells_87 : decode cX9_bedTells 87 = .ok (.bipush 27, 2) := by decide +kernel
theorem dX9_bedTells_89 : decode cX9_bedTells 89 = .ok (.iload_n 1, 1) := by decide +kernel
theorem dX9_bedTells_90 : decode cX9_bedTells 90 = .ok (.iadd, 1) := by decide +kernel
theorem dX9_bedTells_91 : decode cX9_bedTells 91 = .ok (.iaload, 1) := by decide +kernel
theorem dX9_bedTells_92 : decode cX9_bedTells 92 = .ok (.ireturn, 1) := by decide +kernel
theorem dX9_bedTells_93 : decode cX9_bedTells 93 = .ok (.aload_n 0, 1) := by decide +kernel
theorem dX9_bedTells_94 : decode cX9_bedTells 94 = .ok (.iconst 0, 1) := by decide +kernel
theorem dX9_bedTells_95 : decode cX9_bedTells 95 = .ok (.iload_n 1, 1) := by decide +kernel
theorem dX9_bedTells_96 : decode cX9_bedTells 96 = .ok (.invokevirtual 133, 3) := by decide +kernel
theorem dX9_bedTells_99 : decode cX9_bedTells 99 = .ok (.ireturn, 1) := by decide +kernel
theorem dX9_bedTells_100 : decode cX9_bedTells 100 = .ok (.aload_n 0, 1) := by decide +kernel
theorem dX9_bedTells_101 : decode cX9_bedTells 101 = .ok (.getfield 7, 3) := by decide +kernel
theorem dX9_bedTells_104 : decode cX9_bedTells 104 = .ok (.iconst 3, 1) := by decide +kernel
theorem dX9_bedTells_105 : decode cX9_bedTells 105 = .ok (.iload_n 1, 1) := by decide +kernel
theorem dX9_bedTells_106 : decode cX9_bedTells 106 = .ok (.iadd, 1) := by decide +kernel
theorem dX9_bedTells_107 : decode cX9_bedTells 107 = .ok (.iaload, 1) := by decide +kernel
theorem dX9_bedTells_108 : decode cX9_bedTells 108 = .ok (.aload_n 0, 1) := by decide +kernel
theorem dX9_bedTells_109 : decode cX9_bedTells 109 = .ok (.getfield 7, 3) := by decide +kernel
theorem dX9_bedTells_112 : decode cX9_bedTells 112 = .ok (.bipush 21, 2) := by decide +kernel
theorem dX9_bedTells_114 : decode cX9_bedTells 114 = .ok (.iload_n 1, 1) := by decide +kernel
theorem dX9_bedTells_115 : decode cX9_bedTells 115 = .ok (.iadd, 1) := by decide +kernel
theorem dX9_bedTells_116 : decode cX9_bedTells 116 = .ok (.iaload, 1) := by decide +kernel
theorem dX9_bedTells_117 : decode cX9_bedTells 117 = .ok (.invokestatic 120, 3) := by decide +kernel
theorem dX9_bedTells_120 : decode cX9_bedTells 120 = .ok (.ireturn, 1) := by decide +kernel
theorem dX9_bedTells_121 : decode cX9_bedTells 121 = .ok (.aload_n 0, 1) := by decide +kernel
theorem dX9_bedTells_122 : decode cX9_bedTells 122 = .ok (.getfield 7, 3) := by decide +kernel
theorem dX9_bedTells_125 : decode cX9_bedTells 125 = .ok (.bipush 33, 2) := by decide +kernel
theorem dX9_bedTells_127 : decode cX9_bedTells 127 = .ok (.iload_n 1, 1) := by decide +kernel
theorem dX9_bedTells_128 : decode cX9_bedTells 128 = .ok (.iadd, 1) := by decide +kernel
theorem dX9_bedTells_129 : decode cX9_bedTells 129 = .ok (.iaload, 1) := by decide +kernel
theorem dX9_bedTells_130 : decode cX9_bedTells 130 = .ok (.ireturn, 1) := by decide +kernel
theorem dX9_bed_0 : decode cX9_bed 0 = .ok (.aload_n 0, 1) := by decide +kernel
theorem dX9_bed_1 : decode cX9_bed 1 = .ok (.iload_n 1, 1) := by decide +kernel
theorem dX9_bed_2 : decode cX9_bed 2 = .ok (.invokevirtual 140, 3) := by decide +kernel
theorem dX9_bed_5 : decode cX9_bed 5 = .ok (.ifCond .eq 29, 3) := by decide +kernel
theorem dX9_bed_8 : decode cX9_bed 8 = .ok (.iload_n 2, 1) := by decide +kernel
theorem dX9_bed_9 : decode cX9_bed 9 = .ok (.i2l, 1) := by decide +kernel
theorem dX9_bed_10 : decode cX9_bed 10 = .ok (.lconst 0, 1) := by decide +kernel
theorem dX9_bed_11 : decode cX9_bed 11 = .ok (.ldc2_w 143, 3) := by decide +kernel
theorem dX9_bed_14 : decode cX9_bed 14 = .ok (.invokestatic 53, 3) := by decide +kernel
theorem dX9_bed_17 : decode cX9_bed 17 = .ok (.ifCond .eq 17, 3) := by decide +kernel
theorem dX9_bed_20 : decode cX9_bed 20 = .ok (.aload_n 0, 1) := by decide +kernel
theorem dX9_bed_21 : decode cX9_bed 21 = .ok (.aload_n 0, 1) := by decide +kernel
theorem dX9_bed_22 : decode cX9_bed 22 = .ok (.iload_n 1, 1) := by decide +kernel
theorem dX9_bed_23 : decode cX9_bed 23 = .ok (.iload_n 2, 1) := by decide +kernel
theorem dX9_bed_24 : decode cX9_bed 24 = .ok (.invokevirtual 145, 3) := by decide +kernel
theorem dX9_bed_27 : decode cX9_bed 27 = .ok (.iconst 1, 1) := by decide +kernel
theorem dX9_bed_28 : decode cX9_bed 28 = .ok (.invokevirtual 75, 3) := by decide +kernel
theorem dX9_bed_31 : decode cX9_bed 31 = .ok (.goto 4, 3) := by decide +kernel
theorem dX9_bed_34 : decode cX9_bed 34 = .ok (.iconst (-1), 1) := by decide +kernel
theorem dX9_bed_35 : decode cX9_bed 35 = .ok (.ireturn, 1) := by decide +kernel
theorem dX9_crossAs_0 : decode cX9_crossAs 0 = .ok (.aload_n 0, 1) := by decide +kernel
theorem dX9_crossAs_1 : decode cX9_crossAs 1 = .ok (.iload_n 2, 1) := by decide +kernel
theorem dX9_crossAs_2 : decode cX9_crossAs 2 = .ok (.aload_n 0, 1) := by decide +kernel
theorem dX9_crossAs_3 : decode cX9_crossAs 3 = .ok (.getfield 7, 3) := by decide +kernel
theorem dX9_crossAs_6 : decode cX9_crossAs 6 = .ok (.bipush 21, 2) := by decide +kernel
theorem dX9_crossAs_8 : decode cX9_crossAs 8 = .ok (.iload_n 1, 1) := by decide +kernel
theorem dX9_crossAs_9 : decode cX9_crossAs 9 = .ok (.iadd, 1) := by decide +kernel
theorem dX9_crossAs_10 : decode cX9_crossAs 10 = .ok (.iaload, 1) := by decide +kernel
theorem dX9_crossAs_11 : decode cX9_crossAs 11 = .ok (.aload_n 0, 1) := by decide +kernel
theorem dX9_crossAs_12 : decode cX9_crossAs 12 = .ok (.iconst 0, 1) := by decide +kernel
theorem dX9_crossAs_13 : decode cX9_crossAs 13 = .ok (.iload_n 1, 1) := by decide +kernel
theorem dX9_crossAs_14 : decode cX9_crossAs 14 = .ok (.invokevirtual 126, 3) := by decide +kernel
theorem dX9_crossAs_17 : decode cX9_crossAs 17 = .ok (.aload_n 0, 1) := by decide +kernel
theorem dX9_crossAs_18 : decode cX9_crossAs 18 = .ok (.getfield 7, 3) := by decide +kernel
theorem dX9_crossAs_21 : decode cX9_crossAs 21 = .ok (.iconst 1, 1) := by decide +kernel
theorem dX9_crossAs_22 : decode cX9_crossAs 22 = .ok (.iaload, 1) := by decide +kernel
theorem dX9_crossAs_23 : decode cX9_crossAs 23 = .ok (.invokevirtual 129, 3) := by decide +kernel
theorem dX9_crossAs_26 : decode cX9_crossAs 26 = .ok (.ireturn, 1) := by decide +kernel
theorem dX9_mark_0 : decode cX9_mark 0 = .ok (.aload_n 0, 1) := by decide +kernel
theorem dX9_mark_1 : decode cX9_mark 1 = .ok (.iload_n 1, 1) := by decide +kernel
theorem dX9_mark_2 : decode cX9_mark 2 = .ok (.invokevirtual 140, 3) := by decide +kernel
theorem dX9_mark_5 : decode cX9_mark 5 = .ok (.ifCond .eq 15, 3) := by decide +kernel
theorem dX9_mark_8 : decode cX9_mark 8 = .ok (.iload_n 2, 1) := by decide +kernel
theorem dX9_mark_9 : decode cX9_mark 9 = .ok (.i2l, 1) := by decide +kernel
theorem dX9_mark_10 : decode cX9_mark 10 = .ok (.lconst 1, 1) := by decide +kernel
theorem dX9_mark_11 : decode cX9_mark 11 = .ok (.ldc2_w 51, 3) := by decide +kernel
theorem dX9_mark_14 : decode cX9_mark 14 = .ok (.invokestatic 53, 3) := by decide +kernel
theorem dX9_mark_17 : decode cX9_mark 17 = .ok (.ifCond .ne 5, 3) := by decide +kernel
theorem dX9_mark_20 : decode cX9_mark 20 = .ok (.iconst (-1), 1) := by decide +kernel
theorem dX9_mark_21 : decode cX9_mark 21 = .ok (.ireturn, 1) := by decide +kernel
theorem dX9_mark_22 : decode cX9_mark 22 = .ok (.aload_n 0, 1) := by decide +kernel
theorem dX9_mark_23 : decode cX9_mark 23 = .ok (.getfield 7, 3) := by decide +kernel
theorem dX9_mark_26 : decode cX9_mark 26 = .ok (.iconst 3, 1) := by decide +kernel
theorem dX9_mark_27 : decode cX9_mark 27 = .ok (.iload_n 1, 1) := by decide +kernel
theorem dX9_mark_28 : decode cX9_mark 28 = .ok (.iadd, 1) := by decide +kernel
theorem dX9_mark_29 : decode cX9_mark 29 = .ok (.iaload, 1) := by decide +kernel
theorem dX9_mark_30 : decode cX9_mark 30 = .ok (.istore_n 3, 1) := by decide +kernel
theorem dX9_mark_31 : decode cX9_mark 31 = .ok (.iload_n 2, 1) := by decide +kernel
theorem dX9_mark_32 : decode cX9_mark 32 = .ok (.iload_n 3, 1) := by decide +kernel
theorem dX9_mark_33 : decode cX9_mark 33 = .ok (.if_icmp .eq 23, 3) := by decide +kernel
theorem dX9_mark_36 : decode cX9_mark 36 = .ok (.iload_n 2, 1) := by decide +kernel
theorem dX9_mark_37 : decode cX9_mark 37 = .ok (.iconst 1, 1) := by decide +kernel
theorem dX9_mark_38 : decode cX9_mark 38 = .ok (.if_icmp .ne 8, 3) := by decide +kernel
theorem dX9_mark_41 : decode cX9_mark 41 = .ok (.iload_n 3, 1) := by decide +kernel
theorem dX9_mark_42 : decode cX9_mark 42 = .ok (.iconst 5, 1) := by decide +kernel
theorem dX9_mark_43 : decode cX9_mark 43 = .ok (.if_icmp .eq 13, 3) := by decide +kernel
theorem dX9_mark_46 : decode cX9_mark 46 = .ok (.iload_n 2, 1) := by decide +kernel
theorem dX9_mark_47 : decode cX9_mark 47 = .ok (.iconst 2, 1) := by decide +kernel
theorem dX9_mark_48 : decode cX9_mark 48 = .ok (.if_icmp .ne 12, 3) := by decide +kernel
theorem dX9_mark_51 : decode cX9_mark 51 = .ok (.iload_n 3, 1) := by decide +kernel
theorem dX9_mark_52 : decode cX9_mark 52 = .ok (.iconst 4, 1) := by decide +kernel
theorem dX9_mark_53 : decode cX9_mark 53 = .ok (.if_icmp .ne 7, 3) := by decide +kernel
theorem dX9_mark_56 : decode cX9_mark 56 = .ok (.iconst 1, 1) := by decide +kernel
theorem dX9_mark_57 : decode cX9_mark 57 = .ok (.goto 4, 3) := by decide +kernel
theorem dX9_mark_60 : decode cX9_mark 60 = .ok (.iconst 0, 1) := by decide +kernel
theorem dX9_mark_61 : decode cX9_mark 61 = .ok (.istore 4, 2) := by decide +kernel
theorem dX9_mark_63 : decode cX9_mark 63 = .ok (.iload 4, 2) := by decide +kernel
theorem dX9_mark_65 : decode cX9_mark 65 = .ok (.ifCond .ne 9, 3) := by decide +kernel
theorem dX9_mark_68 : decode cX9_mark 68 = .ok (.aload_n 0, 1) := by decide +kernel
theorem dX9_mark_69 : decode cX9_mark 69 = .ok (.iconst 3, 1) := by decide +kernel
theorem dX9_mark_70 : decode cX9_mark 70 = .ok (.invokevirtual 63, 3) := by decide +kernel
theorem dX9_mark_73 : decode cX9_mark 73 = .ok (.ireturn, 1) := by decide +kernel
theorem dX9_mark_74 : decode cX9_mark 74 = .ok (.iload_n 2, 1) := by decide +kernel
theorem dX9_mark_75 : decode cX9_mark 75 = .ok (.tableswitch 90 1 4 #[29, 43, 67, 76], 29) := by decide +kernel
theorem dX9_mark_104 : decode cX9_mark 104 = .ok (.aload_n 0, 1) := by decide +kernel
theorem dX9_mark_105 : decode cX9_mark 105 = .ok (.iload_n 1, 1) := by decide +kernel
theorem dX9_mark_106 : decode cX9_mark 106 = .ok (.iconst 0, 1) := by decide +kernel
theorem dX9_mark_107 : decode cX9_mark 107 = .ok (.invokevirtual 148, 3) := by decide +kernel
theorem dX9_mark_110 : decode cX9_mark 110 = .ok (.aload_n 0, 1) := by decide +kernel
theorem dX9_mark_111 : decode cX9_mark 111 = .ok (.iconst 0, 1) := by decide +kernel
theorem dX9_mark_112 : decode cX9_mark 112 = .ok (.iload_n 1, 1) := by decide +kernel
theorem dX9_mark_113 : decode cX9_mark 113 = .ok (.invokevirtual 133, 3) := by decide +kernel
theorem dX9_mark_116 : decode cX9_mark 116 = .ok (.isub, 1) := by decide +kernel
theorem dX9_mark_117 : decode cX9_mark 117 = .ok (.ireturn, 1) := by decide +kernel
theorem dX9_mark_118 : decode cX9_mark 118 = .ok (.aload_n 0, 1) := by decide +kernel
theorem dX9_mark_119 : decode cX9_mark 119 = .ok (.getfield 7, 3) := by decide +kernel
theorem dX9_mark_122 : decode cX9_mark 122 = .ok (.bipush 21, 2) := by decide +kernel
theorem dX9_mark_124 : decode cX9_mark 124 = .ok (.iload_n 1, 1) := by decide +kernel
theorem dX9_mark_125 : decode cX9_mark 125 = .ok (.iadd, 1) := by decide +kernel
theorem dX9_mark_126 : decode cX9_mark 126 = .ok (.iaload, 1) := by decide +kernel
theorem dX9_mark_127 : decode cX9_mark 127 = .ok (.iload_n 3, 1) := by decide +kernel
theorem dX9_mark_128 : decode cX9_mark 128 = .ok (.aload_n 0, 1) := by decide +kernel
theorem dX9_mark_129 : decode cX9_mark 129 = .ok (.getfield 7, 3) := by decide +kernel
theorem dX9_mark_132 : decode cX9_mark 132 = .ok (.bipush 21, 2) := by decide +kernel
theorem dX9_mark_134 : decode cX9_mark 134 = .ok (.iload_n 1, 1) := by decide +kernel
theorem dX9_mark_135 : decode cX9_mark 135 = .ok (.iadd, 1) := by decide +kernel
theorem dX9_mark_136 : decode cX9_mark 136 = .ok (.iaload, 1) := by decide +kernel
theorem dX9_mark_137 : decode cX9_mark 137 = .ok (.invokestatic 120, 3) := by decide +kernel
theorem dX9_mark_140 : decode cX9_mark 140 = .ok (.isub, 1) := by decide +kernel
theorem dX9_mark_141 : decode cX9_mark 141 = .ok (.ireturn, 1) := by decide +kernel
theorem dX9_mark_142 : decode cX9_mark 142 = .ok (.aload_n 0, 1) := by decide +kernel
theorem dX9_mark_143 : decode cX9_mark 143 = .ok (.getfield 7, 3) := by decide +kernel
theorem dX9_mark_146 : decode cX9_mark 146 = .ok (.iconst 1, 1) := by decide +kernel
theorem dX9_mark_147 : decode cX9_mark 147 = .ok (.iaload, 1) := by decide +kernel
theorem dX9_mark_148 : decode cX9_mark 148 = .ok (.iconst 2, 1) := by decide +kernel
theorem dX9_mark_149 : decode cX9_mark 149 = .ok (.irem, 1) := by decide +kernel
theorem dX9_mark_150 : decode cX9_mark 150 = .ok (.ireturn, 1) := by decide +kernel
theorem dX9_mark_151 : decode cX9_mark 151 = .ok (.aload_n 0, 1) := by decide +kernel
theorem dX9_mark_152 : decode cX9_mark 152 = .ok (.iconst 0, 1) := by decide +kernel
theorem dX9_mark_153 : decode cX9_mark 153 = .ok (.iload_n 1, 1) := by decide +kernel
theorem dX9_mark_154 : decode cX9_mark 154 = .ok (.invokevirtual 133, 3) := by decide +kernel
theorem dX9_mark_157 : decode cX9_mark 157 = .ok (.aload_n 0, 1) := by decide +kernel
theorem dX9_mark_158 : decode cX9_mark 158 = .ok (.iload_n 1, 1) := by decide +kernel
theorem dX9_mark_159 : decode cX9_mark 159 = .ok (.iconst 2, 1) := by decide +kernel
theorem dX9_mark_160 : decode cX9_mark 160 = .ok (.invokevirtual 148, 3) := by decide +kernel
theorem dX9_mark_163 : decode cX9_mark 163 = .ok (.isub, 1) := by decide +kernel
theorem dX9_mark_164 : decode cX9_mark 164 = .ok (.ireturn, 1) := by decide +kernel
theorem dX9_mark_165 : decode cX9_mark 165 = .ok (.aload_n 0, 1) := by decide +kernel
theorem dX9_mark_166 : decode cX9_mark 166 = .ok (.iload_n 1, 1) := by decide +kernel
theorem dX9_mark_167 : decode cX9_mark 167 = .ok (.iconst 1, 1) := by decide +kernel
theorem dX9_mark_168 : decode cX9_mark 168 = .ok (.invokevirtual 148, 3) := by decide +kernel
theorem dX9_mark_171 : decode cX9_mark 171 = .ok (.aload_n 0, 1) := by decide +kernel
theorem dX9_mark_172 : decode cX9_mark 172 = .ok (.iconst 0, 1) := by decide +kernel
theorem dX9_mark_173 : decode cX9_mark 173 = .ok (.iload_n 1, 1) := by decide +kernel
theorem dX9_mark_174 : decode cX9_mark 174 = .ok (.invokevirtual 133, 3) := by decide +kernel
theorem dX9_mark_177 : decode cX9_mark 177 = .ok (.isub, 1) := by decide +kernel
theorem dX9_mark_178 : decode cX9_mark 178 = .ok (.ireturn, 1) := by decide +kernel
theorem dX9_cross_0 : decode cX9_cross 0 = .ok (.aload_n 0, 1) := by decide +kernel
theorem dX9_cross_1 : decode cX9_cross 1 = .ok (.iload_n 1, 1) := by decide +kernel
theorem dX9_cross_2 : decode cX9_cross 2 = .ok (.invokevirtual 140, 3) := by decide +kernel
theorem dX9_cross_5 : decode cX9_cross 5 = .ok (.ifCond .eq 46, 3) := by decide +kernel
theorem dX9_cross_8 : decode cX9_cross 8 = .ok (.iload_n 2, 1) := by decide +kernel
theorem dX9_cross_9 : decode cX9_cross 9 = .ok (.i2l, 1) := by decide +kernel
theorem dX9_cross_10 : decode cX9_cross 10 = .ok (.lconst 0, 1) := by decide +kernel
theorem dX9_cross_11 : decode cX9_cross 11 = .ok (.ldc2_w 151, 3) := by decide +kernel
theorem dX9_cross_14 : decode cX9_cross 14 = .ok (.invokestatic 53, 3) := by decide +kernel
theorem dX9_cross_17 : decode cX9_cross 17 = .ok (.ifCond .eq 34, 3) := by decide +kernel
theorem dX9_cross_20 : decode cX9_cross 20 = .ok (.aload_n 0, 1) := by decide +kernel
theorem dX9_cross_21 : decode cX9_cross 21 = .ok (.aload_n 0, 1) := by decide +kernel
theorem dX9_cross_22 : decode cX9_cross 22 = .ok (.getfield 7, 3) := by decide +kernel
theorem dX9_cross_25 : decode cX9_cross 25 = .ok (.iconst 3, 1) := by decide +kernel
theorem dX9_cross_26 : decode cX9_cross 26 = .ok (.iload_n 1, 1) := by decide +kernel
theorem dX9_cross_27 : decode cX9_cross 27 = .ok (.iadd, 1) := by decide +kernel
theorem dX9_cross_28 : decode cX9_cross 28 = .ok (.iaload, 1) := by decide +kernel
theorem dX9_cross_29 : decode cX9_cross 29 = .ok (.aload_n 0, 1) := by decide +kernel
theorem dX9_cross_30 : decode cX9_cross 30 = .ok (.getfield 7, 3) := by decide +kernel
theorem dX9_cross_33 : decode cX9_cross 33 = .ok (.bipush 21, 2) := by decide +kernel
theorem dX9_cross_35 : decode cX9_cross 35 = .ok (.iload_n 1, 1) := by decide +kernel
theorem dX9_cross_36 : decode cX9_cross 36 = .ok (.iadd, 1) := by decide +kernel
theorem dX9_cross_37 : decode cX9_cross 37 = .ok (.iaload, 1) := by decide +kernel
theorem dX9_cross_38 : decode cX9_cross 38 = .ok (.aload_n 0, 1) := by decide +kernel
theorem dX9_cross_39 : decode cX9_cross 39 = .ok (.iconst 0, 1) := by decide +kernel
theorem dX9_cross_40 : decode cX9_cross 40 = .ok (.iload_n 1, 1) := by decide +kernel
theorem dX9_cross_41 : decode cX9_cross 41 = .ok (.invokevirtual 126, 3) := by decide +kernel
theorem dX9_cross_44 : decode cX9_cross 44 = .ok (.iload_n 2, 1) := by decide +kernel
theorem dX9_cross_45 : decode cX9_cross 45 = .ok (.invokevirtual 129, 3) := by decide +kernel
theorem dX9_cross_48 : decode cX9_cross 48 = .ok (.goto 4, 3) := by decide +kernel
theorem dX9_cross_51 : decode cX9_cross 51 = .ok (.iconst (-1), 1) := by decide +kernel
theorem dX9_cross_52 : decode cX9_cross 52 = .ok (.ireturn, 1) := by decide +kernel
theorem dX9_minds_0 : decode cX9_minds 0 = .ok (.aload_n 0, 1) := by decide +kernel
theorem dX9_minds_1 : decode cX9_minds 1 = .ok (.iconst 0, 1) := by decide +kernel
theorem dX9_minds_2 : decode cX9_minds 2 = .ok (.bipush 44, 2) := by decide +kernel
theorem dX9_minds_4 : decode cX9_minds 4 = .ok (.iconst 1, 1) := by decide +kernel
theorem dX9_minds_5 : decode cX9_minds 5 = .ok (.aload_n 0, 1) := by decide +kernel
theorem dX9_minds_6 : decode cX9_minds 6 = .ok (.getfield 117, 3) := by decide +kernel
theorem dX9_minds_9 : decode cX9_minds 9 = .ok (.iadd, 1) := by decide +kernel
theorem dX9_minds_10 : decode cX9_minds 10 = .ok (.imul, 1) := by decide +kernel
theorem dX9_minds_11 : decode cX9_minds 11 = .ok (.bipush 44, 2) := by decide +kernel
theorem dX9_minds_13 : decode cX9_minds 13 = .ok (.invokevirtual 113, 3) := by decide +kernel
theorem dX9_minds_16 : decode cX9_minds 16 = .ok (.aload_n 0, 1) := by decide +kernel
theorem dX9_minds_17 : decode cX9_minds 17 = .ok (.dup, 1) := by decide +kernel
theorem dX9_minds_18 : decode cX9_minds 18 = .ok (.getfield 117, 3) := by decide +kernel
theorem dX9_minds_21 : decode cX9_minds 21 = .ok (.iconst 1, 1) := by decide +kernel
theorem dX9_minds_22 : decode cX9_minds 22 = .ok (.iadd, 1) := by decide +kernel
theorem dX9_minds_23 : decode cX9_minds 23 = .ok (.putfield 117, 3) := by decide +kernel
theorem dX9_minds_26 : decode cX9_minds 26 = .ok (.return_, 1) := by decide +kernel
theorem dX9_night_0 : decode cX9_night 0 = .ok (.aload_n 0, 1) := by decide +kernel
theorem dX9_night_1 : decode cX9_night 1 = .ok (.invokevirtual 153, 3) := by decide +kernel
theorem dX9_night_4 : decode cX9_night 4 = .ok (.ifCond .ne 6, 3) := by decide +kernel
theorem dX9_night_7 : decode cX9_night 7 = .ok (.bipush (-4), 2) := by decide +kernel
theorem dX9_night_9 : decode cX9_night 9 = .ok (.ireturn, 1) := by decide +kernel
theorem dX9_night_10 : decode cX9_night 10 = .ok (.aload_n 0, 1) := by decide +kernel
theorem dX9_night_11 : decode cX9_night 11 = .ok (.getfield 117, 3) := by decide +kernel
theorem dX9_night_14 : decode cX9_night 14 = .ok (.bipush 40, 2) := by decide +kernel
theorem dX9_night_16 : decode cX9_night 16 = .ok (.if_icmp .ne 6, 3) := by decide +kernel
theorem dX9_night_19 : decode cX9_night 19 = .ok (.bipush (-2), 2) := by decide +kernel
theorem dX9_night_21 : decode cX9_night 21 = .ok (.ireturn, 1) := by decide +kernel
theorem dX9_night_22 : decode cX9_night 22 = .ok (.aload_n 0, 1) := by decide +kernel
theorem dX9_night_23 : decode cX9_night 23 = .ok (.invokevirtual 157, 3) := by decide +kernel
theorem dX9_night_26 : decode cX9_night 26 = .ok (.aload_n 0, 1) := by decide +kernel
theorem dX9_night_27 : decode cX9_night 27 = .ok (.iconst 0, 1) := by decide +kernel
theorem dX9_night_28 : decode cX9_night 28 = .ok (.invokevirtual 160, 3) := by decide +kernel
theorem dX9_night_31 : decode cX9_night 31 = .ok (.ireturn, 1) := by decide +kernel
theorem dX9_inspect_0 : decode cX9_inspect 0 = .ok (.aload_n 0, 1) := by decide +kernel
theorem dX9_inspect_1 : decode cX9_inspect 1 = .ok (.iload_n 1, 1) := by decide +kernel
theorem dX9_inspect_2 : decode cX9_inspect 2 = .ok (.invokevirtual 140, 3) := by decide +kernel
theorem dX9_inspect_5 : decode cX9_inspect 5 = .ok (.ifCond .ne 5, 3) := by decide +kernel
theorem dX9_inspect_8 : decode cX9_inspect 8 = .ok (.iconst (-1), 1) := by decide +kernel
theorem dX9_inspect_9 : decode cX9_inspect 9 = .ok (.ireturn, 1) := by decide +kernel
theorem dX9_inspect_10 : decode cX9_inspect 10 = .ok (.aload_n 0, 1) := by decide +kernel
theorem dX9_inspect_11 : decode cX9_inspect 11 = .ok (.getfield 117, 3) := by decide +kernel
theorem dX9_inspect_14 : decode cX9_inspect 14 = .ok (.bipush 40, 2) := by decide +kernel
theorem dX9_inspect_16 : decode cX9_inspect 16 = .ok (.if_icmp .ne 6, 3) := by decide +kernel
theorem dX9_inspect_19 : decode cX9_inspect 19 = .ok (.bipush (-2), 2) := by decide +kernel
theorem dX9_inspect_21 : decode cX9_inspect 21 = .ok (.ireturn, 1) := by decide +kernel
theorem dX9_inspect_22 : decode cX9_inspect 22 = .ok (.aload_n 0, 1) := by decide +kernel
theorem dX9_inspect_23 : decode cX9_inspect 23 = .ok (.invokevirtual 157, 3) := by decide +kernel
theorem dX9_inspect_26 : decode cX9_inspect 26 = .ok (.aload_n 0, 1) := by decide +kernel
theorem dX9_inspect_27 : decode cX9_inspect 27 = .ok (.iconst 0, 1) := by decide +kernel
theorem dX9_inspect_28 : decode cX9_inspect 28 = .ok (.iload_n 1, 1) := by decide +kernel
theorem dX9_inspect_29 : decode cX9_inspect 29 = .ok (.invokevirtual 163, 3) := by decide +kernel
theorem dX9_inspect_32 : decode cX9_inspect 32 = .ok (.ireturn, 1) := by decide +kernel
theorem dX9_thin_0 : decode cX9_thin 0 = .ok (.aload_n 0, 1) := by decide +kernel
theorem dX9_thin_1 : decode cX9_thin 1 = .ok (.iload_n 1, 1) := by decide +kernel
theorem dX9_thin_2 : decode cX9_thin 2 = .ok (.invokevirtual 140, 3) := by decide +kernel
theorem dX9_thin_5 : decode cX9_thin 5 = .ok (.ifCond .ne 5, 3) := by decide +kernel
theorem dX9_thin_8 : decode cX9_thin 8 = .ok (.iconst (-1), 1) := by decide +kernel
theorem dX9_thin_9 : decode cX9_thin 9 = .ok (.ireturn, 1) := by decide +kernel
theorem dX9_thin_10 : decode cX9_thin 10 = .ok (.aload_n 0, 1) := by decide +kernel
theorem dX9_thin_11 : decode cX9_thin 11 = .ok (.getfield 7, 3) := by decide +kernel
theorem dX9_thin_14 : decode cX9_thin 14 = .ok (.bipush 21, 2) := by decide +kernel
theorem dX9_thin_16 : decode cX9_thin 16 = .ok (.iload_n 1, 1) := by decide +kernel
theorem dX9_thin_17 : decode cX9_thin 17 = .ok (.iadd, 1) := by decide +kernel
theorem dX9_thin_18 : decode cX9_thin 18 = .ok (.iaload, 1) := by decide +kernel
theorem dX9_thin_19 : decode cX9_thin 19 = .ok (.ifCond .ne 6, 3) := by decide +kernel
theorem dX9_thin_22 : decode cX9_thin 22 = .ok (.bipush (-4), 2) := by decide +kernel
theorem dX9_thin_24 : decode cX9_thin 24 = .ok (.ireturn, 1) := by decide +kernel
theorem dX9_thin_25 : decode cX9_thin 25 = .ok (.aload_n 0, 1) := by decide +kernel
theorem dX9_thin_26 : decode cX9_thin 26 = .ok (.getfield 117, 3) := by decide +kernel
theorem dX9_thin_29 : decode cX9_thin 29 = .ok (.bipush 40, 2) := by decide +kernel
theorem dX9_thin_31 : decode cX9_thin 31 = .ok (.if_icmp .ne 6, 3) := by decide +kernel
theorem dX9_thin_34 : decode cX9_thin 34 = .ok (.bipush (-2), 2) := by decide +kernel
theorem dX9_thin_36 : decode cX9_thin 36 = .ok (.ireturn, 1) := by decide +kernel
theorem dX9_thin_37 : decode cX9_thin 37 = .ok (.aload_n 0, 1) := by decide +kernel
theorem dX9_thin_38 : decode cX9_thin 38 = .ok (.invokevirtual 157, 3) := by decide +kernel
theorem dX9_thin_41 : decode cX9_thin 41 = .ok (.aload_n 0, 1) := by decide +kernel
theorem dX9_thin_42 : decode cX9_thin 42 = .ok (.getfield 7, 3) := by decide +kernel
theorem dX9_thin_45 : decode cX9_thin 45 = .ok (.bipush 21, 2) := by decide +kernel
theorem dX9_thin_47 : decode cX9_thin 47 = .ok (.iload_n 1, 1) := by decide +kernel
theorem dX9_thin_48 : decode cX9_thin 48 = .ok (.iadd, 1) := by decide +kernel
theorem dX9_thin_49 : decode cX9_thin 49 = .ok (.dup2, 1) := by decide +kernel
theorem dX9_thin_50 : decode cX9_thin 50 = .ok (.iaload, 1) := by decide +kernel
theorem dX9_thin_51 : decode cX9_thin 51 = .ok (.iconst 1, 1) := by decide +kernel
theorem dX9_thin_52 : decode cX9_thin 52 = .ok (.isub, 1) := by decide +kernel
theorem dX9_thin_53 : decode cX9_thin 53 = .ok (.iastore, 1) := by decide +kernel
theorem dX9_thin_54 : decode cX9_thin 54 = .ok (.aload_n 0, 1) := by decide +kernel
theorem dX9_thin_55 : decode cX9_thin 55 = .ok (.getfield 7, 3) := by decide +kernel
theorem dX9_thin_58 : decode cX9_thin 58 = .ok (.bipush 21, 2) := by decide +kernel
theorem dX9_thin_60 : decode cX9_thin 60 = .ok (.iload_n 1, 1) := by decide +kernel
theorem dX9_thin_61 : decode cX9_thin 61 = .ok (.iadd, 1) := by decide +kernel
theorem dX9_thin_62 : decode cX9_thin 62 = .ok (.iaload, 1) := by decide +kernel
theorem dX9_thin_63 : decode cX9_thin 63 = .ok (.ireturn, 1) := by decide +kernel
theorem dX9_swap_0 : decode cX9_swap 0 = .ok (.aload_n 0, 1) := by decide +kernel
theorem dX9_swap_1 : decode cX9_swap 1 = .ok (.iload_n 1, 1) := by decide +kernel
theorem dX9_swap_2 : decode cX9_swap 2 = .ok (.invokevirtual 140, 3) := by decide +kernel
theorem dX9_swap_5 : decode cX9_swap 5 = .ok (.ifCond .eq 16, 3) := by decide +kernel
theorem dX9_swap_8 : decode cX9_swap 8 = .ok (.aload_n 0, 1) := by decide +kernel
theorem dX9_swap_9 : decode cX9_swap 9 = .ok (.iload_n 2, 1) := by decide +kernel
theorem dX9_swap_10 : decode cX9_swap 10 = .ok (.invokevirtual 140, 3) := by decide +kernel
theorem dX9_swap_13 : decode cX9_swap 13 = .ok (.ifCond .eq 8, 3) := by decide +kernel
theorem dX9_swap_16 : decode cX9_swap 16 = .ok (.iload_n 1, 1) := by decide +kernel
theorem dX9_swap_17 : decode cX9_swap 17 = .ok (.iload_n 2, 1) := by decide +kernel
theorem dX9_swap_18 : decode cX9_swap 18 = .ok (.if_icmp .ne 5, 3) := by decide +kernel
theorem dX9_swap_21 : decode cX9_swap 21 = .ok (.iconst (-1), 1) := by decide +kernel
theorem dX9_swap_22 : decode cX9_swap 22 = .ok (.ireturn, 1) := by decide +kernel
theorem dX9_swap_23 : decode cX9_swap 23 = .ok (.aload_n 0, 1) := by decide +kernel
theorem dX9_swap_24 : decode cX9_swap 24 = .ok (.getfield 117, 3) := by decide +kernel
theorem dX9_swap_27 : decode cX9_swap 27 = .ok (.bipush 40, 2) := by decide +kernel
theorem dX9_swap_29 : decode cX9_swap 29 = .ok (.if_icmp .ne 6, 3) := by decide +kernel
theorem dX9_swap_32 : decode cX9_swap 32 = .ok (.bipush (-2), 2) := by decide +kernel
theorem dX9_swap_34 : decode cX9_swap 34 = .ok (.ireturn, 1) := by decide +kernel
theorem dX9_swap_35 : decode cX9_swap 35 = .ok (.aload_n 0, 1) := by decide +kernel
theorem dX9_swap_36 : decode cX9_swap 36 = .ok (.invokevirtual 157, 3) := by decide +kernel
theorem dX9_swap_39 : decode cX9_swap 39 = .ok (.aload_n 0, 1) := by decide +kernel
theorem dX9_swap_40 : decode cX9_swap 40 = .ok (.getfield 7, 3) := by decide +kernel
theorem dX9_swap_43 : decode cX9_swap 43 = .ok (.bipush 15, 2) := by decide +kernel
theorem dX9_swap_45 : decode cX9_swap 45 = .ok (.iload_n 1, 1) := by decide +kernel
theorem dX9_swap_46 : decode cX9_swap 46 = .ok (.iadd, 1) := by decide +kernel
theorem dX9_swap_47 : decode cX9_swap 47 = .ok (.iaload, 1) := by decide +kernel
theorem dX9_swap_48 : decode cX9_swap 48 = .ok (.istore_n 3, 1) := by decide +kernel
theorem dX9_swap_49 : decode cX9_swap 49 = .ok (.aload_n 0, 1) := by decide +kernel
theorem dX9_swap_50 : decode cX9_swap 50 = .ok (.getfield 7, 3) := by decide +kernel
theorem dX9_swap_53 : decode cX9_swap 53 = .ok (.bipush 15, 2) := by decide +kernel
theorem dX9_swap_55 : decode cX9_swap 55 = .ok (.iload_n 1, 1) := by decide +kernel
theorem dX9_swap_56 : decode cX9_swap 56 = .ok (.iadd, 1) := by decide +kernel
theorem dX9_swap_57 : decode cX9_swap 57 = .ok (.aload_n 0, 1) := by decide +kernel
theorem dX9_swap_58 : decode cX9_swap 58 = .ok (.getfield 7, 3) := by decide +kernel
theorem dX9_swap_61 : decode cX9_swap 61 = .ok (.bipush 15, 2) := by decide +kernel
theorem dX9_swap_63 : decode cX9_swap 63 = .ok (.iload_n 2, 1) := by decide +kernel
theorem dX9_swap_64 : decode cX9_swap 64 = .ok (.iadd, 1) := by decide +kernel
theorem dX9_swap_65 : decode cX9_swap 65 = .ok (.iaload, 1) := by decide +kernel
theorem dX9_swap_66 : decode cX9_swap 66 = .ok (.iastore, 1) := by decide +kernel
theorem dX9_swap_67 : decode cX9_swap 67 = .ok (.aload_n 0, 1) := by decide +kernel
theorem dX9_swap_68 : decode cX9_swap 68 = .ok (.getfield 7, 3) := by decide +kernel
theorem dX9_swap_71 : decode cX9_swap 71 = .ok (.bipush 15, 2) := by decide +kernel
theorem dX9_swap_73 : decode cX9_swap 73 = .ok (.iload_n 2, 1) := by decide +kernel
theorem dX9_swap_74 : decode cX9_swap 74 = .ok (.iadd, 1) := by decide +kernel
theorem dX9_swap_75 : decode cX9_swap 75 = .ok (.iload_n 3, 1) := by decide +kernel
theorem dX9_swap_76 : decode cX9_swap 76 = .ok (.iastore, 1) := by decide +kernel
theorem dX9_swap_77 : decode cX9_swap 77 = .ok (.aload_n 0, 1) := by decide +kernel
theorem dX9_swap_78 : decode cX9_swap 78 = .ok (.iconst 0, 1) := by decide +kernel
theorem dX9_swap_79 : decode cX9_swap 79 = .ok (.iload_n 1, 1) := by decide +kernel
theorem dX9_swap_80 : decode cX9_swap 80 = .ok (.invokevirtual 126, 3) := by decide +kernel
theorem dX9_swap_83 : decode cX9_swap 83 = .ok (.ireturn, 1) := by decide +kernel
theorem dX9_undo_0 : decode cX9_undo 0 = .ok (.iload_n 1, 1) := by decide +kernel
theorem dX9_undo_1 : decode cX9_undo 1 = .ok (.i2l, 1) := by decide +kernel
theorem dX9_undo_2 : decode cX9_undo 2 = .ok (.lconst 0, 1) := by decide +kernel
theorem dX9_undo_3 : decode cX9_undo 3 = .ok (.aload_n 0, 1) := by decide +kernel
theorem dX9_undo_4 : decode cX9_undo 4 = .ok (.getfield 117, 3) := by decide +kernel
theorem dX9_undo_7 : decode cX9_undo 7 = .ok (.i2l, 1) := by decide +kernel
theorem dX9_undo_8 : decode cX9_undo 8 = .ok (.invokestatic 53, 3) := by decide +kernel
theorem dX9_undo_11 : decode cX9_undo 11 = .ok (.ifCond .ne 5, 3) := by decide +kernel
theorem dX9_undo_14 : decode cX9_undo 14 = .ok (.iconst (-1), 1) := by decide +kernel
theorem dX9_undo_15 : decode cX9_undo 15 = .ok (.ireturn, 1) := by decide +kernel
theorem dX9_undo_16 : decode cX9_undo 16 = .ok (.aload_n 0, 1) := by decide +kernel
theorem dX9_undo_17 : decode cX9_undo 17 = .ok (.getfield 117, 3) := by decide +kernel
theorem dX9_undo_20 : decode cX9_undo 20 = .ok (.iload_n 1, 1) := by decide +kernel
theorem dX9_undo_21 : decode cX9_undo 21 = .ok (.isub, 1) := by decide +kernel
theorem dX9_undo_22 : decode cX9_undo 22 = .ok (.istore_n 2, 1) := by decide +kernel
theorem dX9_undo_23 : decode cX9_undo 23 = .ok (.iload_n 2, 1) := by decide +kernel
theorem dX9_undo_24 : decode cX9_undo 24 = .ok (.ifCond .le 21, 3) := by decide +kernel
theorem dX9_undo_27 : decode cX9_undo 27 = .ok (.aload_n 0, 1) := by decide +kernel
theorem dX9_undo_28 : decode cX9_undo 28 = .ok (.bipush 44, 2) := by decide +kernel
theorem dX9_undo_30 : decode cX9_undo 30 = .ok (.iconst 1, 1) := by decide +kernel
theorem dX9_undo_31 : decode cX9_undo 31 = .ok (.iload_n 1, 1) := by decide +kernel
theorem dX9_undo_32 : decode cX9_undo 32 = .ok (.iadd, 1) := by decide +kernel
theorem dX9_undo_33 : decode cX9_undo 33 = .ok (.imul, 1) := by decide +kernel
theorem dX9_undo_34 : decode cX9_undo 34 = .ok (.iconst 0, 1) := by decide +kernel
theorem dX9_undo_35 : decode cX9_undo 35 = .ok (.bipush 44, 2) := by decide +kernel
theorem dX9_undo_37 : decode cX9_undo 37 = .ok (.invokevirtual 113, 3) := by decide +kernel
theorem dX9_undo_40 : decode cX9_undo 40 = .ok (.aload_n 0, 1) := by decide +kernel
theorem dX9_undo_41 : decode cX9_undo 41 = .ok (.iload_n 1, 1) := by decide +kernel
theorem dX9_undo_42 : decode cX9_undo 42 = .ok (.putfield 117, 3) := by decide +kernel
theorem dX9_undo_45 : decode cX9_undo 45 = .ok (.iload_n 2, 1) := by decide +kernel
theorem dX9_undo_46 : decode cX9_undo 46 = .ok (.ireturn, 1) := by decide +kernel
theorem dX9_isKept_0 : decode cX9_isKept 0 = .ok (.iload_n 0, 1) := by decide +kernel
theorem dX9_isKept_1 : decode cX9_isKept 1 = .ok (.i2l, 1) := by decide +kernel
theorem dX9_isKept_2 : decode cX9_isKept 2 = .ok (.lconst 0, 1) := by decide +kernel
theorem dX9_isKept_3 : decode cX9_isKept 3 = .ok (.ldc2_w 166, 3) := by decide +kernel
theorem dX9_isKept_6 : decode cX9_isKept 6 = .ok (.invokestatic 53, 3) := by decide +kernel
theorem dX9_isKept_9 : decode cX9_isKept 9 = .ok (.ireturn, 1) := by decide +kernel
theorem dX9_keep_0 : decode cX9_keep 0 = .ok (.iload_n 1, 1) := by decide +kernel
theorem dX9_keep_1 : decode cX9_keep 1 = .ok (.invokestatic 168, 3) := by decide +kernel
theorem dX9_keep_4 : decode cX9_keep 4 = .ok (.ifCond .ne 5, 3) := by decide +kernel
theorem dX9_keep_7 : decode cX9_keep 7 = .ok (.iconst (-1), 1) := by decide +kernel
theorem dX9_keep_8 : decode cX9_keep 8 = .ok (.ireturn, 1) := by decide +kernel
theorem dX9_keep_9 : decode cX9_keep 9 = .ok (.aload_n 0, 1) := by decide +kernel
theorem dX9_keep_10 : decode cX9_keep 10 = .ok (.invokevirtual 153, 3) := by decide +kernel
theorem dX9_keep_13 : decode cX9_keep 13 = .ok (.ifCond .ne 6, 3) := by decide +kernel
theorem dX9_keep_16 : decode cX9_keep 16 = .ok (.bipush (-4), 2) := by decide +kernel
theorem dX9_keep_18 : decode cX9_keep 18 = .ok (.ireturn, 1) := by decide +kernel
theorem dX9_keep_19 : decode cX9_keep 19 = .ok (.aload_n 0, 1) := by decide +kernel
theorem dX9_keep_20 : decode cX9_keep 20 = .ok (.iconst 0, 1) := by decide +kernel
theorem dX9_keep_21 : decode cX9_keep 21 = .ok (.sipush 1804, 3) := by decide +kernel
theorem dX9_keep_24 : decode cX9_keep 24 = .ok (.iconst 1, 1) := by decide +kernel
theorem dX9_keep_25 : decode cX9_keep 25 = .ok (.iload_n 1, 1) := by decide +kernel
theorem dX9_keep_26 : decode cX9_keep 26 = .ok (.iadd, 1) := by decide +kernel
theorem dX9_keep_27 : decode cX9_keep 27 = .ok (.imul, 1) := by decide +kernel
theorem dX9_keep_28 : decode cX9_keep 28 = .ok (.sipush 1804, 3) := by decide +kernel
theorem dX9_keep_31 : decode cX9_keep 31 = .ok (.invokevirtual 113, 3) := by decide +kernel
theorem dX9_keep_34 : decode cX9_keep 34 = .ok (.aload_n 0, 1) := by decide +kernel
theorem dX9_keep_35 : decode cX9_keep 35 = .ok (.getfield 13, 3) := by decide +kernel
theorem dX9_keep_38 : decode cX9_keep 38 = .ok (.iload_n 1, 1) := by decide +kernel
theorem dX9_keep_39 : decode cX9_keep 39 = .ok (.aload_n 0, 1) := by decide +kernel
theorem dX9_keep_40 : decode cX9_keep 40 = .ok (.getfield 117, 3) := by decide +kernel
theorem dX9_keep_43 : decode cX9_keep 43 = .ok (.iastore, 1) := by decide +kernel
theorem dX9_keep_44 : decode cX9_keep 44 = .ok (.aload_n 0, 1) := by decide +kernel
theorem dX9_keep_45 : decode cX9_keep 45 = .ok (.getfield 117, 3) := by decide +kernel
theorem dX9_keep_48 : decode cX9_keep 48 = .ok (.ireturn, 1) := by decide +kernel
theorem dX9_on_0 : decode cX9_on 0 = .ok (.iload_n 1, 1) := by decide +kernel
theorem dX9_on_1 : decode cX9_on 1 = .ok (.invokestatic 168, 3) := by decide +kernel
theorem dX9_on_4 : decode cX9_on 4 = .ok (.ifCond .ne 5, 3) := by decide +kernel
theorem dX9_on_7 : decode cX9_on 7 = .ok (.iconst (-1), 1) := by decide +kernel
theorem dX9_on_8 : decode cX9_on 8 = .ok (.ireturn, 1) := by decide +kernel
theorem dX9_on_9 : decode cX9_on 9 = .ok (.aload_n 0, 1) := by decide +kernel
theorem dX9_on_10 : decode cX9_on 10 = .ok (.getfield 13, 3) := by decide +kernel
theorem dX9_on_13 : decode cX9_on 13 = .ok (.iload_n 1, 1) := by decide +kernel
theorem dX9_on_14 : decode cX9_on 14 = .ok (.iaload, 1) := by decide +kernel
theorem dX9_on_15 : decode cX9_on 15 = .ok (.ifCond .ge 9, 3) := by decide +kernel
theorem dX9_on_18 : decode cX9_on 18 = .ok (.aload_n 0, 1) := by decide +kernel
theorem dX9_on_19 : decode cX9_on 19 = .ok (.iconst 1, 1) := by decide +kernel
theorem dX9_on_20 : decode cX9_on 20 = .ok (.invokevirtual 63, 3) := by decide +kernel
theorem dX9_on_23 : decode cX9_on 23 = .ok (.ireturn, 1) := by decide +kernel
theorem dX9_on_24 : decode cX9_on 24 = .ok (.aload_n 0, 1) := by decide +kernel
theorem dX9_on_25 : decode cX9_on 25 = .ok (.sipush 1804, 3) := by decide +kernel
theorem dX9_on_28 : decode cX9_on 28 = .ok (.iconst 1, 1) := by decide +kernel
theorem dX9_on_29 : decode cX9_on 29 = .ok (.iload_n 1, 1) := by decide +kernel
theorem dX9_on_30 : decode cX9_on 30 = .ok (.iadd, 1) := by decide +kernel
theorem dX9_on_31 : decode cX9_on 31 = .ok (.imul, 1) := by decide +kernel
theorem dX9_on_32 : decode cX9_on 32 = .ok (.iconst 0, 1) := by decide +kernel
theorem dX9_on_33 : decode cX9_on 33 = .ok (.sipush 1804, 3) := by decide +kernel
theorem dX9_on_36 : decode cX9_on 36 = .ok (.invokevirtual 113, 3) := by decide +kernel
theorem dX9_on_39 : decode cX9_on 39 = .ok (.aload_n 0, 1) := by decide +kernel
theorem dX9_on_40 : decode cX9_on 40 = .ok (.aload_n 0, 1) := by decide +kernel
theorem dX9_on_41 : decode cX9_on 41 = .ok (.getfield 13, 3) := by decide +kernel
theorem dX9_on_44 : decode cX9_on 44 = .ok (.iload_n 1, 1) := by decide +kernel
theorem dX9_on_45 : decode cX9_on 45 = .ok (.iaload, 1) := by decide +kernel
theorem dX9_on_46 : decode cX9_on 46 = .ok (.putfield 117, 3) := by decide +kernel
theorem dX9_on_49 : decode cX9_on 49 = .ok (.aload_n 0, 1) := by decide +kernel
theorem dX9_on_50 : decode cX9_on 50 = .ok (.getfield 117, 3) := by decide +kernel
theorem dX9_on_53 : decode cX9_on 53 = .ok (.ireturn, 1) := by decide +kernel
theorem dX9_tries_0 : decode cX9_tries 0 = .ok (.aload_n 0, 1) := by decide +kernel
theorem dX9_tries_1 : decode cX9_tries 1 = .ok (.iconst 0, 1) := by decide +kernel
theorem dX9_tries_2 : decode cX9_tries 2 = .ok (.sipush 7260, 3) := by decide +kernel
theorem dX9_tries_5 : decode cX9_tries 5 = .ok (.bipush 44, 2) := by decide +kernel
theorem dX9_tries_7 : decode cX9_tries 7 = .ok (.invokevirtual 113, 3) := by decide +kernel
theorem dX9_tries_10 : decode cX9_tries 10 = .ok (.return_, 1) := by decide +kernel
theorem dX9_triesNights_0 : decode cX9_triesNights 0 = .ok (.iconst 0, 1) := by decide +kernel
theorem dX9_triesNights_1 : decode cX9_triesNights 1 = .ok (.istore_n 2, 1) := by decide +kernel
theorem dX9_triesNights_2 : decode cX9_triesNights 2 = .ok (.iload_n 2, 1) := by decide +kernel
theorem dX9_triesNights_3 : decode cX9_triesNights 3 = .ok (.iload_n 1, 1) := by decide +kernel
theorem dX9_triesNights_4 : decode cX9_triesNights 4 = .ok (.if_icmp .ge 17, 3) := by decide +kernel
theorem dX9_triesNights_7 : decode cX9_triesNights 7 = .ok (.aload_n 0, 1) := by decide +kernel
theorem dX9_triesNights_8 : decode cX9_triesNights 8 = .ok (.sipush 7260, 3) := by decide +kernel
theorem dX9_triesNights_11 : decode cX9_triesNights 11 = .ok (.invokevirtual 160, 3) := by decide +kernel
theorem dX9_triesNights_14 : decode cX9_triesNights 14 = .ok (.pop, 1) := by decide +kernel
theorem dX9_triesNights_15 : decode cX9_triesNights 15 = .ok (.iinc 2 1, 3) := by decide +kernel
theorem dX9_triesNights_18 : decode cX9_triesNights 18 = .ok (.goto (-16), 3) := by decide +kernel
theorem dX9_triesNights_21 : decode cX9_triesNights 21 = .ok (.return_, 1) := by decide +kernel
theorem dX9_then_0 : decode cX9_then 0 = .ok (.aload_n 0, 1) := by decide +kernel
theorem dX9_then_1 : decode cX9_then 1 = .ok (.iload_n 1, 1) := by decide +kernel
theorem dX9_then_2 : decode cX9_then 2 = .ok (.invokevirtual 140, 3) := by decide +kernel
theorem dX9_then_5 : decode cX9_then 5 = .ok (.ifCond .eq 15, 3) := by decide +kernel
theorem dX9_then_8 : decode cX9_then 8 = .ok (.iload_n 2, 1) := by decide +kernel
theorem dX9_then_9 : decode cX9_then 9 = .ok (.i2l, 1) := by decide +kernel
theorem dX9_then_10 : decode cX9_then 10 = .ok (.lconst 0, 1) := by decide +kernel
theorem dX9_then_11 : decode cX9_then 11 = .ok (.ldc2_w 171, 3) := by decide +kernel
theorem dX9_then_14 : decode cX9_then 14 = .ok (.invokestatic 53, 3) := by decide +kernel
theorem dX9_then_17 : decode cX9_then 17 = .ok (.ifCond .ne 5, 3) := by decide +kernel
theorem dX9_then_20 : decode cX9_then 20 = .ok (.iconst (-1), 1) := by decide +kernel
theorem dX9_then_21 : decode cX9_then 21 = .ok (.ireturn, 1) := by decide +kernel
theorem dX9_then_22 : decode cX9_then 22 = .ok (.aload_n 0, 1) := by decide +kernel
theorem dX9_then_23 : decode cX9_then 23 = .ok (.invokevirtual 173, 3) := by decide +kernel
theorem dX9_then_26 : decode cX9_then 26 = .ok (.aload_n 0, 1) := by decide +kernel
theorem dX9_then_27 : decode cX9_then 27 = .ok (.iload_n 2, 1) := by decide +kernel
theorem dX9_then_28 : decode cX9_then 28 = .ok (.invokevirtual 176, 3) := by decide +kernel
theorem dX9_then_31 : decode cX9_then 31 = .ok (.aload_n 0, 1) := by decide +kernel
theorem dX9_then_32 : decode cX9_then 32 = .ok (.aload_n 0, 1) := by decide +kernel
theorem dX9_then_33 : decode cX9_then 33 = .ok (.getfield 7, 3) := by decide +kernel
theorem dX9_then_36 : decode cX9_then 36 = .ok (.sipush 7281, 3) := by decide +kernel
theorem dX9_then_39 : decode cX9_then 39 = .ok (.iload_n 1, 1) := by decide +kernel
theorem dX9_then_40 : decode cX9_then 40 = .ok (.iadd, 1) := by decide +kernel
theorem dX9_then_41 : decode cX9_then 41 = .ok (.iaload, 1) := by decide +kernel
theorem dX9_then_42 : decode cX9_then 42 = .ok (.aload_n 0, 1) := by decide +kernel
theorem dX9_then_43 : decode cX9_then 43 = .ok (.getfield 7, 3) := by decide +kernel
theorem dX9_then_46 : decode cX9_then 46 = .ok (.sipush 7287, 3) := by decide +kernel
theorem dX9_then_49 : decode cX9_then 49 = .ok (.iload_n 1, 1) := by decide +kernel
theorem dX9_then_50 : decode cX9_then 50 = .ok (.iadd, 1) := by decide +kernel
theorem dX9_then_51 : decode cX9_then 51 = .ok (.iaload, 1) := by decide +kernel
theorem dX9_then_52 : decode cX9_then 52 = .ok (.invokevirtual 75, 3) := by decide +kernel
theorem dX9_then_55 : decode cX9_then 55 = .ok (.ireturn, 1) := by decide +kernel
theorem dX9_when_0 : decode cX9_when 0 = .ok (.aload_n 0, 1) := by decide +kernel
theorem dX9_when_1 : decode cX9_when 1 = .ok (.iload_n 1, 1) := by decide +kernel
theorem dX9_when_2 : decode cX9_when 2 = .ok (.invokevirtual 140, 3) := by decide +kernel
theorem dX9_when_5 : decode cX9_when 5 = .ok (.ifCond .ne 5, 3) := by decide +kernel
theorem dX9_when_8 : decode cX9_when 8 = .ok (.iconst (-1), 1) := by decide +kernel
theorem dX9_when_9 : decode cX9_when 9 = .ok (.ireturn, 1) := by decide +kernel
theorem dX9_when_10 : decode cX9_when 10 = .ok (.aload_n 0, 1) := by decide +kernel
theorem dX9_when_11 : decode cX9_when 11 = .ok (.invokevirtual 173, 3) := by decide +kernel
theorem dX9_when_14 : decode cX9_when 14 = .ok (.iconst 0, 1) := by decide +kernel
theorem dX9_when_15 : decode cX9_when 15 = .ok (.istore_n 2, 1) := by decide +kernel
theorem dX9_when_16 : decode cX9_when 16 = .ok (.iload_n 2, 1) := by decide +kernel
theorem dX9_when_17 : decode cX9_when 17 = .ok (.bipush 40, 2) := by decide +kernel
theorem dX9_when_19 : decode cX9_when 19 = .ok (.if_icmp .gt 30, 3) := by decide +kernel
theorem dX9_when_22 : decode cX9_when 22 = .ok (.aload_n 0, 1) := by decide +kernel
theorem dX9_when_23 : decode cX9_when 23 = .ok (.sipush 7260, 3) := by decide +kernel
theorem dX9_when_26 : decode cX9_when 26 = .ok (.iload_n 1, 1) := by decide +kernel
theorem dX9_when_27 : decode cX9_when 27 = .ok (.invokevirtual 136, 3) := by decide +kernel
theorem dX9_when_30 : decode cX9_when 30 = .ok (.ifCond .eq 5, 3) := by decide +kernel
theorem dX9_when_33 : decode cX9_when 33 = .ok (.iload_n 2, 1) := by decide +kernel
theorem dX9_when_34 : decode cX9_when 34 = .ok (.ireturn, 1) := by decide +kernel
theorem dX9_when_35 : decode cX9_when 35 = .ok (.aload_n 0, 1) := by decide +kernel
theorem dX9_when_36 : decode cX9_when 36 = .ok (.sipush 7260, 3) := by decide +kernel
theorem dX9_when_39 : decode cX9_when 39 = .ok (.invokevirtual 160, 3) := by decide +kernel
theorem dX9_when_42 : decode cX9_when 42 = .ok (.pop, 1) := by decide +kernel
theorem dX9_when_43 : decode cX9_when 43 = .ok (.iinc 2 1, 3) := by decide +kernel
theorem dX9_when_46 : decode cX9_when 46 = .ok (.goto (-30), 3) := by decide +kernel
theorem dX9_when_49 : decode cX9_when 49 = .ok (.bipush (-9), 2) := by decide +kernel
theorem dX9_when_51 : decode cX9_when 51 = .ok (.ireturn, 1) := by decide +kernel
theorem dX9_least_0 : decode cX9_least 0 = .ok (.aload_n 0, 1) := by decide +kernel
theorem dX9_least_1 : decode cX9_least 1 = .ok (.iload_n 1, 1) := by decide +kernel
theorem dX9_least_2 : decode cX9_least 2 = .ok (.invokevirtual 140, 3) := by decide +kernel
theorem dX9_least_5 : decode cX9_least 5 = .ok (.ifCond .eq 15, 3) := by decide +kernel
theorem dX9_least_8 : decode cX9_least 8 = .ok (.iload_n 2, 1) := by decide +kernel
theorem dX9_least_9 : decode cX9_least 9 = .ok (.i2l, 1) := by decide +kernel
theorem dX9_least_10 : decode cX9_least 10 = .ok (.lconst 0, 1) := by decide +kernel
theorem dX9_least_11 : decode cX9_least 11 = .ok (.ldc2_w 171, 3) := by decide +kernel
theorem dX9_least_14 : decode cX9_least 14 = .ok (.invokestatic 53, 3) := by decide +kernel
theorem dX9_least_17 : decode cX9_least 17 = .ok (.ifCond .ne 5, 3) := by decide +kernel
theorem dX9_least_20 : decode cX9_least 20 = .ok (.iconst (-1), 1) := by decide +kernel
theorem dX9_least_21 : decode cX9_least 21 = .ok (.ireturn, 1) := by decide +kernel
theorem dX9_least_22 : decode cX9_least 22 = .ok (.iconst 0, 1) := by decide +kernel
theorem dX9_least_23 : decode cX9_least 23 = .ok (.istore_n 3, 1) := by decide +kernel
theorem dX9_least_24 : decode cX9_least 24 = .ok (.iload_n 3, 1) := by decide +kernel
theorem dX9_least_25 : decode cX9_least 25 = .ok (.aload_n 0, 1) := by decide +kernel
theorem dX9_least_26 : decode cX9_least 26 = .ok (.getfield 7, 3) := by decide +kernel
theorem dX9_least_29 : decode cX9_least 29 = .ok (.bipush 21, 2) := by decide +kernel
theorem dX9_least_31 : decode cX9_least 31 = .ok (.iload_n 1, 1) := by decide +kernel
theorem dX9_least_32 : decode cX9_least 32 = .ok (.iadd, 1) := by decide +kernel
theorem dX9_least_33 : decode cX9_least 33 = .ok (.iaload, 1) := by decide +kernel
theorem dX9_least_34 : decode cX9_least 34 = .ok (.if_icmp .gt 45, 3) := by decide +kernel
theorem dX9_least_37 : decode cX9_least 37 = .ok (.aload_n 0, 1) := by decide +kernel
theorem dX9_least_38 : decode cX9_least 38 = .ok (.invokevirtual 173, 3) := by decide +kernel
theorem dX9_least_41 : decode cX9_least 41 = .ok (.aload_n 0, 1) := by decide +kernel
theorem dX9_least_42 : decode cX9_least 42 = .ok (.getfield 7, 3) := by decide +kernel
theorem dX9_least_45 : decode cX9_least 45 = .ok (.sipush 7281, 3) := by decide +kernel
theorem dX9_least_48 : decode cX9_least 48 = .ok (.iload_n 1, 1) := by decide +kernel
theorem dX9_least_49 : decode cX9_least 49 = .ok (.iadd, 1) := by decide +kernel
theorem dX9_least_50 : decode cX9_least 50 = .ok (.dup2, 1) := by decide +kernel
theorem dX9_least_51 : decode cX9_least 51 = .ok (.iaload, 1) := by decide +kernel
theorem dX9_least_52 : decode cX9_least 52 = .ok (.iload_n 3, 1) := by decide +kernel
theorem dX9_least_53 : decode cX9_least 53 = .ok (.isub, 1) := by decide +kernel
theorem dX9_least_54 : decode cX9_least 54 = .ok (.iastore, 1) := by decide +kernel
theorem dX9_least_55 : decode cX9_least 55 = .ok (.aload_n 0, 1) := by decide +kernel
theorem dX9_least_56 : decode cX9_least 56 = .ok (.iload_n 2, 1) := by decide +kernel
theorem dX9_least_57 : decode cX9_least 57 = .ok (.invokevirtual 176, 3) := by decide +kernel
theorem dX9_least_60 : decode cX9_least 60 = .ok (.aload_n 0, 1) := by decide +kernel
theorem dX9_least_61 : decode cX9_least 61 = .ok (.sipush 7260, 3) := by decide +kernel
theorem dX9_least_64 : decode cX9_least 64 = .ok (.iload_n 1, 1) := by decide +kernel
theorem dX9_least_65 : decode cX9_least 65 = .ok (.invokevirtual 136, 3) := by decide +kernel
theorem dX9_least_68 : decode cX9_least 68 = .ok (.ifCond .eq 5, 3) := by decide +kernel
theorem dX9_least_71 : decode cX9_least 71 = .ok (.iload_n 3, 1) := by decide +kernel
theorem dX9_least_72 : decode cX9_least 72 = .ok (.ireturn, 1) := by decide +kernel
theorem dX9_least_73 : decode cX9_least 73 = .ok (.iinc 3 1, 3) := by decide +kernel
theorem dX9_least_76 : decode cX9_least 76 = .ok (.goto (-52), 3) := by decide +kernel
theorem dX9_least_79 : decode cX9_least 79 = .ok (.bipush (-9), 2) := by decide +kernel
theorem dX9_least_81 : decode cX9_least 81 = .ok (.ireturn, 1) := by decide +kernel
theorem dX9_round_0 : decode cX9_round 0 = .ok (.iload_n 1, 1) := by decide +kernel
theorem dX9_round_1 : decode cX9_round 1 = .ok (.i2l, 1) := by decide +kernel
theorem dX9_round_2 : decode cX9_round 2 = .ok (.lconst 0, 1) := by decide +kernel
theorem dX9_round_3 : decode cX9_round 3 = .ok (.ldc2_w 179, 3) := by decide +kernel
theorem dX9_round_6 : decode cX9_round 6 = .ok (.invokestatic 53, 3) := by decide +kernel
theorem dX9_round_9 : decode cX9_round 9 = .ok (.ifCond .eq 10, 3) := by decide +kernel
theorem dX9_round_12 : decode cX9_round 12 = .ok (.iload_n 2, 1) := by decide +kernel
theorem dX9_round_13 : decode cX9_round 13 = .ok (.invokestatic 59, 3) := by decide +kernel
theorem dX9_round_16 : decode cX9_round 16 = .ok (.ifCond .ne 5, 3) := by decide +kernel
theorem dX9_round_19 : decode cX9_round 19 = .ok (.iconst (-1), 1) := by decide +kernel
theorem dX9_round_20 : decode cX9_round 20 = .ok (.ireturn, 1) := by decide +kernel
theorem dX9_round_21 : decode cX9_round 21 = .ok (.aload_n 0, 1) := by decide +kernel
theorem dX9_round_22 : decode cX9_round 22 = .ok (.invokevirtual 153, 3) := by decide +kernel
theorem dX9_round_25 : decode cX9_round 25 = .ok (.ifCond .ne 6, 3) := by decide +kernel
theorem dX9_round_28 : decode cX9_round 28 = .ok (.bipush (-4), 2) := by decide +kernel
theorem dX9_round_30 : decode cX9_round 30 = .ok (.ireturn, 1) := by decide +kernel
theorem dX9_round_31 : decode cX9_round 31 = .ok (.iconst 1, 1) := by decide +kernel
theorem dX9_round_32 : decode cX9_round 32 = .ok (.istore_n 3, 1) := by decide +kernel
theorem dX9_round_33 : decode cX9_round 33 = .ok (.iconst 0, 1) := by decide +kernel
theorem dX9_round_34 : decode cX9_round 34 = .ok (.istore 4, 2) := by decide +kernel
theorem dX9_round_36 : decode cX9_round 36 = .ok (.iload 4, 2) := by decide +kernel
theorem dX9_round_38 : decode cX9_round 38 = .ok (.iload_n 1, 1) := by decide +kernel
theorem dX9_round_39 : decode cX9_round 39 = .ok (.if_icmp .ge 20, 3) := by decide +kernel
end
section
theorem dX9_round_42 : decode cX9_round 42 = .ok (.iload_n 3, 1) := by decide +kernel
theorem dX9_round_43 : decode cX9_round 43 = .ok (.aload_n 0, 1) := by decide +kernel
theorem dX9_round_44 : decode cX9_round 44 = .ok (.getfield 7, 3) := by decide +kernel
theorem dX9_round_47 : decode cX9_round 47 = .ok (.iconst 0, 1) := by decide +kernel
theorem dX9_round_48 : decode cX9_round 48 = .ok (.iaload, 1) := by decide +kernel
theorem dX9_round_49 : decode cX9_round 49 = .ok (.iconst 1, 1) := by decide +kernel
theorem dX9_round_50 : decode cX9_round 50 = .ok (.iadd, 1) := by decide +kernel
theorem dX9_round_51 : decode cX9_round 51 = .ok (.imul, 1) := by decide +kernel
theorem dX9_round_52 : decode cX9_round 52 = .ok (.istore_n 3, 1) := by decide +kernel
theorem dX9_round_53 : decode cX9_round 53 = .ok (.iinc 4 1, 3) := by decide +kernel
theorem dX9_round_56 : decode cX9_round 56 = .ok (.goto (-20), 3) := by decide +kernel
theorem dX9_round_59 : decode cX9_round 59 = .ok (.iconst 0, 1) := by decide +kernel
theorem dX9_round_60 : decode cX9_round 60 = .ok (.istore 4, 2) := by decide +kernel
theorem dX9_round_62 : decode cX9_round 62 = .ok (.iconst (-1), 1) := by decide +kernel
theorem dX9_round_63 : decode cX9_round 63 = .ok (.istore 5, 2) := by decide +kernel
theorem dX9_round_65 : decode cX9_round 65 = .ok (.iconst 0, 1) := by decide +kernel
theorem dX9_round_66 : decode cX9_round 66 = .ok (.istore 6, 2) := by decide +kernel
theorem dX9_round_68 : decode cX9_round 68 = .ok (.iload 6, 2) := by decide +kernel
theorem dX9_round_70 : decode cX9_round 70 = .ok (.iload_n 3, 1) := by decide +kernel
theorem dX9_round_71 : decode cX9_round 71 = .ok (.if_icmp .ge 128, 3) := by decide +kernel
theorem dX9_round_74 : decode cX9_round 74 = .ok (.aload_n 0, 1) := by decide +kernel
theorem dX9_round_75 : decode cX9_round 75 = .ok (.invokevirtual 173, 3) := by decide +kernel
theorem dX9_round_78 : decode cX9_round 78 = .ok (.iconst 0, 1) := by decide +kernel
theorem dX9_round_79 : decode cX9_round 79 = .ok (.istore 7, 2) := by decide +kernel
theorem dX9_round_81 : decode cX9_round 81 = .ok (.iload_n 3, 1) := by decide +kernel
theorem dX9_round_82 : decode cX9_round 82 = .ok (.istore 8, 2) := by decide +kernel
theorem dX9_round_84 : decode cX9_round 84 = .ok (.iconst 0, 1) := by decide +kernel
theorem dX9_round_85 : decode cX9_round 85 = .ok (.istore 9, 2) := by decide +kernel
theorem dX9_round_87 : decode cX9_round 87 = .ok (.iload 9, 2) := by decide +kernel
theorem dX9_round_89 : decode cX9_round 89 = .ok (.iload_n 1, 1) := by decide +kernel
theorem dX9_round_90 : decode cX9_round 90 = .ok (.if_icmp .ge 71, 3) := by decide +kernel
theorem dX9_round_93 : decode cX9_round 93 = .ok (.iload 8, 2) := by decide +kernel
theorem dX9_round_95 : decode cX9_round 95 = .ok (.aload_n 0, 1) := by decide +kernel
theorem dX9_round_96 : decode cX9_round 96 = .ok (.getfield 7, 3) := by decide +kernel
theorem dX9_round_99 : decode cX9_round 99 = .ok (.iconst 0, 1) := by decide +kernel
theorem dX9_round_100 : decode cX9_round 100 = .ok (.iaload, 1) := by decide +kernel
theorem dX9_round_101 : decode cX9_round 101 = .ok (.iconst 1, 1) := by decide +kernel
theorem dX9_round_102 : decode cX9_round 102 = .ok (.iadd, 1) := by decide +kernel
theorem dX9_round_103 : decode cX9_round 103 = .ok (.idiv, 1) := by decide +kernel
theorem dX9_round_104 : decode cX9_round 104 = .ok (.istore 8, 2) := by decide +kernel
theorem dX9_round_106 : decode cX9_round 106 = .ok (.iload 6, 2) := by decide +kernel
theorem dX9_round_108 : decode cX9_round 108 = .ok (.iload 8, 2) := by decide +kernel
theorem dX9_round_110 : decode cX9_round 110 = .ok (.idiv, 1) := by decide +kernel
theorem dX9_round_111 : decode cX9_round 111 = .ok (.aload_n 0, 1) := by decide +kernel
theorem dX9_round_112 : decode cX9_round 112 = .ok (.getfield 7, 3) := by decide +kernel
theorem dX9_round_115 : decode cX9_round 115 = .ok (.iconst 0, 1) := by decide +kernel
theorem dX9_round_116 : decode cX9_round 116 = .ok (.iaload, 1) := by decide +kernel
theorem dX9_round_117 : decode cX9_round 117 = .ok (.iconst 1, 1) := by decide +kernel
theorem dX9_round_118 : decode cX9_round 118 = .ok (.iadd, 1) := by decide +kernel
theorem dX9_round_119 : decode cX9_round 119 = .ok (.irem, 1) := by decide +kernel
theorem dX9_round_120 : decode cX9_round 120 = .ok (.iconst 1, 1) := by decide +kernel
theorem dX9_round_121 : decode cX9_round 121 = .ok (.isub, 1) := by decide +kernel
theorem dX9_round_122 : decode cX9_round 122 = .ok (.istore 10, 2) := by decide +kernel
theorem dX9_round_124 : decode cX9_round 124 = .ok (.aload_n 0, 1) := by decide +kernel
theorem dX9_round_125 : decode cX9_round 125 = .ok (.sipush 7260, 3) := by decide +kernel
theorem dX9_round_128 : decode cX9_round 128 = .ok (.invokevirtual 160, 3) := by decide +kernel
theorem dX9_round_131 : decode cX9_round 131 = .ok (.pop, 1) := by decide +kernel
theorem dX9_round_132 : decode cX9_round 132 = .ok (.iload 7, 2) := by decide +kernel
theorem dX9_round_134 : decode cX9_round 134 = .ok (.iload 10, 2) := by decide +kernel
theorem dX9_round_136 : decode cX9_round 136 = .ok (.ifCond .ge 7, 3) := by decide +kernel
theorem dX9_round_139 : decode cX9_round 139 = .ok (.iconst 0, 1) := by decide +kernel
theorem dX9_round_140 : decode cX9_round 140 = .ok (.goto 12, 3) := by decide +kernel
theorem dX9_round_143 : decode cX9_round 143 = .ok (.aload_n 0, 1) := by decide +kernel
theorem dX9_round_144 : decode cX9_round 144 = .ok (.sipush 7260, 3) := by decide +kernel
theorem dX9_round_147 : decode cX9_round 147 = .ok (.iload 10, 2) := by decide +kernel
theorem dX9_round_149 : decode cX9_round 149 = .ok (.invokevirtual 163, 3) := by decide +kernel
theorem dX9_round_152 : decode cX9_round 152 = .ok (.iadd, 1) := by decide +kernel
theorem dX9_round_153 : decode cX9_round 153 = .ok (.istore 7, 2) := by decide +kernel
theorem dX9_round_155 : decode cX9_round 155 = .ok (.iinc 9 1, 3) := by decide +kernel
theorem dX9_round_158 : decode cX9_round 158 = .ok (.goto (-71), 3) := by decide +kernel
theorem dX9_round_161 : decode cX9_round 161 = .ok (.iload 7, 2) := by decide +kernel
theorem dX9_round_163 : decode cX9_round 163 = .ok (.iload 5, 2) := by decide +kernel
theorem dX9_round_165 : decode cX9_round 165 = .ok (.if_icmp .le 8, 3) := by decide +kernel
theorem dX9_round_168 : decode cX9_round 168 = .ok (.iload 6, 2) := by decide +kernel
theorem dX9_round_170 : decode cX9_round 170 = .ok (.goto 5, 3) := by decide +kernel
theorem dX9_round_173 : decode cX9_round 173 = .ok (.iload 4, 2) := by decide +kernel
theorem dX9_round_175 : decode cX9_round 175 = .ok (.istore 4, 2) := by decide +kernel
theorem dX9_round_177 : decode cX9_round 177 = .ok (.iload 7, 2) := by decide +kernel
theorem dX9_round_179 : decode cX9_round 179 = .ok (.iload 5, 2) := by decide +kernel
theorem dX9_round_181 : decode cX9_round 181 = .ok (.if_icmp .le 8, 3) := by decide +kernel
theorem dX9_round_184 : decode cX9_round 184 = .ok (.iload 7, 2) := by decide +kernel
theorem dX9_round_186 : decode cX9_round 186 = .ok (.goto 5, 3) := by decide +kernel
theorem dX9_round_189 : decode cX9_round 189 = .ok (.iload 5, 2) := by decide +kernel
theorem dX9_round_191 : decode cX9_round 191 = .ok (.istore 5, 2) := by decide +kernel
theorem dX9_round_193 : decode cX9_round 193 = .ok (.iinc 6 1, 3) := by decide +kernel
theorem dX9_round_196 : decode cX9_round 196 = .ok (.goto (-128), 3) := by decide +kernel
theorem dX9_round_199 : decode cX9_round 199 = .ok (.aload_n 0, 1) := by decide +kernel
theorem dX9_round_200 : decode cX9_round 200 = .ok (.iload_n 2, 1) := by decide +kernel
theorem dX9_round_201 : decode cX9_round 201 = .ok (.iload_n 1, 1) := by decide +kernel
theorem dX9_round_202 : decode cX9_round 202 = .ok (.invokevirtual 67, 3) := by decide +kernel
theorem dX9_round_205 : decode cX9_round 205 = .ok (.iload 4, 2) := by decide +kernel
theorem dX9_round_207 : decode cX9_round 207 = .ok (.istore 6, 2) := by decide +kernel
theorem dX9_round_209 : decode cX9_round 209 = .ok (.iload_n 1, 1) := by decide +kernel
theorem dX9_round_210 : decode cX9_round 210 = .ok (.iconst 1, 1) := by decide +kernel
theorem dX9_round_211 : decode cX9_round 211 = .ok (.isub, 1) := by decide +kernel
theorem dX9_round_212 : decode cX9_round 212 = .ok (.istore 7, 2) := by decide +kernel
theorem dX9_round_214 : decode cX9_round 214 = .ok (.iload 7, 2) := by decide +kernel
theorem dX9_round_216 : decode cX9_round 216 = .ok (.ifCond .lt 61, 3) := by decide +kernel
theorem dX9_round_219 : decode cX9_round 219 = .ok (.iload 6, 2) := by decide +kernel
theorem dX9_round_221 : decode cX9_round 221 = .ok (.aload_n 0, 1) := by decide +kernel
theorem dX9_round_222 : decode cX9_round 222 = .ok (.getfield 7, 3) := by decide +kernel
theorem dX9_round_225 : decode cX9_round 225 = .ok (.iconst 0, 1) := by decide +kernel
theorem dX9_round_226 : decode cX9_round 226 = .ok (.iaload, 1) := by decide +kernel
theorem dX9_round_227 : decode cX9_round 227 = .ok (.iconst 1, 1) := by decide +kernel
theorem dX9_round_228 : decode cX9_round 228 = .ok (.iadd, 1) := by decide +kernel
theorem dX9_round_229 : decode cX9_round 229 = .ok (.irem, 1) := by decide +kernel
theorem dX9_round_230 : decode cX9_round 230 = .ok (.iconst 1, 1) := by decide +kernel
theorem dX9_round_231 : decode cX9_round 231 = .ok (.isub, 1) := by decide +kernel
theorem dX9_round_232 : decode cX9_round 232 = .ok (.istore 8, 2) := by decide +kernel
theorem dX9_round_234 : decode cX9_round 234 = .ok (.aload_n 0, 1) := by decide +kernel
theorem dX9_round_235 : decode cX9_round 235 = .ok (.getfield 16, 3) := by decide +kernel
theorem dX9_round_238 : decode cX9_round 238 = .ok (.bipush 40, 2) := by decide +kernel
theorem dX9_round_240 : decode cX9_round 240 = .ok (.iload_n 2, 1) := by decide +kernel
theorem dX9_round_241 : decode cX9_round 241 = .ok (.imul, 1) := by decide +kernel
theorem dX9_round_242 : decode cX9_round 242 = .ok (.iload 7, 2) := by decide +kernel
theorem dX9_round_244 : decode cX9_round 244 = .ok (.iadd, 1) := by decide +kernel
theorem dX9_round_245 : decode cX9_round 245 = .ok (.iload 8, 2) := by decide +kernel
theorem dX9_round_247 : decode cX9_round 247 = .ok (.ifCond .ge 8, 3) := by decide +kernel
theorem dX9_round_250 : decode cX9_round 250 = .ok (.bipush (-9), 2) := by decide +kernel
theorem dX9_round_252 : decode cX9_round 252 = .ok (.goto 5, 3) := by decide +kernel
theorem dX9_round_255 : decode cX9_round 255 = .ok (.iload 8, 2) := by decide +kernel
theorem dX9_round_257 : decode cX9_round 257 = .ok (.iastore, 1) := by decide +kernel
theorem dX9_round_258 : decode cX9_round 258 = .ok (.iload 6, 2) := by decide +kernel
theorem dX9_round_260 : decode cX9_round 260 = .ok (.aload_n 0, 1) := by decide +kernel
theorem dX9_round_261 : decode cX9_round 261 = .ok (.getfield 7, 3) := by decide +kernel
theorem dX9_round_264 : decode cX9_round 264 = .ok (.iconst 0, 1) := by decide +kernel
theorem dX9_round_265 : decode cX9_round 265 = .ok (.iaload, 1) := by decide +kernel
theorem dX9_round_266 : decode cX9_round 266 = .ok (.iconst 1, 1) := by decide +kernel
theorem dX9_round_267 : decode cX9_round 267 = .ok (.iadd, 1) := by decide +kernel
theorem dX9_round_268 : decode cX9_round 268 = .ok (.idiv, 1) := by decide +kernel
theorem dX9_round_269 : decode cX9_round 269 = .ok (.istore 6, 2) := by decide +kernel
theorem dX9_round_271 : decode cX9_round 271 = .ok (.iinc 7 (-1), 3) := by decide +kernel
theorem dX9_round_274 : decode cX9_round 274 = .ok (.goto (-60), 3) := by decide +kernel
theorem dX9_round_277 : decode cX9_round 277 = .ok (.iload 5, 2) := by decide +kernel
theorem dX9_round_279 : decode cX9_round 279 = .ok (.ireturn, 1) := by decide +kernel
theorem dX9_brings_0 : decode cX9_brings 0 = .ok (.iload_n 1, 1) := by decide +kernel
theorem dX9_brings_1 : decode cX9_brings 1 = .ok (.invokestatic 59, 3) := by decide +kernel
theorem dX9_brings_4 : decode cX9_brings 4 = .ok (.ifCond .ne 5, 3) := by decide +kernel
theorem dX9_brings_7 : decode cX9_brings 7 = .ok (.iconst (-1), 1) := by decide +kernel
theorem dX9_brings_8 : decode cX9_brings 8 = .ok (.ireturn, 1) := by decide +kernel
theorem dX9_brings_9 : decode cX9_brings 9 = .ok (.aload_n 0, 1) := by decide +kernel
theorem dX9_brings_10 : decode cX9_brings 10 = .ok (.invokevirtual 153, 3) := by decide +kernel
theorem dX9_brings_13 : decode cX9_brings 13 = .ok (.ifCond .ne 6, 3) := by decide +kernel
theorem dX9_brings_16 : decode cX9_brings 16 = .ok (.bipush (-4), 2) := by decide +kernel
theorem dX9_brings_18 : decode cX9_brings 18 = .ok (.ireturn, 1) := by decide +kernel
theorem dX9_brings_19 : decode cX9_brings 19 = .ok (.aload_n 0, 1) := by decide +kernel
theorem dX9_brings_20 : decode cX9_brings 20 = .ok (.getfield 19, 3) := by decide +kernel
theorem dX9_brings_23 : decode cX9_brings 23 = .ok (.iload_n 1, 1) := by decide +kernel
theorem dX9_brings_24 : decode cX9_brings 24 = .ok (.iaload, 1) := by decide +kernel
theorem dX9_brings_25 : decode cX9_brings 25 = .ok (.ifCond .ge 9, 3) := by decide +kernel
theorem dX9_brings_28 : decode cX9_brings 28 = .ok (.aload_n 0, 1) := by decide +kernel
theorem dX9_brings_29 : decode cX9_brings 29 = .ok (.iconst 1, 1) := by decide +kernel
theorem dX9_brings_30 : decode cX9_brings 30 = .ok (.invokevirtual 63, 3) := by decide +kernel
theorem dX9_brings_33 : decode cX9_brings 33 = .ok (.ireturn, 1) := by decide +kernel
theorem dX9_brings_34 : decode cX9_brings 34 = .ok (.aload_n 0, 1) := by decide +kernel
theorem dX9_brings_35 : decode cX9_brings 35 = .ok (.getfield 19, 3) := by decide +kernel
theorem dX9_brings_38 : decode cX9_brings 38 = .ok (.iload_n 1, 1) := by decide +kernel
theorem dX9_brings_39 : decode cX9_brings 39 = .ok (.iaload, 1) := by decide +kernel
theorem dX9_brings_40 : decode cX9_brings 40 = .ok (.bipush 10, 2) := by decide +kernel
theorem dX9_brings_42 : decode cX9_brings 42 = .ok (.if_icmp .le 9, 3) := by decide +kernel
theorem dX9_brings_45 : decode cX9_brings 45 = .ok (.aload_n 0, 1) := by decide +kernel
theorem dX9_brings_46 : decode cX9_brings 46 = .ok (.iconst 5, 1) := by decide +kernel
theorem dX9_brings_47 : decode cX9_brings 47 = .ok (.invokevirtual 63, 3) := by decide +kernel
theorem dX9_brings_50 : decode cX9_brings 50 = .ok (.ireturn, 1) := by decide +kernel
theorem dX9_brings_51 : decode cX9_brings 51 = .ok (.iconst 0, 1) := by decide +kernel
theorem dX9_brings_52 : decode cX9_brings 52 = .ok (.istore_n 2, 1) := by decide +kernel
theorem dX9_brings_53 : decode cX9_brings 53 = .ok (.iload_n 2, 1) := by decide +kernel
theorem dX9_brings_54 : decode cX9_brings 54 = .ok (.aload_n 0, 1) := by decide +kernel
theorem dX9_brings_55 : decode cX9_brings 55 = .ok (.getfield 19, 3) := by decide +kernel
theorem dX9_brings_58 : decode cX9_brings 58 = .ok (.iload_n 1, 1) := by decide +kernel
theorem dX9_brings_59 : decode cX9_brings 59 = .ok (.iaload, 1) := by decide +kernel
theorem dX9_brings_60 : decode cX9_brings 60 = .ok (.if_icmp .ge 49, 3) := by decide +kernel
theorem dX9_brings_63 : decode cX9_brings 63 = .ok (.aload_n 0, 1) := by decide +kernel
theorem dX9_brings_64 : decode cX9_brings 64 = .ok (.getfield 16, 3) := by decide +kernel
theorem dX9_brings_67 : decode cX9_brings 67 = .ok (.bipush 40, 2) := by decide +kernel
theorem dX9_brings_69 : decode cX9_brings 69 = .ok (.iload_n 1, 1) := by decide +kernel
theorem dX9_brings_70 : decode cX9_brings 70 = .ok (.imul, 1) := by decide +kernel
theorem dX9_brings_71 : decode cX9_brings 71 = .ok (.iload_n 2, 1) := by decide +kernel
theorem dX9_brings_72 : decode cX9_brings 72 = .ok (.iadd, 1) := by decide +kernel
theorem dX9_brings_73 : decode cX9_brings 73 = .ok (.iaload, 1) := by decide +kernel
theorem dX9_brings_74 : decode cX9_brings 74 = .ok (.bipush (-9), 2) := by decide +kernel
theorem dX9_brings_76 : decode cX9_brings 76 = .ok (.if_icmp .eq 27, 3) := by decide +kernel
theorem dX9_brings_79 : decode cX9_brings 79 = .ok (.aload_n 0, 1) := by decide +kernel
theorem dX9_brings_80 : decode cX9_brings 80 = .ok (.aload_n 0, 1) := by decide +kernel
theorem dX9_brings_81 : decode cX9_brings 81 = .ok (.getfield 16, 3) := by decide +kernel
theorem dX9_brings_84 : decode cX9_brings 84 = .ok (.bipush 40, 2) := by decide +kernel
theorem dX9_brings_86 : decode cX9_brings 86 = .ok (.iload_n 1, 1) := by decide +kernel
theorem dX9_brings_87 : decode cX9_brings 87 = .ok (.imul, 1) := by decide +kernel
theorem dX9_brings_88 : decode cX9_brings 88 = .ok (.iload_n 2, 1) := by decide +kernel
theorem dX9_brings_89 : decode cX9_brings 89 = .ok (.iadd, 1) := by decide +kernel
theorem dX9_brings_90 : decode cX9_brings 90 = .ok (.iaload, 1) := by decide +kernel
theorem dX9_brings_91 : decode cX9_brings 91 = .ok (.invokevirtual 140, 3) := by decide +kernel
theorem dX9_brings_94 : decode cX9_brings 94 = .ok (.ifCond .ne 9, 3) := by decide +kernel
theorem dX9_brings_97 : decode cX9_brings 97 = .ok (.aload_n 0, 1) := by decide +kernel
theorem dX9_brings_98 : decode cX9_brings 98 = .ok (.iconst 3, 1) := by decide +kernel
theorem dX9_brings_99 : decode cX9_brings 99 = .ok (.invokevirtual 63, 3) := by decide +kernel
theorem dX9_brings_102 : decode cX9_brings 102 = .ok (.ireturn, 1) := by decide +kernel
theorem dX9_brings_103 : decode cX9_brings 103 = .ok (.iinc 2 1, 3) := by decide +kernel
theorem dX9_brings_106 : decode cX9_brings 106 = .ok (.goto (-53), 3) := by decide +kernel
theorem dX9_brings_109 : decode cX9_brings 109 = .ok (.aload_n 0, 1) := by decide +kernel
theorem dX9_brings_110 : decode cX9_brings 110 = .ok (.invokevirtual 173, 3) := by decide +kernel
theorem dX9_brings_113 : decode cX9_brings 113 = .ok (.iconst 0, 1) := by decide +kernel
theorem dX9_brings_114 : decode cX9_brings 114 = .ok (.istore_n 2, 1) := by decide +kernel
theorem dX9_brings_115 : decode cX9_brings 115 = .ok (.iconst 0, 1) := by decide +kernel
theorem dX9_brings_116 : decode cX9_brings 116 = .ok (.istore_n 3, 1) := by decide +kernel
theorem dX9_brings_117 : decode cX9_brings 117 = .ok (.iload_n 3, 1) := by decide +kernel
theorem dX9_brings_118 : decode cX9_brings 118 = .ok (.aload_n 0, 1) := by decide +kernel
theorem dX9_brings_119 : decode cX9_brings 119 = .ok (.getfield 19, 3) := by decide +kernel
theorem dX9_brings_122 : decode cX9_brings 122 = .ok (.iload_n 1, 1) := by decide +kernel
theorem dX9_brings_123 : decode cX9_brings 123 = .ok (.iaload, 1) := by decide +kernel
theorem dX9_brings_124 : decode cX9_brings 124 = .ok (.if_icmp .ge 58, 3) := by decide +kernel
theorem dX9_brings_127 : decode cX9_brings 127 = .ok (.aload_n 0, 1) := by decide +kernel
theorem dX9_brings_128 : decode cX9_brings 128 = .ok (.sipush 7260, 3) := by decide +kernel
theorem dX9_brings_131 : decode cX9_brings 131 = .ok (.invokevirtual 160, 3) := by decide +kernel
theorem dX9_brings_134 : decode cX9_brings 134 = .ok (.pop, 1) := by decide +kernel
theorem dX9_brings_135 : decode cX9_brings 135 = .ok (.iload_n 2, 1) := by decide +kernel
theorem dX9_brings_136 : decode cX9_brings 136 = .ok (.aload_n 0, 1) := by decide +kernel
theorem dX9_brings_137 : decode cX9_brings 137 = .ok (.getfield 16, 3) := by decide +kernel
theorem dX9_brings_140 : decode cX9_brings 140 = .ok (.bipush 40, 2) := by decide +kernel
theorem dX9_brings_142 : decode cX9_brings 142 = .ok (.iload_n 1, 1) := by decide +kernel
theorem dX9_brings_143 : decode cX9_brings 143 = .ok (.imul, 1) := by decide +kernel
theorem dX9_brings_144 : decode cX9_brings 144 = .ok (.iload_n 3, 1) := by decide +kernel
theorem dX9_brings_145 : decode cX9_brings 145 = .ok (.iadd, 1) := by decide +kernel
theorem dX9_brings_146 : decode cX9_brings 146 = .ok (.iaload, 1) := by decide +kernel
theorem dX9_brings_147 : decode cX9_brings 147 = .ok (.bipush (-9), 2) := by decide +kernel
theorem dX9_brings_149 : decode cX9_brings 149 = .ok (.if_icmp .ne 7, 3) := by decide +kernel
theorem dX9_brings_152 : decode cX9_brings 152 = .ok (.iconst 0, 1) := by decide +kernel
theorem dX9_brings_153 : decode cX9_brings 153 = .ok (.goto 21, 3) := by decide +kernel
theorem dX9_brings_156 : decode cX9_brings 156 = .ok (.aload_n 0, 1) := by decide +kernel
theorem dX9_brings_157 : decode cX9_brings 157 = .ok (.sipush 7260, 3) := by decide +kernel
theorem dX9_brings_160 : decode cX9_brings 160 = .ok (.aload_n 0, 1) := by decide +kernel
theorem dX9_brings_161 : decode cX9_brings 161 = .ok (.getfield 16, 3) := by decide +kernel
theorem dX9_brings_164 : decode cX9_brings 164 = .ok (.bipush 40, 2) := by decide +kernel
theorem dX9_brings_166 : decode cX9_brings 166 = .ok (.iload_n 1, 1) := by decide +kernel
theorem dX9_brings_167 : decode cX9_brings 167 = .ok (.imul, 1) := by decide +kernel
theorem dX9_brings_168 : decode cX9_brings 168 = .ok (.iload_n 3, 1) := by decide +kernel
theorem dX9_brings_169 : decode cX9_brings 169 = .ok (.iadd, 1) := by decide +kernel
theorem dX9_brings_170 : decode cX9_brings 170 = .ok (.iaload, 1) := by decide +kernel
theorem dX9_brings_171 : decode cX9_brings 171 = .ok (.invokevirtual 163, 3) := by decide +kernel
theorem dX9_brings_174 : decode cX9_brings 174 = .ok (.iadd, 1) := by decide +kernel
theorem dX9_brings_175 : decode cX9_brings 175 = .ok (.istore_n 2, 1) := by decide +kernel
theorem dX9_brings_176 : decode cX9_brings 176 = .ok (.iinc 3 1, 3) := by decide +kernel
theorem dX9_brings_179 : decode cX9_brings 179 = .ok (.goto (-62), 3) := by decide +kernel
theorem dX9_brings_182 : decode cX9_brings 182 = .ok (.aload_n 0, 1) := by decide +kernel
theorem dX9_brings_183 : decode cX9_brings 183 = .ok (.aload_n 0, 1) := by decide +kernel
theorem dX9_brings_184 : decode cX9_brings 184 = .ok (.getfield 7, 3) := by decide +kernel
theorem dX9_brings_187 : decode cX9_brings 187 = .ok (.sipush 7262, 3) := by decide +kernel
theorem dX9_brings_190 : decode cX9_brings 190 = .ok (.iaload, 1) := by decide +kernel
theorem dX9_brings_191 : decode cX9_brings 191 = .ok (.aload_n 0, 1) := by decide +kernel
theorem dX9_brings_192 : decode cX9_brings 192 = .ok (.getfield 7, 3) := by decide +kernel
theorem dX9_brings_195 : decode cX9_brings 195 = .ok (.iconst 2, 1) := by decide +kernel
theorem dX9_brings_196 : decode cX9_brings 196 = .ok (.iaload, 1) := by decide +kernel
theorem dX9_brings_197 : decode cX9_brings 197 = .ok (.isub, 1) := by decide +kernel
theorem dX9_brings_198 : decode cX9_brings 198 = .ok (.iload_n 2, 1) := by decide +kernel
theorem dX9_brings_199 : decode cX9_brings 199 = .ok (.invokevirtual 75, 3) := by decide +kernel
theorem dX9_brings_202 : decode cX9_brings 202 = .ok (.ireturn, 1) := by decide +kernel
theorem dX9_crossWith_0 : decode cX9_crossWith 0 = .ok (.aload_n 0, 1) := by decide +kernel
theorem dX9_crossWith_1 : decode cX9_crossWith 1 = .ok (.aload_n 0, 1) := by decide +kernel
theorem dX9_crossWith_2 : decode cX9_crossWith 2 = .ok (.getfield 7, 3) := by decide +kernel
theorem dX9_crossWith_5 : decode cX9_crossWith 5 = .ok (.iconst 3, 1) := by decide +kernel
theorem dX9_crossWith_6 : decode cX9_crossWith 6 = .ok (.iload_n 1, 1) := by decide +kernel
theorem dX9_crossWith_7 : decode cX9_crossWith 7 = .ok (.iadd, 1) := by decide +kernel
theorem dX9_crossWith_8 : decode cX9_crossWith 8 = .ok (.iaload, 1) := by decide +kernel
theorem dX9_crossWith_9 : decode cX9_crossWith 9 = .ok (.aload_n 0, 1) := by decide +kernel
theorem dX9_crossWith_10 : decode cX9_crossWith 10 = .ok (.getfield 7, 3) := by decide +kernel
theorem dX9_crossWith_13 : decode cX9_crossWith 13 = .ok (.bipush 21, 2) := by decide +kernel
theorem dX9_crossWith_15 : decode cX9_crossWith 15 = .ok (.iload_n 1, 1) := by decide +kernel
theorem dX9_crossWith_16 : decode cX9_crossWith 16 = .ok (.iadd, 1) := by decide +kernel
theorem dX9_crossWith_17 : decode cX9_crossWith 17 = .ok (.iaload, 1) := by decide +kernel
theorem dX9_crossWith_18 : decode cX9_crossWith 18 = .ok (.aload_n 0, 1) := by decide +kernel
theorem dX9_crossWith_19 : decode cX9_crossWith 19 = .ok (.getfield 7, 3) := by decide +kernel
theorem dX9_crossWith_22 : decode cX9_crossWith 22 = .ok (.bipush 9, 2) := by decide +kernel
theorem dX9_crossWith_24 : decode cX9_crossWith 24 = .ok (.iload_n 1, 1) := by decide +kernel
theorem dX9_crossWith_25 : decode cX9_crossWith 25 = .ok (.iadd, 1) := by decide +kernel
theorem dX9_crossWith_26 : decode cX9_crossWith 26 = .ok (.iaload, 1) := by decide +kernel
theorem dX9_crossWith_27 : decode cX9_crossWith 27 = .ok (.aload_n 0, 1) := by decide +kernel
theorem dX9_crossWith_28 : decode cX9_crossWith 28 = .ok (.getfield 7, 3) := by decide +kernel
theorem dX9_crossWith_31 : decode cX9_crossWith 31 = .ok (.bipush 15, 2) := by decide +kernel
theorem dX9_crossWith_33 : decode cX9_crossWith 33 = .ok (.iload_n 2, 1) := by decide +kernel
theorem dX9_crossWith_34 : decode cX9_crossWith 34 = .ok (.iadd, 1) := by decide +kernel
theorem dX9_crossWith_35 : decode cX9_crossWith 35 = .ok (.iaload, 1) := by decide +kernel
theorem dX9_crossWith_36 : decode cX9_crossWith 36 = .ok (.invokestatic 123, 3) := by decide +kernel
theorem dX9_crossWith_39 : decode cX9_crossWith 39 = .ok (.aload_n 0, 1) := by decide +kernel
theorem dX9_crossWith_40 : decode cX9_crossWith 40 = .ok (.getfield 7, 3) := by decide +kernel
theorem dX9_crossWith_43 : decode cX9_crossWith 43 = .ok (.iconst 1, 1) := by decide +kernel
theorem dX9_crossWith_44 : decode cX9_crossWith 44 = .ok (.iaload, 1) := by decide +kernel
theorem dX9_crossWith_45 : decode cX9_crossWith 45 = .ok (.invokevirtual 129, 3) := by decide +kernel
theorem dX9_crossWith_48 : decode cX9_crossWith 48 = .ok (.ireturn, 1) := by decide +kernel
theorem dX9_marry_0 : decode cX9_marry 0 = .ok (.iload_n 1, 1) := by decide +kernel
theorem dX9_marry_1 : decode cX9_marry 1 = .ok (.invokestatic 59, 3) := by decide +kernel
theorem dX9_marry_4 : decode cX9_marry 4 = .ok (.ifCond .ne 5, 3) := by decide +kernel
theorem dX9_marry_7 : decode cX9_marry 7 = .ok (.iconst (-1), 1) := by decide +kernel
theorem dX9_marry_8 : decode cX9_marry 8 = .ok (.ireturn, 1) := by decide +kernel
theorem dX9_marry_9 : decode cX9_marry 9 = .ok (.aload_n 0, 1) := by decide +kernel
theorem dX9_marry_10 : decode cX9_marry 10 = .ok (.invokevirtual 153, 3) := by decide +kernel
theorem dX9_marry_13 : decode cX9_marry 13 = .ok (.ifCond .ne 6, 3) := by decide +kernel
theorem dX9_marry_16 : decode cX9_marry 16 = .ok (.bipush (-4), 2) := by decide +kernel
theorem dX9_marry_18 : decode cX9_marry 18 = .ok (.ireturn, 1) := by decide +kernel
theorem dX9_marry_19 : decode cX9_marry 19 = .ok (.iconst 1, 1) := by decide +kernel
theorem dX9_marry_20 : decode cX9_marry 20 = .ok (.istore_n 2, 1) := by decide +kernel
theorem dX9_marry_21 : decode cX9_marry 21 = .ok (.iconst 0, 1) := by decide +kernel
theorem dX9_marry_22 : decode cX9_marry 22 = .ok (.istore_n 3, 1) := by decide +kernel
theorem dX9_marry_23 : decode cX9_marry 23 = .ok (.iload_n 3, 1) := by decide +kernel
theorem dX9_marry_24 : decode cX9_marry 24 = .ok (.aload_n 0, 1) := by decide +kernel
theorem dX9_marry_25 : decode cX9_marry 25 = .ok (.getfield 7, 3) := by decide +kernel
theorem dX9_marry_28 : decode cX9_marry 28 = .ok (.iconst 0, 1) := by decide +kernel
theorem dX9_marry_29 : decode cX9_marry 29 = .ok (.iaload, 1) := by decide +kernel
theorem dX9_marry_30 : decode cX9_marry 30 = .ok (.if_icmp .ge 18, 3) := by decide +kernel
theorem dX9_marry_33 : decode cX9_marry 33 = .ok (.iload_n 2, 1) := by decide +kernel
theorem dX9_marry_34 : decode cX9_marry 34 = .ok (.aload_n 0, 1) := by decide +kernel
theorem dX9_marry_35 : decode cX9_marry 35 = .ok (.getfield 7, 3) := by decide +kernel
theorem dX9_marry_38 : decode cX9_marry 38 = .ok (.iconst 0, 1) := by decide +kernel
theorem dX9_marry_39 : decode cX9_marry 39 = .ok (.iaload, 1) := by decide +kernel
theorem dX9_marry_40 : decode cX9_marry 40 = .ok (.imul, 1) := by decide +kernel
theorem dX9_marry_41 : decode cX9_marry 41 = .ok (.istore_n 2, 1) := by decide +kernel
theorem dX9_marry_42 : decode cX9_marry 42 = .ok (.iinc 3 1, 3) := by decide +kernel
theorem dX9_marry_45 : decode cX9_marry 45 = .ok (.goto (-22), 3) := by decide +kernel
theorem dX9_marry_48 : decode cX9_marry 48 = .ok (.iconst 0, 1) := by decide +kernel
theorem dX9_marry_49 : decode cX9_marry 49 = .ok (.istore_n 3, 1) := by decide +kernel
theorem dX9_marry_50 : decode cX9_marry 50 = .ok (.ldc 181, 2) := by decide +kernel
theorem dX9_marry_52 : decode cX9_marry 52 = .ok (.istore 4, 2) := by decide +kernel
theorem dX9_marry_54 : decode cX9_marry 54 = .ok (.iconst 0, 1) := by decide +kernel
theorem dX9_marry_55 : decode cX9_marry 55 = .ok (.istore 5, 2) := by decide +kernel
theorem dX9_marry_57 : decode cX9_marry 57 = .ok (.iload 5, 2) := by decide +kernel
theorem dX9_marry_59 : decode cX9_marry 59 = .ok (.iload_n 2, 1) := by decide +kernel
theorem dX9_marry_60 : decode cX9_marry 60 = .ok (.if_icmp .ge 142, 3) := by decide +kernel
theorem dX9_marry_63 : decode cX9_marry 63 = .ok (.iload 5, 2) := by decide +kernel
theorem dX9_marry_65 : decode cX9_marry 65 = .ok (.istore 6, 2) := by decide +kernel
theorem dX9_marry_67 : decode cX9_marry 67 = .ok (.iconst 0, 1) := by decide +kernel
theorem dX9_marry_68 : decode cX9_marry 68 = .ok (.istore 7, 2) := by decide +kernel
theorem dX9_marry_70 : decode cX9_marry 70 = .ok (.iconst 0, 1) := by decide +kernel
theorem dX9_marry_71 : decode cX9_marry 71 = .ok (.istore 8, 2) := by decide +kernel
theorem dX9_marry_73 : decode cX9_marry 73 = .ok (.aload_n 0, 1) := by decide +kernel
theorem dX9_marry_74 : decode cX9_marry 74 = .ok (.getfield 7, 3) := by decide +kernel
theorem dX9_marry_77 : decode cX9_marry 77 = .ok (.iconst 0, 1) := by decide +kernel
theorem dX9_marry_78 : decode cX9_marry 78 = .ok (.iaload, 1) := by decide +kernel
theorem dX9_marry_79 : decode cX9_marry 79 = .ok (.iconst 1, 1) := by decide +kernel
theorem dX9_marry_80 : decode cX9_marry 80 = .ok (.isub, 1) := by decide +kernel
theorem dX9_marry_81 : decode cX9_marry 81 = .ok (.istore 9, 2) := by decide +kernel
theorem dX9_marry_83 : decode cX9_marry 83 = .ok (.iload 9, 2) := by decide +kernel
theorem dX9_marry_85 : decode cX9_marry 85 = .ok (.ifCond .lt 56, 3) := by decide +kernel
theorem dX9_marry_88 : decode cX9_marry 88 = .ok (.iload 7, 2) := by decide +kernel
theorem dX9_marry_90 : decode cX9_marry 90 = .ok (.iconst 1, 1) := by decide +kernel
theorem dX9_marry_91 : decode cX9_marry 91 = .ok (.iload 6, 2) := by decide +kernel
theorem dX9_marry_93 : decode cX9_marry 93 = .ok (.aload_n 0, 1) := by decide +kernel
theorem dX9_marry_94 : decode cX9_marry 94 = .ok (.getfield 7, 3) := by decide +kernel
theorem dX9_marry_97 : decode cX9_marry 97 = .ok (.iconst 0, 1) := by decide +kernel
theorem dX9_marry_98 : decode cX9_marry 98 = .ok (.iaload, 1) := by decide +kernel
theorem dX9_marry_99 : decode cX9_marry 99 = .ok (.irem, 1) := by decide +kernel
theorem dX9_marry_100 : decode cX9_marry 100 = .ok (.ishl, 1) := by decide +kernel
theorem dX9_marry_101 : decode cX9_marry 101 = .ok (.ior, 1) := by decide +kernel
theorem dX9_marry_102 : decode cX9_marry 102 = .ok (.istore 7, 2) := by decide +kernel
theorem dX9_marry_104 : decode cX9_marry 104 = .ok (.iload 8, 2) := by decide +kernel
theorem dX9_marry_106 : decode cX9_marry 106 = .ok (.aload_n 0, 1) := by decide +kernel
theorem dX9_marry_107 : decode cX9_marry 107 = .ok (.iload 9, 2) := by decide +kernel
theorem dX9_marry_109 : decode cX9_marry 109 = .ok (.iload 6, 2) := by decide +kernel
theorem dX9_marry_111 : decode cX9_marry 111 = .ok (.aload_n 0, 1) := by decide +kernel
theorem dX9_marry_112 : decode cX9_marry 112 = .ok (.getfield 7, 3) := by decide +kernel
theorem dX9_marry_115 : decode cX9_marry 115 = .ok (.iconst 0, 1) := by decide +kernel
theorem dX9_marry_116 : decode cX9_marry 116 = .ok (.iaload, 1) := by decide +kernel
theorem dX9_marry_117 : decode cX9_marry 117 = .ok (.irem, 1) := by decide +kernel
theorem dX9_marry_118 : decode cX9_marry 118 = .ok (.invokevirtual 182, 3) := by decide +kernel
theorem dX9_marry_121 : decode cX9_marry 121 = .ok (.iadd, 1) := by decide +kernel
theorem dX9_marry_122 : decode cX9_marry 122 = .ok (.istore 8, 2) := by decide +kernel
theorem dX9_marry_124 : decode cX9_marry 124 = .ok (.iload 6, 2) := by decide +kernel
theorem dX9_marry_126 : decode cX9_marry 126 = .ok (.aload_n 0, 1) := by decide +kernel
theorem dX9_marry_127 : decode cX9_marry 127 = .ok (.getfield 7, 3) := by decide +kernel
theorem dX9_marry_130 : decode cX9_marry 130 = .ok (.iconst 0, 1) := by decide +kernel
theorem dX9_marry_131 : decode cX9_marry 131 = .ok (.iaload, 1) := by decide +kernel
theorem dX9_marry_132 : decode cX9_marry 132 = .ok (.idiv, 1) := by decide +kernel
theorem dX9_marry_133 : decode cX9_marry 133 = .ok (.istore 6, 2) := by decide +kernel
theorem dX9_marry_135 : decode cX9_marry 135 = .ok (.iinc 9 (-1), 3) := by decide +kernel
theorem dX9_marry_138 : decode cX9_marry 138 = .ok (.goto (-55), 3) := by decide +kernel
theorem dX9_marry_141 : decode cX9_marry 141 = .ok (.iload 7, 2) := by decide +kernel
theorem dX9_marry_143 : decode cX9_marry 143 = .ok (.iconst 1, 1) := by decide +kernel
theorem dX9_marry_144 : decode cX9_marry 144 = .ok (.aload_n 0, 1) := by decide +kernel
theorem dX9_marry_145 : decode cX9_marry 145 = .ok (.getfield 7, 3) := by decide +kernel
theorem dX9_marry_148 : decode cX9_marry 148 = .ok (.iconst 0, 1) := by decide +kernel
theorem dX9_marry_149 : decode cX9_marry 149 = .ok (.iaload, 1) := by decide +kernel
theorem dX9_marry_150 : decode cX9_marry 150 = .ok (.ishl, 1) := by decide +kernel
theorem dX9_marry_151 : decode cX9_marry 151 = .ok (.iconst 1, 1) := by decide +kernel
theorem dX9_marry_152 : decode cX9_marry 152 = .ok (.isub, 1) := by decide +kernel
theorem dX9_marry_153 : decode cX9_marry 153 = .ok (.if_icmp .ne 14, 3) := by decide +kernel
theorem dX9_marry_156 : decode cX9_marry 156 = .ok (.iload 8, 2) := by decide +kernel
theorem dX9_marry_158 : decode cX9_marry 158 = .ok (.iload 4, 2) := by decide +kernel
theorem dX9_marry_160 : decode cX9_marry 160 = .ok (.if_icmp .ge 7, 3) := by decide +kernel
theorem dX9_marry_163 : decode cX9_marry 163 = .ok (.iconst 1, 1) := by decide +kernel
theorem dX9_marry_164 : decode cX9_marry 164 = .ok (.goto 4, 3) := by decide +kernel
theorem dX9_marry_167 : decode cX9_marry 167 = .ok (.iconst 0, 1) := by decide +kernel
theorem dX9_marry_168 : decode cX9_marry 168 = .ok (.istore 9, 2) := by decide +kernel
theorem dX9_marry_170 : decode cX9_marry 170 = .ok (.iload 9, 2) := by decide +kernel
theorem dX9_marry_172 : decode cX9_marry 172 = .ok (.ifCond .eq 8, 3) := by decide +kernel
theorem dX9_marry_175 : decode cX9_marry 175 = .ok (.iload 5, 2) := by decide +kernel
theorem dX9_marry_177 : decode cX9_marry 177 = .ok (.goto 4, 3) := by decide +kernel
theorem dX9_marry_180 : decode cX9_marry 180 = .ok (.iload_n 3, 1) := by decide +kernel
theorem dX9_marry_181 : decode cX9_marry 181 = .ok (.istore_n 3, 1) := by decide +kernel
theorem dX9_marry_182 : decode cX9_marry 182 = .ok (.iload 9, 2) := by decide +kernel
theorem dX9_marry_184 : decode cX9_marry 184 = .ok (.ifCond .eq 8, 3) := by decide +kernel
theorem dX9_marry_187 : decode cX9_marry 187 = .ok (.iload 8, 2) := by decide +kernel
theorem dX9_marry_189 : decode cX9_marry 189 = .ok (.goto 5, 3) := by decide +kernel
theorem dX9_marry_192 : decode cX9_marry 192 = .ok (.iload 4, 2) := by decide +kernel
theorem dX9_marry_194 : decode cX9_marry 194 = .ok (.istore 4, 2) := by decide +kernel
theorem dX9_marry_196 : decode cX9_marry 196 = .ok (.iinc 5 1, 3) := by decide +kernel
theorem dX9_marry_199 : decode cX9_marry 199 = .ok (.goto (-142), 3) := by decide +kernel
theorem dX9_marry_202 : decode cX9_marry 202 = .ok (.aload_n 0, 1) := by decide +kernel
theorem dX9_marry_203 : decode cX9_marry 203 = .ok (.iload_n 1, 1) := by decide +kernel
theorem dX9_marry_204 : decode cX9_marry 204 = .ok (.aload_n 0, 1) := by decide +kernel
theorem dX9_marry_205 : decode cX9_marry 205 = .ok (.getfield 7, 3) := by decide +kernel
theorem dX9_marry_208 : decode cX9_marry 208 = .ok (.iconst 0, 1) := by decide +kernel
theorem dX9_marry_209 : decode cX9_marry 209 = .ok (.iaload, 1) := by decide +kernel
theorem dX9_marry_210 : decode cX9_marry 210 = .ok (.invokevirtual 67, 3) := by decide +kernel
theorem dX9_marry_213 : decode cX9_marry 213 = .ok (.iload_n 3, 1) := by decide +kernel
theorem dX9_marry_214 : decode cX9_marry 214 = .ok (.istore 5, 2) := by decide +kernel
theorem dX9_marry_216 : decode cX9_marry 216 = .ok (.aload_n 0, 1) := by decide +kernel
theorem dX9_marry_217 : decode cX9_marry 217 = .ok (.getfield 7, 3) := by decide +kernel
theorem dX9_marry_220 : decode cX9_marry 220 = .ok (.iconst 0, 1) := by decide +kernel
theorem dX9_marry_221 : decode cX9_marry 221 = .ok (.iaload, 1) := by decide +kernel
theorem dX9_marry_222 : decode cX9_marry 222 = .ok (.iconst 1, 1) := by decide +kernel
theorem dX9_marry_223 : decode cX9_marry 223 = .ok (.isub, 1) := by decide +kernel
theorem dX9_marry_224 : decode cX9_marry 224 = .ok (.istore 6, 2) := by decide +kernel
theorem dX9_marry_226 : decode cX9_marry 226 = .ok (.iload 6, 2) := by decide +kernel
theorem dX9_marry_228 : decode cX9_marry 228 = .ok (.ifCond .lt 41, 3) := by decide +kernel
theorem dX9_marry_231 : decode cX9_marry 231 = .ok (.aload_n 0, 1) := by decide +kernel
theorem dX9_marry_232 : decode cX9_marry 232 = .ok (.getfield 16, 3) := by decide +kernel
theorem dX9_marry_235 : decode cX9_marry 235 = .ok (.bipush 40, 2) := by decide +kernel
theorem dX9_marry_237 : decode cX9_marry 237 = .ok (.iload_n 1, 1) := by decide +kernel
theorem dX9_marry_238 : decode cX9_marry 238 = .ok (.imul, 1) := by decide +kernel
theorem dX9_marry_239 : decode cX9_marry 239 = .ok (.iload 6, 2) := by decide +kernel
theorem dX9_marry_241 : decode cX9_marry 241 = .ok (.iadd, 1) := by decide +kernel
theorem dX9_marry_242 : decode cX9_marry 242 = .ok (.iload 5, 2) := by decide +kernel
theorem dX9_marry_244 : decode cX9_marry 244 = .ok (.aload_n 0, 1) := by decide +kernel
theorem dX9_marry_245 : decode cX9_marry 245 = .ok (.getfield 7, 3) := by decide +kernel
theorem dX9_marry_248 : decode cX9_marry 248 = .ok (.iconst 0, 1) := by decide +kernel
theorem dX9_marry_249 : decode cX9_marry 249 = .ok (.iaload, 1) := by decide +kernel
theorem dX9_marry_250 : decode cX9_marry 250 = .ok (.irem, 1) := by decide +kernel
theorem dX9_marry_251 : decode cX9_marry 251 = .ok (.iastore, 1) := by decide +kernel
theorem dX9_marry_252 : decode cX9_marry 252 = .ok (.iload 5, 2) := by decide +kernel
theorem dX9_marry_254 : decode cX9_marry 254 = .ok (.aload_n 0, 1) := by decide +kernel
theorem dX9_marry_255 : decode cX9_marry 255 = .ok (.getfield 7, 3) := by decide +kernel
theorem dX9_marry_258 : decode cX9_marry 258 = .ok (.iconst 0, 1) := by decide +kernel
theorem dX9_marry_259 : decode cX9_marry 259 = .ok (.iaload, 1) := by decide +kernel
theorem dX9_marry_260 : decode cX9_marry 260 = .ok (.idiv, 1) := by decide +kernel
theorem dX9_marry_261 : decode cX9_marry 261 = .ok (.istore 5, 2) := by decide +kernel
theorem dX9_marry_263 : decode cX9_marry 263 = .ok (.iinc 6 (-1), 3) := by decide +kernel
theorem dX9_marry_266 : decode cX9_marry 266 = .ok (.goto (-40), 3) := by decide +kernel
theorem dX9_marry_269 : decode cX9_marry 269 = .ok (.iload 4, 2) := by decide +kernel
theorem dX9_marry_271 : decode cX9_marry 271 = .ok (.ireturn, 1) := by decide +kernel
theorem dX9_wantsRight_0 : decode cX9_wantsRight 0 = .ok (.aload_n 0, 1) := by decide +kernel
theorem dX9_wantsRight_1 : decode cX9_wantsRight 1 = .ok (.getfield 7, 3) := by decide +kernel
theorem dX9_wantsRight_4 : decode cX9_wantsRight 4 = .ok (.bipush 9, 2) := by decide +kernel
theorem dX9_wantsRight_6 : decode cX9_wantsRight 6 = .ok (.iload_n 1, 1) := by decide +kernel
theorem dX9_wantsRight_7 : decode cX9_wantsRight 7 = .ok (.iadd, 1) := by decide +kernel
theorem dX9_wantsRight_8 : decode cX9_wantsRight 8 = .ok (.iaload, 1) := by decide +kernel
theorem dX9_wantsRight_9 : decode cX9_wantsRight 9 = .ok (.aload_n 0, 1) := by decide +kernel
theorem dX9_wantsRight_10 : decode cX9_wantsRight 10 = .ok (.getfield 7, 3) := by decide +kernel
theorem dX9_wantsRight_13 : decode cX9_wantsRight 13 = .ok (.bipush 15, 2) := by decide +kernel
theorem dX9_wantsRight_15 : decode cX9_wantsRight 15 = .ok (.iload_n 2, 1) := by decide +kernel
theorem dX9_wantsRight_16 : decode cX9_wantsRight 16 = .ok (.iadd, 1) := by decide +kernel
theorem dX9_wantsRight_17 : decode cX9_wantsRight 17 = .ok (.iaload, 1) := by decide +kernel
theorem dX9_wantsRight_18 : decode cX9_wantsRight 18 = .ok (.invokestatic 123, 3) := by decide +kernel
theorem dX9_wantsRight_21 : decode cX9_wantsRight 21 = .ok (.aload_n 0, 1) := by decide +kernel
theorem dX9_wantsRight_22 : decode cX9_wantsRight 22 = .ok (.iconst 0, 1) := by decide +kernel
theorem dX9_wantsRight_23 : decode cX9_wantsRight 23 = .ok (.iload_n 1, 1) := by decide +kernel
theorem dX9_wantsRight_24 : decode cX9_wantsRight 24 = .ok (.invokevirtual 126, 3) := by decide +kernel
theorem dX9_wantsRight_27 : decode cX9_wantsRight 27 = .ok (.if_icmp .ge 7, 3) := by decide +kernel
theorem dX9_wantsRight_30 : decode cX9_wantsRight 30 = .ok (.iconst 1, 1) := by decide +kernel
theorem dX9_wantsRight_31 : decode cX9_wantsRight 31 = .ok (.goto 4, 3) := by decide +kernel
theorem dX9_wantsRight_34 : decode cX9_wantsRight 34 = .ok (.iconst 0, 1) := by decide +kernel
theorem dX9_wantsRight_35 : decode cX9_wantsRight 35 = .ok (.ireturn, 1) := by decide +kernel
theorem dX9_rather_0 : decode cX9_rather 0 = .ok (.aload_n 0, 1) := by decide +kernel
theorem dX9_rather_1 : decode cX9_rather 1 = .ok (.invokevirtual 153, 3) := by decide +kernel
theorem dX9_rather_4 : decode cX9_rather 4 = .ok (.ifCond .ne 6, 3) := by decide +kernel
theorem dX9_rather_7 : decode cX9_rather 7 = .ok (.bipush (-4), 2) := by decide +kernel
theorem dX9_rather_9 : decode cX9_rather 9 = .ok (.ireturn, 1) := by decide +kernel
theorem dX9_rather_10 : decode cX9_rather 10 = .ok (.iconst 0, 1) := by decide +kernel
theorem dX9_rather_11 : decode cX9_rather 11 = .ok (.istore_n 1, 1) := by decide +kernel
theorem dX9_rather_12 : decode cX9_rather 12 = .ok (.bipush (-9), 2) := by decide +kernel
theorem dX9_rather_14 : decode cX9_rather 14 = .ok (.istore_n 2, 1) := by decide +kernel
theorem dX9_rather_15 : decode cX9_rather 15 = .ok (.iconst 0, 1) := by decide +kernel
theorem dX9_rather_16 : decode cX9_rather 16 = .ok (.istore_n 3, 1) := by decide +kernel
theorem dX9_rather_17 : decode cX9_rather 17 = .ok (.iload_n 3, 1) := by decide +kernel
theorem dX9_rather_18 : decode cX9_rather 18 = .ok (.aload_n 0, 1) := by decide +kernel
theorem dX9_rather_19 : decode cX9_rather 19 = .ok (.getfield 7, 3) := by decide +kernel
theorem dX9_rather_22 : decode cX9_rather 22 = .ok (.iconst 0, 1) := by decide +kernel
theorem dX9_rather_23 : decode cX9_rather 23 = .ok (.iaload, 1) := by decide +kernel
theorem dX9_rather_24 : decode cX9_rather 24 = .ok (.if_icmp .ge 94, 3) := by decide +kernel
theorem dX9_rather_27 : decode cX9_rather 27 = .ok (.iload_n 3, 1) := by decide +kernel
theorem dX9_rather_28 : decode cX9_rather 28 = .ok (.iconst 1, 1) := by decide +kernel
theorem dX9_rather_29 : decode cX9_rather 29 = .ok (.iadd, 1) := by decide +kernel
theorem dX9_rather_30 : decode cX9_rather 30 = .ok (.istore 4, 2) := by decide +kernel
theorem dX9_rather_32 : decode cX9_rather 32 = .ok (.iload 4, 2) := by decide +kernel
theorem dX9_rather_34 : decode cX9_rather 34 = .ok (.aload_n 0, 1) := by decide +kernel
theorem dX9_rather_35 : decode cX9_rather 35 = .ok (.getfield 7, 3) := by decide +kernel
theorem dX9_rather_38 : decode cX9_rather 38 = .ok (.iconst 0, 1) := by decide +kernel
theorem dX9_rather_39 : decode cX9_rather 39 = .ok (.iaload, 1) := by decide +kernel
theorem dX9_rather_40 : decode cX9_rather 40 = .ok (.if_icmp .ge 72, 3) := by decide +kernel
theorem dX9_rather_43 : decode cX9_rather 43 = .ok (.aload_n 0, 1) := by decide +kernel
theorem dX9_rather_44 : decode cX9_rather 44 = .ok (.iload_n 3, 1) := by decide +kernel
theorem dX9_rather_45 : decode cX9_rather 45 = .ok (.iload 4, 2) := by decide +kernel
theorem dX9_rather_47 : decode cX9_rather 47 = .ok (.invokevirtual 185, 3) := by decide +kernel
theorem dX9_rather_50 : decode cX9_rather 50 = .ok (.ifCond .eq 17, 3) := by decide +kernel
theorem dX9_rather_53 : decode cX9_rather 53 = .ok (.aload_n 0, 1) := by decide +kernel
theorem dX9_rather_54 : decode cX9_rather 54 = .ok (.iload 4, 2) := by decide +kernel
theorem dX9_rather_56 : decode cX9_rather 56 = .ok (.iload_n 3, 1) := by decide +kernel
theorem dX9_rather_57 : decode cX9_rather 57 = .ok (.invokevirtual 185, 3) := by decide +kernel
theorem dX9_rather_60 : decode cX9_rather 60 = .ok (.ifCond .eq 7, 3) := by decide +kernel
theorem dX9_rather_63 : decode cX9_rather 63 = .ok (.iconst 1, 1) := by decide +kernel
theorem dX9_rather_64 : decode cX9_rather 64 = .ok (.goto 4, 3) := by decide +kernel
theorem dX9_rather_67 : decode cX9_rather 67 = .ok (.iconst 0, 1) := by decide +kernel
theorem dX9_rather_68 : decode cX9_rather 68 = .ok (.istore 5, 2) := by decide +kernel
theorem dX9_rather_70 : decode cX9_rather 70 = .ok (.iload 5, 2) := by decide +kernel
theorem dX9_rather_72 : decode cX9_rather 72 = .ok (.ifCond .eq 19, 3) := by decide +kernel
theorem dX9_rather_75 : decode cX9_rather 75 = .ok (.iload_n 2, 1) := by decide +kernel
theorem dX9_rather_76 : decode cX9_rather 76 = .ok (.bipush (-9), 2) := by decide +kernel
theorem dX9_rather_78 : decode cX9_rather 78 = .ok (.if_icmp .ne 13, 3) := by decide +kernel
theorem dX9_rather_81 : decode cX9_rather 81 = .ok (.bipush 10, 2) := by decide +kernel
theorem dX9_rather_83 : decode cX9_rather 83 = .ok (.iload_n 3, 1) := by decide +kernel
theorem dX9_rather_84 : decode cX9_rather 84 = .ok (.imul, 1) := by decide +kernel
theorem dX9_rather_85 : decode cX9_rather 85 = .ok (.iload 4, 2) := by decide +kernel
theorem dX9_rather_87 : decode cX9_rather 87 = .ok (.iadd, 1) := by decide +kernel
theorem dX9_rather_88 : decode cX9_rather 88 = .ok (.goto 4, 3) := by decide +kernel
theorem dX9_rather_91 : decode cX9_rather 91 = .ok (.iload_n 2, 1) := by decide +kernel
theorem dX9_rather_92 : decode cX9_rather 92 = .ok (.istore_n 2, 1) := by decide +kernel
theorem dX9_rather_93 : decode cX9_rather 93 = .ok (.iload_n 1, 1) := by decide +kernel
theorem dX9_rather_94 : decode cX9_rather 94 = .ok (.iload 5, 2) := by decide +kernel
theorem dX9_rather_96 : decode cX9_rather 96 = .ok (.ifCond .eq 7, 3) := by decide +kernel
theorem dX9_rather_99 : decode cX9_rather 99 = .ok (.iconst 1, 1) := by decide +kernel
theorem dX9_rather_100 : decode cX9_rather 100 = .ok (.goto 4, 3) := by decide +kernel
theorem dX9_rather_103 : decode cX9_rather 103 = .ok (.iconst 0, 1) := by decide +kernel
theorem dX9_rather_104 : decode cX9_rather 104 = .ok (.iadd, 1) := by decide +kernel
theorem dX9_rather_105 : decode cX9_rather 105 = .ok (.istore_n 1, 1) := by decide +kernel
theorem dX9_rather_106 : decode cX9_rather 106 = .ok (.iinc 4 1, 3) := by decide +kernel
theorem dX9_rather_109 : decode cX9_rather 109 = .ok (.goto (-77), 3) := by decide +kernel
theorem dX9_rather_112 : decode cX9_rather 112 = .ok (.iinc 3 1, 3) := by decide +kernel
theorem dX9_rather_115 : decode cX9_rather 115 = .ok (.goto (-98), 3) := by decide +kernel
theorem dX9_rather_118 : decode cX9_rather 118 = .ok (.aload_n 0, 1) := by decide +kernel
theorem dX9_rather_119 : decode cX9_rather 119 = .ok (.iload_n 2, 1) := by decide +kernel
theorem dX9_rather_120 : decode cX9_rather 120 = .ok (.iload_n 1, 1) := by decide +kernel
theorem dX9_rather_121 : decode cX9_rather 121 = .ok (.invokevirtual 75, 3) := by decide +kernel
theorem dX9_rather_124 : decode cX9_rather 124 = .ok (.ireturn, 1) := by decide +kernel
theorem dX9_against_0 : decode cX9_against 0 = .ok (.aload_n 0, 1) := by decide +kernel
theorem dX9_against_1 : decode cX9_against 1 = .ok (.getfield 19, 3) := by decide +kernel
theorem dX9_against_4 : decode cX9_against 4 = .ok (.iload_n 1, 1) := by decide +kernel
theorem dX9_against_5 : decode cX9_against 5 = .ok (.iaload, 1) := by decide +kernel
theorem dX9_against_6 : decode cX9_against 6 = .ok (.ifCond .ge 9, 3) := by decide +kernel
theorem dX9_against_9 : decode cX9_against 9 = .ok (.aload_n 0, 1) := by decide +kernel
theorem dX9_against_10 : decode cX9_against 10 = .ok (.iconst 1, 1) := by decide +kernel
theorem dX9_against_11 : decode cX9_against 11 = .ok (.invokevirtual 63, 3) := by decide +kernel
theorem dX9_against_14 : decode cX9_against 14 = .ok (.ireturn, 1) := by decide +kernel
theorem dX9_against_15 : decode cX9_against 15 = .ok (.aload_n 0, 1) := by decide +kernel
theorem dX9_against_16 : decode cX9_against 16 = .ok (.getfield 19, 3) := by decide +kernel
theorem dX9_against_19 : decode cX9_against 19 = .ok (.iload_n 1, 1) := by decide +kernel
theorem dX9_against_20 : decode cX9_against 20 = .ok (.iaload, 1) := by decide +kernel
theorem dX9_against_21 : decode cX9_against 21 = .ok (.iconst 2, 1) := by decide +kernel
theorem dX9_against_22 : decode cX9_against 22 = .ok (.irem, 1) := by decide +kernel
theorem dX9_against_23 : decode cX9_against 23 = .ok (.ifCond .eq 9, 3) := by decide +kernel
theorem dX9_against_26 : decode cX9_against 26 = .ok (.aload_n 0, 1) := by decide +kernel
theorem dX9_against_27 : decode cX9_against 27 = .ok (.iconst 5, 1) := by decide +kernel
theorem dX9_against_28 : decode cX9_against 28 = .ok (.invokevirtual 63, 3) := by decide +kernel
theorem dX9_against_31 : decode cX9_against 31 = .ok (.ireturn, 1) := by decide +kernel
theorem dX9_against_32 : decode cX9_against 32 = .ok (.iconst 0, 1) := by decide +kernel
theorem dX9_against_33 : decode cX9_against 33 = .ok (.istore_n 2, 1) := by decide +kernel
theorem dX9_against_34 : decode cX9_against 34 = .ok (.iload_n 2, 1) := by decide +kernel
theorem dX9_against_35 : decode cX9_against 35 = .ok (.aload_n 0, 1) := by decide +kernel
theorem dX9_against_36 : decode cX9_against 36 = .ok (.getfield 19, 3) := by decide +kernel
theorem dX9_against_39 : decode cX9_against 39 = .ok (.iload_n 1, 1) := by decide +kernel
theorem dX9_against_40 : decode cX9_against 40 = .ok (.iaload, 1) := by decide +kernel
theorem dX9_against_41 : decode cX9_against 41 = .ok (.if_icmp .ge 61, 3) := by decide +kernel
theorem dX9_against_44 : decode cX9_against 44 = .ok (.aload_n 0, 1) := by decide +kernel
theorem dX9_against_45 : decode cX9_against 45 = .ok (.getfield 16, 3) := by decide +kernel
theorem dX9_against_48 : decode cX9_against 48 = .ok (.bipush 40, 2) := by decide +kernel
theorem dX9_against_50 : decode cX9_against 50 = .ok (.iload_n 1, 1) := by decide +kernel
theorem dX9_against_51 : decode cX9_against 51 = .ok (.imul, 1) := by decide +kernel
theorem dX9_against_52 : decode cX9_against 52 = .ok (.iload_n 2, 1) := by decide +kernel
theorem dX9_against_53 : decode cX9_against 53 = .ok (.iadd, 1) := by decide +kernel
theorem dX9_against_54 : decode cX9_against 54 = .ok (.iaload, 1) := by decide +kernel
theorem dX9_against_55 : decode cX9_against 55 = .ok (.i2l, 1) := by decide +kernel
theorem dX9_against_56 : decode cX9_against 56 = .ok (.lconst 0, 1) := by decide +kernel
theorem dX9_against_57 : decode cX9_against 57 = .ok (.ldc2_w 151, 3) := by decide +kernel
theorem dX9_against_60 : decode cX9_against 60 = .ok (.invokestatic 53, 3) := by decide +kernel
theorem dX9_against_63 : decode cX9_against 63 = .ok (.ifCond .eq 27, 3) := by decide +kernel
theorem dX9_against_66 : decode cX9_against 66 = .ok (.aload_n 0, 1) := by decide +kernel
theorem dX9_against_67 : decode cX9_against 67 = .ok (.getfield 16, 3) := by decide +kernel
theorem dX9_against_70 : decode cX9_against 70 = .ok (.bipush 40, 2) := by decide +kernel
theorem dX9_against_72 : decode cX9_against 72 = .ok (.iload_n 1, 1) := by decide +kernel
theorem dX9_against_73 : decode cX9_against 73 = .ok (.imul, 1) := by decide +kernel
theorem dX9_against_74 : decode cX9_against 74 = .ok (.iload_n 2, 1) := by decide +kernel
theorem dX9_against_75 : decode cX9_against 75 = .ok (.iadd, 1) := by decide +kernel
theorem dX9_against_76 : decode cX9_against 76 = .ok (.iconst 1, 1) := by decide +kernel
theorem dX9_against_77 : decode cX9_against 77 = .ok (.iadd, 1) := by decide +kernel
theorem dX9_against_78 : decode cX9_against 78 = .ok (.iaload, 1) := by decide +kernel
theorem dX9_against_79 : decode cX9_against 79 = .ok (.i2l, 1) := by decide +kernel
theorem dX9_against_80 : decode cX9_against 80 = .ok (.lconst 0, 1) := by decide +kernel
theorem dX9_against_81 : decode cX9_against 81 = .ok (.ldc2_w 188, 3) := by decide +kernel
theorem dX9_against_84 : decode cX9_against 84 = .ok (.invokestatic 53, 3) := by decide +kernel
theorem dX9_against_87 : decode cX9_against 87 = .ok (.ifCond .ne 9, 3) := by decide +kernel
theorem dX9_against_90 : decode cX9_against 90 = .ok (.aload_n 0, 1) := by decide +kernel
theorem dX9_against_91 : decode cX9_against 91 = .ok (.iconst 3, 1) := by decide +kernel
theorem dX9_against_92 : decode cX9_against 92 = .ok (.invokevirtual 63, 3) := by decide +kernel
theorem dX9_against_95 : decode cX9_against 95 = .ok (.ireturn, 1) := by decide +kernel
theorem dX9_against_96 : decode cX9_against 96 = .ok (.iinc 2 2, 3) := by decide +kernel
theorem dX9_against_99 : decode cX9_against 99 = .ok (.goto (-65), 3) := by decide +kernel
theorem dX9_against_102 : decode cX9_against 102 = .ok (.iconst 0, 1) := by decide +kernel
theorem dX9_against_103 : decode cX9_against 103 = .ok (.ireturn, 1) := by decide +kernel
theorem dX9_crossedSo_0 : decode cX9_crossedSo 0 = .ok (.iconst 1, 1) := by decide +kernel
theorem dX9_crossedSo_1 : decode cX9_crossedSo 1 = .ok (.istore 5, 2) := by decide +kernel
theorem dX9_crossedSo_3 : decode cX9_crossedSo 3 = .ok (.iconst 0, 1) := by decide +kernel
theorem dX9_crossedSo_4 : decode cX9_crossedSo 4 = .ok (.istore 6, 2) := by decide +kernel
theorem dX9_crossedSo_6 : decode cX9_crossedSo 6 = .ok (.iload 6, 2) := by decide +kernel
theorem dX9_crossedSo_8 : decode cX9_crossedSo 8 = .ok (.aload_n 0, 1) := by decide +kernel
theorem dX9_crossedSo_9 : decode cX9_crossedSo 9 = .ok (.getfield 19, 3) := by decide +kernel
theorem dX9_crossedSo_12 : decode cX9_crossedSo 12 = .ok (.iload_n 1, 1) := by decide +kernel
theorem dX9_crossedSo_13 : decode cX9_crossedSo 13 = .ok (.iaload, 1) := by decide +kernel
theorem dX9_crossedSo_14 : decode cX9_crossedSo 14 = .ok (.if_icmp .ge 63, 3) := by decide +kernel
theorem dX9_crossedSo_17 : decode cX9_crossedSo 17 = .ok (.iload 5, 2) := by decide +kernel
theorem dX9_crossedSo_19 : decode cX9_crossedSo 19 = .ok (.ifCond .eq 49, 3) := by decide +kernel
theorem dX9_crossedSo_22 : decode cX9_crossedSo 22 = .ok (.aload_n 0, 1) := by decide +kernel
theorem dX9_crossedSo_23 : decode cX9_crossedSo 23 = .ok (.iload_n 3, 1) := by decide +kernel
theorem dX9_crossedSo_24 : decode cX9_crossedSo 24 = .ok (.iload 4, 2) := by decide +kernel
theorem dX9_crossedSo_26 : decode cX9_crossedSo 26 = .ok (.aload_n 0, 1) := by decide +kernel
theorem dX9_crossedSo_27 : decode cX9_crossedSo 27 = .ok (.iconst 0, 1) := by decide +kernel
theorem dX9_crossedSo_28 : decode cX9_crossedSo 28 = .ok (.iload_n 2, 1) := by decide +kernel
theorem dX9_crossedSo_29 : decode cX9_crossedSo 29 = .ok (.invokevirtual 126, 3) := by decide +kernel
theorem dX9_crossedSo_32 : decode cX9_crossedSo 32 = .ok (.aload_n 0, 1) := by decide +kernel
theorem dX9_crossedSo_33 : decode cX9_crossedSo 33 = .ok (.getfield 16, 3) := by decide +kernel
theorem dX9_crossedSo_36 : decode cX9_crossedSo 36 = .ok (.bipush 40, 2) := by decide +kernel
theorem dX9_crossedSo_38 : decode cX9_crossedSo 38 = .ok (.iload_n 1, 1) := by decide +kernel
theorem dX9_crossedSo_39 : decode cX9_crossedSo 39 = .ok (.imul, 1) := by decide +kernel
theorem dX9_crossedSo_40 : decode cX9_crossedSo 40 = .ok (.iload 6, 2) := by decide +kernel
theorem dX9_crossedSo_42 : decode cX9_crossedSo 42 = .ok (.iadd, 1) := by decide +kernel
theorem dX9_crossedSo_43 : decode cX9_crossedSo 43 = .ok (.iaload, 1) := by decide +kernel
theorem dX9_crossedSo_44 : decode cX9_crossedSo 44 = .ok (.invokevirtual 129, 3) := by decide +kernel
theorem dX9_crossedSo_47 : decode cX9_crossedSo 47 = .ok (.aload_n 0, 1) := by decide +kernel
theorem dX9_crossedSo_48 : decode cX9_crossedSo 48 = .ok (.getfield 16, 3) := by decide +kernel
theorem dX9_crossedSo_51 : decode cX9_crossedSo 51 = .ok (.bipush 40, 2) := by decide +kernel
theorem dX9_crossedSo_53 : decode cX9_crossedSo 53 = .ok (.iload_n 1, 1) := by decide +kernel
theorem dX9_crossedSo_54 : decode cX9_crossedSo 54 = .ok (.imul, 1) := by decide +kernel
theorem dX9_crossedSo_55 : decode cX9_crossedSo 55 = .ok (.iload 6, 2) := by decide +kernel
theorem dX9_crossedSo_57 : decode cX9_crossedSo 57 = .ok (.iadd, 1) := by decide +kernel
theorem dX9_crossedSo_58 : decode cX9_crossedSo 58 = .ok (.iconst 1, 1) := by decide +kernel
theorem dX9_crossedSo_59 : decode cX9_crossedSo 59 = .ok (.iadd, 1) := by decide +kernel
theorem dX9_crossedSo_60 : decode cX9_crossedSo 60 = .ok (.iaload, 1) := by decide +kernel
theorem dX9_crossedSo_61 : decode cX9_crossedSo 61 = .ok (.if_icmp .ne 7, 3) := by decide +kernel
theorem dX9_crossedSo_64 : decode cX9_crossedSo 64 = .ok (.iconst 1, 1) := by decide +kernel
theorem dX9_crossedSo_65 : decode cX9_crossedSo 65 = .ok (.goto 4, 3) := by decide +kernel
theorem dX9_crossedSo_68 : decode cX9_crossedSo 68 = .ok (.iconst 0, 1) := by decide +kernel
theorem dX9_crossedSo_69 : decode cX9_crossedSo 69 = .ok (.istore 5, 2) := by decide +kernel
theorem dX9_crossedSo_71 : decode cX9_crossedSo 71 = .ok (.iinc 6 2, 3) := by decide +kernel
theorem dX9_crossedSo_74 : decode cX9_crossedSo 74 = .ok (.goto (-68), 3) := by decide +kernel
theorem dX9_crossedSo_77 : decode cX9_crossedSo 77 = .ok (.iload 5, 2) := by decide +kernel
theorem dX9_crossedSo_79 : decode cX9_crossedSo 79 = .ok (.ireturn, 1) := by decide +kernel
theorem dX9_thicks_0 : decode cX9_thicks 0 = .ok (.aload_n 0, 1) := by decide +kernel
theorem dX9_thicks_1 : decode cX9_thicks 1 = .ok (.iload_n 1, 1) := by decide +kernel
theorem dX9_thicks_2 : decode cX9_thicks 2 = .ok (.invokevirtual 140, 3) := by decide +kernel
theorem dX9_thicks_5 : decode cX9_thicks 5 = .ok (.ifCond .eq 10, 3) := by decide +kernel
theorem dX9_thicks_8 : decode cX9_thicks 8 = .ok (.iload_n 2, 1) := by decide +kernel
theorem dX9_thicks_9 : decode cX9_thicks 9 = .ok (.invokestatic 59, 3) := by decide +kernel
theorem dX9_thicks_12 : decode cX9_thicks 12 = .ok (.ifCond .ne 5, 3) := by decide +kernel
theorem dX9_thicks_15 : decode cX9_thicks 15 = .ok (.iconst (-1), 1) := by decide +kernel
theorem dX9_thicks_16 : decode cX9_thicks 16 = .ok (.ireturn, 1) := by decide +kernel
theorem dX9_thicks_17 : decode cX9_thicks 17 = .ok (.aload_n 0, 1) := by decide +kernel
theorem dX9_thicks_18 : decode cX9_thicks 18 = .ok (.iload_n 2, 1) := by decide +kernel
theorem dX9_thicks_19 : decode cX9_thicks 19 = .ok (.invokevirtual 190, 3) := by decide +kernel
theorem dX9_thicks_22 : decode cX9_thicks 22 = .ok (.istore_n 3, 1) := by decide +kernel
theorem dX9_thicks_23 : decode cX9_thicks 23 = .ok (.iload_n 3, 1) := by decide +kernel
theorem dX9_thicks_24 : decode cX9_thicks 24 = .ok (.ifCond .ge 5, 3) := by decide +kernel
theorem dX9_thicks_27 : decode cX9_thicks 27 = .ok (.iload_n 3, 1) := by decide +kernel
theorem dX9_thicks_28 : decode cX9_thicks 28 = .ok (.ireturn, 1) := by decide +kernel
theorem dX9_thicks_29 : decode cX9_thicks 29 = .ok (.iconst 0, 1) := by decide +kernel
theorem dX9_thicks_30 : decode cX9_thicks 30 = .ok (.istore 4, 2) := by decide +kernel
theorem dX9_thicks_32 : decode cX9_thicks 32 = .ok (.iconst 0, 1) := by decide +kernel
theorem dX9_thicks_33 : decode cX9_thicks 33 = .ok (.istore 5, 2) := by decide +kernel
theorem dX9_thicks_35 : decode cX9_thicks 35 = .ok (.iload 5, 2) := by decide +kernel
theorem dX9_thicks_37 : decode cX9_thicks 37 = .ok (.bipush 10, 2) := by decide +kernel
theorem dX9_thicks_39 : decode cX9_thicks 39 = .ok (.if_icmp .ge 41, 3) := by decide +kernel
theorem dX9_thicks_42 : decode cX9_thicks 42 = .ok (.iload 4, 2) := by decide +kernel
theorem dX9_thicks_44 : decode cX9_thicks 44 = .ok (.aload_n 0, 1) := by decide +kernel
theorem dX9_thicks_45 : decode cX9_thicks 45 = .ok (.iload_n 2, 1) := by decide +kernel
theorem dX9_thicks_46 : decode cX9_thicks 46 = .ok (.iload_n 1, 1) := by decide +kernel
theorem dX9_thicks_47 : decode cX9_thicks 47 = .ok (.aload_n 0, 1) := by decide +kernel
theorem dX9_thicks_48 : decode cX9_thicks 48 = .ok (.getfield 7, 3) := by decide +kernel
theorem dX9_thicks_51 : decode cX9_thicks 51 = .ok (.iconst 3, 1) := by decide +kernel
theorem dX9_thicks_52 : decode cX9_thicks 52 = .ok (.iload_n 1, 1) := by decide +kernel
theorem dX9_thicks_53 : decode cX9_thicks 53 = .ok (.iadd, 1) := by decide +kernel
theorem dX9_thicks_54 : decode cX9_thicks 54 = .ok (.iaload, 1) := by decide +kernel
theorem dX9_thicks_55 : decode cX9_thicks 55 = .ok (.iload 5, 2) := by decide +kernel
theorem dX9_thicks_57 : decode cX9_thicks 57 = .ok (.invokevirtual 193, 3) := by decide +kernel
theorem dX9_thicks_60 : decode cX9_thicks 60 = .ok (.ifCond .eq 10, 3) := by decide +kernel
theorem dX9_thicks_63 : decode cX9_thicks 63 = .ok (.iconst 1, 1) := by decide +kernel
theorem dX9_thicks_64 : decode cX9_thicks 64 = .ok (.iload 5, 2) := by decide +kernel
theorem dX9_thicks_66 : decode cX9_thicks 66 = .ok (.ishl, 1) := by decide +kernel
theorem dX9_thicks_67 : decode cX9_thicks 67 = .ok (.goto 4, 3) := by decide +kernel
theorem dX9_thicks_70 : decode cX9_thicks 70 = .ok (.iconst 0, 1) := by decide +kernel
theorem dX9_thicks_71 : decode cX9_thicks 71 = .ok (.ior, 1) := by decide +kernel
theorem dX9_thicks_72 : decode cX9_thicks 72 = .ok (.istore 4, 2) := by decide +kernel
theorem dX9_thicks_74 : decode cX9_thicks 74 = .ok (.iinc 5 1, 3) := by decide +kernel
theorem dX9_thicks_77 : decode cX9_thicks 77 = .ok (.goto (-42), 3) := by decide +kernel
theorem dX9_thicks_80 : decode cX9_thicks 80 = .ok (.iload 4, 2) := by decide +kernel
theorem dX9_thicks_82 : decode cX9_thicks 82 = .ok (.ireturn, 1) := by decide +kernel
theorem dX9_kinds_0 : decode cX9_kinds 0 = .ok (.aload_n 0, 1) := by decide +kernel
theorem dX9_kinds_1 : decode cX9_kinds 1 = .ok (.iload_n 1, 1) := by decide +kernel
theorem dX9_kinds_2 : decode cX9_kinds 2 = .ok (.invokevirtual 140, 3) := by decide +kernel
theorem dX9_kinds_5 : decode cX9_kinds 5 = .ok (.ifCond .eq 10, 3) := by decide +kernel
theorem dX9_kinds_8 : decode cX9_kinds 8 = .ok (.iload_n 2, 1) := by decide +kernel
theorem dX9_kinds_9 : decode cX9_kinds 9 = .ok (.invokestatic 59, 3) := by decide +kernel
theorem dX9_kinds_12 : decode cX9_kinds 12 = .ok (.ifCond .ne 5, 3) := by decide +kernel
theorem dX9_kinds_15 : decode cX9_kinds 15 = .ok (.iconst (-1), 1) := by decide +kernel
theorem dX9_kinds_16 : decode cX9_kinds 16 = .ok (.ireturn, 1) := by decide +kernel
theorem dX9_kinds_17 : decode cX9_kinds 17 = .ok (.aload_n 0, 1) := by decide +kernel
theorem dX9_kinds_18 : decode cX9_kinds 18 = .ok (.iload_n 2, 1) := by decide +kernel
theorem dX9_kinds_19 : decode cX9_kinds 19 = .ok (.invokevirtual 190, 3) := by decide +kernel
theorem dX9_kinds_22 : decode cX9_kinds 22 = .ok (.istore_n 3, 1) := by decide +kernel
theorem dX9_kinds_23 : decode cX9_kinds 23 = .ok (.iload_n 3, 1) := by decide +kernel
theorem dX9_kinds_24 : decode cX9_kinds 24 = .ok (.ifCond .ge 5, 3) := by decide +kernel
theorem dX9_kinds_27 : decode cX9_kinds 27 = .ok (.iload_n 3, 1) := by decide +kernel
theorem dX9_kinds_28 : decode cX9_kinds 28 = .ok (.ireturn, 1) := by decide +kernel
theorem dX9_kinds_29 : decode cX9_kinds 29 = .ok (.iconst 0, 1) := by decide +kernel
theorem dX9_kinds_30 : decode cX9_kinds 30 = .ok (.istore 4, 2) := by decide +kernel
theorem dX9_kinds_32 : decode cX9_kinds 32 = .ok (.iconst 0, 1) := by decide +kernel
theorem dX9_kinds_33 : decode cX9_kinds 33 = .ok (.istore 5, 2) := by decide +kernel
theorem dX9_kinds_35 : decode cX9_kinds 35 = .ok (.iload 5, 2) := by decide +kernel
theorem dX9_kinds_37 : decode cX9_kinds 37 = .ok (.iconst 5, 1) := by decide +kernel
theorem dX9_kinds_38 : decode cX9_kinds 38 = .ok (.if_icmp .gt 42, 3) := by decide +kernel
theorem dX9_kinds_41 : decode cX9_kinds 41 = .ok (.iload 4, 2) := by decide +kernel
theorem dX9_kinds_43 : decode cX9_kinds 43 = .ok (.aload_n 0, 1) := by decide +kernel
theorem dX9_kinds_44 : decode cX9_kinds 44 = .ok (.iload_n 2, 1) := by decide +kernel
theorem dX9_kinds_45 : decode cX9_kinds 45 = .ok (.iload_n 1, 1) := by decide +kernel
theorem dX9_kinds_46 : decode cX9_kinds 46 = .ok (.iload 5, 2) := by decide +kernel
theorem dX9_kinds_48 : decode cX9_kinds 48 = .ok (.aload_n 0, 1) := by decide +kernel
theorem dX9_kinds_49 : decode cX9_kinds 49 = .ok (.getfield 7, 3) := by decide +kernel
theorem dX9_kinds_52 : decode cX9_kinds 52 = .ok (.bipush 21, 2) := by decide +kernel
theorem dX9_kinds_54 : decode cX9_kinds 54 = .ok (.iload_n 1, 1) := by decide +kernel
theorem dX9_kinds_55 : decode cX9_kinds 55 = .ok (.iadd, 1) := by decide +kernel
theorem dX9_kinds_56 : decode cX9_kinds 56 = .ok (.iaload, 1) := by decide +kernel
theorem dX9_kinds_57 : decode cX9_kinds 57 = .ok (.invokevirtual 193, 3) := by decide +kernel
theorem dX9_kinds_60 : decode cX9_kinds 60 = .ok (.ifCond .eq 10, 3) := by decide +kernel
theorem dX9_kinds_63 : decode cX9_kinds 63 = .ok (.iconst 1, 1) := by decide +kernel
theorem dX9_kinds_64 : decode cX9_kinds 64 = .ok (.iload 5, 2) := by decide +kernel
theorem dX9_kinds_66 : decode cX9_kinds 66 = .ok (.ishl, 1) := by decide +kernel
theorem dX9_kinds_67 : decode cX9_kinds 67 = .ok (.goto 4, 3) := by decide +kernel
theorem dX9_kinds_70 : decode cX9_kinds 70 = .ok (.iconst 0, 1) := by decide +kernel
theorem dX9_kinds_71 : decode cX9_kinds 71 = .ok (.ior, 1) := by decide +kernel
theorem dX9_kinds_72 : decode cX9_kinds 72 = .ok (.istore 4, 2) := by decide +kernel
theorem dX9_kinds_74 : decode cX9_kinds 74 = .ok (.iinc 5 1, 3) := by decide +kernel
theorem dX9_kinds_77 : decode cX9_kinds 77 = .ok (.goto (-42), 3) := by decide +kernel
theorem dX9_kinds_80 : decode cX9_kinds 80 = .ok (.iload 4, 2) := by decide +kernel
theorem dX9_kinds_82 : decode cX9_kinds 82 = .ok (.ireturn, 1) := by decide +kernel
theorem dX9_test_0 : decode cX9_test 0 = .ok (.aload_n 0, 1) := by decide +kernel
theorem dX9_test_1 : decode cX9_test 1 = .ok (.iload_n 1, 1) := by decide +kernel
theorem dX9_test_2 : decode cX9_test 2 = .ok (.invokevirtual 140, 3) := by decide +kernel
theorem dX9_test_5 : decode cX9_test 5 = .ok (.ifCond .eq 10, 3) := by decide +kernel
theorem dX9_test_8 : decode cX9_test 8 = .ok (.iload_n 2, 1) := by decide +kernel
theorem dX9_test_9 : decode cX9_test 9 = .ok (.invokestatic 59, 3) := by decide +kernel
theorem dX9_test_12 : decode cX9_test 12 = .ok (.ifCond .ne 5, 3) := by decide +kernel
theorem dX9_test_15 : decode cX9_test 15 = .ok (.iconst (-1), 1) := by decide +kernel
theorem dX9_test_16 : decode cX9_test 16 = .ok (.ireturn, 1) := by decide +kernel
theorem dX9_test_17 : decode cX9_test 17 = .ok (.aload_n 0, 1) := by decide +kernel
theorem dX9_test_18 : decode cX9_test 18 = .ok (.iload_n 2, 1) := by decide +kernel
theorem dX9_test_19 : decode cX9_test 19 = .ok (.invokevirtual 190, 3) := by decide +kernel
theorem dX9_test_22 : decode cX9_test 22 = .ok (.istore_n 3, 1) := by decide +kernel
theorem dX9_test_23 : decode cX9_test 23 = .ok (.iload_n 3, 1) := by decide +kernel
theorem dX9_test_24 : decode cX9_test 24 = .ok (.ifCond .ge 5, 3) := by decide +kernel
theorem dX9_test_27 : decode cX9_test 27 = .ok (.iload_n 3, 1) := by decide +kernel
theorem dX9_test_28 : decode cX9_test 28 = .ok (.ireturn, 1) := by decide +kernel
theorem dX9_test_29 : decode cX9_test 29 = .ok (.bipush (-9), 2) := by decide +kernel
theorem dX9_test_31 : decode cX9_test 31 = .ok (.istore 4, 2) := by decide +kernel
theorem dX9_test_33 : decode cX9_test 33 = .ok (.ldc 181, 2) := by decide +kernel
theorem dX9_test_35 : decode cX9_test 35 = .ok (.istore 5, 2) := by decide +kernel
theorem dX9_test_37 : decode cX9_test 37 = .ok (.iconst 0, 1) := by decide +kernel
theorem dX9_test_38 : decode cX9_test 38 = .ok (.istore 6, 2) := by decide +kernel
theorem dX9_test_40 : decode cX9_test 40 = .ok (.iconst 0, 1) := by decide +kernel
theorem dX9_test_41 : decode cX9_test 41 = .ok (.istore 7, 2) := by decide +kernel
theorem dX9_test_43 : decode cX9_test 43 = .ok (.iload 7, 2) := by decide +kernel
theorem dX9_test_45 : decode cX9_test 45 = .ok (.bipush 8, 2) := by decide +kernel
theorem dX9_test_47 : decode cX9_test 47 = .ok (.if_icmp .ge 170, 3) := by decide +kernel
theorem dX9_test_50 : decode cX9_test 50 = .ok (.iconst 0, 1) := by decide +kernel
theorem dX9_test_51 : decode cX9_test 51 = .ok (.istore 8, 2) := by decide +kernel
theorem dX9_test_53 : decode cX9_test 53 = .ok (.iconst 0, 1) := by decide +kernel
theorem dX9_test_54 : decode cX9_test 54 = .ok (.istore 6, 2) := by decide +kernel
theorem dX9_test_56 : decode cX9_test 56 = .ok (.iconst 0, 1) := by decide +kernel
theorem dX9_test_57 : decode cX9_test 57 = .ok (.istore 9, 2) := by decide +kernel
theorem dX9_test_59 : decode cX9_test 59 = .ok (.iload 9, 2) := by decide +kernel
theorem dX9_test_61 : decode cX9_test 61 = .ok (.bipush 32, 2) := by decide +kernel
theorem dX9_test_63 : decode cX9_test 63 = .ok (.if_icmp .ge 17, 3) := by decide +kernel
theorem dX9_test_66 : decode cX9_test 66 = .ok (.aload_n 0, 1) := by decide +kernel
theorem dX9_test_67 : decode cX9_test 67 = .ok (.getfield 38, 3) := by decide +kernel
theorem dX9_test_70 : decode cX9_test 70 = .ok (.iload 9, 2) := by decide +kernel
theorem dX9_test_72 : decode cX9_test 72 = .ok (.iconst 0, 1) := by decide +kernel
theorem dX9_test_73 : decode cX9_test 73 = .ok (.iastore, 1) := by decide +kernel
theorem dX9_test_74 : decode cX9_test 74 = .ok (.iinc 9 1, 3) := by decide +kernel
theorem dX9_test_77 : decode cX9_test 77 = .ok (.goto (-18), 3) := by decide +kernel
theorem dX9_test_80 : decode cX9_test 80 = .ok (.iconst 0, 1) := by decide +kernel
theorem dX9_test_81 : decode cX9_test 81 = .ok (.istore 9, 2) := by decide +kernel
theorem dX9_test_83 : decode cX9_test 83 = .ok (.iload 9, 2) := by decide +kernel
theorem dX9_test_85 : decode cX9_test 85 = .ok (.bipush 60, 2) := by decide +kernel
theorem dX9_test_87 : decode cX9_test 87 = .ok (.if_icmp .ge 92, 3) := by decide +kernel
theorem dX9_test_90 : decode cX9_test 90 = .ok (.aload_n 0, 1) := by decide +kernel
theorem dX9_test_91 : decode cX9_test 91 = .ok (.iload_n 2, 1) := by decide +kernel
theorem dX9_test_92 : decode cX9_test 92 = .ok (.iload_n 1, 1) := by decide +kernel
theorem dX9_test_93 : decode cX9_test 93 = .ok (.iload 9, 2) := by decide +kernel
theorem dX9_test_95 : decode cX9_test 95 = .ok (.bipush 10, 2) := by decide +kernel
theorem dX9_test_97 : decode cX9_test 97 = .ok (.idiv, 1) := by decide +kernel
theorem dX9_test_98 : decode cX9_test 98 = .ok (.iload 9, 2) := by decide +kernel
theorem dX9_test_100 : decode cX9_test 100 = .ok (.bipush 10, 2) := by decide +kernel
theorem dX9_test_102 : decode cX9_test 102 = .ok (.irem, 1) := by decide +kernel
theorem dX9_test_103 : decode cX9_test 103 = .ok (.invokevirtual 193, 3) := by decide +kernel
theorem dX9_test_106 : decode cX9_test 106 = .ok (.ifCond .eq 67, 3) := by decide +kernel
theorem dX9_test_109 : decode cX9_test 109 = .ok (.aload_n 0, 1) := by decide +kernel
theorem dX9_test_110 : decode cX9_test 110 = .ok (.iload 9, 2) := by decide +kernel
theorem dX9_test_112 : decode cX9_test 112 = .ok (.bipush 10, 2) := by decide +kernel
theorem dX9_test_114 : decode cX9_test 114 = .ok (.idiv, 1) := by decide +kernel
theorem dX9_test_115 : decode cX9_test 115 = .ok (.iload 9, 2) := by decide +kernel
theorem dX9_test_117 : decode cX9_test 117 = .ok (.bipush 10, 2) := by decide +kernel
theorem dX9_test_119 : decode cX9_test 119 = .ok (.irem, 1) := by decide +kernel
theorem dX9_test_120 : decode cX9_test 120 = .ok (.aload_n 0, 1) := by decide +kernel
theorem dX9_test_121 : decode cX9_test 121 = .ok (.iconst 0, 1) := by decide +kernel
theorem dX9_test_122 : decode cX9_test 122 = .ok (.iload_n 1, 1) := by decide +kernel
theorem dX9_test_123 : decode cX9_test 123 = .ok (.invokevirtual 126, 3) := by decide +kernel
theorem dX9_test_126 : decode cX9_test 126 = .ok (.iload 7, 2) := by decide +kernel
theorem dX9_test_128 : decode cX9_test 128 = .ok (.invokevirtual 129, 3) := by decide +kernel
theorem dX9_test_131 : decode cX9_test 131 = .ok (.istore 10, 2) := by decide +kernel
theorem dX9_test_133 : decode cX9_test 133 = .ok (.aload_n 0, 1) := by decide +kernel
theorem dX9_test_134 : decode cX9_test 134 = .ok (.getfield 38, 3) := by decide +kernel
theorem dX9_test_137 : decode cX9_test 137 = .ok (.iload 10, 2) := by decide +kernel
theorem dX9_test_139 : decode cX9_test 139 = .ok (.dup2, 1) := by decide +kernel
theorem dX9_test_140 : decode cX9_test 140 = .ok (.iaload, 1) := by decide +kernel
theorem dX9_test_141 : decode cX9_test 141 = .ok (.iconst 1, 1) := by decide +kernel
theorem dX9_test_142 : decode cX9_test 142 = .ok (.iadd, 1) := by decide +kernel
theorem dX9_test_143 : decode cX9_test 143 = .ok (.iastore, 1) := by decide +kernel
theorem dX9_test_144 : decode cX9_test 144 = .ok (.aload_n 0, 1) := by decide +kernel
theorem dX9_test_145 : decode cX9_test 145 = .ok (.getfield 38, 3) := by decide +kernel
theorem dX9_test_148 : decode cX9_test 148 = .ok (.iload 10, 2) := by decide +kernel
theorem dX9_test_150 : decode cX9_test 150 = .ok (.iaload, 1) := by decide +kernel
theorem dX9_test_151 : decode cX9_test 151 = .ok (.iload 8, 2) := by decide +kernel
theorem dX9_test_153 : decode cX9_test 153 = .ok (.if_icmp .le 13, 3) := by decide +kernel
theorem dX9_test_156 : decode cX9_test 156 = .ok (.aload_n 0, 1) := by decide +kernel
theorem dX9_test_157 : decode cX9_test 157 = .ok (.getfield 38, 3) := by decide +kernel
theorem dX9_test_160 : decode cX9_test 160 = .ok (.iload 10, 2) := by decide +kernel
theorem dX9_test_162 : decode cX9_test 162 = .ok (.iaload, 1) := by decide +kernel
theorem dX9_test_163 : decode cX9_test 163 = .ok (.goto 5, 3) := by decide +kernel
theorem dX9_test_166 : decode cX9_test 166 = .ok (.iload 8, 2) := by decide +kernel
theorem dX9_test_168 : decode cX9_test 168 = .ok (.istore 8, 2) := by decide +kernel
theorem dX9_test_170 : decode cX9_test 170 = .ok (.iinc 6 1, 3) := by decide +kernel
theorem dX9_test_173 : decode cX9_test 173 = .ok (.iinc 9 1, 3) := by decide +kernel
theorem dX9_test_176 : decode cX9_test 176 = .ok (.goto (-93), 3) := by decide +kernel
theorem dX9_test_179 : decode cX9_test 179 = .ok (.iload 8, 2) := by decide +kernel
theorem dX9_test_181 : decode cX9_test 181 = .ok (.iload 5, 2) := by decide +kernel
theorem dX9_test_183 : decode cX9_test 183 = .ok (.if_icmp .ge 8, 3) := by decide +kernel
theorem dX9_test_186 : decode cX9_test 186 = .ok (.iload 7, 2) := by decide +kernel
theorem dX9_test_188 : decode cX9_test 188 = .ok (.goto 5, 3) := by decide +kernel
theorem dX9_test_191 : decode cX9_test 191 = .ok (.iload 4, 2) := by decide +kernel
theorem dX9_test_193 : decode cX9_test 193 = .ok (.istore 4, 2) := by decide +kernel
theorem dX9_test_195 : decode cX9_test 195 = .ok (.iload 8, 2) := by decide +kernel
theorem dX9_test_197 : decode cX9_test 197 = .ok (.iload 5, 2) := by decide +kernel
theorem dX9_test_199 : decode cX9_test 199 = .ok (.if_icmp .ge 8, 3) := by decide +kernel
theorem dX9_test_202 : decode cX9_test 202 = .ok (.iload 8, 2) := by decide +kernel
theorem dX9_test_204 : decode cX9_test 204 = .ok (.goto 5, 3) := by decide +kernel
theorem dX9_test_207 : decode cX9_test 207 = .ok (.iload 5, 2) := by decide +kernel
theorem dX9_test_209 : decode cX9_test 209 = .ok (.istore 5, 2) := by decide +kernel
theorem dX9_test_211 : decode cX9_test 211 = .ok (.iinc 7 1, 3) := by decide +kernel
theorem dX9_test_214 : decode cX9_test 214 = .ok (.goto (-171), 3) := by decide +kernel
theorem dX9_test_217 : decode cX9_test 217 = .ok (.iload 6, 2) := by decide +kernel
theorem dX9_test_219 : decode cX9_test 219 = .ok (.ifCond .ne 8, 3) := by decide +kernel
theorem dX9_test_222 : decode cX9_test 222 = .ok (.bipush (-9), 2) := by decide +kernel
theorem dX9_test_224 : decode cX9_test 224 = .ok (.goto 11, 3) := by decide +kernel
theorem dX9_test_227 : decode cX9_test 227 = .ok (.aload_n 0, 1) := by decide +kernel
theorem dX9_test_228 : decode cX9_test 228 = .ok (.iload 5, 2) := by decide +kernel
theorem dX9_test_230 : decode cX9_test 230 = .ok (.iload 4, 2) := by decide +kernel
theorem dX9_test_232 : decode cX9_test 232 = .ok (.invokevirtual 75, 3) := by decide +kernel
theorem dX9_test_235 : decode cX9_test 235 = .ok (.ireturn, 1) := by decide +kernel
theorem dX9_duel_0 : decode cX9_duel 0 = .ok (.iload_n 1, 1) := by decide +kernel
theorem dX9_duel_1 : decode cX9_duel 1 = .ok (.i2l, 1) := by decide +kernel
theorem dX9_duel_2 : decode cX9_duel 2 = .ok (.lconst 0, 1) := by decide +kernel
theorem dX9_duel_3 : decode cX9_duel 3 = .ok (.ldc2_w 179, 3) := by decide +kernel
theorem dX9_duel_6 : decode cX9_duel 6 = .ok (.invokestatic 53, 3) := by decide +kernel
theorem dX9_duel_9 : decode cX9_duel 9 = .ok (.ifCond .ne 5, 3) := by decide +kernel
theorem dX9_duel_12 : decode cX9_duel 12 = .ok (.iconst (-1), 1) := by decide +kernel
theorem dX9_duel_13 : decode cX9_duel 13 = .ok (.ireturn, 1) := by decide +kernel
theorem dX9_duel_14 : decode cX9_duel 14 = .ok (.aload_n 0, 1) := by decide +kernel
theorem dX9_duel_15 : decode cX9_duel 15 = .ok (.invokevirtual 153, 3) := by decide +kernel
theorem dX9_duel_18 : decode cX9_duel 18 = .ok (.ifCond .ne 6, 3) := by decide +kernel
theorem dX9_duel_21 : decode cX9_duel 21 = .ok (.bipush (-4), 2) := by decide +kernel
theorem dX9_duel_23 : decode cX9_duel 23 = .ok (.ireturn, 1) := by decide +kernel
theorem dX9_duel_24 : decode cX9_duel 24 = .ok (.aload_n 0, 1) := by decide +kernel
theorem dX9_duel_25 : decode cX9_duel 25 = .ok (.getfield 7, 3) := by decide +kernel
theorem dX9_duel_28 : decode cX9_duel 28 = .ok (.iconst 0, 1) := by decide +kernel
theorem dX9_duel_29 : decode cX9_duel 29 = .ok (.iaload, 1) := by decide +kernel
theorem dX9_duel_30 : decode cX9_duel 30 = .ok (.iconst 1, 1) := by decide +kernel
theorem dX9_duel_31 : decode cX9_duel 31 = .ok (.iadd, 1) := by decide +kernel
theorem dX9_duel_32 : decode cX9_duel 32 = .ok (.istore_n 2, 1) := by decide +kernel
theorem dX9_duel_33 : decode cX9_duel 33 = .ok (.iconst 1, 1) := by decide +kernel
theorem dX9_duel_34 : decode cX9_duel 34 = .ok (.istore_n 3, 1) := by decide +kernel
theorem dX9_duel_35 : decode cX9_duel 35 = .ok (.iconst 0, 1) := by decide +kernel
theorem dX9_duel_36 : decode cX9_duel 36 = .ok (.istore 4, 2) := by decide +kernel
theorem dX9_duel_38 : decode cX9_duel 38 = .ok (.iload 4, 2) := by decide +kernel
theorem dX9_duel_40 : decode cX9_duel 40 = .ok (.iload_n 1, 1) := by decide +kernel
theorem dX9_duel_41 : decode cX9_duel 41 = .ok (.if_icmp .ge 13, 3) := by decide +kernel
theorem dX9_duel_44 : decode cX9_duel 44 = .ok (.iload_n 3, 1) := by decide +kernel
theorem dX9_duel_45 : decode cX9_duel 45 = .ok (.iload_n 2, 1) := by decide +kernel
theorem dX9_duel_46 : decode cX9_duel 46 = .ok (.imul, 1) := by decide +kernel
theorem dX9_duel_47 : decode cX9_duel 47 = .ok (.istore_n 3, 1) := by decide +kernel
theorem dX9_duel_48 : decode cX9_duel 48 = .ok (.iinc 4 1, 3) := by decide +kernel
theorem dX9_duel_51 : decode cX9_duel 51 = .ok (.goto (-13), 3) := by decide +kernel
theorem dX9_duel_54 : decode cX9_duel 54 = .ok (.iconst 0, 1) := by decide +kernel
theorem dX9_duel_55 : decode cX9_duel 55 = .ok (.istore 4, 2) := by decide +kernel
theorem dX9_duel_57 : decode cX9_duel 57 = .ok (.iload 4, 2) := by decide +kernel
theorem dX9_duel_59 : decode cX9_duel 59 = .ok (.iload_n 3, 1) := by decide +kernel
theorem dX9_duel_60 : decode cX9_duel 60 = .ok (.if_icmp .ge 170, 3) := by decide +kernel
theorem dX9_duel_63 : decode cX9_duel 63 = .ok (.aload_n 0, 1) := by decide +kernel
theorem dX9_duel_64 : decode cX9_duel 64 = .ok (.invokevirtual 173, 3) := by decide +kernel
theorem dX9_duel_67 : decode cX9_duel 67 = .ok (.iconst 0, 1) := by decide +kernel
theorem dX9_duel_68 : decode cX9_duel 68 = .ok (.istore 5, 2) := by decide +kernel
theorem dX9_duel_70 : decode cX9_duel 70 = .ok (.iload_n 3, 1) := by decide +kernel
theorem dX9_duel_71 : decode cX9_duel 71 = .ok (.istore 6, 2) := by decide +kernel
theorem dX9_duel_73 : decode cX9_duel 73 = .ok (.iconst 1, 1) := by decide +kernel
theorem dX9_duel_74 : decode cX9_duel 74 = .ok (.istore 7, 2) := by decide +kernel
theorem dX9_duel_76 : decode cX9_duel 76 = .ok (.iconst 0, 1) := by decide +kernel
theorem dX9_duel_77 : decode cX9_duel 77 = .ok (.istore 8, 2) := by decide +kernel
theorem dX9_duel_79 : decode cX9_duel 79 = .ok (.iload 8, 2) := by decide +kernel
theorem dX9_duel_81 : decode cX9_duel 81 = .ok (.iload_n 1, 1) := by decide +kernel
theorem dX9_duel_82 : decode cX9_duel 82 = .ok (.if_icmp .ge 124, 3) := by decide +kernel
theorem dX9_duel_85 : decode cX9_duel 85 = .ok (.iload 6, 2) := by decide +kernel
theorem dX9_duel_87 : decode cX9_duel 87 = .ok (.iload_n 2, 1) := by decide +kernel
theorem dX9_duel_88 : decode cX9_duel 88 = .ok (.idiv, 1) := by decide +kernel
theorem dX9_duel_89 : decode cX9_duel 89 = .ok (.istore 6, 2) := by decide +kernel
theorem dX9_duel_91 : decode cX9_duel 91 = .ok (.iload 4, 2) := by decide +kernel
theorem dX9_duel_93 : decode cX9_duel 93 = .ok (.iload 6, 2) := by decide +kernel
theorem dX9_duel_95 : decode cX9_duel 95 = .ok (.idiv, 1) := by decide +kernel
theorem dX9_duel_96 : decode cX9_duel 96 = .ok (.iload_n 2, 1) := by decide +kernel
theorem dX9_duel_97 : decode cX9_duel 97 = .ok (.irem, 1) := by decide +kernel
theorem dX9_duel_98 : decode cX9_duel 98 = .ok (.iconst 1, 1) := by decide +kernel
theorem dX9_duel_99 : decode cX9_duel 99 = .ok (.isub, 1) := by decide +kernel
theorem dX9_duel_100 : decode cX9_duel 100 = .ok (.istore 9, 2) := by decide +kernel
theorem dX9_duel_102 : decode cX9_duel 102 = .ok (.iload 8, 2) := by decide +kernel
theorem dX9_duel_104 : decode cX9_duel 104 = .ok (.iconst 2, 1) := by decide +kernel
theorem dX9_duel_105 : decode cX9_duel 105 = .ok (.irem, 1) := by decide +kernel
theorem dX9_duel_106 : decode cX9_duel 106 = .ok (.iconst 1, 1) := by decide +kernel
theorem dX9_duel_107 : decode cX9_duel 107 = .ok (.if_icmp .ne 29, 3) := by decide +kernel
theorem dX9_duel_110 : decode cX9_duel 110 = .ok (.iload 5, 2) := by decide +kernel
theorem dX9_duel_112 : decode cX9_duel 112 = .ok (.iload 9, 2) := by decide +kernel
theorem dX9_duel_114 : decode cX9_duel 114 = .ok (.ifCond .ge 7, 3) := by decide +kernel
theorem dX9_duel_117 : decode cX9_duel 117 = .ok (.iconst 0, 1) := by decide +kernel
theorem dX9_duel_118 : decode cX9_duel 118 = .ok (.goto 12, 3) := by decide +kernel
theorem dX9_duel_121 : decode cX9_duel 121 = .ok (.aload_n 0, 1) := by decide +kernel
theorem dX9_duel_122 : decode cX9_duel 122 = .ok (.sipush 7260, 3) := by decide +kernel
theorem dX9_duel_125 : decode cX9_duel 125 = .ok (.iload 9, 2) := by decide +kernel
theorem dX9_duel_127 : decode cX9_duel 127 = .ok (.invokevirtual 163, 3) := by decide +kernel
theorem dX9_duel_130 : decode cX9_duel 130 = .ok (.iadd, 1) := by decide +kernel
theorem dX9_duel_131 : decode cX9_duel 131 = .ok (.istore 5, 2) := by decide +kernel
theorem dX9_duel_133 : decode cX9_duel 133 = .ok (.goto 67, 3) := by decide +kernel
theorem dX9_duel_136 : decode cX9_duel 136 = .ok (.iload 7, 2) := by decide +kernel
theorem dX9_duel_138 : decode cX9_duel 138 = .ok (.ifCond .eq 26, 3) := by decide +kernel
theorem dX9_duel_141 : decode cX9_duel 141 = .ok (.iload 9, 2) := by decide +kernel
theorem dX9_duel_143 : decode cX9_duel 143 = .ok (.ifCond .lt 17, 3) := by decide +kernel
theorem dX9_duel_146 : decode cX9_duel 146 = .ok (.aload_n 0, 1) := by decide +kernel
theorem dX9_duel_147 : decode cX9_duel 147 = .ok (.getfield 7, 3) := by decide +kernel
theorem dX9_duel_150 : decode cX9_duel 150 = .ok (.sipush 7281, 3) := by decide +kernel
theorem dX9_duel_153 : decode cX9_duel 153 = .ok (.iload 9, 2) := by decide +kernel
theorem dX9_duel_155 : decode cX9_duel 155 = .ok (.iadd, 1) := by decide +kernel
theorem dX9_duel_156 : decode cX9_duel 156 = .ok (.iaload, 1) := by decide +kernel
theorem dX9_duel_157 : decode cX9_duel 157 = .ok (.ifCond .le 7, 3) := by decide +kernel
theorem dX9_duel_160 : decode cX9_duel 160 = .ok (.iconst 1, 1) := by decide +kernel
theorem dX9_duel_161 : decode cX9_duel 161 = .ok (.goto 4, 3) := by decide +kernel
theorem dX9_duel_164 : decode cX9_duel 164 = .ok (.iconst 0, 1) := by decide +kernel
theorem dX9_duel_165 : decode cX9_duel 165 = .ok (.istore 7, 2) := by decide +kernel
theorem dX9_duel_167 : decode cX9_duel 167 = .ok (.iload 7, 2) := by decide +kernel
theorem dX9_duel_169 : decode cX9_duel 169 = .ok (.ifCond .eq 23, 3) := by decide +kernel
theorem dX9_duel_172 : decode cX9_duel 172 = .ok (.iload 9, 2) := by decide +kernel
theorem dX9_duel_174 : decode cX9_duel 174 = .ok (.ifCond .lt 18, 3) := by decide +kernel
theorem dX9_duel_177 : decode cX9_duel 177 = .ok (.aload_n 0, 1) := by decide +kernel
theorem dX9_duel_178 : decode cX9_duel 178 = .ok (.getfield 7, 3) := by decide +kernel
theorem dX9_duel_181 : decode cX9_duel 181 = .ok (.sipush 7281, 3) := by decide +kernel
theorem dX9_duel_184 : decode cX9_duel 184 = .ok (.iload 9, 2) := by decide +kernel
theorem dX9_duel_186 : decode cX9_duel 186 = .ok (.iadd, 1) := by decide +kernel
theorem dX9_duel_187 : decode cX9_duel 187 = .ok (.dup2, 1) := by decide +kernel
theorem dX9_duel_188 : decode cX9_duel 188 = .ok (.iaload, 1) := by decide +kernel
theorem dX9_duel_189 : decode cX9_duel 189 = .ok (.iconst 1, 1) := by decide +kernel
theorem dX9_duel_190 : decode cX9_duel 190 = .ok (.isub, 1) := by decide +kernel
theorem dX9_duel_191 : decode cX9_duel 191 = .ok (.iastore, 1) := by decide +kernel
theorem dX9_duel_192 : decode cX9_duel 192 = .ok (.aload_n 0, 1) := by decide +kernel
theorem dX9_duel_193 : decode cX9_duel 193 = .ok (.sipush 7260, 3) := by decide +kernel
theorem dX9_duel_196 : decode cX9_duel 196 = .ok (.invokevirtual 160, 3) := by decide +kernel
theorem dX9_duel_199 : decode cX9_duel 199 = .ok (.pop, 1) := by decide +kernel
theorem dX9_duel_200 : decode cX9_duel 200 = .ok (.iinc 8 1, 3) := by decide +kernel
theorem dX9_duel_203 : decode cX9_duel 203 = .ok (.goto (-124), 3) := by decide +kernel
theorem dX9_duel_206 : decode cX9_duel 206 = .ok (.aload_n 0, 1) := by decide +kernel
theorem dX9_duel_207 : decode cX9_duel 207 = .ok (.getfield 41, 3) := by decide +kernel
theorem dX9_duel_210 : decode cX9_duel 210 = .ok (.iload 4, 2) := by decide +kernel
theorem dX9_duel_212 : decode cX9_duel 212 = .ok (.iload 7, 2) := by decide +kernel
theorem dX9_duel_214 : decode cX9_duel 214 = .ok (.ifCond .eq 8, 3) := by decide +kernel
theorem dX9_duel_217 : decode cX9_duel 217 = .ok (.iload 5, 2) := by decide +kernel
theorem dX9_duel_219 : decode cX9_duel 219 = .ok (.goto 4, 3) := by decide +kernel
theorem dX9_duel_222 : decode cX9_duel 222 = .ok (.iconst (-1), 1) := by decide +kernel
theorem dX9_duel_223 : decode cX9_duel 223 = .ok (.iastore, 1) := by decide +kernel
theorem dX9_duel_224 : decode cX9_duel 224 = .ok (.iinc 4 1, 3) := by decide +kernel
theorem dX9_duel_227 : decode cX9_duel 227 = .ok (.goto (-170), 3) := by decide +kernel
theorem dX9_duel_230 : decode cX9_duel 230 = .ok (.iload_n 3, 1) := by decide +kernel
theorem dX9_duel_231 : decode cX9_duel 231 = .ok (.istore 4, 2) := by decide +kernel
theorem dX9_duel_233 : decode cX9_duel 233 = .ok (.iload_n 1, 1) := by decide +kernel
theorem dX9_duel_234 : decode cX9_duel 234 = .ok (.iconst 1, 1) := by decide +kernel
theorem dX9_duel_235 : decode cX9_duel 235 = .ok (.isub, 1) := by decide +kernel
theorem dX9_duel_236 : decode cX9_duel 236 = .ok (.istore 5, 2) := by decide +kernel
theorem dX9_duel_238 : decode cX9_duel 238 = .ok (.iload 5, 2) := by decide +kernel
theorem dX9_duel_240 : decode cX9_duel 240 = .ok (.ifCond .lt 128, 3) := by decide +kernel
theorem dX9_duel_243 : decode cX9_duel 243 = .ok (.iload 4, 2) := by decide +kernel
theorem dX9_duel_245 : decode cX9_duel 245 = .ok (.iload_n 2, 1) := by decide +kernel
theorem dX9_duel_246 : decode cX9_duel 246 = .ok (.idiv, 1) := by decide +kernel
theorem dX9_duel_247 : decode cX9_duel 247 = .ok (.istore 4, 2) := by decide +kernel
theorem dX9_duel_249 : decode cX9_duel 249 = .ok (.iconst 0, 1) := by decide +kernel
theorem dX9_duel_250 : decode cX9_duel 250 = .ok (.istore 6, 2) := by decide +kernel
theorem dX9_duel_252 : decode cX9_duel 252 = .ok (.iload 6, 2) := by decide +kernel
theorem dX9_duel_254 : decode cX9_duel 254 = .ok (.iload 4, 2) := by decide +kernel
theorem dX9_duel_256 : decode cX9_duel 256 = .ok (.if_icmp .ge 106, 3) := by decide +kernel
theorem dX9_duel_259 : decode cX9_duel 259 = .ok (.iconst (-1), 1) := by decide +kernel
theorem dX9_duel_260 : decode cX9_duel 260 = .ok (.istore 7, 2) := by decide +kernel
theorem dX9_duel_262 : decode cX9_duel 262 = .ok (.iconst 0, 1) := by decide +kernel
theorem dX9_duel_263 : decode cX9_duel 263 = .ok (.istore 8, 2) := by decide +kernel
theorem dX9_duel_265 : decode cX9_duel 265 = .ok (.iload 8, 2) := by decide +kernel
theorem dX9_duel_267 : decode cX9_duel 267 = .ok (.iload_n 2, 1) := by decide +kernel
theorem dX9_duel_268 : decode cX9_duel 268 = .ok (.if_icmp .ge 79, 3) := by decide +kernel
theorem dX9_duel_271 : decode cX9_duel 271 = .ok (.aload_n 0, 1) := by decide +kernel
theorem dX9_duel_272 : decode cX9_duel 272 = .ok (.getfield 41, 3) := by decide +kernel
theorem dX9_duel_275 : decode cX9_duel 275 = .ok (.iload_n 2, 1) := by decide +kernel
theorem dX9_duel_276 : decode cX9_duel 276 = .ok (.iload 6, 2) := by decide +kernel
theorem dX9_duel_278 : decode cX9_duel 278 = .ok (.imul, 1) := by decide +kernel
theorem dX9_duel_279 : decode cX9_duel 279 = .ok (.iload 8, 2) := by decide +kernel
theorem dX9_duel_281 : decode cX9_duel 281 = .ok (.iadd, 1) := by decide +kernel
theorem dX9_duel_282 : decode cX9_duel 282 = .ok (.iaload, 1) := by decide +kernel
theorem dX9_duel_283 : decode cX9_duel 283 = .ok (.istore 9, 2) := by decide +kernel
theorem dX9_duel_285 : decode cX9_duel 285 = .ok (.iload 9, 2) := by decide +kernel
theorem dX9_duel_287 : decode cX9_duel 287 = .ok (.ifCond .lt 37, 3) := by decide +kernel
theorem dX9_duel_290 : decode cX9_duel 290 = .ok (.iload 7, 2) := by decide +kernel
theorem dX9_duel_292 : decode cX9_duel 292 = .ok (.ifCond .lt 28, 3) := by decide +kernel
theorem dX9_duel_295 : decode cX9_duel 295 = .ok (.iload 5, 2) := by decide +kernel
theorem dX9_duel_297 : decode cX9_duel 297 = .ok (.iconst 2, 1) := by decide +kernel
theorem dX9_duel_298 : decode cX9_duel 298 = .ok (.irem, 1) := by decide +kernel
theorem dX9_duel_299 : decode cX9_duel 299 = .ok (.iconst 1, 1) := by decide +kernel
theorem dX9_duel_300 : decode cX9_duel 300 = .ok (.if_icmp .ne 13, 3) := by decide +kernel
theorem dX9_duel_303 : decode cX9_duel 303 = .ok (.iload 9, 2) := by decide +kernel
theorem dX9_duel_305 : decode cX9_duel 305 = .ok (.iload 7, 2) := by decide +kernel
theorem dX9_duel_307 : decode cX9_duel 307 = .ok (.if_icmp .le 17, 3) := by decide +kernel
theorem dX9_duel_310 : decode cX9_duel 310 = .ok (.goto 10, 3) := by decide +kernel
theorem dX9_duel_313 : decode cX9_duel 313 = .ok (.iload 9, 2) := by decide +kernel
theorem dX9_duel_315 : decode cX9_duel 315 = .ok (.iload 7, 2) := by decide +kernel
theorem dX9_duel_317 : decode cX9_duel 317 = .ok (.if_icmp .ge 7, 3) := by decide +kernel
theorem dX9_duel_320 : decode cX9_duel 320 = .ok (.iconst 1, 1) := by decide +kernel
theorem dX9_duel_321 : decode cX9_duel 321 = .ok (.goto 4, 3) := by decide +kernel
theorem dX9_duel_324 : decode cX9_duel 324 = .ok (.iconst 0, 1) := by decide +kernel
theorem dX9_duel_325 : decode cX9_duel 325 = .ok (.istore 10, 2) := by decide +kernel
theorem dX9_duel_327 : decode cX9_duel 327 = .ok (.iload 10, 2) := by decide +kernel
theorem dX9_duel_329 : decode cX9_duel 329 = .ok (.ifCond .eq 8, 3) := by decide +kernel
theorem dX9_duel_332 : decode cX9_duel 332 = .ok (.iload 9, 2) := by decide +kernel
theorem dX9_duel_334 : decode cX9_duel 334 = .ok (.goto 5, 3) := by decide +kernel
theorem dX9_duel_337 : decode cX9_duel 337 = .ok (.iload 7, 2) := by decide +kernel
theorem dX9_duel_339 : decode cX9_duel 339 = .ok (.istore 7, 2) := by decide +kernel
theorem dX9_duel_341 : decode cX9_duel 341 = .ok (.iinc 8 1, 3) := by decide +kernel
theorem dX9_duel_344 : decode cX9_duel 344 = .ok (.goto (-79), 3) := by decide +kernel
theorem dX9_duel_347 : decode cX9_duel 347 = .ok (.aload_n 0, 1) := by decide +kernel
theorem dX9_duel_348 : decode cX9_duel 348 = .ok (.getfield 41, 3) := by decide +kernel
theorem dX9_duel_351 : decode cX9_duel 351 = .ok (.iload 6, 2) := by decide +kernel
theorem dX9_duel_353 : decode cX9_duel 353 = .ok (.iload 7, 2) := by decide +kernel
theorem dX9_duel_355 : decode cX9_duel 355 = .ok (.iastore, 1) := by decide +kernel
theorem dX9_duel_356 : decode cX9_duel 356 = .ok (.iinc 6 1, 3) := by decide +kernel
theorem dX9_duel_359 : decode cX9_duel 359 = .ok (.goto (-107), 3) := by decide +kernel
theorem dX9_duel_362 : decode cX9_duel 362 = .ok (.iinc 5 (-1), 3) := by decide +kernel
theorem dX9_duel_365 : decode cX9_duel 365 = .ok (.goto (-127), 3) := by decide +kernel
theorem dX9_duel_368 : decode cX9_duel 368 = .ok (.aload_n 0, 1) := by decide +kernel
theorem dX9_duel_369 : decode cX9_duel 369 = .ok (.getfield 41, 3) := by decide +kernel
theorem dX9_duel_372 : decode cX9_duel 372 = .ok (.iconst 0, 1) := by decide +kernel
theorem dX9_duel_373 : decode cX9_duel 373 = .ok (.iaload, 1) := by decide +kernel
theorem dX9_duel_374 : decode cX9_duel 374 = .ok (.ireturn, 1) := by decide +kernel
theorem dX9_tellsParts_0 : decode cX9_tellsParts 0 = .ok (.lload_n 1, 1) := by decide +kernel
theorem dX9_tellsParts_1 : decode cX9_tellsParts 1 = .ok (.lstore 5, 2) := by decide +kernel
theorem dX9_tellsParts_3 : decode cX9_tellsParts 3 = .ok (.lload_n 3, 1) := by decide +kernel
theorem dX9_tellsParts_4 : decode cX9_tellsParts 4 = .ok (.lstore 7, 2) := by decide +kernel
theorem dX9_tellsParts_6 : decode cX9_tellsParts 6 = .ok (.lload 7, 2) := by decide +kernel
theorem dX9_tellsParts_8 : decode cX9_tellsParts 8 = .ok (.lconst 0, 1) := by decide +kernel
theorem dX9_tellsParts_9 : decode cX9_tellsParts 9 = .ok (.lcmp, 1) := by decide +kernel
theorem dX9_tellsParts_10 : decode cX9_tellsParts 10 = .ok (.ifCond .eq 21, 3) := by decide +kernel
theorem dX9_tellsParts_13 : decode cX9_tellsParts 13 = .ok (.lload 5, 2) := by decide +kernel
theorem dX9_tellsParts_15 : decode cX9_tellsParts 15 = .ok (.lload 7, 2) := by decide +kernel
theorem dX9_tellsParts_17 : decode cX9_tellsParts 17 = .ok (.lrem, 1) := by decide +kernel
theorem dX9_tellsParts_18 : decode cX9_tellsParts 18 = .ok (.lstore 9, 2) := by decide +kernel
theorem dX9_tellsParts_20 : decode cX9_tellsParts 20 = .ok (.lload 7, 2) := by decide +kernel
theorem dX9_tellsParts_22 : decode cX9_tellsParts 22 = .ok (.lstore 5, 2) := by decide +kernel
theorem dX9_tellsParts_24 : decode cX9_tellsParts 24 = .ok (.lload 9, 2) := by decide +kernel
theorem dX9_tellsParts_26 : decode cX9_tellsParts 26 = .ok (.lstore 7, 2) := by decide +kernel
theorem dX9_tellsParts_28 : decode cX9_tellsParts 28 = .ok (.goto (-22), 3) := by decide +kernel
theorem dX9_tellsParts_31 : decode cX9_tellsParts 31 = .ok (.aload_n 0, 1) := by decide +kernel
theorem dX9_tellsParts_32 : decode cX9_tellsParts 32 = .ok (.lload_n 1, 1) := by decide +kernel
theorem dX9_tellsParts_33 : decode cX9_tellsParts 33 = .ok (.lload 5, 2) := by decide +kernel
theorem dX9_tellsParts_35 : decode cX9_tellsParts 35 = .ok (.ldiv, 1) := by decide +kernel
theorem dX9_tellsParts_36 : decode cX9_tellsParts 36 = .ok (.putfield 197, 3) := by decide +kernel
theorem dX9_tellsParts_39 : decode cX9_tellsParts 39 = .ok (.aload_n 0, 1) := by decide +kernel
theorem dX9_tellsParts_40 : decode cX9_tellsParts 40 = .ok (.lload_n 3, 1) := by decide +kernel
theorem dX9_tellsParts_41 : decode cX9_tellsParts 41 = .ok (.lload 5, 2) := by decide +kernel
theorem dX9_tellsParts_43 : decode cX9_tellsParts 43 = .ok (.ldiv, 1) := by decide +kernel
theorem dX9_tellsParts_44 : decode cX9_tellsParts 44 = .ok (.putfield 34, 3) := by decide +kernel
theorem dX9_tellsParts_47 : decode cX9_tellsParts 47 = .ok (.iconst 1, 1) := by decide +kernel
theorem dX9_tellsParts_48 : decode cX9_tellsParts 48 = .ok (.ireturn, 1) := by decide +kernel
theorem dX9_dueNow_0 : decode cX9_dueNow 0 = .ok (.iconst 0, 1) := by decide +kernel
theorem dX9_dueNow_1 : decode cX9_dueNow 1 = .ok (.istore_n 1, 1) := by decide +kernel
theorem dX9_dueNow_2 : decode cX9_dueNow 2 = .ok (.iconst 0, 1) := by decide +kernel
theorem dX9_dueNow_3 : decode cX9_dueNow 3 = .ok (.istore_n 2, 1) := by decide +kernel
theorem dX9_dueNow_4 : decode cX9_dueNow 4 = .ok (.iload_n 2, 1) := by decide +kernel
theorem dX9_dueNow_5 : decode cX9_dueNow 5 = .ok (.aload_n 0, 1) := by decide +kernel
theorem dX9_dueNow_6 : decode cX9_dueNow 6 = .ok (.getfield 7, 3) := by decide +kernel
theorem dX9_dueNow_9 : decode cX9_dueNow 9 = .ok (.iconst 0, 1) := by decide +kernel
theorem dX9_dueNow_10 : decode cX9_dueNow 10 = .ok (.iaload, 1) := by decide +kernel
theorem dX9_dueNow_11 : decode cX9_dueNow 11 = .ok (.if_icmp .ge 28, 3) := by decide +kernel
theorem dX9_dueNow_14 : decode cX9_dueNow 14 = .ok (.iload_n 1, 1) := by decide +kernel
theorem dX9_dueNow_15 : decode cX9_dueNow 15 = .ok (.aload_n 0, 1) := by decide +kernel
theorem dX9_dueNow_16 : decode cX9_dueNow 16 = .ok (.iconst 0, 1) := by decide +kernel
theorem dX9_dueNow_17 : decode cX9_dueNow 17 = .ok (.iload_n 2, 1) := by decide +kernel
theorem dX9_dueNow_18 : decode cX9_dueNow 18 = .ok (.invokevirtual 136, 3) := by decide +kernel
theorem dX9_dueNow_21 : decode cX9_dueNow 21 = .ok (.ifCond .eq 9, 3) := by decide +kernel
theorem dX9_dueNow_24 : decode cX9_dueNow 24 = .ok (.iconst 1, 1) := by decide +kernel
theorem dX9_dueNow_25 : decode cX9_dueNow 25 = .ok (.iload_n 2, 1) := by decide +kernel
theorem dX9_dueNow_26 : decode cX9_dueNow 26 = .ok (.ishl, 1) := by decide +kernel
theorem dX9_dueNow_27 : decode cX9_dueNow 27 = .ok (.goto 4, 3) := by decide +kernel
theorem dX9_dueNow_30 : decode cX9_dueNow 30 = .ok (.iconst 0, 1) := by decide +kernel
theorem dX9_dueNow_31 : decode cX9_dueNow 31 = .ok (.ior, 1) := by decide +kernel
theorem dX9_dueNow_32 : decode cX9_dueNow 32 = .ok (.istore_n 1, 1) := by decide +kernel
theorem dX9_dueNow_33 : decode cX9_dueNow 33 = .ok (.iinc 2 1, 3) := by decide +kernel
theorem dX9_dueNow_36 : decode cX9_dueNow 36 = .ok (.goto (-32), 3) := by decide +kernel
theorem dX9_dueNow_39 : decode cX9_dueNow 39 = .ok (.iload_n 1, 1) := by decide +kernel
theorem dX9_dueNow_40 : decode cX9_dueNow 40 = .ok (.ireturn, 1) := by decide +kernel
theorem dX9_waysOf_0 : decode cX9_waysOf 0 = .ok (.lconst 1, 1) := by decide +kernel
theorem dX9_waysOf_1 : decode cX9_waysOf 1 = .ok (.lstore 4, 2) := by decide +kernel
theorem dX9_waysOf_3 : decode cX9_waysOf 3 = .ok (.iconst 0, 1) := by decide +kernel
theorem dX9_waysOf_4 : decode cX9_waysOf 4 = .ok (.istore 6, 2) := by decide +kernel
theorem dX9_waysOf_6 : decode cX9_waysOf 6 = .ok (.iload 6, 2) := by decide +kernel
theorem dX9_waysOf_8 : decode cX9_waysOf 8 = .ok (.aload_n 0, 1) := by decide +kernel
theorem dX9_waysOf_9 : decode cX9_waysOf 9 = .ok (.getfield 7, 3) := by decide +kernel
theorem dX9_waysOf_12 : decode cX9_waysOf 12 = .ok (.iconst 0, 1) := by decide +kernel
theorem dX9_waysOf_13 : decode cX9_waysOf 13 = .ok (.iaload, 1) := by decide +kernel
theorem dX9_waysOf_14 : decode cX9_waysOf 14 = .ok (.if_icmp .ge 46, 3) := by decide +kernel
theorem dX9_waysOf_17 : decode cX9_waysOf 17 = .ok (.lload 4, 2) := by decide +kernel
theorem dX9_waysOf_19 : decode cX9_waysOf 19 = .ok (.iload_n 1, 1) := by decide +kernel
theorem dX9_waysOf_20 : decode cX9_waysOf 20 = .ok (.iload 6, 2) := by decide +kernel
theorem dX9_waysOf_22 : decode cX9_waysOf 22 = .ok (.invokestatic 200, 3) := by decide +kernel
theorem dX9_waysOf_25 : decode cX9_waysOf 25 = .ok (.ifCond .ne 7, 3) := by decide +kernel
theorem dX9_waysOf_28 : decode cX9_waysOf 28 = .ok (.lconst 1, 1) := by decide +kernel
theorem dX9_waysOf_29 : decode cX9_waysOf 29 = .ok (.goto 22, 3) := by decide +kernel
theorem dX9_waysOf_32 : decode cX9_waysOf 32 = .ok (.iload_n 2, 1) := by decide +kernel
theorem dX9_waysOf_33 : decode cX9_waysOf 33 = .ok (.iload 6, 2) := by decide +kernel
theorem dX9_waysOf_35 : decode cX9_waysOf 35 = .ok (.invokestatic 200, 3) := by decide +kernel
theorem dX9_waysOf_38 : decode cX9_waysOf 38 = .ok (.ifCond .eq 8, 3) := by decide +kernel
theorem dX9_waysOf_41 : decode cX9_waysOf 41 = .ok (.iload_n 3, 1) := by decide +kernel
theorem dX9_waysOf_42 : decode cX9_waysOf 42 = .ok (.i2l, 1) := by decide +kernel
theorem dX9_waysOf_43 : decode cX9_waysOf 43 = .ok (.goto 8, 3) := by decide +kernel
theorem dX9_waysOf_46 : decode cX9_waysOf 46 = .ok (.bipush 12, 2) := by decide +kernel
theorem dX9_waysOf_48 : decode cX9_waysOf 48 = .ok (.iload_n 3, 1) := by decide +kernel
theorem dX9_waysOf_49 : decode cX9_waysOf 49 = .ok (.isub, 1) := by decide +kernel
theorem dX9_waysOf_50 : decode cX9_waysOf 50 = .ok (.i2l, 1) := by decide +kernel
theorem dX9_waysOf_51 : decode cX9_waysOf 51 = .ok (.lmul, 1) := by decide +kernel
theorem dX9_waysOf_52 : decode cX9_waysOf 52 = .ok (.lstore 4, 2) := by decide +kernel
theorem dX9_waysOf_54 : decode cX9_waysOf 54 = .ok (.iinc 6 1, 3) := by decide +kernel
theorem dX9_waysOf_57 : decode cX9_waysOf 57 = .ok (.goto (-51), 3) := by decide +kernel
theorem dX9_waysOf_60 : decode cX9_waysOf 60 = .ok (.lload 4, 2) := by decide +kernel
theorem dX9_waysOf_62 : decode cX9_waysOf 62 = .ok (.lreturn, 1) := by decide +kernel
theorem dX9_allWays_0 : decode cX9_allWays 0 = .ok (.lconst 1, 1) := by decide +kernel
theorem dX9_allWays_1 : decode cX9_allWays 1 = .ok (.lstore_n 2, 1) := by decide +kernel
theorem dX9_allWays_2 : decode cX9_allWays 2 = .ok (.iload_n 1, 1) := by decide +kernel
theorem dX9_allWays_3 : decode cX9_allWays 3 = .ok (.invokestatic 203, 3) := by decide +kernel
theorem dX9_allWays_6 : decode cX9_allWays 6 = .ok (.istore 4, 2) := by decide +kernel
theorem dX9_allWays_8 : decode cX9_allWays 8 = .ok (.iload 4, 2) := by decide +kernel
theorem dX9_allWays_10 : decode cX9_allWays 10 = .ok (.ifCond .le 15, 3) := by decide +kernel
theorem dX9_allWays_13 : decode cX9_allWays 13 = .ok (.lload_n 2, 1) := by decide +kernel
theorem dX9_allWays_14 : decode cX9_allWays 14 = .ok (.ldc2_w 206, 3) := by decide +kernel
theorem dX9_allWays_17 : decode cX9_allWays 17 = .ok (.lmul, 1) := by decide +kernel
theorem dX9_allWays_18 : decode cX9_allWays 18 = .ok (.lstore_n 2, 1) := by decide +kernel
theorem dX9_allWays_19 : decode cX9_allWays 19 = .ok (.iinc 4 (-1), 3) := by decide +kernel
theorem dX9_allWays_22 : decode cX9_allWays 22 = .ok (.goto (-14), 3) := by decide +kernel
theorem dX9_allWays_25 : decode cX9_allWays 25 = .ok (.lload_n 2, 1) := by decide +kernel
theorem dX9_allWays_26 : decode cX9_allWays 26 = .ok (.lreturn, 1) := by decide +kernel
theorem dX9_odds_0 : decode cX9_odds 0 = .ok (.iload_n 1, 1) := by decide +kernel
theorem dX9_odds_1 : decode cX9_odds 1 = .ok (.i2l, 1) := by decide +kernel
theorem dX9_odds_2 : decode cX9_odds 2 = .ok (.lconst 0, 1) := by decide +kernel
theorem dX9_odds_3 : decode cX9_odds 3 = .ok (.ldc2_w 208, 3) := by decide +kernel
theorem dX9_odds_6 : decode cX9_odds 6 = .ok (.invokestatic 53, 3) := by decide +kernel
theorem dX9_odds_9 : decode cX9_odds 9 = .ok (.ifCond .eq 15, 3) := by decide +kernel
theorem dX9_odds_12 : decode cX9_odds 12 = .ok (.iload_n 2, 1) := by decide +kernel
theorem dX9_odds_13 : decode cX9_odds 13 = .ok (.i2l, 1) := by decide +kernel
theorem dX9_odds_14 : decode cX9_odds 14 = .ok (.lconst 0, 1) := by decide +kernel
theorem dX9_odds_15 : decode cX9_odds 15 = .ok (.ldc2_w 206, 3) := by decide +kernel
theorem dX9_odds_18 : decode cX9_odds 18 = .ok (.invokestatic 53, 3) := by decide +kernel
theorem dX9_odds_21 : decode cX9_odds 21 = .ok (.ifCond .ne 5, 3) := by decide +kernel
theorem dX9_odds_24 : decode cX9_odds 24 = .ok (.iconst (-1), 1) := by decide +kernel
theorem dX9_odds_25 : decode cX9_odds 25 = .ok (.ireturn, 1) := by decide +kernel
theorem dX9_odds_26 : decode cX9_odds 26 = .ok (.aload_n 0, 1) := by decide +kernel
theorem dX9_odds_27 : decode cX9_odds 27 = .ok (.invokevirtual 153, 3) := by decide +kernel
theorem dX9_odds_30 : decode cX9_odds 30 = .ok (.ifCond .ne 6, 3) := by decide +kernel
theorem dX9_odds_33 : decode cX9_odds 33 = .ok (.bipush (-4), 2) := by decide +kernel
theorem dX9_odds_35 : decode cX9_odds 35 = .ok (.ireturn, 1) := by decide +kernel
theorem dX9_odds_36 : decode cX9_odds 36 = .ok (.aload_n 0, 1) := by decide +kernel
theorem dX9_odds_37 : decode cX9_odds 37 = .ok (.invokevirtual 210, 3) := by decide +kernel
theorem dX9_odds_40 : decode cX9_odds 40 = .ok (.istore_n 3, 1) := by decide +kernel
theorem dX9_odds_41 : decode cX9_odds 41 = .ok (.lconst 0, 1) := by decide +kernel
theorem dX9_odds_42 : decode cX9_odds 42 = .ok (.lstore 4, 2) := by decide +kernel
theorem dX9_odds_44 : decode cX9_odds 44 = .ok (.iconst 0, 1) := by decide +kernel
theorem dX9_odds_45 : decode cX9_odds 45 = .ok (.istore 6, 2) := by decide +kernel
theorem dX9_odds_47 : decode cX9_odds 47 = .ok (.iload 6, 2) := by decide +kernel
theorem dX9_odds_49 : decode cX9_odds 49 = .ok (.bipush 64, 2) := by decide +kernel
theorem dX9_odds_51 : decode cX9_odds 51 = .ok (.if_icmp .ge 44, 3) := by decide +kernel
theorem dX9_odds_54 : decode cX9_odds 54 = .ok (.lload 4, 2) := by decide +kernel
theorem dX9_odds_56 : decode cX9_odds 56 = .ok (.iload 6, 2) := by decide +kernel
theorem dX9_odds_58 : decode cX9_odds 58 = .ok (.iload_n 3, 1) := by decide +kernel
theorem dX9_odds_59 : decode cX9_odds 59 = .ok (.iconst (-1), 1) := by decide +kernel
theorem dX9_odds_60 : decode cX9_odds 60 = .ok (.ixor, 1) := by decide +kernel
theorem dX9_odds_61 : decode cX9_odds 61 = .ok (.iand, 1) := by decide +kernel
theorem dX9_odds_62 : decode cX9_odds 62 = .ok (.ifCond .ne 23, 3) := by decide +kernel
theorem dX9_odds_65 : decode cX9_odds 65 = .ok (.iload 6, 2) := by decide +kernel
theorem dX9_odds_67 : decode cX9_odds 67 = .ok (.invokestatic 203, 3) := by decide +kernel
theorem dX9_odds_70 : decode cX9_odds 70 = .ok (.iload_n 1, 1) := by decide +kernel
theorem dX9_odds_71 : decode cX9_odds 71 = .ok (.if_icmp .lt 14, 3) := by decide +kernel
theorem dX9_odds_74 : decode cX9_odds 74 = .ok (.aload_n 0, 1) := by decide +kernel
theorem dX9_odds_75 : decode cX9_odds 75 = .ok (.iload_n 3, 1) := by decide +kernel
theorem dX9_odds_76 : decode cX9_odds 76 = .ok (.iload 6, 2) := by decide +kernel
theorem dX9_odds_78 : decode cX9_odds 78 = .ok (.iload_n 2, 1) := by decide +kernel
theorem dX9_odds_79 : decode cX9_odds 79 = .ok (.invokevirtual 214, 3) := by decide +kernel
theorem dX9_odds_82 : decode cX9_odds 82 = .ok (.goto 4, 3) := by decide +kernel
theorem dX9_odds_85 : decode cX9_odds 85 = .ok (.lconst 0, 1) := by decide +kernel
theorem dX9_odds_86 : decode cX9_odds 86 = .ok (.ladd, 1) := by decide +kernel
theorem dX9_odds_87 : decode cX9_odds 87 = .ok (.lstore 4, 2) := by decide +kernel
theorem dX9_odds_89 : decode cX9_odds 89 = .ok (.iinc 6 1, 3) := by decide +kernel
theorem dX9_odds_92 : decode cX9_odds 92 = .ok (.goto (-45), 3) := by decide +kernel
theorem dX9_odds_95 : decode cX9_odds 95 = .ok (.aload_n 0, 1) := by decide +kernel
theorem dX9_odds_96 : decode cX9_odds 96 = .ok (.lload 4, 2) := by decide +kernel
theorem dX9_odds_98 : decode cX9_odds 98 = .ok (.aload_n 0, 1) := by decide +kernel
theorem dX9_odds_99 : decode cX9_odds 99 = .ok (.iload_n 3, 1) := by decide +kernel
theorem dX9_odds_100 : decode cX9_odds 100 = .ok (.invokevirtual 218, 3) := by decide +kernel
theorem dX9_odds_103 : decode cX9_odds 103 = .ok (.invokevirtual 222, 3) := by decide +kernel
theorem dX9_odds_106 : decode cX9_odds 106 = .ok (.ireturn, 1) := by decide +kernel
theorem dX9_mid_0 : decode cX9_mid 0 = .ok (.iload_n 1, 1) := by decide +kernel
theorem dX9_mid_1 : decode cX9_mid 1 = .ok (.i2l, 1) := by decide +kernel
theorem dX9_mid_2 : decode cX9_mid 2 = .ok (.lconst 0, 1) := by decide +kernel
theorem dX9_mid_3 : decode cX9_mid 3 = .ok (.ldc2_w 206, 3) := by decide +kernel
theorem dX9_mid_6 : decode cX9_mid 6 = .ok (.invokestatic 53, 3) := by decide +kernel
theorem dX9_mid_9 : decode cX9_mid 9 = .ok (.ifCond .ne 5, 3) := by decide +kernel
theorem dX9_mid_12 : decode cX9_mid 12 = .ok (.iconst (-1), 1) := by decide +kernel
theorem dX9_mid_13 : decode cX9_mid 13 = .ok (.ireturn, 1) := by decide +kernel
theorem dX9_mid_14 : decode cX9_mid 14 = .ok (.aload_n 0, 1) := by decide +kernel
theorem dX9_mid_15 : decode cX9_mid 15 = .ok (.invokevirtual 153, 3) := by decide +kernel
theorem dX9_mid_18 : decode cX9_mid 18 = .ok (.ifCond .ne 6, 3) := by decide +kernel
theorem dX9_mid_21 : decode cX9_mid 21 = .ok (.bipush (-4), 2) := by decide +kernel
theorem dX9_mid_23 : decode cX9_mid 23 = .ok (.ireturn, 1) := by decide +kernel
theorem dX9_mid_24 : decode cX9_mid 24 = .ok (.aload_n 0, 1) := by decide +kernel
theorem dX9_mid_25 : decode cX9_mid 25 = .ok (.invokevirtual 210, 3) := by decide +kernel
theorem dX9_mid_28 : decode cX9_mid 28 = .ok (.istore_n 2, 1) := by decide +kernel
theorem dX9_mid_29 : decode cX9_mid 29 = .ok (.lconst 0, 1) := by decide +kernel
theorem dX9_mid_30 : decode cX9_mid 30 = .ok (.lstore_n 3, 1) := by decide +kernel
theorem dX9_mid_31 : decode cX9_mid 31 = .ok (.iconst 0, 1) := by decide +kernel
theorem dX9_mid_32 : decode cX9_mid 32 = .ok (.istore 5, 2) := by decide +kernel
theorem dX9_mid_34 : decode cX9_mid 34 = .ok (.iload 5, 2) := by decide +kernel
theorem dX9_mid_36 : decode cX9_mid 36 = .ok (.bipush 64, 2) := by decide +kernel
theorem dX9_mid_38 : decode cX9_mid 38 = .ok (.if_icmp .ge 104, 3) := by decide +kernel
theorem dX9_mid_41 : decode cX9_mid 41 = .ok (.iconst 0, 1) := by decide +kernel
theorem dX9_mid_42 : decode cX9_mid 42 = .ok (.istore 6, 2) := by decide +kernel
theorem dX9_mid_44 : decode cX9_mid 44 = .ok (.iconst 0, 1) := by decide +kernel
theorem dX9_mid_45 : decode cX9_mid 45 = .ok (.istore 7, 2) := by decide +kernel
theorem dX9_mid_47 : decode cX9_mid 47 = .ok (.iload 7, 2) := by decide +kernel
theorem dX9_mid_49 : decode cX9_mid 49 = .ok (.aload_n 0, 1) := by decide +kernel
theorem dX9_mid_50 : decode cX9_mid 50 = .ok (.getfield 7, 3) := by decide +kernel
theorem dX9_mid_53 : decode cX9_mid 53 = .ok (.iconst 0, 1) := by decide +kernel
theorem dX9_mid_54 : decode cX9_mid 54 = .ok (.iaload, 1) := by decide +kernel
theorem dX9_mid_55 : decode cX9_mid 55 = .ok (.if_icmp .ge 53, 3) := by decide +kernel
theorem dX9_mid_58 : decode cX9_mid 58 = .ok (.iload 5, 2) := by decide +kernel
theorem dX9_mid_60 : decode cX9_mid 60 = .ok (.iload_n 2, 1) := by decide +kernel
theorem dX9_mid_61 : decode cX9_mid 61 = .ok (.iand, 1) := by decide +kernel
theorem dX9_mid_62 : decode cX9_mid 62 = .ok (.iload 7, 2) := by decide +kernel
theorem dX9_mid_64 : decode cX9_mid 64 = .ok (.invokestatic 200, 3) := by decide +kernel
theorem dX9_mid_67 : decode cX9_mid 67 = .ok (.ifCond .eq 31, 3) := by decide +kernel
theorem dX9_mid_70 : decode cX9_mid 70 = .ok (.aload_n 0, 1) := by decide +kernel
theorem dX9_mid_71 : decode cX9_mid 71 = .ok (.getfield 7, 3) := by decide +kernel
theorem dX9_mid_74 : decode cX9_mid 74 = .ok (.bipush 27, 2) := by decide +kernel
theorem dX9_mid_76 : decode cX9_mid 76 = .ok (.iload 7, 2) := by decide +kernel
theorem dX9_mid_78 : decode cX9_mid 78 = .ok (.iadd, 1) := by decide +kernel
theorem dX9_mid_79 : decode cX9_mid 79 = .ok (.iaload, 1) := by decide +kernel
theorem dX9_mid_80 : decode cX9_mid 80 = .ok (.iload 6, 2) := by decide +kernel
theorem dX9_mid_82 : decode cX9_mid 82 = .ok (.if_icmp .le 16, 3) := by decide +kernel
theorem dX9_mid_85 : decode cX9_mid 85 = .ok (.aload_n 0, 1) := by decide +kernel
theorem dX9_mid_86 : decode cX9_mid 86 = .ok (.getfield 7, 3) := by decide +kernel
theorem dX9_mid_89 : decode cX9_mid 89 = .ok (.bipush 27, 2) := by decide +kernel
theorem dX9_mid_91 : decode cX9_mid 91 = .ok (.iload 7, 2) := by decide +kernel
theorem dX9_mid_93 : decode cX9_mid 93 = .ok (.iadd, 1) := by decide +kernel
theorem dX9_mid_94 : decode cX9_mid 94 = .ok (.iaload, 1) := by decide +kernel
theorem dX9_mid_95 : decode cX9_mid 95 = .ok (.goto 5, 3) := by decide +kernel
theorem dX9_mid_98 : decode cX9_mid 98 = .ok (.iload 6, 2) := by decide +kernel
theorem dX9_mid_100 : decode cX9_mid 100 = .ok (.istore 6, 2) := by decide +kernel
theorem dX9_mid_102 : decode cX9_mid 102 = .ok (.iinc 7 1, 3) := by decide +kernel
theorem dX9_mid_105 : decode cX9_mid 105 = .ok (.goto (-58), 3) := by decide +kernel
theorem dX9_mid_108 : decode cX9_mid 108 = .ok (.lload_n 3, 1) := by decide +kernel
theorem dX9_mid_109 : decode cX9_mid 109 = .ok (.iload 5, 2) := by decide +kernel
theorem dX9_mid_111 : decode cX9_mid 111 = .ok (.iload_n 2, 1) := by decide +kernel
theorem dX9_mid_112 : decode cX9_mid 112 = .ok (.iconst (-1), 1) := by decide +kernel
theorem dX9_mid_113 : decode cX9_mid 113 = .ok (.ixor, 1) := by decide +kernel
theorem dX9_mid_114 : decode cX9_mid 114 = .ok (.iand, 1) := by decide +kernel
theorem dX9_mid_115 : decode cX9_mid 115 = .ok (.ifCond .ne 18, 3) := by decide +kernel
theorem dX9_mid_118 : decode cX9_mid 118 = .ok (.iload 6, 2) := by decide +kernel
theorem dX9_mid_120 : decode cX9_mid 120 = .ok (.i2l, 1) := by decide +kernel
theorem dX9_mid_121 : decode cX9_mid 121 = .ok (.aload_n 0, 1) := by decide +kernel
theorem dX9_mid_122 : decode cX9_mid 122 = .ok (.iload_n 2, 1) := by decide +kernel
theorem dX9_mid_123 : decode cX9_mid 123 = .ok (.iload 5, 2) := by decide +kernel
theorem dX9_mid_125 : decode cX9_mid 125 = .ok (.iload_n 1, 1) := by decide +kernel
theorem dX9_mid_126 : decode cX9_mid 126 = .ok (.invokevirtual 214, 3) := by decide +kernel
theorem dX9_mid_129 : decode cX9_mid 129 = .ok (.lmul, 1) := by decide +kernel
theorem dX9_mid_130 : decode cX9_mid 130 = .ok (.goto 4, 3) := by decide +kernel
theorem dX9_mid_133 : decode cX9_mid 133 = .ok (.lconst 0, 1) := by decide +kernel
theorem dX9_mid_134 : decode cX9_mid 134 = .ok (.ladd, 1) := by decide +kernel
theorem dX9_mid_135 : decode cX9_mid 135 = .ok (.lstore_n 3, 1) := by decide +kernel
theorem dX9_mid_136 : decode cX9_mid 136 = .ok (.iinc 5 1, 3) := by decide +kernel
theorem dX9_mid_139 : decode cX9_mid 139 = .ok (.goto (-105), 3) := by decide +kernel
theorem dX9_mid_142 : decode cX9_mid 142 = .ok (.aload_n 0, 1) := by decide +kernel
theorem dX9_mid_143 : decode cX9_mid 143 = .ok (.lload_n 3, 1) := by decide +kernel
theorem dX9_mid_144 : decode cX9_mid 144 = .ok (.aload_n 0, 1) := by decide +kernel
theorem dX9_mid_145 : decode cX9_mid 145 = .ok (.iload_n 2, 1) := by decide +kernel
theorem dX9_mid_146 : decode cX9_mid 146 = .ok (.invokevirtual 218, 3) := by decide +kernel
theorem dX9_mid_149 : decode cX9_mid 149 = .ok (.invokevirtual 222, 3) := by decide +kernel
theorem dX9_mid_152 : decode cX9_mid 152 = .ok (.ireturn, 1) := by decide +kernel
theorem dX9_lots_0 : decode cX9_lots 0 = .ok (.iload_n 1, 1) := by decide +kernel
theorem dX9_lots_1 : decode cX9_lots 1 = .ok (.i2l, 1) := by decide +kernel
theorem dX9_lots_2 : decode cX9_lots 2 = .ok (.lconst 1, 1) := by decide +kernel
theorem dX9_lots_3 : decode cX9_lots 3 = .ok (.ldc2_w 226, 3) := by decide +kernel
theorem dX9_lots_6 : decode cX9_lots 6 = .ok (.invokestatic 53, 3) := by decide +kernel
theorem dX9_lots_9 : decode cX9_lots 9 = .ok (.ifCond .eq 15, 3) := by decide +kernel
theorem dX9_lots_12 : decode cX9_lots 12 = .ok (.iload_n 2, 1) := by decide +kernel
theorem dX9_lots_13 : decode cX9_lots 13 = .ok (.i2l, 1) := by decide +kernel
theorem dX9_lots_14 : decode cX9_lots 14 = .ok (.lconst 1, 1) := by decide +kernel
theorem dX9_lots_15 : decode cX9_lots 15 = .ok (.ldc2_w 228, 3) := by decide +kernel
theorem dX9_lots_18 : decode cX9_lots 18 = .ok (.invokestatic 53, 3) := by decide +kernel
theorem dX9_lots_21 : decode cX9_lots 21 = .ok (.ifCond .ne 5, 3) := by decide +kernel
theorem dX9_lots_24 : decode cX9_lots 24 = .ok (.iconst (-1), 1) := by decide +kernel
theorem dX9_lots_25 : decode cX9_lots 25 = .ok (.ireturn, 1) := by decide +kernel
theorem dX9_lots_26 : decode cX9_lots 26 = .ok (.aload_n 0, 1) := by decide +kernel
theorem dX9_lots_27 : decode cX9_lots 27 = .ok (.invokevirtual 153, 3) := by decide +kernel
theorem dX9_lots_30 : decode cX9_lots 30 = .ok (.ifCond .ne 6, 3) := by decide +kernel
theorem dX9_lots_33 : decode cX9_lots 33 = .ok (.bipush (-4), 2) := by decide +kernel
theorem dX9_lots_35 : decode cX9_lots 35 = .ok (.ireturn, 1) := by decide +kernel
theorem dX9_lots_36 : decode cX9_lots 36 = .ok (.aload_n 0, 1) := by decide +kernel
theorem dX9_lots_37 : decode cX9_lots 37 = .ok (.getfield 117, 3) := by decide +kernel
theorem dX9_lots_40 : decode cX9_lots 40 = .ok (.iload_n 1, 1) := by decide +kernel
theorem dX9_lots_41 : decode cX9_lots 41 = .ok (.iadd, 1) := by decide +kernel
theorem dX9_lots_42 : decode cX9_lots 42 = .ok (.bipush 40, 2) := by decide +kernel
theorem dX9_lots_44 : decode cX9_lots 44 = .ok (.if_icmp .le 6, 3) := by decide +kernel
theorem dX9_lots_47 : decode cX9_lots 47 = .ok (.bipush (-2), 2) := by decide +kernel
theorem dX9_lots_49 : decode cX9_lots 49 = .ok (.ireturn, 1) := by decide +kernel
theorem dX9_lots_50 : decode cX9_lots 50 = .ok (.iload_n 2, 1) := by decide +kernel
theorem dX9_lots_51 : decode cX9_lots 51 = .ok (.i2l, 1) := by decide +kernel
theorem dX9_lots_52 : decode cX9_lots 52 = .ok (.lstore_n 3, 1) := by decide +kernel
theorem dX9_lots_53 : decode cX9_lots 53 = .ok (.iconst 0, 1) := by decide +kernel
theorem dX9_lots_54 : decode cX9_lots 54 = .ok (.istore 5, 2) := by decide +kernel
theorem dX9_lots_56 : decode cX9_lots 56 = .ok (.iconst 0, 1) := by decide +kernel
theorem dX9_lots_57 : decode cX9_lots 57 = .ok (.istore 6, 2) := by decide +kernel
theorem dX9_lots_59 : decode cX9_lots 59 = .ok (.iload 6, 2) := by decide +kernel
theorem dX9_lots_61 : decode cX9_lots 61 = .ok (.iload_n 1, 1) := by decide +kernel
theorem dX9_lots_62 : decode cX9_lots 62 = .ok (.if_icmp .ge 114, 3) := by decide +kernel
theorem dX9_lots_65 : decode cX9_lots 65 = .ok (.lload_n 3, 1) := by decide +kernel
theorem dX9_lots_66 : decode cX9_lots 66 = .ok (.ldc2_w 230, 3) := by decide +kernel
theorem dX9_lots_69 : decode cX9_lots 69 = .ok (.lmul, 1) := by decide +kernel
theorem dX9_lots_70 : decode cX9_lots 70 = .ok (.ldc2_w 232, 3) := by decide +kernel
theorem dX9_lots_73 : decode cX9_lots 73 = .ok (.lrem, 1) := by decide +kernel
theorem dX9_lots_74 : decode cX9_lots 74 = .ok (.lstore_n 3, 1) := by decide +kernel
theorem dX9_lots_75 : decode cX9_lots 75 = .ok (.lload_n 3, 1) := by decide +kernel
theorem dX9_lots_76 : decode cX9_lots 76 = .ok (.ldc2_w 179, 3) := by decide +kernel
theorem dX9_lots_79 : decode cX9_lots 79 = .ok (.lrem, 1) := by decide +kernel
theorem dX9_lots_80 : decode cX9_lots 80 = .ok (.l2i, 1) := by decide +kernel
theorem dX9_lots_81 : decode cX9_lots 81 = .ok (.istore 7, 2) := by decide +kernel
theorem dX9_lots_83 : decode cX9_lots 83 = .ok (.lload_n 3, 1) := by decide +kernel
theorem dX9_lots_84 : decode cX9_lots 84 = .ok (.ldc2_w 234, 3) := by decide +kernel
theorem dX9_lots_87 : decode cX9_lots 87 = .ok (.ldiv, 1) := by decide +kernel
theorem dX9_lots_88 : decode cX9_lots 88 = .ok (.aload_n 0, 1) := by decide +kernel
theorem dX9_lots_89 : decode cX9_lots 89 = .ok (.getfield 7, 3) := by decide +kernel
theorem dX9_lots_92 : decode cX9_lots 92 = .ok (.iconst 0, 1) := by decide +kernel
theorem dX9_lots_93 : decode cX9_lots 93 = .ok (.iaload, 1) := by decide +kernel
theorem dX9_lots_94 : decode cX9_lots 94 = .ok (.i2l, 1) := by decide +kernel
theorem dX9_lots_95 : decode cX9_lots 95 = .ok (.lrem, 1) := by decide +kernel
theorem dX9_lots_96 : decode cX9_lots 96 = .ok (.l2i, 1) := by decide +kernel
theorem dX9_lots_97 : decode cX9_lots 97 = .ok (.istore 8, 2) := by decide +kernel
theorem dX9_lots_99 : decode cX9_lots 99 = .ok (.aload_n 0, 1) := by decide +kernel
theorem dX9_lots_100 : decode cX9_lots 100 = .ok (.invokevirtual 157, 3) := by decide +kernel
theorem dX9_lots_103 : decode cX9_lots 103 = .ok (.iload 7, 2) := by decide +kernel
theorem dX9_lots_105 : decode cX9_lots 105 = .ok (.iconst 2, 1) := by decide +kernel
theorem dX9_lots_106 : decode cX9_lots 106 = .ok (.if_icmp .ge 12, 3) := by decide +kernel
theorem dX9_lots_109 : decode cX9_lots 109 = .ok (.aload_n 0, 1) := by decide +kernel
theorem dX9_lots_110 : decode cX9_lots 110 = .ok (.iconst 0, 1) := by decide +kernel
theorem dX9_lots_111 : decode cX9_lots 111 = .ok (.invokevirtual 160, 3) := by decide +kernel
theorem dX9_lots_114 : decode cX9_lots 114 = .ok (.pop, 1) := by decide +kernel
theorem dX9_lots_115 : decode cX9_lots 115 = .ok (.goto 55, 3) := by decide +kernel
theorem dX9_lots_118 : decode cX9_lots 118 = .ok (.iload 7, 2) := by decide +kernel
theorem dX9_lots_120 : decode cX9_lots 120 = .ok (.iconst 2, 1) := by decide +kernel
theorem dX9_lots_121 : decode cX9_lots 121 = .ok (.if_icmp .ne 18, 3) := by decide +kernel
theorem dX9_lots_124 : decode cX9_lots 124 = .ok (.iload 5, 2) := by decide +kernel
theorem dX9_lots_126 : decode cX9_lots 126 = .ok (.aload_n 0, 1) := by decide +kernel
theorem dX9_lots_127 : decode cX9_lots 127 = .ok (.iconst 0, 1) := by decide +kernel
theorem dX9_lots_128 : decode cX9_lots 128 = .ok (.iload 8, 2) := by decide +kernel
theorem dX9_lots_130 : decode cX9_lots 130 = .ok (.invokevirtual 163, 3) := by decide +kernel
theorem dX9_lots_133 : decode cX9_lots 133 = .ok (.iadd, 1) := by decide +kernel
theorem dX9_lots_134 : decode cX9_lots 134 = .ok (.istore 5, 2) := by decide +kernel
theorem dX9_lots_136 : decode cX9_lots 136 = .ok (.goto 34, 3) := by decide +kernel
theorem dX9_lots_139 : decode cX9_lots 139 = .ok (.aload_n 0, 1) := by decide +kernel
theorem dX9_lots_140 : decode cX9_lots 140 = .ok (.getfield 7, 3) := by decide +kernel
theorem dX9_lots_143 : decode cX9_lots 143 = .ok (.bipush 21, 2) := by decide +kernel
theorem dX9_lots_145 : decode cX9_lots 145 = .ok (.iload 8, 2) := by decide +kernel
theorem dX9_lots_147 : decode cX9_lots 147 = .ok (.iadd, 1) := by decide +kernel
theorem dX9_lots_148 : decode cX9_lots 148 = .ok (.dup2, 1) := by decide +kernel
theorem dX9_lots_149 : decode cX9_lots 149 = .ok (.iaload, 1) := by decide +kernel
theorem dX9_lots_150 : decode cX9_lots 150 = .ok (.aload_n 0, 1) := by decide +kernel
theorem dX9_lots_151 : decode cX9_lots 151 = .ok (.getfield 7, 3) := by decide +kernel
theorem dX9_lots_154 : decode cX9_lots 154 = .ok (.bipush 21, 2) := by decide +kernel
theorem dX9_lots_156 : decode cX9_lots 156 = .ok (.iload 8, 2) := by decide +kernel
theorem dX9_lots_158 : decode cX9_lots 158 = .ok (.iadd, 1) := by decide +kernel
theorem dX9_lots_159 : decode cX9_lots 159 = .ok (.iaload, 1) := by decide +kernel
theorem dX9_lots_160 : decode cX9_lots 160 = .ok (.ifCond .le 7, 3) := by decide +kernel
theorem dX9_lots_163 : decode cX9_lots 163 = .ok (.iconst 1, 1) := by decide +kernel
theorem dX9_lots_164 : decode cX9_lots 164 = .ok (.goto 4, 3) := by decide +kernel
theorem dX9_lots_167 : decode cX9_lots 167 = .ok (.iconst 0, 1) := by decide +kernel
theorem dX9_lots_168 : decode cX9_lots 168 = .ok (.isub, 1) := by decide +kernel
theorem dX9_lots_169 : decode cX9_lots 169 = .ok (.iastore, 1) := by decide +kernel
theorem dX9_lots_170 : decode cX9_lots 170 = .ok (.iinc 6 1, 3) := by decide +kernel
theorem dX9_lots_173 : decode cX9_lots 173 = .ok (.goto (-114), 3) := by decide +kernel
theorem dX9_lots_176 : decode cX9_lots 176 = .ok (.iload 5, 2) := by decide +kernel
theorem dX9_lots_178 : decode cX9_lots 178 = .ok (.ireturn, 1) := by decide +kernel
theorem dX9_asked_0 : decode cX9_asked 0 = .ok (.aload_n 0, 1) := by decide +kernel
theorem dX9_asked_1 : decode cX9_asked 1 = .ok (.getfield 48, 3) := by decide +kernel
theorem dX9_asked_4 : decode cX9_asked 4 = .ok (.ireturn, 1) := by decide +kernel
theorem dX9_upper_0 : decode cX9_upper 0 = .ok (.aload_n 0, 1) := by decide +kernel
theorem dX9_upper_1 : decode cX9_upper 1 = .ok (.getfield 197, 3) := by decide +kernel
theorem dX9_upper_4 : decode cX9_upper 4 = .ok (.lreturn, 1) := by decide +kernel
theorem dX9_lower_0 : decode cX9_lower 0 = .ok (.aload_n 0, 1) := by decide +kernel
theorem dX9_lower_1 : decode cX9_lower 1 = .ok (.getfield 34, 3) := by decide +kernel
theorem dX9_lower_4 : decode cX9_lower 4 = .ok (.lreturn, 1) := by decide +kernel
theorem dX9_countOf_0 : decode cX9_countOf 0 = .ok (.iconst 0, 1) := by decide +kernel
theorem dX9_countOf_1 : decode cX9_countOf 1 = .ok (.istore_n 2, 1) := by decide +kernel
theorem dX9_countOf_2 : decode cX9_countOf 2 = .ok (.iload_n 1, 1) := by decide +kernel
theorem dX9_countOf_3 : decode cX9_countOf 3 = .ok (.tableswitch 261 0 9 #[53, 60, 67, 72, 79, 111, 116, 144, 196, 229], 53) := by decide +kernel
theorem dX9_countOf_56 : decode cX9_countOf 56 = .ok (.aload_n 0, 1) := by decide +kernel
theorem dX9_countOf_57 : decode cX9_countOf 57 = .ok (.getfield 7, 3) := by decide +kernel
theorem dX9_countOf_60 : decode cX9_countOf 60 = .ok (.iconst 0, 1) := by decide +kernel
theorem dX9_countOf_61 : decode cX9_countOf 61 = .ok (.iaload, 1) := by decide +kernel
theorem dX9_countOf_62 : decode cX9_countOf 62 = .ok (.ireturn, 1) := by decide +kernel
theorem dX9_countOf_63 : decode cX9_countOf 63 = .ok (.aload_n 0, 1) := by decide +kernel
theorem dX9_countOf_64 : decode cX9_countOf 64 = .ok (.getfield 7, 3) := by decide +kernel
theorem dX9_countOf_67 : decode cX9_countOf 67 = .ok (.iconst 1, 1) := by decide +kernel
theorem dX9_countOf_68 : decode cX9_countOf 68 = .ok (.iaload, 1) := by decide +kernel
theorem dX9_countOf_69 : decode cX9_countOf 69 = .ok (.ireturn, 1) := by decide +kernel
theorem dX9_countOf_70 : decode cX9_countOf 70 = .ok (.aload_n 0, 1) := by decide +kernel
theorem dX9_countOf_71 : decode cX9_countOf 71 = .ok (.getfield 117, 3) := by decide +kernel
theorem dX9_countOf_74 : decode cX9_countOf 74 = .ok (.ireturn, 1) := by decide +kernel
theorem dX9_countOf_75 : decode cX9_countOf 75 = .ok (.aload_n 0, 1) := by decide +kernel
theorem dX9_countOf_76 : decode cX9_countOf 76 = .ok (.getfield 7, 3) := by decide +kernel
theorem dX9_countOf_79 : decode cX9_countOf 79 = .ok (.iconst 2, 1) := by decide +kernel
theorem dX9_countOf_80 : decode cX9_countOf 80 = .ok (.iaload, 1) := by decide +kernel
theorem dX9_countOf_81 : decode cX9_countOf 81 = .ok (.ireturn, 1) := by decide +kernel
theorem dX9_countOf_82 : decode cX9_countOf 82 = .ok (.iconst 0, 1) := by decide +kernel
theorem dX9_countOf_83 : decode cX9_countOf 83 = .ok (.istore_n 3, 1) := by decide +kernel
theorem dX9_countOf_84 : decode cX9_countOf 84 = .ok (.iload_n 3, 1) := by decide +kernel
theorem dX9_countOf_85 : decode cX9_countOf 85 = .ok (.aload_n 0, 1) := by decide +kernel
theorem dX9_countOf_86 : decode cX9_countOf 86 = .ok (.getfield 7, 3) := by decide +kernel
theorem dX9_countOf_89 : decode cX9_countOf 89 = .ok (.iconst 0, 1) := by decide +kernel
theorem dX9_countOf_90 : decode cX9_countOf 90 = .ok (.iaload, 1) := by decide +kernel
theorem dX9_countOf_91 : decode cX9_countOf 91 = .ok (.if_icmp .ge 21, 3) := by decide +kernel
theorem dX9_countOf_94 : decode cX9_countOf 94 = .ok (.iload_n 2, 1) := by decide +kernel
theorem dX9_countOf_95 : decode cX9_countOf 95 = .ok (.aload_n 0, 1) := by decide +kernel
theorem dX9_countOf_96 : decode cX9_countOf 96 = .ok (.getfield 7, 3) := by decide +kernel
theorem dX9_countOf_99 : decode cX9_countOf 99 = .ok (.bipush 27, 2) := by decide +kernel
theorem dX9_countOf_101 : decode cX9_countOf 101 = .ok (.iload_n 3, 1) := by decide +kernel
theorem dX9_countOf_102 : decode cX9_countOf 102 = .ok (.iadd, 1) := by decide +kernel
theorem dX9_countOf_103 : decode cX9_countOf 103 = .ok (.iaload, 1) := by decide +kernel
theorem dX9_countOf_104 : decode cX9_countOf 104 = .ok (.iadd, 1) := by decide +kernel
theorem dX9_countOf_105 : decode cX9_countOf 105 = .ok (.istore_n 2, 1) := by decide +kernel
theorem dX9_countOf_106 : decode cX9_countOf 106 = .ok (.iinc 3 1, 3) := by decide +kernel
theorem dX9_countOf_109 : decode cX9_countOf 109 = .ok (.goto (-25), 3) := by decide +kernel
theorem dX9_countOf_112 : decode cX9_countOf 112 = .ok (.iload_n 2, 1) := by decide +kernel
theorem dX9_countOf_113 : decode cX9_countOf 113 = .ok (.ireturn, 1) := by decide +kernel
theorem dX9_countOf_114 : decode cX9_countOf 114 = .ok (.aload_n 0, 1) := by decide +kernel
theorem dX9_countOf_115 : decode cX9_countOf 115 = .ok (.invokevirtual 210, 3) := by decide +kernel
theorem dX9_countOf_118 : decode cX9_countOf 118 = .ok (.ireturn, 1) := by decide +kernel
theorem dX9_countOf_119 : decode cX9_countOf 119 = .ok (.aload_n 0, 1) := by decide +kernel
theorem dX9_countOf_120 : decode cX9_countOf 120 = .ok (.invokevirtual 153, 3) := by decide +kernel
theorem dX9_countOf_123 : decode cX9_countOf 123 = .ok (.ifCond .eq 22, 3) := by decide +kernel
theorem dX9_countOf_126 : decode cX9_countOf 126 = .ok (.aload_n 0, 1) := by decide +kernel
theorem dX9_countOf_127 : decode cX9_countOf 127 = .ok (.getfield 7, 3) := by decide +kernel
theorem dX9_countOf_130 : decode cX9_countOf 130 = .ok (.bipush 39, 2) := by decide +kernel
theorem dX9_countOf_132 : decode cX9_countOf 132 = .ok (.aload_n 0, 1) := by decide +kernel
theorem dX9_countOf_133 : decode cX9_countOf 133 = .ok (.getfield 7, 3) := by decide +kernel
theorem dX9_countOf_136 : decode cX9_countOf 136 = .ok (.iconst 1, 1) := by decide +kernel
theorem dX9_countOf_137 : decode cX9_countOf 137 = .ok (.iaload, 1) := by decide +kernel
theorem dX9_countOf_138 : decode cX9_countOf 138 = .ok (.iconst 4, 1) := by decide +kernel
theorem dX9_countOf_139 : decode cX9_countOf 139 = .ok (.irem, 1) := by decide +kernel
theorem dX9_countOf_140 : decode cX9_countOf 140 = .ok (.iadd, 1) := by decide +kernel
theorem dX9_countOf_141 : decode cX9_countOf 141 = .ok (.iaload, 1) := by decide +kernel
theorem dX9_countOf_142 : decode cX9_countOf 142 = .ok (.goto 4, 3) := by decide +kernel
theorem dX9_countOf_145 : decode cX9_countOf 145 = .ok (.iconst 0, 1) := by decide +kernel
theorem dX9_countOf_146 : decode cX9_countOf 146 = .ok (.ireturn, 1) := by decide +kernel
theorem dX9_countOf_147 : decode cX9_countOf 147 = .ok (.iconst 0, 1) := by decide +kernel
theorem dX9_countOf_148 : decode cX9_countOf 148 = .ok (.istore_n 3, 1) := by decide +kernel
theorem dX9_countOf_149 : decode cX9_countOf 149 = .ok (.iload_n 3, 1) := by decide +kernel
theorem dX9_countOf_150 : decode cX9_countOf 150 = .ok (.aload_n 0, 1) := by decide +kernel
theorem dX9_countOf_151 : decode cX9_countOf 151 = .ok (.getfield 7, 3) := by decide +kernel
theorem dX9_countOf_154 : decode cX9_countOf 154 = .ok (.iconst 0, 1) := by decide +kernel
theorem dX9_countOf_155 : decode cX9_countOf 155 = .ok (.iaload, 1) := by decide +kernel
theorem dX9_countOf_156 : decode cX9_countOf 156 = .ok (.if_icmp .ge 41, 3) := by decide +kernel
theorem dX9_countOf_159 : decode cX9_countOf 159 = .ok (.iload_n 2, 1) := by decide +kernel
theorem dX9_countOf_160 : decode cX9_countOf 160 = .ok (.aload_n 0, 1) := by decide +kernel
theorem dX9_countOf_161 : decode cX9_countOf 161 = .ok (.getfield 7, 3) := by decide +kernel
theorem dX9_countOf_164 : decode cX9_countOf 164 = .ok (.iconst 3, 1) := by decide +kernel
theorem dX9_countOf_165 : decode cX9_countOf 165 = .ok (.iload_n 3, 1) := by decide +kernel
theorem dX9_countOf_166 : decode cX9_countOf 166 = .ok (.iadd, 1) := by decide +kernel
theorem dX9_countOf_167 : decode cX9_countOf 167 = .ok (.iaload, 1) := by decide +kernel
theorem dX9_countOf_168 : decode cX9_countOf 168 = .ok (.iconst 2, 1) := by decide +kernel
theorem dX9_countOf_169 : decode cX9_countOf 169 = .ok (.if_icmp .eq 15, 3) := by decide +kernel
theorem dX9_countOf_172 : decode cX9_countOf 172 = .ok (.aload_n 0, 1) := by decide +kernel
theorem dX9_countOf_173 : decode cX9_countOf 173 = .ok (.getfield 7, 3) := by decide +kernel
theorem dX9_countOf_176 : decode cX9_countOf 176 = .ok (.iconst 3, 1) := by decide +kernel
theorem dX9_countOf_177 : decode cX9_countOf 177 = .ok (.iload_n 3, 1) := by decide +kernel
theorem dX9_countOf_178 : decode cX9_countOf 178 = .ok (.iadd, 1) := by decide +kernel
theorem dX9_countOf_179 : decode cX9_countOf 179 = .ok (.iaload, 1) := by decide +kernel
theorem dX9_countOf_180 : decode cX9_countOf 180 = .ok (.iconst 4, 1) := by decide +kernel
theorem dX9_countOf_181 : decode cX9_countOf 181 = .ok (.if_icmp .ne 7, 3) := by decide +kernel
theorem dX9_countOf_184 : decode cX9_countOf 184 = .ok (.iconst 1, 1) := by decide +kernel
theorem dX9_countOf_185 : decode cX9_countOf 185 = .ok (.goto 4, 3) := by decide +kernel
theorem dX9_countOf_188 : decode cX9_countOf 188 = .ok (.iconst 0, 1) := by decide +kernel
theorem dX9_countOf_189 : decode cX9_countOf 189 = .ok (.iadd, 1) := by decide +kernel
theorem dX9_countOf_190 : decode cX9_countOf 190 = .ok (.istore_n 2, 1) := by decide +kernel
theorem dX9_countOf_191 : decode cX9_countOf 191 = .ok (.iinc 3 1, 3) := by decide +kernel
theorem dX9_countOf_194 : decode cX9_countOf 194 = .ok (.goto (-45), 3) := by decide +kernel
theorem dX9_countOf_197 : decode cX9_countOf 197 = .ok (.iload_n 2, 1) := by decide +kernel
theorem dX9_countOf_198 : decode cX9_countOf 198 = .ok (.ireturn, 1) := by decide +kernel
theorem dX9_countOf_199 : decode cX9_countOf 199 = .ok (.iconst 0, 1) := by decide +kernel
theorem dX9_countOf_200 : decode cX9_countOf 200 = .ok (.istore_n 3, 1) := by decide +kernel
theorem dX9_countOf_201 : decode cX9_countOf 201 = .ok (.iload_n 3, 1) := by decide +kernel
theorem dX9_countOf_202 : decode cX9_countOf 202 = .ok (.bipush 6, 2) := by decide +kernel
theorem dX9_countOf_204 : decode cX9_countOf 204 = .ok (.if_icmp .ge 26, 3) := by decide +kernel
theorem dX9_countOf_207 : decode cX9_countOf 207 = .ok (.iload_n 2, 1) := by decide +kernel
theorem dX9_countOf_208 : decode cX9_countOf 208 = .ok (.aload_n 0, 1) := by decide +kernel
theorem dX9_countOf_209 : decode cX9_countOf 209 = .ok (.getfield 19, 3) := by decide +kernel
theorem dX9_countOf_212 : decode cX9_countOf 212 = .ok (.iload_n 3, 1) := by decide +kernel
theorem dX9_countOf_213 : decode cX9_countOf 213 = .ok (.iaload, 1) := by decide +kernel
theorem dX9_countOf_214 : decode cX9_countOf 214 = .ok (.ifCond .ge 7, 3) := by decide +kernel
theorem dX9_countOf_217 : decode cX9_countOf 217 = .ok (.iconst 0, 1) := by decide +kernel
theorem dX9_countOf_218 : decode cX9_countOf 218 = .ok (.goto 4, 3) := by decide +kernel
theorem dX9_countOf_221 : decode cX9_countOf 221 = .ok (.iconst 1, 1) := by decide +kernel
theorem dX9_countOf_222 : decode cX9_countOf 222 = .ok (.iadd, 1) := by decide +kernel
theorem dX9_countOf_223 : decode cX9_countOf 223 = .ok (.istore_n 2, 1) := by decide +kernel
theorem dX9_countOf_224 : decode cX9_countOf 224 = .ok (.iinc 3 1, 3) := by decide +kernel
theorem dX9_countOf_227 : decode cX9_countOf 227 = .ok (.goto (-26), 3) := by decide +kernel
theorem dX9_countOf_230 : decode cX9_countOf 230 = .ok (.iload_n 2, 1) := by decide +kernel
theorem dX9_countOf_231 : decode cX9_countOf 231 = .ok (.ireturn, 1) := by decide +kernel
theorem dX9_countOf_232 : decode cX9_countOf 232 = .ok (.iconst 0, 1) := by decide +kernel
theorem dX9_countOf_233 : decode cX9_countOf 233 = .ok (.istore_n 3, 1) := by decide +kernel
theorem dX9_countOf_234 : decode cX9_countOf 234 = .ok (.iload_n 3, 1) := by decide +kernel
theorem dX9_countOf_235 : decode cX9_countOf 235 = .ok (.iconst 4, 1) := by decide +kernel
theorem dX9_countOf_236 : decode cX9_countOf 236 = .ok (.if_icmp .ge 26, 3) := by decide +kernel
theorem dX9_countOf_239 : decode cX9_countOf 239 = .ok (.iload_n 2, 1) := by decide +kernel
theorem dX9_countOf_240 : decode cX9_countOf 240 = .ok (.aload_n 0, 1) := by decide +kernel
theorem dX9_countOf_241 : decode cX9_countOf 241 = .ok (.getfield 25, 3) := by decide +kernel
theorem dX9_countOf_244 : decode cX9_countOf 244 = .ok (.iload_n 3, 1) := by decide +kernel
theorem dX9_countOf_245 : decode cX9_countOf 245 = .ok (.iaload, 1) := by decide +kernel
theorem dX9_countOf_246 : decode cX9_countOf 246 = .ok (.ifCond .ge 7, 3) := by decide +kernel
theorem dX9_countOf_249 : decode cX9_countOf 249 = .ok (.iconst 0, 1) := by decide +kernel
theorem dX9_countOf_250 : decode cX9_countOf 250 = .ok (.goto 4, 3) := by decide +kernel
theorem dX9_countOf_253 : decode cX9_countOf 253 = .ok (.iconst 1, 1) := by decide +kernel
theorem dX9_countOf_254 : decode cX9_countOf 254 = .ok (.iadd, 1) := by decide +kernel
theorem dX9_countOf_255 : decode cX9_countOf 255 = .ok (.istore_n 2, 1) := by decide +kernel
theorem dX9_countOf_256 : decode cX9_countOf 256 = .ok (.iinc 3 1, 3) := by decide +kernel
theorem dX9_countOf_259 : decode cX9_countOf 259 = .ok (.goto (-25), 3) := by decide +kernel
theorem dX9_countOf_262 : decode cX9_countOf 262 = .ok (.iload_n 2, 1) := by decide +kernel
theorem dX9_countOf_263 : decode cX9_countOf 263 = .ok (.ireturn, 1) := by decide +kernel
theorem dX9_countOf_264 : decode cX9_countOf 264 = .ok (.iconst 0, 1) := by decide +kernel
theorem dX9_countOf_265 : decode cX9_countOf 265 = .ok (.istore_n 3, 1) := by decide +kernel
theorem dX9_countOf_266 : decode cX9_countOf 266 = .ok (.iload_n 3, 1) := by decide +kernel
theorem dX9_countOf_267 : decode cX9_countOf 267 = .ok (.iconst 3, 1) := by decide +kernel
theorem dX9_countOf_268 : decode cX9_countOf 268 = .ok (.if_icmp .ge 26, 3) := by decide +kernel
theorem dX9_countOf_271 : decode cX9_countOf 271 = .ok (.iload_n 2, 1) := by decide +kernel
theorem dX9_countOf_272 : decode cX9_countOf 272 = .ok (.aload_n 0, 1) := by decide +kernel
theorem dX9_countOf_273 : decode cX9_countOf 273 = .ok (.getfield 13, 3) := by decide +kernel
theorem dX9_countOf_276 : decode cX9_countOf 276 = .ok (.iload_n 3, 1) := by decide +kernel
theorem dX9_countOf_277 : decode cX9_countOf 277 = .ok (.iaload, 1) := by decide +kernel
theorem dX9_countOf_278 : decode cX9_countOf 278 = .ok (.ifCond .ge 7, 3) := by decide +kernel
theorem dX9_countOf_281 : decode cX9_countOf 281 = .ok (.iconst 0, 1) := by decide +kernel
theorem dX9_countOf_282 : decode cX9_countOf 282 = .ok (.goto 4, 3) := by decide +kernel
theorem dX9_countOf_285 : decode cX9_countOf 285 = .ok (.iconst 1, 1) := by decide +kernel
theorem dX9_countOf_286 : decode cX9_countOf 286 = .ok (.iadd, 1) := by decide +kernel
theorem dX9_countOf_287 : decode cX9_countOf 287 = .ok (.istore_n 2, 1) := by decide +kernel
theorem dX9_countOf_288 : decode cX9_countOf 288 = .ok (.iinc 3 1, 3) := by decide +kernel
theorem dX9_countOf_291 : decode cX9_countOf 291 = .ok (.goto (-25), 3) := by decide +kernel
theorem dX9_countOf_294 : decode cX9_countOf 294 = .ok (.iload_n 2, 1) := by decide +kernel
theorem dX9_countOf_295 : decode cX9_countOf 295 = .ok (.ireturn, 1) := by decide +kernel
theorem dX9_count_0 : decode cX9_count 0 = .ok (.iload_n 1, 1) := by decide +kernel
theorem dX9_count_1 : decode cX9_count 1 = .ok (.i2l, 1) := by decide +kernel
theorem dX9_count_2 : decode cX9_count 2 = .ok (.lconst 0, 1) := by decide +kernel
theorem dX9_count_3 : decode cX9_count 3 = .ok (.ldc2_w 236, 3) := by decide +kernel
theorem dX9_count_6 : decode cX9_count 6 = .ok (.invokestatic 53, 3) := by decide +kernel
theorem dX9_count_9 : decode cX9_count 9 = .ok (.ifCond .eq 11, 3) := by decide +kernel
theorem dX9_count_12 : decode cX9_count 12 = .ok (.aload_n 0, 1) := by decide +kernel
theorem dX9_count_13 : decode cX9_count 13 = .ok (.iload_n 1, 1) := by decide +kernel
theorem dX9_count_14 : decode cX9_count 14 = .ok (.invokevirtual 238, 3) := by decide +kernel
theorem dX9_count_17 : decode cX9_count 17 = .ok (.goto 4, 3) := by decide +kernel
theorem dX9_count_20 : decode cX9_count 20 = .ok (.iconst (-1), 1) := by decide +kernel
theorem dX9_count_21 : decode cX9_count 21 = .ok (.ireturn, 1) := by decide +kernel
theorem dX9_finding_0 : decode cX9_finding 0 = .ok (.aload_n 0, 1) := by decide +kernel
theorem dX9_finding_1 : decode cX9_finding 1 = .ok (.getfield 44, 3) := by decide +kernel
theorem dX9_finding_4 : decode cX9_finding 4 = .ok (.ireturn, 1) := by decide +kernel
theorem dX9_findings_0 : decode cX9_findings 0 = .ok (.iload_n 1, 1) := by decide +kernel
theorem dX9_findings_1 : decode cX9_findings 1 = .ok (.i2l, 1) := by decide +kernel
theorem dX9_findings_2 : decode cX9_findings 2 = .ok (.lconst 1, 1) := by decide +kernel
theorem dX9_findings_3 : decode cX9_findings 3 = .ok (.ldc2_w 51, 3) := by decide +kernel
theorem dX9_findings_6 : decode cX9_findings 6 = .ok (.invokestatic 53, 3) := by decide +kernel
theorem dX9_findings_9 : decode cX9_findings 9 = .ok (.ifCond .eq 12, 3) := by decide +kernel
theorem dX9_findings_12 : decode cX9_findings 12 = .ok (.aload_n 0, 1) := by decide +kernel
theorem dX9_findings_13 : decode cX9_findings 13 = .ok (.getfield 31, 3) := by decide +kernel
theorem dX9_findings_16 : decode cX9_findings 16 = .ok (.iload_n 1, 1) := by decide +kernel
theorem dX9_findings_17 : decode cX9_findings 17 = .ok (.iaload, 1) := by decide +kernel
theorem dX9_findings_18 : decode cX9_findings 18 = .ok (.goto 4, 3) := by decide +kernel
theorem dX9_findings_21 : decode cX9_findings 21 = .ok (.iconst (-1), 1) := by decide +kernel
theorem dX9_findings_22 : decode cX9_findings 22 = .ok (.ireturn, 1) := by decide +kernel
theorem dX9_mix_0 : decode cX9_mix 0 = .ok (.aload_n 0, 1) := by decide +kernel
theorem dX9_mix_1 : decode cX9_mix 1 = .ok (.ldc2_w 241, 3) := by decide +kernel
theorem dX9_mix_4 : decode cX9_mix 4 = .ok (.aload_n 0, 1) := by decide +kernel
theorem dX9_mix_5 : decode cX9_mix 5 = .ok (.getfield 243, 3) := by decide +kernel
theorem dX9_mix_8 : decode cX9_mix 8 = .ok (.lmul, 1) := by decide +kernel
theorem dX9_mix_9 : decode cX9_mix 9 = .ok (.lload_n 1, 1) := by decide +kernel
theorem dX9_mix_10 : decode cX9_mix 10 = .ok (.ladd, 1) := by decide +kernel
theorem dX9_mix_11 : decode cX9_mix 11 = .ok (.putfield 243, 3) := by decide +kernel
theorem dX9_mix_14 : decode cX9_mix 14 = .ok (.return_, 1) := by decide +kernel
theorem dX9_digest_0 : decode cX9_digest 0 = .ok (.aload_n 0, 1) := by decide +kernel
theorem dX9_digest_1 : decode cX9_digest 1 = .ok (.ldc2_w 246, 3) := by decide +kernel
theorem dX9_digest_4 : decode cX9_digest 4 = .ok (.putfield 243, 3) := by decide +kernel
theorem dX9_digest_7 : decode cX9_digest 7 = .ok (.iconst 0, 1) := by decide +kernel
theorem dX9_digest_8 : decode cX9_digest 8 = .ok (.istore_n 1, 1) := by decide +kernel
theorem dX9_digest_9 : decode cX9_digest 9 = .ok (.iload_n 1, 1) := by decide +kernel
theorem dX9_digest_10 : decode cX9_digest 10 = .ok (.bipush 11, 2) := by decide +kernel
theorem dX9_digest_12 : decode cX9_digest 12 = .ok (.if_icmp .ge 19, 3) := by decide +kernel
theorem dX9_digest_15 : decode cX9_digest 15 = .ok (.aload_n 0, 1) := by decide +kernel
theorem dX9_digest_16 : decode cX9_digest 16 = .ok (.aload_n 0, 1) := by decide +kernel
theorem dX9_digest_17 : decode cX9_digest 17 = .ok (.iload_n 1, 1) := by decide +kernel
theorem dX9_digest_18 : decode cX9_digest 18 = .ok (.invokevirtual 238, 3) := by decide +kernel
theorem dX9_digest_21 : decode cX9_digest 21 = .ok (.i2l, 1) := by decide +kernel
theorem dX9_digest_22 : decode cX9_digest 22 = .ok (.invokevirtual 248, 3) := by decide +kernel
theorem dX9_digest_25 : decode cX9_digest 25 = .ok (.iinc 1 1, 3) := by decide +kernel
theorem dX9_digest_28 : decode cX9_digest 28 = .ok (.goto (-19), 3) := by decide +kernel
theorem dX9_digest_31 : decode cX9_digest 31 = .ok (.iconst 0, 1) := by decide +kernel
theorem dX9_digest_32 : decode cX9_digest 32 = .ok (.istore_n 1, 1) := by decide +kernel
theorem dX9_digest_33 : decode cX9_digest 33 = .ok (.iload_n 1, 1) := by decide +kernel
theorem dX9_digest_34 : decode cX9_digest 34 = .ok (.aload_n 0, 1) := by decide +kernel
theorem dX9_digest_35 : decode cX9_digest 35 = .ok (.getfield 7, 3) := by decide +kernel
theorem dX9_digest_38 : decode cX9_digest 38 = .ok (.iconst 0, 1) := by decide +kernel
theorem dX9_digest_39 : decode cX9_digest 39 = .ok (.iaload, 1) := by decide +kernel
theorem dX9_digest_40 : decode cX9_digest 40 = .ok (.if_icmp .ge 34, 3) := by decide +kernel
theorem dX9_digest_43 : decode cX9_digest 43 = .ok (.iconst 0, 1) := by decide +kernel
theorem dX9_digest_44 : decode cX9_digest 44 = .ok (.istore_n 2, 1) := by decide +kernel
theorem dX9_digest_45 : decode cX9_digest 45 = .ok (.iload_n 2, 1) := by decide +kernel
theorem dX9_digest_46 : decode cX9_digest 46 = .ok (.bipush 8, 2) := by decide +kernel
theorem dX9_digest_48 : decode cX9_digest 48 = .ok (.if_icmp .ge 20, 3) := by decide +kernel
theorem dX9_digest_51 : decode cX9_digest 51 = .ok (.aload_n 0, 1) := by decide +kernel
theorem dX9_digest_52 : decode cX9_digest 52 = .ok (.aload_n 0, 1) := by decide +kernel
theorem dX9_digest_53 : decode cX9_digest 53 = .ok (.iload_n 1, 1) := by decide +kernel
theorem dX9_digest_54 : decode cX9_digest 54 = .ok (.iload_n 2, 1) := by decide +kernel
theorem dX9_digest_55 : decode cX9_digest 55 = .ok (.invokevirtual 145, 3) := by decide +kernel
theorem dX9_digest_58 : decode cX9_digest 58 = .ok (.i2l, 1) := by decide +kernel
theorem dX9_digest_59 : decode cX9_digest 59 = .ok (.invokevirtual 248, 3) := by decide +kernel
theorem dX9_digest_62 : decode cX9_digest 62 = .ok (.iinc 2 1, 3) := by decide +kernel
theorem dX9_digest_65 : decode cX9_digest 65 = .ok (.goto (-20), 3) := by decide +kernel
theorem dX9_digest_68 : decode cX9_digest 68 = .ok (.iinc 1 1, 3) := by decide +kernel
theorem dX9_digest_71 : decode cX9_digest 71 = .ok (.goto (-38), 3) := by decide +kernel
theorem dX9_digest_74 : decode cX9_digest 74 = .ok (.iconst 0, 1) := by decide +kernel
theorem dX9_digest_75 : decode cX9_digest 75 = .ok (.istore_n 1, 1) := by decide +kernel
theorem dX9_digest_76 : decode cX9_digest 76 = .ok (.iload_n 1, 1) := by decide +kernel
theorem dX9_digest_77 : decode cX9_digest 77 = .ok (.iconst 3, 1) := by decide +kernel
theorem dX9_digest_78 : decode cX9_digest 78 = .ok (.if_icmp .ge 20, 3) := by decide +kernel
theorem dX9_digest_81 : decode cX9_digest 81 = .ok (.aload_n 0, 1) := by decide +kernel
theorem dX9_digest_82 : decode cX9_digest 82 = .ok (.aload_n 0, 1) := by decide +kernel
theorem dX9_digest_83 : decode cX9_digest 83 = .ok (.getfield 13, 3) := by decide +kernel
theorem dX9_digest_86 : decode cX9_digest 86 = .ok (.iload_n 1, 1) := by decide +kernel
theorem dX9_digest_87 : decode cX9_digest 87 = .ok (.iaload, 1) := by decide +kernel
theorem dX9_digest_88 : decode cX9_digest 88 = .ok (.i2l, 1) := by decide +kernel
theorem dX9_digest_89 : decode cX9_digest 89 = .ok (.invokevirtual 248, 3) := by decide +kernel
theorem dX9_digest_92 : decode cX9_digest 92 = .ok (.iinc 1 1, 3) := by decide +kernel
theorem dX9_digest_95 : decode cX9_digest 95 = .ok (.goto (-19), 3) := by decide +kernel
theorem dX9_digest_98 : decode cX9_digest 98 = .ok (.iconst 0, 1) := by decide +kernel
theorem dX9_digest_99 : decode cX9_digest 99 = .ok (.istore_n 1, 1) := by decide +kernel
theorem dX9_digest_100 : decode cX9_digest 100 = .ok (.iload_n 1, 1) := by decide +kernel
theorem dX9_digest_101 : decode cX9_digest 101 = .ok (.bipush 6, 2) := by decide +kernel
theorem dX9_digest_103 : decode cX9_digest 103 = .ok (.if_icmp .ge 54, 3) := by decide +kernel
theorem dX9_digest_106 : decode cX9_digest 106 = .ok (.aload_n 0, 1) := by decide +kernel
theorem dX9_digest_107 : decode cX9_digest 107 = .ok (.aload_n 0, 1) := by decide +kernel
theorem dX9_digest_108 : decode cX9_digest 108 = .ok (.getfield 19, 3) := by decide +kernel
theorem dX9_digest_111 : decode cX9_digest 111 = .ok (.iload_n 1, 1) := by decide +kernel
theorem dX9_digest_112 : decode cX9_digest 112 = .ok (.iaload, 1) := by decide +kernel
theorem dX9_digest_113 : decode cX9_digest 113 = .ok (.i2l, 1) := by decide +kernel
theorem dX9_digest_114 : decode cX9_digest 114 = .ok (.invokevirtual 248, 3) := by decide +kernel
theorem dX9_digest_117 : decode cX9_digest 117 = .ok (.iconst 0, 1) := by decide +kernel
theorem dX9_digest_118 : decode cX9_digest 118 = .ok (.istore_n 2, 1) := by decide +kernel
theorem dX9_digest_119 : decode cX9_digest 119 = .ok (.iload_n 2, 1) := by decide +kernel
theorem dX9_digest_120 : decode cX9_digest 120 = .ok (.aload_n 0, 1) := by decide +kernel
theorem dX9_digest_121 : decode cX9_digest 121 = .ok (.getfield 19, 3) := by decide +kernel
theorem dX9_digest_124 : decode cX9_digest 124 = .ok (.iload_n 1, 1) := by decide +kernel
theorem dX9_digest_125 : decode cX9_digest 125 = .ok (.iaload, 1) := by decide +kernel
theorem dX9_digest_126 : decode cX9_digest 126 = .ok (.if_icmp .ge 25, 3) := by decide +kernel
theorem dX9_digest_129 : decode cX9_digest 129 = .ok (.aload_n 0, 1) := by decide +kernel
theorem dX9_digest_130 : decode cX9_digest 130 = .ok (.aload_n 0, 1) := by decide +kernel
theorem dX9_digest_131 : decode cX9_digest 131 = .ok (.getfield 16, 3) := by decide +kernel
theorem dX9_digest_134 : decode cX9_digest 134 = .ok (.bipush 40, 2) := by decide +kernel
theorem dX9_digest_136 : decode cX9_digest 136 = .ok (.iload_n 1, 1) := by decide +kernel
theorem dX9_digest_137 : decode cX9_digest 137 = .ok (.imul, 1) := by decide +kernel
theorem dX9_digest_138 : decode cX9_digest 138 = .ok (.iload_n 2, 1) := by decide +kernel
theorem dX9_digest_139 : decode cX9_digest 139 = .ok (.iadd, 1) := by decide +kernel
theorem dX9_digest_140 : decode cX9_digest 140 = .ok (.iaload, 1) := by decide +kernel
theorem dX9_digest_141 : decode cX9_digest 141 = .ok (.i2l, 1) := by decide +kernel
theorem dX9_digest_142 : decode cX9_digest 142 = .ok (.invokevirtual 248, 3) := by decide +kernel
theorem dX9_digest_145 : decode cX9_digest 145 = .ok (.iinc 2 1, 3) := by decide +kernel
theorem dX9_digest_148 : decode cX9_digest 148 = .ok (.goto (-29), 3) := by decide +kernel
theorem dX9_digest_151 : decode cX9_digest 151 = .ok (.iinc 1 1, 3) := by decide +kernel
theorem dX9_digest_154 : decode cX9_digest 154 = .ok (.goto (-54), 3) := by decide +kernel
theorem dX9_digest_157 : decode cX9_digest 157 = .ok (.iconst 0, 1) := by decide +kernel
theorem dX9_digest_158 : decode cX9_digest 158 = .ok (.istore_n 1, 1) := by decide +kernel
theorem dX9_digest_159 : decode cX9_digest 159 = .ok (.iload_n 1, 1) := by decide +kernel
theorem dX9_digest_160 : decode cX9_digest 160 = .ok (.iconst 4, 1) := by decide +kernel
theorem dX9_digest_161 : decode cX9_digest 161 = .ok (.if_icmp .ge 54, 3) := by decide +kernel
theorem dX9_digest_164 : decode cX9_digest 164 = .ok (.aload_n 0, 1) := by decide +kernel
theorem dX9_digest_165 : decode cX9_digest 165 = .ok (.aload_n 0, 1) := by decide +kernel
theorem dX9_digest_166 : decode cX9_digest 166 = .ok (.getfield 25, 3) := by decide +kernel
theorem dX9_digest_169 : decode cX9_digest 169 = .ok (.iload_n 1, 1) := by decide +kernel
theorem dX9_digest_170 : decode cX9_digest 170 = .ok (.iaload, 1) := by decide +kernel
theorem dX9_digest_171 : decode cX9_digest 171 = .ok (.i2l, 1) := by decide +kernel
theorem dX9_digest_172 : decode cX9_digest 172 = .ok (.invokevirtual 248, 3) := by decide +kernel
theorem dX9_digest_175 : decode cX9_digest 175 = .ok (.iconst 0, 1) := by decide +kernel
theorem dX9_digest_176 : decode cX9_digest 176 = .ok (.istore_n 2, 1) := by decide +kernel
theorem dX9_digest_177 : decode cX9_digest 177 = .ok (.iload_n 2, 1) := by decide +kernel
theorem dX9_digest_178 : decode cX9_digest 178 = .ok (.aload_n 0, 1) := by decide +kernel
theorem dX9_digest_179 : decode cX9_digest 179 = .ok (.getfield 25, 3) := by decide +kernel
theorem dX9_digest_182 : decode cX9_digest 182 = .ok (.iload_n 1, 1) := by decide +kernel
theorem dX9_digest_183 : decode cX9_digest 183 = .ok (.iaload, 1) := by decide +kernel
theorem dX9_digest_184 : decode cX9_digest 184 = .ok (.if_icmp .ge 25, 3) := by decide +kernel
theorem dX9_digest_187 : decode cX9_digest 187 = .ok (.aload_n 0, 1) := by decide +kernel
theorem dX9_digest_188 : decode cX9_digest 188 = .ok (.aload_n 0, 1) := by decide +kernel
theorem dX9_digest_189 : decode cX9_digest 189 = .ok (.getfield 22, 3) := by decide +kernel
theorem dX9_digest_192 : decode cX9_digest 192 = .ok (.bipush 60, 2) := by decide +kernel
theorem dX9_digest_194 : decode cX9_digest 194 = .ok (.iload_n 1, 1) := by decide +kernel
theorem dX9_digest_195 : decode cX9_digest 195 = .ok (.imul, 1) := by decide +kernel
theorem dX9_digest_196 : decode cX9_digest 196 = .ok (.iload_n 2, 1) := by decide +kernel
theorem dX9_digest_197 : decode cX9_digest 197 = .ok (.iadd, 1) := by decide +kernel
theorem dX9_digest_198 : decode cX9_digest 198 = .ok (.iaload, 1) := by decide +kernel
theorem dX9_digest_199 : decode cX9_digest 199 = .ok (.i2l, 1) := by decide +kernel
theorem dX9_digest_200 : decode cX9_digest 200 = .ok (.invokevirtual 248, 3) := by decide +kernel
theorem dX9_digest_203 : decode cX9_digest 203 = .ok (.iinc 2 1, 3) := by decide +kernel
theorem dX9_digest_206 : decode cX9_digest 206 = .ok (.goto (-29), 3) := by decide +kernel
theorem dX9_digest_209 : decode cX9_digest 209 = .ok (.iinc 1 1, 3) := by decide +kernel
theorem dX9_digest_212 : decode cX9_digest 212 = .ok (.goto (-53), 3) := by decide +kernel
theorem dX9_digest_215 : decode cX9_digest 215 = .ok (.aload_n 0, 1) := by decide +kernel
theorem dX9_digest_216 : decode cX9_digest 216 = .ok (.getfield 243, 3) := by decide +kernel
theorem dX9_digest_219 : decode cX9_digest 219 = .ok (.lreturn, 1) := by decide +kernel
end
section
theorem dL_law_0 : decode cL_law 0 = .ok (.new 7, 3) := by decide +kernel
theorem dL_law_3 : decode cL_law 3 = .ok (.dup, 1) := by decide +kernel
theorem dL_law_4 : decode cL_law 4 = .ok (.invokespecial 9, 3) := by decide +kernel
theorem dL_law_7 : decode cL_law 7 = .ok (.astore_n 1, 1) := by decide +kernel
theorem dL_law_8 : decode cL_law 8 = .ok (.new 10, 3) := by decide +kernel
theorem dL_law_11 : decode cL_law 11 = .ok (.dup, 1) := by decide +kernel
theorem dL_law_12 : decode cL_law 12 = .ok (.invokespecial 12, 3) := by decide +kernel
theorem dL_law_15 : decode cL_law 15 = .ok (.astore_n 2, 1) := by decide +kernel
theorem dL_law_16 : decode cL_law 16 = .ok (.iconst 0, 1) := by decide +kernel
theorem dL_law_17 : decode cL_law 17 = .ok (.istore_n 3, 1) := by decide +kernel
theorem dL_law_18 : decode cL_law 18 = .ok (.iload_n 3, 1) := by decide +kernel
theorem dL_law_19 : decode cL_law 19 = .ok (.aload_n 0, 1) := by decide +kernel
theorem dL_law_20 : decode cL_law 20 = .ok (.arraylength, 1) := by decide +kernel
theorem dL_law_21 : decode cL_law 21 = .ok (.bipush 6, 2) := by decide +kernel
theorem dL_law_23 : decode cL_law 23 = .ok (.isub, 1) := by decide +kernel
theorem dL_law_24 : decode cL_law 24 = .ok (.if_icmp .gt 1300, 3) := by decide +kernel
theorem dL_law_27 : decode cL_law 27 = .ok (.aload_n 0, 1) := by decide +kernel
theorem dL_law_28 : decode cL_law 28 = .ok (.iload_n 3, 1) := by decide +kernel
theorem dL_law_29 : decode cL_law 29 = .ok (.iaload, 1) := by decide +kernel
theorem dL_law_30 : decode cL_law 30 = .ok (.bipush 63, 2) := by decide +kernel
theorem dL_law_32 : decode cL_law 32 = .ok (.iand, 1) := by decide +kernel
theorem dL_law_33 : decode cL_law 33 = .ok (.tableswitch 1285 0 40 #[179, 212, 255, 288, 311, 374, 397, 430, 473, 496, 519, 552, 585, 618, 631, 654, 677, 710, 733, 756, 779, 812, 835, 868, 901, 924, 947, 960, 993, 1026, 1059, 1082, 1115, 1138, 1171, 1184, 1198, 1212, 1235, 1248, 1271], 179) := by decide +kernel
theorem dL_law_212 : decode cL_law 212 = .ok (.aload_n 1, 1) := by decide +kernel
theorem dL_law_213 : decode cL_law 213 = .ok (.aload_n 0, 1) := by decide +kernel
theorem dL_law_214 : decode cL_law 214 = .ok (.iload_n 3, 1) := by decide +kernel
theorem dL_law_215 : decode cL_law 215 = .ok (.iconst 1, 1) := by decide +kernel
theorem dL_law_216 : decode cL_law 216 = .ok (.iadd, 1) := by decide +kernel
theorem dL_law_217 : decode cL_law 217 = .ok (.iaload, 1) := by decide +kernel
theorem dL_law_218 : decode cL_law 218 = .ok (.aload_n 0, 1) := by decide +kernel
theorem dL_law_219 : decode cL_law 219 = .ok (.iload_n 3, 1) := by decide +kernel
theorem dL_law_220 : decode cL_law 220 = .ok (.iconst 2, 1) := by decide +kernel
theorem dL_law_221 : decode cL_law 221 = .ok (.iadd, 1) := by decide +kernel
theorem dL_law_222 : decode cL_law 222 = .ok (.iaload, 1) := by decide +kernel
theorem dL_law_223 : decode cL_law 223 = .ok (.invokevirtual 13, 3) := by decide +kernel
theorem dL_law_226 : decode cL_law 226 = .ok (.aload_n 2, 1) := by decide +kernel
theorem dL_law_227 : decode cL_law 227 = .ok (.aload_n 0, 1) := by decide +kernel
theorem dL_law_228 : decode cL_law 228 = .ok (.iload_n 3, 1) := by decide +kernel
theorem dL_law_229 : decode cL_law 229 = .ok (.iconst 1, 1) := by decide +kernel
theorem dL_law_230 : decode cL_law 230 = .ok (.iadd, 1) := by decide +kernel
theorem dL_law_231 : decode cL_law 231 = .ok (.iaload, 1) := by decide +kernel
theorem dL_law_232 : decode cL_law 232 = .ok (.aload_n 0, 1) := by decide +kernel
theorem dL_law_233 : decode cL_law 233 = .ok (.iload_n 3, 1) := by decide +kernel
theorem dL_law_234 : decode cL_law 234 = .ok (.iconst 2, 1) := by decide +kernel
theorem dL_law_235 : decode cL_law 235 = .ok (.iadd, 1) := by decide +kernel
theorem dL_law_236 : decode cL_law 236 = .ok (.iaload, 1) := by decide +kernel
theorem dL_law_237 : decode cL_law 237 = .ok (.invokevirtual 17, 3) := by decide +kernel
theorem dL_law_240 : decode cL_law 240 = .ok (.if_icmp .eq 1078, 3) := by decide +kernel
theorem dL_law_243 : decode cL_law 243 = .ok (.iconst 0, 1) := by decide +kernel
theorem dL_law_244 : decode cL_law 244 = .ok (.ireturn, 1) := by decide +kernel
theorem dL_law_245 : decode cL_law 245 = .ok (.aload_n 1, 1) := by decide +kernel
theorem dL_law_246 : decode cL_law 246 = .ok (.aload_n 0, 1) := by decide +kernel
theorem dL_law_247 : decode cL_law 247 = .ok (.iload_n 3, 1) := by decide +kernel
theorem dL_law_248 : decode cL_law 248 = .ok (.iconst 1, 1) := by decide +kernel
theorem dL_law_249 : decode cL_law 249 = .ok (.iadd, 1) := by decide +kernel
theorem dL_law_250 : decode cL_law 250 = .ok (.iaload, 1) := by decide +kernel
theorem dL_law_251 : decode cL_law 251 = .ok (.aload_n 0, 1) := by decide +kernel
theorem dL_law_252 : decode cL_law 252 = .ok (.iload_n 3, 1) := by decide +kernel
theorem dL_law_253 : decode cL_law 253 = .ok (.iconst 2, 1) := by decide +kernel
theorem dL_law_254 : decode cL_law 254 = .ok (.iadd, 1) := by decide +kernel
theorem dL_law_255 : decode cL_law 255 = .ok (.iaload, 1) := by decide +kernel
theorem dL_law_256 : decode cL_law 256 = .ok (.aload_n 0, 1) := by decide +kernel
theorem dL_law_257 : decode cL_law 257 = .ok (.iload_n 3, 1) := by decide +kernel
theorem dL_law_258 : decode cL_law 258 = .ok (.iconst 3, 1) := by decide +kernel
theorem dL_law_259 : decode cL_law 259 = .ok (.iadd, 1) := by decide +kernel
theorem dL_law_260 : decode cL_law 260 = .ok (.iaload, 1) := by decide +kernel
theorem dL_law_261 : decode cL_law 261 = .ok (.invokevirtual 18, 3) := by decide +kernel
theorem dL_law_264 : decode cL_law 264 = .ok (.aload_n 2, 1) := by decide +kernel
theorem dL_law_265 : decode cL_law 265 = .ok (.aload_n 0, 1) := by decide +kernel
theorem dL_law_266 : decode cL_law 266 = .ok (.iload_n 3, 1) := by decide +kernel
theorem dL_law_267 : decode cL_law 267 = .ok (.iconst 1, 1) := by decide +kernel
theorem dL_law_268 : decode cL_law 268 = .ok (.iadd, 1) := by decide +kernel
theorem dL_law_269 : decode cL_law 269 = .ok (.iaload, 1) := by decide +kernel
theorem dL_law_270 : decode cL_law 270 = .ok (.aload_n 0, 1) := by decide +kernel
theorem dL_law_271 : decode cL_law 271 = .ok (.iload_n 3, 1) := by decide +kernel
theorem dL_law_272 : decode cL_law 272 = .ok (.iconst 2, 1) := by decide +kernel
theorem dL_law_273 : decode cL_law 273 = .ok (.iadd, 1) := by decide +kernel
theorem dL_law_274 : decode cL_law 274 = .ok (.iaload, 1) := by decide +kernel
theorem dL_law_275 : decode cL_law 275 = .ok (.aload_n 0, 1) := by decide +kernel
theorem dL_law_276 : decode cL_law 276 = .ok (.iload_n 3, 1) := by decide +kernel
theorem dL_law_277 : decode cL_law 277 = .ok (.iconst 3, 1) := by decide +kernel
theorem dL_law_278 : decode cL_law 278 = .ok (.iadd, 1) := by decide +kernel
theorem dL_law_279 : decode cL_law 279 = .ok (.iaload, 1) := by decide +kernel
theorem dL_law_280 : decode cL_law 280 = .ok (.invokevirtual 22, 3) := by decide +kernel
theorem dL_law_283 : decode cL_law 283 = .ok (.if_icmp .eq 1035, 3) := by decide +kernel
theorem dL_law_286 : decode cL_law 286 = .ok (.iconst 0, 1) := by decide +kernel
theorem dL_law_287 : decode cL_law 287 = .ok (.ireturn, 1) := by decide +kernel
theorem dL_law_288 : decode cL_law 288 = .ok (.aload_n 1, 1) := by decide +kernel
theorem dL_law_289 : decode cL_law 289 = .ok (.aload_n 0, 1) := by decide +kernel
theorem dL_law_290 : decode cL_law 290 = .ok (.iload_n 3, 1) := by decide +kernel
theorem dL_law_291 : decode cL_law 291 = .ok (.iconst 1, 1) := by decide +kernel
theorem dL_law_292 : decode cL_law 292 = .ok (.iadd, 1) := by decide +kernel
theorem dL_law_293 : decode cL_law 293 = .ok (.iaload, 1) := by decide +kernel
theorem dL_law_294 : decode cL_law 294 = .ok (.aload_n 0, 1) := by decide +kernel
theorem dL_law_295 : decode cL_law 295 = .ok (.iload_n 3, 1) := by decide +kernel
theorem dL_law_296 : decode cL_law 296 = .ok (.iconst 2, 1) := by decide +kernel
theorem dL_law_297 : decode cL_law 297 = .ok (.iadd, 1) := by decide +kernel
theorem dL_law_298 : decode cL_law 298 = .ok (.iaload, 1) := by decide +kernel
theorem dL_law_299 : decode cL_law 299 = .ok (.invokevirtual 23, 3) := by decide +kernel
theorem dL_law_302 : decode cL_law 302 = .ok (.aload_n 2, 1) := by decide +kernel
theorem dL_law_303 : decode cL_law 303 = .ok (.aload_n 0, 1) := by decide +kernel
theorem dL_law_304 : decode cL_law 304 = .ok (.iload_n 3, 1) := by decide +kernel
theorem dL_law_305 : decode cL_law 305 = .ok (.iconst 1, 1) := by decide +kernel
theorem dL_law_306 : decode cL_law 306 = .ok (.iadd, 1) := by decide +kernel
theorem dL_law_307 : decode cL_law 307 = .ok (.iaload, 1) := by decide +kernel
theorem dL_law_308 : decode cL_law 308 = .ok (.aload_n 0, 1) := by decide +kernel
theorem dL_law_309 : decode cL_law 309 = .ok (.iload_n 3, 1) := by decide +kernel
theorem dL_law_310 : decode cL_law 310 = .ok (.iconst 2, 1) := by decide +kernel
theorem dL_law_311 : decode cL_law 311 = .ok (.iadd, 1) := by decide +kernel
theorem dL_law_312 : decode cL_law 312 = .ok (.iaload, 1) := by decide +kernel
theorem dL_law_313 : decode cL_law 313 = .ok (.invokevirtual 26, 3) := by decide +kernel
theorem dL_law_316 : decode cL_law 316 = .ok (.if_icmp .eq 1002, 3) := by decide +kernel
theorem dL_law_319 : decode cL_law 319 = .ok (.iconst 0, 1) := by decide +kernel
theorem dL_law_320 : decode cL_law 320 = .ok (.ireturn, 1) := by decide +kernel
theorem dL_law_321 : decode cL_law 321 = .ok (.aload_n 1, 1) := by decide +kernel
theorem dL_law_322 : decode cL_law 322 = .ok (.aload_n 0, 1) := by decide +kernel
theorem dL_law_323 : decode cL_law 323 = .ok (.iload_n 3, 1) := by decide +kernel
theorem dL_law_324 : decode cL_law 324 = .ok (.iconst 1, 1) := by decide +kernel
theorem dL_law_325 : decode cL_law 325 = .ok (.iadd, 1) := by decide +kernel
theorem dL_law_326 : decode cL_law 326 = .ok (.iaload, 1) := by decide +kernel
theorem dL_law_327 : decode cL_law 327 = .ok (.invokevirtual 27, 3) := by decide +kernel
theorem dL_law_330 : decode cL_law 330 = .ok (.aload_n 2, 1) := by decide +kernel
theorem dL_law_331 : decode cL_law 331 = .ok (.aload_n 0, 1) := by decide +kernel
theorem dL_law_332 : decode cL_law 332 = .ok (.iload_n 3, 1) := by decide +kernel
theorem dL_law_333 : decode cL_law 333 = .ok (.iconst 1, 1) := by decide +kernel
theorem dL_law_334 : decode cL_law 334 = .ok (.iadd, 1) := by decide +kernel
theorem dL_law_335 : decode cL_law 335 = .ok (.iaload, 1) := by decide +kernel
theorem dL_law_336 : decode cL_law 336 = .ok (.invokevirtual 31, 3) := by decide +kernel
theorem dL_law_339 : decode cL_law 339 = .ok (.if_icmp .eq 979, 3) := by decide +kernel
theorem dL_law_342 : decode cL_law 342 = .ok (.iconst 0, 1) := by decide +kernel
theorem dL_law_343 : decode cL_law 343 = .ok (.ireturn, 1) := by decide +kernel
theorem dL_law_344 : decode cL_law 344 = .ok (.aload_n 1, 1) := by decide +kernel
theorem dL_law_345 : decode cL_law 345 = .ok (.aload_n 0, 1) := by decide +kernel
theorem dL_law_346 : decode cL_law 346 = .ok (.iload_n 3, 1) := by decide +kernel
theorem dL_law_347 : decode cL_law 347 = .ok (.iconst 1, 1) := by decide +kernel
theorem dL_law_348 : decode cL_law 348 = .ok (.iadd, 1) := by decide +kernel
theorem dL_law_349 : decode cL_law 349 = .ok (.iaload, 1) := by decide +kernel
theorem dL_law_350 : decode cL_law 350 = .ok (.aload_n 0, 1) := by decide +kernel
theorem dL_law_351 : decode cL_law 351 = .ok (.iload_n 3, 1) := by decide +kernel
theorem dL_law_352 : decode cL_law 352 = .ok (.iconst 2, 1) := by decide +kernel
theorem dL_law_353 : decode cL_law 353 = .ok (.iadd, 1) := by decide +kernel
theorem dL_law_354 : decode cL_law 354 = .ok (.iaload, 1) := by decide +kernel
theorem dL_law_355 : decode cL_law 355 = .ok (.aload_n 0, 1) := by decide +kernel
theorem dL_law_356 : decode cL_law 356 = .ok (.iload_n 3, 1) := by decide +kernel
theorem dL_law_357 : decode cL_law 357 = .ok (.iconst 3, 1) := by decide +kernel
theorem dL_law_358 : decode cL_law 358 = .ok (.iadd, 1) := by decide +kernel
theorem dL_law_359 : decode cL_law 359 = .ok (.iaload, 1) := by decide +kernel
theorem dL_law_360 : decode cL_law 360 = .ok (.aload_n 0, 1) := by decide +kernel
theorem dL_law_361 : decode cL_law 361 = .ok (.iload_n 3, 1) := by decide +kernel
theorem dL_law_362 : decode cL_law 362 = .ok (.iconst 4, 1) := by decide +kernel
theorem dL_law_363 : decode cL_law 363 = .ok (.iadd, 1) := by decide +kernel
theorem dL_law_364 : decode cL_law 364 = .ok (.iaload, 1) := by decide +kernel
theorem dL_law_365 : decode cL_law 365 = .ok (.aload_n 0, 1) := by decide +kernel
theorem dL_law_366 : decode cL_law 366 = .ok (.iload_n 3, 1) := by decide +kernel
theorem dL_law_367 : decode cL_law 367 = .ok (.iconst 5, 1) := by decide +kernel
theorem dL_law_368 : decode cL_law 368 = .ok (.iadd, 1) := by decide +kernel
theorem dL_law_369 : decode cL_law 369 = .ok (.iaload, 1) := by decide +kernel
theorem dL_law_370 : decode cL_law 370 = .ok (.invokevirtual 32, 3) := by decide +kernel
theorem dL_law_373 : decode cL_law 373 = .ok (.aload_n 2, 1) := by decide +kernel
theorem dL_law_374 : decode cL_law 374 = .ok (.aload_n 0, 1) := by decide +kernel
theorem dL_law_375 : decode cL_law 375 = .ok (.iload_n 3, 1) := by decide +kernel
theorem dL_law_376 : decode cL_law 376 = .ok (.iconst 1, 1) := by decide +kernel
theorem dL_law_377 : decode cL_law 377 = .ok (.iadd, 1) := by decide +kernel
theorem dL_law_378 : decode cL_law 378 = .ok (.iaload, 1) := by decide +kernel
theorem dL_law_379 : decode cL_law 379 = .ok (.aload_n 0, 1) := by decide +kernel
theorem dL_law_380 : decode cL_law 380 = .ok (.iload_n 3, 1) := by decide +kernel
theorem dL_law_381 : decode cL_law 381 = .ok (.iconst 2, 1) := by decide +kernel
theorem dL_law_382 : decode cL_law 382 = .ok (.iadd, 1) := by decide +kernel
theorem dL_law_383 : decode cL_law 383 = .ok (.iaload, 1) := by decide +kernel
theorem dL_law_384 : decode cL_law 384 = .ok (.aload_n 0, 1) := by decide +kernel
theorem dL_law_385 : decode cL_law 385 = .ok (.iload_n 3, 1) := by decide +kernel
theorem dL_law_386 : decode cL_law 386 = .ok (.iconst 3, 1) := by decide +kernel
theorem dL_law_387 : decode cL_law 387 = .ok (.iadd, 1) := by decide +kernel
theorem dL_law_388 : decode cL_law 388 = .ok (.iaload, 1) := by decide +kernel
theorem dL_law_389 : decode cL_law 389 = .ok (.aload_n 0, 1) := by decide +kernel
theorem dL_law_390 : decode cL_law 390 = .ok (.iload_n 3, 1) := by decide +kernel
theorem dL_law_391 : decode cL_law 391 = .ok (.iconst 4, 1) := by decide +kernel
theorem dL_law_392 : decode cL_law 392 = .ok (.iadd, 1) := by decide +kernel
theorem dL_law_393 : decode cL_law 393 = .ok (.iaload, 1) := by decide +kernel
theorem dL_law_394 : decode cL_law 394 = .ok (.aload_n 0, 1) := by decide +kernel
theorem dL_law_395 : decode cL_law 395 = .ok (.iload_n 3, 1) := by decide +kernel
theorem dL_law_396 : decode cL_law 396 = .ok (.iconst 5, 1) := by decide +kernel
theorem dL_law_397 : decode cL_law 397 = .ok (.iadd, 1) := by decide +kernel
theorem dL_law_398 : decode cL_law 398 = .ok (.iaload, 1) := by decide +kernel
theorem dL_law_399 : decode cL_law 399 = .ok (.invokevirtual 36, 3) := by decide +kernel
theorem dL_law_402 : decode cL_law 402 = .ok (.if_icmp .eq 916, 3) := by decide +kernel
theorem dL_law_405 : decode cL_law 405 = .ok (.iconst 0, 1) := by decide +kernel
theorem dL_law_406 : decode cL_law 406 = .ok (.ireturn, 1) := by decide +kernel
theorem dL_law_407 : decode cL_law 407 = .ok (.aload_n 1, 1) := by decide +kernel
theorem dL_law_408 : decode cL_law 408 = .ok (.aload_n 0, 1) := by decide +kernel
theorem dL_law_409 : decode cL_law 409 = .ok (.iload_n 3, 1) := by decide +kernel
theorem dL_law_410 : decode cL_law 410 = .ok (.iconst 1, 1) := by decide +kernel
theorem dL_law_411 : decode cL_law 411 = .ok (.iadd, 1) := by decide +kernel
theorem dL_law_412 : decode cL_law 412 = .ok (.iaload, 1) := by decide +kernel
theorem dL_law_413 : decode cL_law 413 = .ok (.invokevirtual 37, 3) := by decide +kernel
theorem dL_law_416 : decode cL_law 416 = .ok (.aload_n 2, 1) := by decide +kernel
theorem dL_law_417 : decode cL_law 417 = .ok (.aload_n 0, 1) := by decide +kernel
theorem dL_law_418 : decode cL_law 418 = .ok (.iload_n 3, 1) := by decide +kernel
theorem dL_law_419 : decode cL_law 419 = .ok (.iconst 1, 1) := by decide +kernel
theorem dL_law_420 : decode cL_law 420 = .ok (.iadd, 1) := by decide +kernel
theorem dL_law_421 : decode cL_law 421 = .ok (.iaload, 1) := by decide +kernel
theorem dL_law_422 : decode cL_law 422 = .ok (.invokevirtual 40, 3) := by decide +kernel
theorem dL_law_425 : decode cL_law 425 = .ok (.if_icmp .eq 893, 3) := by decide +kernel
theorem dL_law_428 : decode cL_law 428 = .ok (.iconst 0, 1) := by decide +kernel
theorem dL_law_429 : decode cL_law 429 = .ok (.ireturn, 1) := by decide +kernel
theorem dL_law_430 : decode cL_law 430 = .ok (.aload_n 1, 1) := by decide +kernel
theorem dL_law_431 : decode cL_law 431 = .ok (.aload_n 0, 1) := by decide +kernel
theorem dL_law_432 : decode cL_law 432 = .ok (.iload_n 3, 1) := by decide +kernel
theorem dL_law_433 : decode cL_law 433 = .ok (.iconst 1, 1) := by decide +kernel
theorem dL_law_434 : decode cL_law 434 = .ok (.iadd, 1) := by decide +kernel
theorem dL_law_435 : decode cL_law 435 = .ok (.iaload, 1) := by decide +kernel
theorem dL_law_436 : decode cL_law 436 = .ok (.aload_n 0, 1) := by decide +kernel
theorem dL_law_437 : decode cL_law 437 = .ok (.iload_n 3, 1) := by decide +kernel
theorem dL_law_438 : decode cL_law 438 = .ok (.iconst 2, 1) := by decide +kernel
theorem dL_law_439 : decode cL_law 439 = .ok (.iadd, 1) := by decide +kernel
theorem dL_law_440 : decode cL_law 440 = .ok (.iaload, 1) := by decide +kernel
theorem dL_law_441 : decode cL_law 441 = .ok (.invokevirtual 41, 3) := by decide +kernel
theorem dL_law_444 : decode cL_law 444 = .ok (.aload_n 2, 1) := by decide +kernel
theorem dL_law_445 : decode cL_law 445 = .ok (.aload_n 0, 1) := by decide +kernel
theorem dL_law_446 : decode cL_law 446 = .ok (.iload_n 3, 1) := by decide +kernel
theorem dL_law_447 : decode cL_law 447 = .ok (.iconst 1, 1) := by decide +kernel
theorem dL_law_448 : decode cL_law 448 = .ok (.iadd, 1) := by decide +kernel
theorem dL_law_449 : decode cL_law 449 = .ok (.iaload, 1) := by decide +kernel
theorem dL_law_450 : decode cL_law 450 = .ok (.aload_n 0, 1) := by decide +kernel
theorem dL_law_451 : decode cL_law 451 = .ok (.iload_n 3, 1) := by decide +kernel
theorem dL_law_452 : decode cL_law 452 = .ok (.iconst 2, 1) := by decide +kernel
theorem dL_law_453 : decode cL_law 453 = .ok (.iadd, 1) := by decide +kernel
theorem dL_law_454 : decode cL_law 454 = .ok (.iaload, 1) := by decide +kernel
theorem dL_law_455 : decode cL_law 455 = .ok (.invokevirtual 44, 3) := by decide +kernel
theorem dL_law_458 : decode cL_law 458 = .ok (.if_icmp .eq 860, 3) := by decide +kernel
theorem dL_law_461 : decode cL_law 461 = .ok (.iconst 0, 1) := by decide +kernel
theorem dL_law_462 : decode cL_law 462 = .ok (.ireturn, 1) := by decide +kernel
theorem dL_law_463 : decode cL_law 463 = .ok (.aload_n 1, 1) := by decide +kernel
theorem dL_law_464 : decode cL_law 464 = .ok (.aload_n 0, 1) := by decide +kernel
theorem dL_law_465 : decode cL_law 465 = .ok (.iload_n 3, 1) := by decide +kernel
theorem dL_law_466 : decode cL_law 466 = .ok (.iconst 1, 1) := by decide +kernel
theorem dL_law_467 : decode cL_law 467 = .ok (.iadd, 1) := by decide +kernel
theorem dL_law_468 : decode cL_law 468 = .ok (.iaload, 1) := by decide +kernel
theorem dL_law_469 : decode cL_law 469 = .ok (.aload_n 0, 1) := by decide +kernel
theorem dL_law_470 : decode cL_law 470 = .ok (.iload_n 3, 1) := by decide +kernel
theorem dL_law_471 : decode cL_law 471 = .ok (.iconst 2, 1) := by decide +kernel
theorem dL_law_472 : decode cL_law 472 = .ok (.iadd, 1) := by decide +kernel
theorem dL_law_473 : decode cL_law 473 = .ok (.iaload, 1) := by decide +kernel
theorem dL_law_474 : decode cL_law 474 = .ok (.aload_n 0, 1) := by decide +kernel
theorem dL_law_475 : decode cL_law 475 = .ok (.iload_n 3, 1) := by decide +kernel
theorem dL_law_476 : decode cL_law 476 = .ok (.iconst 3, 1) := by decide +kernel
theorem dL_law_477 : decode cL_law 477 = .ok (.iadd, 1) := by decide +kernel
theorem dL_law_478 : decode cL_law 478 = .ok (.iaload, 1) := by decide +kernel
theorem dL_law_479 : decode cL_law 479 = .ok (.invokevirtual 45, 3) := by decide +kernel
theorem dL_law_482 : decode cL_law 482 = .ok (.aload_n 2, 1) := by decide +kernel
theorem dL_law_483 : decode cL_law 483 = .ok (.aload_n 0, 1) := by decide +kernel
theorem dL_law_484 : decode cL_law 484 = .ok (.iload_n 3, 1) := by decide +kernel
theorem dL_law_485 : decode cL_law 485 = .ok (.iconst 1, 1) := by decide +kernel
theorem dL_law_486 : decode cL_law 486 = .ok (.iadd, 1) := by decide +kernel
theorem dL_law_487 : decode cL_law 487 = .ok (.iaload, 1) := by decide +kernel
theorem dL_law_488 : decode cL_law 488 = .ok (.aload_n 0, 1) := by decide +kernel
theorem dL_law_489 : decode cL_law 489 = .ok (.iload_n 3, 1) := by decide +kernel
theorem dL_law_490 : decode cL_law 490 = .ok (.iconst 2, 1) := by decide +kernel
theorem dL_law_491 : decode cL_law 491 = .ok (.iadd, 1) := by decide +kernel
theorem dL_law_492 : decode cL_law 492 = .ok (.iaload, 1) := by decide +kernel
theorem dL_law_493 : decode cL_law 493 = .ok (.aload_n 0, 1) := by decide +kernel
theorem dL_law_494 : decode cL_law 494 = .ok (.iload_n 3, 1) := by decide +kernel
theorem dL_law_495 : decode cL_law 495 = .ok (.iconst 3, 1) := by decide +kernel
theorem dL_law_496 : decode cL_law 496 = .ok (.iadd, 1) := by decide +kernel
theorem dL_law_497 : decode cL_law 497 = .ok (.iaload, 1) := by decide +kernel
theorem dL_law_498 : decode cL_law 498 = .ok (.invokevirtual 48, 3) := by decide +kernel
theorem dL_law_501 : decode cL_law 501 = .ok (.if_icmp .eq 817, 3) := by decide +kernel
theorem dL_law_504 : decode cL_law 504 = .ok (.iconst 0, 1) := by decide +kernel
theorem dL_law_505 : decode cL_law 505 = .ok (.ireturn, 1) := by decide +kernel
theorem dL_law_506 : decode cL_law 506 = .ok (.aload_n 1, 1) := by decide +kernel
theorem dL_law_507 : decode cL_law 507 = .ok (.aload_n 0, 1) := by decide +kernel
theorem dL_law_508 : decode cL_law 508 = .ok (.iload_n 3, 1) := by decide +kernel
theorem dL_law_509 : decode cL_law 509 = .ok (.iconst 1, 1) := by decide +kernel
theorem dL_law_510 : decode cL_law 510 = .ok (.iadd, 1) := by decide +kernel
theorem dL_law_511 : decode cL_law 511 = .ok (.iaload, 1) := by decide +kernel
theorem dL_law_512 : decode cL_law 512 = .ok (.invokevirtual 49, 3) := by decide +kernel
theorem dL_law_515 : decode cL_law 515 = .ok (.aload_n 2, 1) := by decide +kernel
theorem dL_law_516 : decode cL_law 516 = .ok (.aload_n 0, 1) := by decide +kernel
theorem dL_law_517 : decode cL_law 517 = .ok (.iload_n 3, 1) := by decide +kernel
theorem dL_law_518 : decode cL_law 518 = .ok (.iconst 1, 1) := by decide +kernel
theorem dL_law_519 : decode cL_law 519 = .ok (.iadd, 1) := by decide +kernel
theorem dL_law_520 : decode cL_law 520 = .ok (.iaload, 1) := by decide +kernel
theorem dL_law_521 : decode cL_law 521 = .ok (.invokevirtual 52, 3) := by decide +kernel
theorem dL_law_524 : decode cL_law 524 = .ok (.if_icmp .eq 794, 3) := by decide +kernel
theorem dL_law_527 : decode cL_law 527 = .ok (.iconst 0, 1) := by decide +kernel
theorem dL_law_528 : decode cL_law 528 = .ok (.ireturn, 1) := by decide +kernel
theorem dL_law_529 : decode cL_law 529 = .ok (.aload_n 1, 1) := by decide +kernel
theorem dL_law_530 : decode cL_law 530 = .ok (.aload_n 0, 1) := by decide +kernel
theorem dL_law_531 : decode cL_law 531 = .ok (.iload_n 3, 1) := by decide +kernel
theorem dL_law_532 : decode cL_law 532 = .ok (.iconst 1, 1) := by decide +kernel
theorem dL_law_533 : decode cL_law 533 = .ok (.iadd, 1) := by decide +kernel
theorem dL_law_534 : decode cL_law 534 = .ok (.iaload, 1) := by decide +kernel
theorem dL_law_535 : decode cL_law 535 = .ok (.invokevirtual 53, 3) := by decide +kernel
theorem dL_law_538 : decode cL_law 538 = .ok (.aload_n 2, 1) := by decide +kernel
theorem dL_law_539 : decode cL_law 539 = .ok (.aload_n 0, 1) := by decide +kernel
theorem dL_law_540 : decode cL_law 540 = .ok (.iload_n 3, 1) := by decide +kernel
theorem dL_law_541 : decode cL_law 541 = .ok (.iconst 1, 1) := by decide +kernel
theorem dL_law_542 : decode cL_law 542 = .ok (.iadd, 1) := by decide +kernel
theorem dL_law_543 : decode cL_law 543 = .ok (.iaload, 1) := by decide +kernel
theorem dL_law_544 : decode cL_law 544 = .ok (.invokevirtual 56, 3) := by decide +kernel
theorem dL_law_547 : decode cL_law 547 = .ok (.if_icmp .eq 771, 3) := by decide +kernel
theorem dL_law_550 : decode cL_law 550 = .ok (.iconst 0, 1) := by decide +kernel
theorem dL_law_551 : decode cL_law 551 = .ok (.ireturn, 1) := by decide +kernel
theorem dL_law_552 : decode cL_law 552 = .ok (.aload_n 1, 1) := by decide +kernel
theorem dL_law_553 : decode cL_law 553 = .ok (.aload_n 0, 1) := by decide +kernel
theorem dL_law_554 : decode cL_law 554 = .ok (.iload_n 3, 1) := by decide +kernel
theorem dL_law_555 : decode cL_law 555 = .ok (.iconst 1, 1) := by decide +kernel
theorem dL_law_556 : decode cL_law 556 = .ok (.iadd, 1) := by decide +kernel
theorem dL_law_557 : decode cL_law 557 = .ok (.iaload, 1) := by decide +kernel
theorem dL_law_558 : decode cL_law 558 = .ok (.aload_n 0, 1) := by decide +kernel
theorem dL_law_559 : decode cL_law 559 = .ok (.iload_n 3, 1) := by decide +kernel
theorem dL_law_560 : decode cL_law 560 = .ok (.iconst 2, 1) := by decide +kernel
theorem dL_law_561 : decode cL_law 561 = .ok (.iadd, 1) := by decide +kernel
theorem dL_law_562 : decode cL_law 562 = .ok (.iaload, 1) := by decide +kernel
theorem dL_law_563 : decode cL_law 563 = .ok (.invokevirtual 57, 3) := by decide +kernel
theorem dL_law_566 : decode cL_law 566 = .ok (.aload_n 2, 1) := by decide +kernel
theorem dL_law_567 : decode cL_law 567 = .ok (.aload_n 0, 1) := by decide +kernel
theorem dL_law_568 : decode cL_law 568 = .ok (.iload_n 3, 1) := by decide +kernel
theorem dL_law_569 : decode cL_law 569 = .ok (.iconst 1, 1) := by decide +kernel
theorem dL_law_570 : decode cL_law 570 = .ok (.iadd, 1) := by decide +kernel
theorem dL_law_571 : decode cL_law 571 = .ok (.iaload, 1) := by decide +kernel
theorem dL_law_572 : decode cL_law 572 = .ok (.aload_n 0, 1) := by decide +kernel
theorem dL_law_573 : decode cL_law 573 = .ok (.iload_n 3, 1) := by decide +kernel
theorem dL_law_574 : decode cL_law 574 = .ok (.iconst 2, 1) := by decide +kernel
theorem dL_law_575 : decode cL_law 575 = .ok (.iadd, 1) := by decide +kernel
theorem dL_law_576 : decode cL_law 576 = .ok (.iaload, 1) := by decide +kernel
theorem dL_law_577 : decode cL_law 577 = .ok (.invokevirtual 60, 3) := by decide +kernel
theorem dL_law_580 : decode cL_law 580 = .ok (.if_icmp .eq 738, 3) := by decide +kernel
theorem dL_law_583 : decode cL_law 583 = .ok (.iconst 0, 1) := by decide +kernel
theorem dL_law_584 : decode cL_law 584 = .ok (.ireturn, 1) := by decide +kernel
theorem dL_law_585 : decode cL_law 585 = .ok (.aload_n 1, 1) := by decide +kernel
theorem dL_law_586 : decode cL_law 586 = .ok (.aload_n 0, 1) := by decide +kernel
theorem dL_law_587 : decode cL_law 587 = .ok (.iload_n 3, 1) := by decide +kernel
theorem dL_law_588 : decode cL_law 588 = .ok (.iconst 1, 1) := by decide +kernel
theorem dL_law_589 : decode cL_law 589 = .ok (.iadd, 1) := by decide +kernel
theorem dL_law_590 : decode cL_law 590 = .ok (.iaload, 1) := by decide +kernel
theorem dL_law_591 : decode cL_law 591 = .ok (.aload_n 0, 1) := by decide +kernel
theorem dL_law_592 : decode cL_law 592 = .ok (.iload_n 3, 1) := by decide +kernel
theorem dL_law_593 : decode cL_law 593 = .ok (.iconst 2, 1) := by decide +kernel
theorem dL_law_594 : decode cL_law 594 = .ok (.iadd, 1) := by decide +kernel
theorem dL_law_595 : decode cL_law 595 = .ok (.iaload, 1) := by decide +kernel
theorem dL_law_596 : decode cL_law 596 = .ok (.invokevirtual 61, 3) := by decide +kernel
theorem dL_law_599 : decode cL_law 599 = .ok (.aload_n 2, 1) := by decide +kernel
theorem dL_law_600 : decode cL_law 600 = .ok (.aload_n 0, 1) := by decide +kernel
theorem dL_law_601 : decode cL_law 601 = .ok (.iload_n 3, 1) := by decide +kernel
theorem dL_law_602 : decode cL_law 602 = .ok (.iconst 1, 1) := by decide +kernel
theorem dL_law_603 : decode cL_law 603 = .ok (.iadd, 1) := by decide +kernel
theorem dL_law_604 : decode cL_law 604 = .ok (.iaload, 1) := by decide +kernel
theorem dL_law_605 : decode cL_law 605 = .ok (.aload_n 0, 1) := by decide +kernel
theorem dL_law_606 : decode cL_law 606 = .ok (.iload_n 3, 1) := by decide +kernel
theorem dL_law_607 : decode cL_law 607 = .ok (.iconst 2, 1) := by decide +kernel
theorem dL_law_608 : decode cL_law 608 = .ok (.iadd, 1) := by decide +kernel
theorem dL_law_609 : decode cL_law 609 = .ok (.iaload, 1) := by decide +kernel
theorem dL_law_610 : decode cL_law 610 = .ok (.invokevirtual 64, 3) := by decide +kernel
theorem dL_law_613 : decode cL_law 613 = .ok (.if_icmp .eq 705, 3) := by decide +kernel
theorem dL_law_616 : decode cL_law 616 = .ok (.iconst 0, 1) := by decide +kernel
theorem dL_law_617 : decode cL_law 617 = .ok (.ireturn, 1) := by decide +kernel
theorem dL_law_618 : decode cL_law 618 = .ok (.aload_n 1, 1) := by decide +kernel
theorem dL_law_619 : decode cL_law 619 = .ok (.aload_n 0, 1) := by decide +kernel
theorem dL_law_620 : decode cL_law 620 = .ok (.iload_n 3, 1) := by decide +kernel
theorem dL_law_621 : decode cL_law 621 = .ok (.iconst 1, 1) := by decide +kernel
theorem dL_law_622 : decode cL_law 622 = .ok (.iadd, 1) := by decide +kernel
theorem dL_law_623 : decode cL_law 623 = .ok (.iaload, 1) := by decide +kernel
theorem dL_law_624 : decode cL_law 624 = .ok (.aload_n 0, 1) := by decide +kernel
theorem dL_law_625 : decode cL_law 625 = .ok (.iload_n 3, 1) := by decide +kernel
theorem dL_law_626 : decode cL_law 626 = .ok (.iconst 2, 1) := by decide +kernel
theorem dL_law_627 : decode cL_law 627 = .ok (.iadd, 1) := by decide +kernel
theorem dL_law_628 : decode cL_law 628 = .ok (.iaload, 1) := by decide +kernel
theorem dL_law_629 : decode cL_law 629 = .ok (.invokevirtual 65, 3) := by decide +kernel
theorem dL_law_632 : decode cL_law 632 = .ok (.aload_n 2, 1) := by decide +kernel
theorem dL_law_633 : decode cL_law 633 = .ok (.aload_n 0, 1) := by decide +kernel
theorem dL_law_634 : decode cL_law 634 = .ok (.iload_n 3, 1) := by decide +kernel
theorem dL_law_635 : decode cL_law 635 = .ok (.iconst 1, 1) := by decide +kernel
theorem dL_law_636 : decode cL_law 636 = .ok (.iadd, 1) := by decide +kernel
theorem dL_law_637 : decode cL_law 637 = .ok (.iaload, 1) := by decide +kernel
theorem dL_law_638 : decode cL_law 638 = .ok (.aload_n 0, 1) := by decide +kernel
theorem dL_law_639 : decode cL_law 639 = .ok (.iload_n 3, 1) := by decide +kernel
theorem dL_law_640 : decode cL_law 640 = .ok (.iconst 2, 1) := by decide +kernel
theorem dL_law_641 : decode cL_law 641 = .ok (.iadd, 1) := by decide +kernel
theorem dL_law_642 : decode cL_law 642 = .ok (.iaload, 1) := by decide +kernel
theorem dL_law_643 : decode cL_law 643 = .ok (.invokevirtual 68, 3) := by decide +kernel
theorem dL_law_646 : decode cL_law 646 = .ok (.if_icmp .eq 672, 3) := by decide +kernel
theorem dL_law_649 : decode cL_law 649 = .ok (.iconst 0, 1) := by decide +kernel
theorem dL_law_650 : decode cL_law 650 = .ok (.ireturn, 1) := by decide +kernel
theorem dL_law_651 : decode cL_law 651 = .ok (.aload_n 1, 1) := by decide +kernel
theorem dL_law_652 : decode cL_law 652 = .ok (.invokevirtual 69, 3) := by decide +kernel
theorem dL_law_655 : decode cL_law 655 = .ok (.aload_n 2, 1) := by decide +kernel
theorem dL_law_656 : decode cL_law 656 = .ok (.invokevirtual 73, 3) := by decide +kernel
theorem dL_law_659 : decode cL_law 659 = .ok (.if_icmp .eq 659, 3) := by decide +kernel
theorem dL_law_662 : decode cL_law 662 = .ok (.iconst 0, 1) := by decide +kernel
theorem dL_law_663 : decode cL_law 663 = .ok (.ireturn, 1) := by decide +kernel
theorem dL_law_664 : decode cL_law 664 = .ok (.aload_n 1, 1) := by decide +kernel
theorem dL_law_665 : decode cL_law 665 = .ok (.aload_n 0, 1) := by decide +kernel
theorem dL_law_666 : decode cL_law 666 = .ok (.iload_n 3, 1) := by decide +kernel
theorem dL_law_667 : decode cL_law 667 = .ok (.iconst 1, 1) := by decide +kernel
theorem dL_law_668 : decode cL_law 668 = .ok (.iadd, 1) := by decide +kernel
theorem dL_law_669 : decode cL_law 669 = .ok (.iaload, 1) := by decide +kernel
theorem dL_law_670 : decode cL_law 670 = .ok (.invokevirtual 74, 3) := by decide +kernel
theorem dL_law_673 : decode cL_law 673 = .ok (.aload_n 2, 1) := by decide +kernel
theorem dL_law_674 : decode cL_law 674 = .ok (.aload_n 0, 1) := by decide +kernel
theorem dL_law_675 : decode cL_law 675 = .ok (.iload_n 3, 1) := by decide +kernel
theorem dL_law_676 : decode cL_law 676 = .ok (.iconst 1, 1) := by decide +kernel
theorem dL_law_677 : decode cL_law 677 = .ok (.iadd, 1) := by decide +kernel
theorem dL_law_678 : decode cL_law 678 = .ok (.iaload, 1) := by decide +kernel
theorem dL_law_679 : decode cL_law 679 = .ok (.invokevirtual 77, 3) := by decide +kernel
theorem dL_law_682 : decode cL_law 682 = .ok (.if_icmp .eq 636, 3) := by decide +kernel
theorem dL_law_685 : decode cL_law 685 = .ok (.iconst 0, 1) := by decide +kernel
theorem dL_law_686 : decode cL_law 686 = .ok (.ireturn, 1) := by decide +kernel
theorem dL_law_687 : decode cL_law 687 = .ok (.aload_n 1, 1) := by decide +kernel
theorem dL_law_688 : decode cL_law 688 = .ok (.aload_n 0, 1) := by decide +kernel
theorem dL_law_689 : decode cL_law 689 = .ok (.iload_n 3, 1) := by decide +kernel
theorem dL_law_690 : decode cL_law 690 = .ok (.iconst 1, 1) := by decide +kernel
theorem dL_law_691 : decode cL_law 691 = .ok (.iadd, 1) := by decide +kernel
theorem dL_law_692 : decode cL_law 692 = .ok (.iaload, 1) := by decide +kernel
theorem dL_law_693 : decode cL_law 693 = .ok (.invokevirtual 78, 3) := by decide +kernel
theorem dL_law_696 : decode cL_law 696 = .ok (.aload_n 2, 1) := by decide +kernel
theorem dL_law_697 : decode cL_law 697 = .ok (.aload_n 0, 1) := by decide +kernel
theorem dL_law_698 : decode cL_law 698 = .ok (.iload_n 3, 1) := by decide +kernel
theorem dL_law_699 : decode cL_law 699 = .ok (.iconst 1, 1) := by decide +kernel
theorem dL_law_700 : decode cL_law 700 = .ok (.iadd, 1) := by decide +kernel
theorem dL_law_701 : decode cL_law 701 = .ok (.iaload, 1) := by decide +kernel
theorem dL_law_702 : decode cL_law 702 = .ok (.invokevirtual 81, 3) := by decide +kernel
theorem dL_law_705 : decode cL_law 705 = .ok (.if_icmp .eq 613, 3) := by decide +kernel
theorem dL_law_708 : decode cL_law 708 = .ok (.iconst 0, 1) := by decide +kernel
theorem dL_law_709 : decode cL_law 709 = .ok (.ireturn, 1) := by decide +kernel
theorem dL_law_710 : decode cL_law 710 = .ok (.aload_n 1, 1) := by decide +kernel
theorem dL_law_711 : decode cL_law 711 = .ok (.aload_n 0, 1) := by decide +kernel
theorem dL_law_712 : decode cL_law 712 = .ok (.iload_n 3, 1) := by decide +kernel
theorem dL_law_713 : decode cL_law 713 = .ok (.iconst 1, 1) := by decide +kernel
theorem dL_law_714 : decode cL_law 714 = .ok (.iadd, 1) := by decide +kernel
theorem dL_law_715 : decode cL_law 715 = .ok (.iaload, 1) := by decide +kernel
theorem dL_law_716 : decode cL_law 716 = .ok (.aload_n 0, 1) := by decide +kernel
theorem dL_law_717 : decode cL_law 717 = .ok (.iload_n 3, 1) := by decide +kernel
theorem dL_law_718 : decode cL_law 718 = .ok (.iconst 2, 1) := by decide +kernel
theorem dL_law_719 : decode cL_law 719 = .ok (.iadd, 1) := by decide +kernel
theorem dL_law_720 : decode cL_law 720 = .ok (.iaload, 1) := by decide +kernel
theorem dL_law_721 : decode cL_law 721 = .ok (.invokevirtual 82, 3) := by decide +kernel
theorem dL_law_724 : decode cL_law 724 = .ok (.aload_n 2, 1) := by decide +kernel
theorem dL_law_725 : decode cL_law 725 = .ok (.aload_n 0, 1) := by decide +kernel
theorem dL_law_726 : decode cL_law 726 = .ok (.iload_n 3, 1) := by decide +kernel
theorem dL_law_727 : decode cL_law 727 = .ok (.iconst 1, 1) := by decide +kernel
theorem dL_law_728 : decode cL_law 728 = .ok (.iadd, 1) := by decide +kernel
theorem dL_law_729 : decode cL_law 729 = .ok (.iaload, 1) := by decide +kernel
theorem dL_law_730 : decode cL_law 730 = .ok (.aload_n 0, 1) := by decide +kernel
theorem dL_law_731 : decode cL_law 731 = .ok (.iload_n 3, 1) := by decide +kernel
theorem dL_law_732 : decode cL_law 732 = .ok (.iconst 2, 1) := by decide +kernel
theorem dL_law_733 : decode cL_law 733 = .ok (.iadd, 1) := by decide +kernel
theorem dL_law_734 : decode cL_law 734 = .ok (.iaload, 1) := by decide +kernel
theorem dL_law_735 : decode cL_law 735 = .ok (.invokevirtual 85, 3) := by decide +kernel
theorem dL_law_738 : decode cL_law 738 = .ok (.if_icmp .eq 580, 3) := by decide +kernel
theorem dL_law_741 : decode cL_law 741 = .ok (.iconst 0, 1) := by decide +kernel
theorem dL_law_742 : decode cL_law 742 = .ok (.ireturn, 1) := by decide +kernel
theorem dL_law_743 : decode cL_law 743 = .ok (.aload_n 1, 1) := by decide +kernel
theorem dL_law_744 : decode cL_law 744 = .ok (.aload_n 0, 1) := by decide +kernel
theorem dL_law_745 : decode cL_law 745 = .ok (.iload_n 3, 1) := by decide +kernel
theorem dL_law_746 : decode cL_law 746 = .ok (.iconst 1, 1) := by decide +kernel
theorem dL_law_747 : decode cL_law 747 = .ok (.iadd, 1) := by decide +kernel
theorem dL_law_748 : decode cL_law 748 = .ok (.iaload, 1) := by decide +kernel
theorem dL_law_749 : decode cL_law 749 = .ok (.invokevirtual 86, 3) := by decide +kernel
theorem dL_law_752 : decode cL_law 752 = .ok (.aload_n 2, 1) := by decide +kernel
theorem dL_law_753 : decode cL_law 753 = .ok (.aload_n 0, 1) := by decide +kernel
theorem dL_law_754 : decode cL_law 754 = .ok (.iload_n 3, 1) := by decide +kernel
theorem dL_law_755 : decode cL_law 755 = .ok (.iconst 1, 1) := by decide +kernel
theorem dL_law_756 : decode cL_law 756 = .ok (.iadd, 1) := by decide +kernel
theorem dL_law_757 : decode cL_law 757 = .ok (.iaload, 1) := by decide +kernel
theorem dL_law_758 : decode cL_law 758 = .ok (.invokevirtual 89, 3) := by decide +kernel
theorem dL_law_761 : decode cL_law 761 = .ok (.if_icmp .eq 557, 3) := by decide +kernel
theorem dL_law_764 : decode cL_law 764 = .ok (.iconst 0, 1) := by decide +kernel
theorem dL_law_765 : decode cL_law 765 = .ok (.ireturn, 1) := by decide +kernel
theorem dL_law_766 : decode cL_law 766 = .ok (.aload_n 1, 1) := by decide +kernel
theorem dL_law_767 : decode cL_law 767 = .ok (.aload_n 0, 1) := by decide +kernel
theorem dL_law_768 : decode cL_law 768 = .ok (.iload_n 3, 1) := by decide +kernel
theorem dL_law_769 : decode cL_law 769 = .ok (.iconst 1, 1) := by decide +kernel
theorem dL_law_770 : decode cL_law 770 = .ok (.iadd, 1) := by decide +kernel
theorem dL_law_771 : decode cL_law 771 = .ok (.iaload, 1) := by decide +kernel
theorem dL_law_772 : decode cL_law 772 = .ok (.invokevirtual 90, 3) := by decide +kernel
theorem dL_law_775 : decode cL_law 775 = .ok (.aload_n 2, 1) := by decide +kernel
theorem dL_law_776 : decode cL_law 776 = .ok (.aload_n 0, 1) := by decide +kernel
theorem dL_law_777 : decode cL_law 777 = .ok (.iload_n 3, 1) := by decide +kernel
theorem dL_law_778 : decode cL_law 778 = .ok (.iconst 1, 1) := by decide +kernel
theorem dL_law_779 : decode cL_law 779 = .ok (.iadd, 1) := by decide +kernel
theorem dL_law_780 : decode cL_law 780 = .ok (.iaload, 1) := by decide +kernel
theorem dL_law_781 : decode cL_law 781 = .ok (.invokevirtual 93, 3) := by decide +kernel
theorem dL_law_784 : decode cL_law 784 = .ok (.if_icmp .eq 534, 3) := by decide +kernel
theorem dL_law_787 : decode cL_law 787 = .ok (.iconst 0, 1) := by decide +kernel
theorem dL_law_788 : decode cL_law 788 = .ok (.ireturn, 1) := by decide +kernel
theorem dL_law_789 : decode cL_law 789 = .ok (.aload_n 1, 1) := by decide +kernel
theorem dL_law_790 : decode cL_law 790 = .ok (.aload_n 0, 1) := by decide +kernel
theorem dL_law_791 : decode cL_law 791 = .ok (.iload_n 3, 1) := by decide +kernel
theorem dL_law_792 : decode cL_law 792 = .ok (.iconst 1, 1) := by decide +kernel
theorem dL_law_793 : decode cL_law 793 = .ok (.iadd, 1) := by decide +kernel
theorem dL_law_794 : decode cL_law 794 = .ok (.iaload, 1) := by decide +kernel
theorem dL_law_795 : decode cL_law 795 = .ok (.invokevirtual 94, 3) := by decide +kernel
theorem dL_law_798 : decode cL_law 798 = .ok (.aload_n 2, 1) := by decide +kernel
theorem dL_law_799 : decode cL_law 799 = .ok (.aload_n 0, 1) := by decide +kernel
theorem dL_law_800 : decode cL_law 800 = .ok (.iload_n 3, 1) := by decide +kernel
theorem dL_law_801 : decode cL_law 801 = .ok (.iconst 1, 1) := by decide +kernel
theorem dL_law_802 : decode cL_law 802 = .ok (.iadd, 1) := by decide +kernel
theorem dL_law_803 : decode cL_law 803 = .ok (.iaload, 1) := by decide +kernel
theorem dL_law_804 : decode cL_law 804 = .ok (.invokevirtual 97, 3) := by decide +kernel
theorem dL_law_807 : decode cL_law 807 = .ok (.if_icmp .eq 511, 3) := by decide +kernel
theorem dL_law_810 : decode cL_law 810 = .ok (.iconst 0, 1) := by decide +kernel
theorem dL_law_811 : decode cL_law 811 = .ok (.ireturn, 1) := by decide +kernel
theorem dL_law_812 : decode cL_law 812 = .ok (.aload_n 1, 1) := by decide +kernel
theorem dL_law_813 : decode cL_law 813 = .ok (.aload_n 0, 1) := by decide +kernel
theorem dL_law_814 : decode cL_law 814 = .ok (.iload_n 3, 1) := by decide +kernel
theorem dL_law_815 : decode cL_law 815 = .ok (.iconst 1, 1) := by decide +kernel
theorem dL_law_816 : decode cL_law 816 = .ok (.iadd, 1) := by decide +kernel
theorem dL_law_817 : decode cL_law 817 = .ok (.iaload, 1) := by decide +kernel
theorem dL_law_818 : decode cL_law 818 = .ok (.aload_n 0, 1) := by decide +kernel
theorem dL_law_819 : decode cL_law 819 = .ok (.iload_n 3, 1) := by decide +kernel
theorem dL_law_820 : decode cL_law 820 = .ok (.iconst 2, 1) := by decide +kernel
theorem dL_law_821 : decode cL_law 821 = .ok (.iadd, 1) := by decide +kernel
theorem dL_law_822 : decode cL_law 822 = .ok (.iaload, 1) := by decide +kernel
theorem dL_law_823 : decode cL_law 823 = .ok (.invokevirtual 98, 3) := by decide +kernel
theorem dL_law_826 : decode cL_law 826 = .ok (.aload_n 2, 1) := by decide +kernel
theorem dL_law_827 : decode cL_law 827 = .ok (.aload_n 0, 1) := by decide +kernel
theorem dL_law_828 : decode cL_law 828 = .ok (.iload_n 3, 1) := by decide +kernel
theorem dL_law_829 : decode cL_law 829 = .ok (.iconst 1, 1) := by decide +kernel
theorem dL_law_830 : decode cL_law 830 = .ok (.iadd, 1) := by decide +kernel
theorem dL_law_831 : decode cL_law 831 = .ok (.iaload, 1) := by decide +kernel
theorem dL_law_832 : decode cL_law 832 = .ok (.aload_n 0, 1) := by decide +kernel
theorem dL_law_833 : decode cL_law 833 = .ok (.iload_n 3, 1) := by decide +kernel
theorem dL_law_834 : decode cL_law 834 = .ok (.iconst 2, 1) := by decide +kernel
theorem dL_law_835 : decode cL_law 835 = .ok (.iadd, 1) := by decide +kernel
theorem dL_law_836 : decode cL_law 836 = .ok (.iaload, 1) := by decide +kernel
theorem dL_law_837 : decode cL_law 837 = .ok (.invokevirtual 101, 3) := by decide +kernel
theorem dL_law_840 : decode cL_law 840 = .ok (.if_icmp .eq 478, 3) := by decide +kernel
theorem dL_law_843 : decode cL_law 843 = .ok (.iconst 0, 1) := by decide +kernel
theorem dL_law_844 : decode cL_law 844 = .ok (.ireturn, 1) := by decide +kernel
theorem dL_law_845 : decode cL_law 845 = .ok (.aload_n 1, 1) := by decide +kernel
theorem dL_law_846 : decode cL_law 846 = .ok (.aload_n 0, 1) := by decide +kernel
theorem dL_law_847 : decode cL_law 847 = .ok (.iload_n 3, 1) := by decide +kernel
theorem dL_law_848 : decode cL_law 848 = .ok (.iconst 1, 1) := by decide +kernel
theorem dL_law_849 : decode cL_law 849 = .ok (.iadd, 1) := by decide +kernel
theorem dL_law_850 : decode cL_law 850 = .ok (.iaload, 1) := by decide +kernel
theorem dL_law_851 : decode cL_law 851 = .ok (.invokevirtual 102, 3) := by decide +kernel
theorem dL_law_854 : decode cL_law 854 = .ok (.aload_n 2, 1) := by decide +kernel
theorem dL_law_855 : decode cL_law 855 = .ok (.aload_n 0, 1) := by decide +kernel
theorem dL_law_856 : decode cL_law 856 = .ok (.iload_n 3, 1) := by decide +kernel
theorem dL_law_857 : decode cL_law 857 = .ok (.iconst 1, 1) := by decide +kernel
theorem dL_law_858 : decode cL_law 858 = .ok (.iadd, 1) := by decide +kernel
theorem dL_law_859 : decode cL_law 859 = .ok (.iaload, 1) := by decide +kernel
theorem dL_law_860 : decode cL_law 860 = .ok (.invokevirtual 105, 3) := by decide +kernel
theorem dL_law_863 : decode cL_law 863 = .ok (.if_icmp .eq 455, 3) := by decide +kernel
theorem dL_law_866 : decode cL_law 866 = .ok (.iconst 0, 1) := by decide +kernel
theorem dL_law_867 : decode cL_law 867 = .ok (.ireturn, 1) := by decide +kernel
theorem dL_law_868 : decode cL_law 868 = .ok (.aload_n 1, 1) := by decide +kernel
theorem dL_law_869 : decode cL_law 869 = .ok (.aload_n 0, 1) := by decide +kernel
theorem dL_law_870 : decode cL_law 870 = .ok (.iload_n 3, 1) := by decide +kernel
theorem dL_law_871 : decode cL_law 871 = .ok (.iconst 1, 1) := by decide +kernel
theorem dL_law_872 : decode cL_law 872 = .ok (.iadd, 1) := by decide +kernel
theorem dL_law_873 : decode cL_law 873 = .ok (.iaload, 1) := by decide +kernel
theorem dL_law_874 : decode cL_law 874 = .ok (.aload_n 0, 1) := by decide +kernel
theorem dL_law_875 : decode cL_law 875 = .ok (.iload_n 3, 1) := by decide +kernel
theorem dL_law_876 : decode cL_law 876 = .ok (.iconst 2, 1) := by decide +kernel
theorem dL_law_877 : decode cL_law 877 = .ok (.iadd, 1) := by decide +kernel
theorem dL_law_878 : decode cL_law 878 = .ok (.iaload, 1) := by decide +kernel
theorem dL_law_879 : decode cL_law 879 = .ok (.invokevirtual 106, 3) := by decide +kernel
theorem dL_law_882 : decode cL_law 882 = .ok (.aload_n 2, 1) := by decide +kernel
theorem dL_law_883 : decode cL_law 883 = .ok (.aload_n 0, 1) := by decide +kernel
theorem dL_law_884 : decode cL_law 884 = .ok (.iload_n 3, 1) := by decide +kernel
theorem dL_law_885 : decode cL_law 885 = .ok (.iconst 1, 1) := by decide +kernel
theorem dL_law_886 : decode cL_law 886 = .ok (.iadd, 1) := by decide +kernel
theorem dL_law_887 : decode cL_law 887 = .ok (.iaload, 1) := by decide +kernel
theorem dL_law_888 : decode cL_law 888 = .ok (.aload_n 0, 1) := by decide +kernel
theorem dL_law_889 : decode cL_law 889 = .ok (.iload_n 3, 1) := by decide +kernel
theorem dL_law_890 : decode cL_law 890 = .ok (.iconst 2, 1) := by decide +kernel
theorem dL_law_891 : decode cL_law 891 = .ok (.iadd, 1) := by decide +kernel
theorem dL_law_892 : decode cL_law 892 = .ok (.iaload, 1) := by decide +kernel
theorem dL_law_893 : decode cL_law 893 = .ok (.invokevirtual 109, 3) := by decide +kernel
theorem dL_law_896 : decode cL_law 896 = .ok (.if_icmp .eq 422, 3) := by decide +kernel
theorem dL_law_899 : decode cL_law 899 = .ok (.iconst 0, 1) := by decide +kernel
theorem dL_law_900 : decode cL_law 900 = .ok (.ireturn, 1) := by decide +kernel
theorem dL_law_901 : decode cL_law 901 = .ok (.aload_n 1, 1) := by decide +kernel
theorem dL_law_902 : decode cL_law 902 = .ok (.aload_n 0, 1) := by decide +kernel
theorem dL_law_903 : decode cL_law 903 = .ok (.iload_n 3, 1) := by decide +kernel
theorem dL_law_904 : decode cL_law 904 = .ok (.iconst 1, 1) := by decide +kernel
theorem dL_law_905 : decode cL_law 905 = .ok (.iadd, 1) := by decide +kernel
theorem dL_law_906 : decode cL_law 906 = .ok (.iaload, 1) := by decide +kernel
theorem dL_law_907 : decode cL_law 907 = .ok (.aload_n 0, 1) := by decide +kernel
theorem dL_law_908 : decode cL_law 908 = .ok (.iload_n 3, 1) := by decide +kernel
theorem dL_law_909 : decode cL_law 909 = .ok (.iconst 2, 1) := by decide +kernel
theorem dL_law_910 : decode cL_law 910 = .ok (.iadd, 1) := by decide +kernel
theorem dL_law_911 : decode cL_law 911 = .ok (.iaload, 1) := by decide +kernel
theorem dL_law_912 : decode cL_law 912 = .ok (.invokevirtual 110, 3) := by decide +kernel
theorem dL_law_915 : decode cL_law 915 = .ok (.aload_n 2, 1) := by decide +kernel
theorem dL_law_916 : decode cL_law 916 = .ok (.aload_n 0, 1) := by decide +kernel
theorem dL_law_917 : decode cL_law 917 = .ok (.iload_n 3, 1) := by decide +kernel
theorem dL_law_918 : decode cL_law 918 = .ok (.iconst 1, 1) := by decide +kernel
theorem dL_law_919 : decode cL_law 919 = .ok (.iadd, 1) := by decide +kernel
theorem dL_law_920 : decode cL_law 920 = .ok (.iaload, 1) := by decide +kernel
theorem dL_law_921 : decode cL_law 921 = .ok (.aload_n 0, 1) := by decide +kernel
theorem dL_law_922 : decode cL_law 922 = .ok (.iload_n 3, 1) := by decide +kernel
theorem dL_law_923 : decode cL_law 923 = .ok (.iconst 2, 1) := by decide +kernel
theorem dL_law_924 : decode cL_law 924 = .ok (.iadd, 1) := by decide +kernel
theorem dL_law_925 : decode cL_law 925 = .ok (.iaload, 1) := by decide +kernel
theorem dL_law_926 : decode cL_law 926 = .ok (.invokevirtual 113, 3) := by decide +kernel
theorem dL_law_929 : decode cL_law 929 = .ok (.if_icmp .eq 389, 3) := by decide +kernel
theorem dL_law_932 : decode cL_law 932 = .ok (.iconst 0, 1) := by decide +kernel
theorem dL_law_933 : decode cL_law 933 = .ok (.ireturn, 1) := by decide +kernel
theorem dL_law_934 : decode cL_law 934 = .ok (.aload_n 1, 1) := by decide +kernel
theorem dL_law_935 : decode cL_law 935 = .ok (.aload_n 0, 1) := by decide +kernel
theorem dL_law_936 : decode cL_law 936 = .ok (.iload_n 3, 1) := by decide +kernel
theorem dL_law_937 : decode cL_law 937 = .ok (.iconst 1, 1) := by decide +kernel
theorem dL_law_938 : decode cL_law 938 = .ok (.iadd, 1) := by decide +kernel
theorem dL_law_939 : decode cL_law 939 = .ok (.iaload, 1) := by decide +kernel
theorem dL_law_940 : decode cL_law 940 = .ok (.invokevirtual 114, 3) := by decide +kernel
theorem dL_law_943 : decode cL_law 943 = .ok (.aload_n 2, 1) := by decide +kernel
theorem dL_law_944 : decode cL_law 944 = .ok (.aload_n 0, 1) := by decide +kernel
theorem dL_law_945 : decode cL_law 945 = .ok (.iload_n 3, 1) := by decide +kernel
theorem dL_law_946 : decode cL_law 946 = .ok (.iconst 1, 1) := by decide +kernel
theorem dL_law_947 : decode cL_law 947 = .ok (.iadd, 1) := by decide +kernel
theorem dL_law_948 : decode cL_law 948 = .ok (.iaload, 1) := by decide +kernel
theorem dL_law_949 : decode cL_law 949 = .ok (.invokevirtual 117, 3) := by decide +kernel
theorem dL_law_952 : decode cL_law 952 = .ok (.if_icmp .eq 366, 3) := by decide +kernel
theorem dL_law_955 : decode cL_law 955 = .ok (.iconst 0, 1) := by decide +kernel
theorem dL_law_956 : decode cL_law 956 = .ok (.ireturn, 1) := by decide +kernel
theorem dL_law_957 : decode cL_law 957 = .ok (.aload_n 1, 1) := by decide +kernel
theorem dL_law_958 : decode cL_law 958 = .ok (.aload_n 0, 1) := by decide +kernel
theorem dL_law_959 : decode cL_law 959 = .ok (.iload_n 3, 1) := by decide +kernel
theorem dL_law_960 : decode cL_law 960 = .ok (.iconst 1, 1) := by decide +kernel
theorem dL_law_961 : decode cL_law 961 = .ok (.iadd, 1) := by decide +kernel
theorem dL_law_962 : decode cL_law 962 = .ok (.iaload, 1) := by decide +kernel
theorem dL_law_963 : decode cL_law 963 = .ok (.invokevirtual 118, 3) := by decide +kernel
theorem dL_law_966 : decode cL_law 966 = .ok (.aload_n 2, 1) := by decide +kernel
theorem dL_law_967 : decode cL_law 967 = .ok (.aload_n 0, 1) := by decide +kernel
theorem dL_law_968 : decode cL_law 968 = .ok (.iload_n 3, 1) := by decide +kernel
theorem dL_law_969 : decode cL_law 969 = .ok (.iconst 1, 1) := by decide +kernel
theorem dL_law_970 : decode cL_law 970 = .ok (.iadd, 1) := by decide +kernel
theorem dL_law_971 : decode cL_law 971 = .ok (.iaload, 1) := by decide +kernel
theorem dL_law_972 : decode cL_law 972 = .ok (.invokevirtual 121, 3) := by decide +kernel
theorem dL_law_975 : decode cL_law 975 = .ok (.if_icmp .eq 343, 3) := by decide +kernel
theorem dL_law_978 : decode cL_law 978 = .ok (.iconst 0, 1) := by decide +kernel
theorem dL_law_979 : decode cL_law 979 = .ok (.ireturn, 1) := by decide +kernel
theorem dL_law_980 : decode cL_law 980 = .ok (.aload_n 1, 1) := by decide +kernel
theorem dL_law_981 : decode cL_law 981 = .ok (.invokevirtual 122, 3) := by decide +kernel
theorem dL_law_984 : decode cL_law 984 = .ok (.aload_n 2, 1) := by decide +kernel
theorem dL_law_985 : decode cL_law 985 = .ok (.invokevirtual 125, 3) := by decide +kernel
theorem dL_law_988 : decode cL_law 988 = .ok (.if_icmp .eq 330, 3) := by decide +kernel
theorem dL_law_991 : decode cL_law 991 = .ok (.iconst 0, 1) := by decide +kernel
theorem dL_law_992 : decode cL_law 992 = .ok (.ireturn, 1) := by decide +kernel
theorem dL_law_993 : decode cL_law 993 = .ok (.aload_n 1, 1) := by decide +kernel
theorem dL_law_994 : decode cL_law 994 = .ok (.aload_n 0, 1) := by decide +kernel
theorem dL_law_995 : decode cL_law 995 = .ok (.iload_n 3, 1) := by decide +kernel
theorem dL_law_996 : decode cL_law 996 = .ok (.iconst 1, 1) := by decide +kernel
theorem dL_law_997 : decode cL_law 997 = .ok (.iadd, 1) := by decide +kernel
theorem dL_law_998 : decode cL_law 998 = .ok (.iaload, 1) := by decide +kernel
theorem dL_law_999 : decode cL_law 999 = .ok (.aload_n 0, 1) := by decide +kernel
theorem dL_law_1000 : decode cL_law 1000 = .ok (.iload_n 3, 1) := by decide +kernel
theorem dL_law_1001 : decode cL_law 1001 = .ok (.iconst 2, 1) := by decide +kernel
theorem dL_law_1002 : decode cL_law 1002 = .ok (.iadd, 1) := by decide +kernel
theorem dL_law_1003 : decode cL_law 1003 = .ok (.iaload, 1) := by decide +kernel
theorem dL_law_1004 : decode cL_law 1004 = .ok (.invokevirtual 126, 3) := by decide +kernel
theorem dL_law_1007 : decode cL_law 1007 = .ok (.aload_n 2, 1) := by decide +kernel
theorem dL_law_1008 : decode cL_law 1008 = .ok (.aload_n 0, 1) := by decide +kernel
theorem dL_law_1009 : decode cL_law 1009 = .ok (.iload_n 3, 1) := by decide +kernel
theorem dL_law_1010 : decode cL_law 1010 = .ok (.iconst 1, 1) := by decide +kernel
theorem dL_law_1011 : decode cL_law 1011 = .ok (.iadd, 1) := by decide +kernel
theorem dL_law_1012 : decode cL_law 1012 = .ok (.iaload, 1) := by decide +kernel
theorem dL_law_1013 : decode cL_law 1013 = .ok (.aload_n 0, 1) := by decide +kernel
theorem dL_law_1014 : decode cL_law 1014 = .ok (.iload_n 3, 1) := by decide +kernel
theorem dL_law_1015 : decode cL_law 1015 = .ok (.iconst 2, 1) := by decide +kernel
theorem dL_law_1016 : decode cL_law 1016 = .ok (.iadd, 1) := by decide +kernel
theorem dL_law_1017 : decode cL_law 1017 = .ok (.iaload, 1) := by decide +kernel
theorem dL_law_1018 : decode cL_law 1018 = .ok (.invokevirtual 129, 3) := by decide +kernel
theorem dL_law_1021 : decode cL_law 1021 = .ok (.if_icmp .eq 297, 3) := by decide +kernel
theorem dL_law_1024 : decode cL_law 1024 = .ok (.iconst 0, 1) := by decide +kernel
theorem dL_law_1025 : decode cL_law 1025 = .ok (.ireturn, 1) := by decide +kernel
theorem dL_law_1026 : decode cL_law 1026 = .ok (.aload_n 1, 1) := by decide +kernel
theorem dL_law_1027 : decode cL_law 1027 = .ok (.aload_n 0, 1) := by decide +kernel
theorem dL_law_1028 : decode cL_law 1028 = .ok (.iload_n 3, 1) := by decide +kernel
theorem dL_law_1029 : decode cL_law 1029 = .ok (.iconst 1, 1) := by decide +kernel
theorem dL_law_1030 : decode cL_law 1030 = .ok (.iadd, 1) := by decide +kernel
theorem dL_law_1031 : decode cL_law 1031 = .ok (.iaload, 1) := by decide +kernel
theorem dL_law_1032 : decode cL_law 1032 = .ok (.aload_n 0, 1) := by decide +kernel
theorem dL_law_1033 : decode cL_law 1033 = .ok (.iload_n 3, 1) := by decide +kernel
theorem dL_law_1034 : decode cL_law 1034 = .ok (.iconst 2, 1) := by decide +kernel
theorem dL_law_1035 : decode cL_law 1035 = .ok (.iadd, 1) := by decide +kernel
theorem dL_law_1036 : decode cL_law 1036 = .ok (.iaload, 1) := by decide +kernel
theorem dL_law_1037 : decode cL_law 1037 = .ok (.invokevirtual 130, 3) := by decide +kernel
theorem dL_law_1040 : decode cL_law 1040 = .ok (.aload_n 2, 1) := by decide +kernel
theorem dL_law_1041 : decode cL_law 1041 = .ok (.aload_n 0, 1) := by decide +kernel
theorem dL_law_1042 : decode cL_law 1042 = .ok (.iload_n 3, 1) := by decide +kernel
theorem dL_law_1043 : decode cL_law 1043 = .ok (.iconst 1, 1) := by decide +kernel
theorem dL_law_1044 : decode cL_law 1044 = .ok (.iadd, 1) := by decide +kernel
theorem dL_law_1045 : decode cL_law 1045 = .ok (.iaload, 1) := by decide +kernel
theorem dL_law_1046 : decode cL_law 1046 = .ok (.aload_n 0, 1) := by decide +kernel
theorem dL_law_1047 : decode cL_law 1047 = .ok (.iload_n 3, 1) := by decide +kernel
theorem dL_law_1048 : decode cL_law 1048 = .ok (.iconst 2, 1) := by decide +kernel
theorem dL_law_1049 : decode cL_law 1049 = .ok (.iadd, 1) := by decide +kernel
theorem dL_law_1050 : decode cL_law 1050 = .ok (.iaload, 1) := by decide +kernel
theorem dL_law_1051 : decode cL_law 1051 = .ok (.invokevirtual 133, 3) := by decide +kernel
theorem dL_law_1054 : decode cL_law 1054 = .ok (.if_icmp .eq 264, 3) := by decide +kernel
theorem dL_law_1057 : decode cL_law 1057 = .ok (.iconst 0, 1) := by decide +kernel
theorem dL_law_1058 : decode cL_law 1058 = .ok (.ireturn, 1) := by decide +kernel
theorem dL_law_1059 : decode cL_law 1059 = .ok (.aload_n 1, 1) := by decide +kernel
theorem dL_law_1060 : decode cL_law 1060 = .ok (.aload_n 0, 1) := by decide +kernel
theorem dL_law_1061 : decode cL_law 1061 = .ok (.iload_n 3, 1) := by decide +kernel
theorem dL_law_1062 : decode cL_law 1062 = .ok (.iconst 1, 1) := by decide +kernel
theorem dL_law_1063 : decode cL_law 1063 = .ok (.iadd, 1) := by decide +kernel
theorem dL_law_1064 : decode cL_law 1064 = .ok (.iaload, 1) := by decide +kernel
theorem dL_law_1065 : decode cL_law 1065 = .ok (.aload_n 0, 1) := by decide +kernel
theorem dL_law_1066 : decode cL_law 1066 = .ok (.iload_n 3, 1) := by decide +kernel
theorem dL_law_1067 : decode cL_law 1067 = .ok (.iconst 2, 1) := by decide +kernel
theorem dL_law_1068 : decode cL_law 1068 = .ok (.iadd, 1) := by decide +kernel
theorem dL_law_1069 : decode cL_law 1069 = .ok (.iaload, 1) := by decide +kernel
theorem dL_law_1070 : decode cL_law 1070 = .ok (.invokevirtual 134, 3) := by decide +kernel
theorem dL_law_1073 : decode cL_law 1073 = .ok (.aload_n 2, 1) := by decide +kernel
theorem dL_law_1074 : decode cL_law 1074 = .ok (.aload_n 0, 1) := by decide +kernel
theorem dL_law_1075 : decode cL_law 1075 = .ok (.iload_n 3, 1) := by decide +kernel
theorem dL_law_1076 : decode cL_law 1076 = .ok (.iconst 1, 1) := by decide +kernel
theorem dL_law_1077 : decode cL_law 1077 = .ok (.iadd, 1) := by decide +kernel
theorem dL_law_1078 : decode cL_law 1078 = .ok (.iaload, 1) := by decide +kernel
theorem dL_law_1079 : decode cL_law 1079 = .ok (.aload_n 0, 1) := by decide +kernel
theorem dL_law_1080 : decode cL_law 1080 = .ok (.iload_n 3, 1) := by decide +kernel
theorem dL_law_1081 : decode cL_law 1081 = .ok (.iconst 2, 1) := by decide +kernel
theorem dL_law_1082 : decode cL_law 1082 = .ok (.iadd, 1) := by decide +kernel
theorem dL_law_1083 : decode cL_law 1083 = .ok (.iaload, 1) := by decide +kernel
theorem dL_law_1084 : decode cL_law 1084 = .ok (.invokevirtual 137, 3) := by decide +kernel
theorem dL_law_1087 : decode cL_law 1087 = .ok (.if_icmp .eq 231, 3) := by decide +kernel
theorem dL_law_1090 : decode cL_law 1090 = .ok (.iconst 0, 1) := by decide +kernel
theorem dL_law_1091 : decode cL_law 1091 = .ok (.ireturn, 1) := by decide +kernel
theorem dL_law_1092 : decode cL_law 1092 = .ok (.aload_n 1, 1) := by decide +kernel
theorem dL_law_1093 : decode cL_law 1093 = .ok (.aload_n 0, 1) := by decide +kernel
theorem dL_law_1094 : decode cL_law 1094 = .ok (.iload_n 3, 1) := by decide +kernel
theorem dL_law_1095 : decode cL_law 1095 = .ok (.iconst 1, 1) := by decide +kernel
theorem dL_law_1096 : decode cL_law 1096 = .ok (.iadd, 1) := by decide +kernel
theorem dL_law_1097 : decode cL_law 1097 = .ok (.iaload, 1) := by decide +kernel
theorem dL_law_1098 : decode cL_law 1098 = .ok (.invokevirtual 138, 3) := by decide +kernel
theorem dL_law_1101 : decode cL_law 1101 = .ok (.aload_n 2, 1) := by decide +kernel
theorem dL_law_1102 : decode cL_law 1102 = .ok (.aload_n 0, 1) := by decide +kernel
theorem dL_law_1103 : decode cL_law 1103 = .ok (.iload_n 3, 1) := by decide +kernel
theorem dL_law_1104 : decode cL_law 1104 = .ok (.iconst 1, 1) := by decide +kernel
theorem dL_law_1105 : decode cL_law 1105 = .ok (.iadd, 1) := by decide +kernel
theorem dL_law_1106 : decode cL_law 1106 = .ok (.iaload, 1) := by decide +kernel
theorem dL_law_1107 : decode cL_law 1107 = .ok (.invokevirtual 141, 3) := by decide +kernel
theorem dL_law_1110 : decode cL_law 1110 = .ok (.if_icmp .eq 208, 3) := by decide +kernel
theorem dL_law_1113 : decode cL_law 1113 = .ok (.iconst 0, 1) := by decide +kernel
theorem dL_law_1114 : decode cL_law 1114 = .ok (.ireturn, 1) := by decide +kernel
theorem dL_law_1115 : decode cL_law 1115 = .ok (.aload_n 1, 1) := by decide +kernel
theorem dL_law_1116 : decode cL_law 1116 = .ok (.aload_n 0, 1) := by decide +kernel
theorem dL_law_1117 : decode cL_law 1117 = .ok (.iload_n 3, 1) := by decide +kernel
theorem dL_law_1118 : decode cL_law 1118 = .ok (.iconst 1, 1) := by decide +kernel
theorem dL_law_1119 : decode cL_law 1119 = .ok (.iadd, 1) := by decide +kernel
theorem dL_law_1120 : decode cL_law 1120 = .ok (.iaload, 1) := by decide +kernel
theorem dL_law_1121 : decode cL_law 1121 = .ok (.aload_n 0, 1) := by decide +kernel
theorem dL_law_1122 : decode cL_law 1122 = .ok (.iload_n 3, 1) := by decide +kernel
theorem dL_law_1123 : decode cL_law 1123 = .ok (.iconst 2, 1) := by decide +kernel
theorem dL_law_1124 : decode cL_law 1124 = .ok (.iadd, 1) := by decide +kernel
theorem dL_law_1125 : decode cL_law 1125 = .ok (.iaload, 1) := by decide +kernel
theorem dL_law_1126 : decode cL_law 1126 = .ok (.invokevirtual 142, 3) := by decide +kernel
theorem dL_law_1129 : decode cL_law 1129 = .ok (.aload_n 2, 1) := by decide +kernel
theorem dL_law_1130 : decode cL_law 1130 = .ok (.aload_n 0, 1) := by decide +kernel
theorem dL_law_1131 : decode cL_law 1131 = .ok (.iload_n 3, 1) := by decide +kernel
theorem dL_law_1132 : decode cL_law 1132 = .ok (.iconst 1, 1) := by decide +kernel
theorem dL_law_1133 : decode cL_law 1133 = .ok (.iadd, 1) := by decide +kernel
theorem dL_law_1134 : decode cL_law 1134 = .ok (.iaload, 1) := by decide +kernel
theorem dL_law_1135 : decode cL_law 1135 = .ok (.aload_n 0, 1) := by decide +kernel
theorem dL_law_1136 : decode cL_law 1136 = .ok (.iload_n 3, 1) := by decide +kernel
theorem dL_law_1137 : decode cL_law 1137 = .ok (.iconst 2, 1) := by decide +kernel
theorem dL_law_1138 : decode cL_law 1138 = .ok (.iadd, 1) := by decide +kernel
theorem dL_law_1139 : decode cL_law 1139 = .ok (.iaload, 1) := by decide +kernel
theorem dL_law_1140 : decode cL_law 1140 = .ok (.invokevirtual 145, 3) := by decide +kernel
theorem dL_law_1143 : decode cL_law 1143 = .ok (.if_icmp .eq 175, 3) := by decide +kernel
theorem dL_law_1146 : decode cL_law 1146 = .ok (.iconst 0, 1) := by decide +kernel
theorem dL_law_1147 : decode cL_law 1147 = .ok (.ireturn, 1) := by decide +kernel
theorem dL_law_1148 : decode cL_law 1148 = .ok (.aload_n 1, 1) := by decide +kernel
theorem dL_law_1149 : decode cL_law 1149 = .ok (.aload_n 0, 1) := by decide +kernel
theorem dL_law_1150 : decode cL_law 1150 = .ok (.iload_n 3, 1) := by decide +kernel
theorem dL_law_1151 : decode cL_law 1151 = .ok (.iconst 1, 1) := by decide +kernel
theorem dL_law_1152 : decode cL_law 1152 = .ok (.iadd, 1) := by decide +kernel
theorem dL_law_1153 : decode cL_law 1153 = .ok (.iaload, 1) := by decide +kernel
theorem dL_law_1154 : decode cL_law 1154 = .ok (.invokevirtual 146, 3) := by decide +kernel
theorem dL_law_1157 : decode cL_law 1157 = .ok (.aload_n 2, 1) := by decide +kernel
theorem dL_law_1158 : decode cL_law 1158 = .ok (.aload_n 0, 1) := by decide +kernel
theorem dL_law_1159 : decode cL_law 1159 = .ok (.iload_n 3, 1) := by decide +kernel
theorem dL_law_1160 : decode cL_law 1160 = .ok (.iconst 1, 1) := by decide +kernel
theorem dL_law_1161 : decode cL_law 1161 = .ok (.iadd, 1) := by decide +kernel
theorem dL_law_1162 : decode cL_law 1162 = .ok (.iaload, 1) := by decide +kernel
theorem dL_law_1163 : decode cL_law 1163 = .ok (.invokevirtual 149, 3) := by decide +kernel
theorem dL_law_1166 : decode cL_law 1166 = .ok (.if_icmp .eq 152, 3) := by decide +kernel
theorem dL_law_1169 : decode cL_law 1169 = .ok (.iconst 0, 1) := by decide +kernel
theorem dL_law_1170 : decode cL_law 1170 = .ok (.ireturn, 1) := by decide +kernel
theorem dL_law_1171 : decode cL_law 1171 = .ok (.aload_n 1, 1) := by decide +kernel
theorem dL_law_1172 : decode cL_law 1172 = .ok (.aload_n 0, 1) := by decide +kernel
theorem dL_law_1173 : decode cL_law 1173 = .ok (.iload_n 3, 1) := by decide +kernel
theorem dL_law_1174 : decode cL_law 1174 = .ok (.iconst 1, 1) := by decide +kernel
theorem dL_law_1175 : decode cL_law 1175 = .ok (.iadd, 1) := by decide +kernel
theorem dL_law_1176 : decode cL_law 1176 = .ok (.iaload, 1) := by decide +kernel
theorem dL_law_1177 : decode cL_law 1177 = .ok (.aload_n 0, 1) := by decide +kernel
theorem dL_law_1178 : decode cL_law 1178 = .ok (.iload_n 3, 1) := by decide +kernel
theorem dL_law_1179 : decode cL_law 1179 = .ok (.iconst 2, 1) := by decide +kernel
theorem dL_law_1180 : decode cL_law 1180 = .ok (.iadd, 1) := by decide +kernel
theorem dL_law_1181 : decode cL_law 1181 = .ok (.iaload, 1) := by decide +kernel
theorem dL_law_1182 : decode cL_law 1182 = .ok (.invokevirtual 150, 3) := by decide +kernel
theorem dL_law_1185 : decode cL_law 1185 = .ok (.aload_n 2, 1) := by decide +kernel
theorem dL_law_1186 : decode cL_law 1186 = .ok (.aload_n 0, 1) := by decide +kernel
theorem dL_law_1187 : decode cL_law 1187 = .ok (.iload_n 3, 1) := by decide +kernel
theorem dL_law_1188 : decode cL_law 1188 = .ok (.iconst 1, 1) := by decide +kernel
theorem dL_law_1189 : decode cL_law 1189 = .ok (.iadd, 1) := by decide +kernel
theorem dL_law_1190 : decode cL_law 1190 = .ok (.iaload, 1) := by decide +kernel
theorem dL_law_1191 : decode cL_law 1191 = .ok (.aload_n 0, 1) := by decide +kernel
theorem dL_law_1192 : decode cL_law 1192 = .ok (.iload_n 3, 1) := by decide +kernel
theorem dL_law_1193 : decode cL_law 1193 = .ok (.iconst 2, 1) := by decide +kernel
theorem dL_law_1194 : decode cL_law 1194 = .ok (.iadd, 1) := by decide +kernel
theorem dL_law_1195 : decode cL_law 1195 = .ok (.iaload, 1) := by decide +kernel
theorem dL_law_1196 : decode cL_law 1196 = .ok (.invokevirtual 153, 3) := by decide +kernel
theorem dL_law_1199 : decode cL_law 1199 = .ok (.if_icmp .eq 119, 3) := by decide +kernel
theorem dL_law_1202 : decode cL_law 1202 = .ok (.iconst 0, 1) := by decide +kernel
theorem dL_law_1203 : decode cL_law 1203 = .ok (.ireturn, 1) := by decide +kernel
theorem dL_law_1204 : decode cL_law 1204 = .ok (.aload_n 1, 1) := by decide +kernel
theorem dL_law_1205 : decode cL_law 1205 = .ok (.invokevirtual 154, 3) := by decide +kernel
theorem dL_law_1208 : decode cL_law 1208 = .ok (.aload_n 2, 1) := by decide +kernel
theorem dL_law_1209 : decode cL_law 1209 = .ok (.invokevirtual 157, 3) := by decide +kernel
theorem dL_law_1212 : decode cL_law 1212 = .ok (.if_icmp .eq 106, 3) := by decide +kernel
theorem dL_law_1215 : decode cL_law 1215 = .ok (.iconst 0, 1) := by decide +kernel
theorem dL_law_1216 : decode cL_law 1216 = .ok (.ireturn, 1) := by decide +kernel
theorem dL_law_1217 : decode cL_law 1217 = .ok (.aload_n 1, 1) := by decide +kernel
theorem dL_law_1218 : decode cL_law 1218 = .ok (.invokevirtual 158, 3) := by decide +kernel
theorem dL_law_1221 : decode cL_law 1221 = .ok (.aload_n 2, 1) := by decide +kernel
theorem dL_law_1222 : decode cL_law 1222 = .ok (.invokevirtual 162, 3) := by decide +kernel
theorem dL_law_1225 : decode cL_law 1225 = .ok (.lcmp, 1) := by decide +kernel
theorem dL_law_1226 : decode cL_law 1226 = .ok (.ifCond .eq 92, 3) := by decide +kernel
theorem dL_law_1229 : decode cL_law 1229 = .ok (.iconst 0, 1) := by decide +kernel
theorem dL_law_1230 : decode cL_law 1230 = .ok (.ireturn, 1) := by decide +kernel
theorem dL_law_1231 : decode cL_law 1231 = .ok (.aload_n 1, 1) := by decide +kernel
theorem dL_law_1232 : decode cL_law 1232 = .ok (.invokevirtual 163, 3) := by decide +kernel
theorem dL_law_1235 : decode cL_law 1235 = .ok (.aload_n 2, 1) := by decide +kernel
theorem dL_law_1236 : decode cL_law 1236 = .ok (.invokevirtual 166, 3) := by decide +kernel
theorem dL_law_1239 : decode cL_law 1239 = .ok (.lcmp, 1) := by decide +kernel
theorem dL_law_1240 : decode cL_law 1240 = .ok (.ifCond .eq 78, 3) := by decide +kernel
theorem dL_law_1243 : decode cL_law 1243 = .ok (.iconst 0, 1) := by decide +kernel
theorem dL_law_1244 : decode cL_law 1244 = .ok (.ireturn, 1) := by decide +kernel
theorem dL_law_1245 : decode cL_law 1245 = .ok (.aload_n 1, 1) := by decide +kernel
theorem dL_law_1246 : decode cL_law 1246 = .ok (.aload_n 0, 1) := by decide +kernel
theorem dL_law_1247 : decode cL_law 1247 = .ok (.iload_n 3, 1) := by decide +kernel
theorem dL_law_1248 : decode cL_law 1248 = .ok (.iconst 1, 1) := by decide +kernel
theorem dL_law_1249 : decode cL_law 1249 = .ok (.iadd, 1) := by decide +kernel
theorem dL_law_1250 : decode cL_law 1250 = .ok (.iaload, 1) := by decide +kernel
theorem dL_law_1251 : decode cL_law 1251 = .ok (.invokevirtual 167, 3) := by decide +kernel
theorem dL_law_1254 : decode cL_law 1254 = .ok (.aload_n 2, 1) := by decide +kernel
theorem dL_law_1255 : decode cL_law 1255 = .ok (.aload_n 0, 1) := by decide +kernel
theorem dL_law_1256 : decode cL_law 1256 = .ok (.iload_n 3, 1) := by decide +kernel
theorem dL_law_1257 : decode cL_law 1257 = .ok (.iconst 1, 1) := by decide +kernel
theorem dL_law_1258 : decode cL_law 1258 = .ok (.iadd, 1) := by decide +kernel
theorem dL_law_1259 : decode cL_law 1259 = .ok (.iaload, 1) := by decide +kernel
theorem dL_law_1260 : decode cL_law 1260 = .ok (.invokevirtual 170, 3) := by decide +kernel
theorem dL_law_1263 : decode cL_law 1263 = .ok (.if_icmp .eq 55, 3) := by decide +kernel
theorem dL_law_1266 : decode cL_law 1266 = .ok (.iconst 0, 1) := by decide +kernel
theorem dL_law_1267 : decode cL_law 1267 = .ok (.ireturn, 1) := by decide +kernel
theorem dL_law_1268 : decode cL_law 1268 = .ok (.aload_n 1, 1) := by decide +kernel
theorem dL_law_1269 : decode cL_law 1269 = .ok (.invokevirtual 171, 3) := by decide +kernel
theorem dL_law_1272 : decode cL_law 1272 = .ok (.aload_n 2, 1) := by decide +kernel
theorem dL_law_1273 : decode cL_law 1273 = .ok (.invokevirtual 174, 3) := by decide +kernel
theorem dL_law_1276 : decode cL_law 1276 = .ok (.if_icmp .eq 42, 3) := by decide +kernel
theorem dL_law_1279 : decode cL_law 1279 = .ok (.iconst 0, 1) := by decide +kernel
theorem dL_law_1280 : decode cL_law 1280 = .ok (.ireturn, 1) := by decide +kernel
theorem dL_law_1281 : decode cL_law 1281 = .ok (.aload_n 1, 1) := by decide +kernel
theorem dL_law_1282 : decode cL_law 1282 = .ok (.aload_n 0, 1) := by decide +kernel
theorem dL_law_1283 : decode cL_law 1283 = .ok (.iload_n 3, 1) := by decide +kernel
theorem dL_law_1284 : decode cL_law 1284 = .ok (.iconst 1, 1) := by decide +kernel
theorem dL_law_1285 : decode cL_law 1285 = .ok (.iadd, 1) := by decide +kernel
theorem dL_law_1286 : decode cL_law 1286 = .ok (.iaload, 1) := by decide +kernel
theorem dL_law_1287 : decode cL_law 1287 = .ok (.invokevirtual 175, 3) := by decide +kernel
theorem dL_law_1290 : decode cL_law 1290 = .ok (.aload_n 2, 1) := by decide +kernel
theorem dL_law_1291 : decode cL_law 1291 = .ok (.aload_n 0, 1) := by decide +kernel
theorem dL_law_1292 : decode cL_law 1292 = .ok (.iload_n 3, 1) := by decide +kernel
theorem dL_law_1293 : decode cL_law 1293 = .ok (.iconst 1, 1) := by decide +kernel
theorem dL_law_1294 : decode cL_law 1294 = .ok (.iadd, 1) := by decide +kernel
theorem dL_law_1295 : decode cL_law 1295 = .ok (.iaload, 1) := by decide +kernel
theorem dL_law_1296 : decode cL_law 1296 = .ok (.invokevirtual 178, 3) := by decide +kernel
theorem dL_law_1299 : decode cL_law 1299 = .ok (.if_icmp .eq 19, 3) := by decide +kernel
theorem dL_law_1302 : decode cL_law 1302 = .ok (.iconst 0, 1) := by decide +kernel
theorem dL_law_1303 : decode cL_law 1303 = .ok (.ireturn, 1) := by decide +kernel
theorem dL_law_1304 : decode cL_law 1304 = .ok (.aload_n 1, 1) := by decide +kernel
theorem dL_law_1305 : decode cL_law 1305 = .ok (.invokevirtual 179, 3) := by decide +kernel
theorem dL_law_1308 : decode cL_law 1308 = .ok (.aload_n 2, 1) := by decide +kernel
theorem dL_law_1309 : decode cL_law 1309 = .ok (.invokevirtual 182, 3) := by decide +kernel
theorem dL_law_1312 : decode cL_law 1312 = .ok (.lcmp, 1) := by decide +kernel
theorem dL_law_1313 : decode cL_law 1313 = .ok (.ifCond .eq 5, 3) := by decide +kernel
theorem dL_law_1316 : decode cL_law 1316 = .ok (.iconst 0, 1) := by decide +kernel
theorem dL_law_1317 : decode cL_law 1317 = .ok (.ireturn, 1) := by decide +kernel
theorem dL_law_1318 : decode cL_law 1318 = .ok (.iinc 3 6, 3) := by decide +kernel
theorem dL_law_1321 : decode cL_law 1321 = .ok (.goto (-1303), 3) := by decide +kernel
theorem dL_law_1324 : decode cL_law 1324 = .ok (.iconst 1, 1) := by decide +kernel
theorem dL_law_1325 : decode cL_law 1325 = .ok (.ireturn, 1) := by decide +kernel
end

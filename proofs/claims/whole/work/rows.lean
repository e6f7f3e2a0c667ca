section
-- ===== PART A: goes FIRST, ahead of the names: the tables' words, and 'selects' of the private methods out of them =====
/-- a private method of a class that the tables say can be made, by its rows of tables_1 -/
def lw_okq (q : MethodName × Nat) : Prop := (q.1.cls ≠ "java/lang/invoke/MethodHandle" ∧ q.1.cls ≠ "java/lang/invoke/VarHandle") ∧ Cond.instantiable q.1.cls q.2 ∈ tables_1 ∧ Cond.privateMethod q.1 ∈ tables_1 ∧ Cond.instanceMethod q.1 ∈ tables_1
theorem lw_p0 : lw_okq (⟨"BolsterBeds", "makeAnew", "(LBolsterBeds$Shelf;III)I"⟩, 18) := ⟨⟨by decide +kernel, by decide +kernel⟩, List.mem_of_getElem? (i := 16) (by decide +kernel), List.mem_of_getElem? (i := 263) (by decide +kernel), List.mem_of_getElem? (i := 264) (by decide +kernel)⟩
theorem lw_p1 : lw_okq (⟨"BolsterBeds", "refuse", "(I)I"⟩, 18) := ⟨⟨by decide +kernel, by decide +kernel⟩, List.mem_of_getElem? (i := 16) (by decide +kernel), List.mem_of_getElem? (i := 271) (by decide +kernel), List.mem_of_getElem? (i := 272) (by decide +kernel)⟩
theorem lw_p2 : lw_okq (⟨"BolsterBeds", "refusalOfPlace", "(LBolsterBeds$Shelf;II)I"⟩, 18) := ⟨⟨by decide +kernel, by decide +kernel⟩, List.mem_of_getElem? (i := 16) (by decide +kernel), List.mem_of_getElem? (i := 301) (by decide +kernel), List.mem_of_getElem? (i := 302) (by decide +kernel)⟩
theorem lw_p3 : lw_okq (⟨"BolsterBeds", "refusalOfMissing", "(LBolsterBeds$Shelf;I)I"⟩, 18) := ⟨⟨by decide +kernel, by decide +kernel⟩, List.mem_of_getElem? (i := 16) (by decide +kernel), List.mem_of_getElem? (i := 305) (by decide +kernel), List.mem_of_getElem? (i := 306) (by decide +kernel)⟩
theorem lw_p4 : lw_okq (⟨"BolsterBeds", "tell", "(I)I"⟩, 18) := ⟨⟨by decide +kernel, by decide +kernel⟩, List.mem_of_getElem? (i := 16) (by decide +kernel), List.mem_of_getElem? (i := 323) (by decide +kernel), List.mem_of_getElem? (i := 324) (by decide +kernel)⟩
theorem lw_p5 : lw_okq (⟨"BolsterBeds$Reader", "skipBlanks", "()V"⟩, 4) := ⟨⟨by decide +kernel, by decide +kernel⟩, List.mem_of_getElem? (i := 93) (by decide +kernel), List.mem_of_getElem? (i := 381) (by decide +kernel), List.mem_of_getElem? (i := 382) (by decide +kernel)⟩
theorem lw_p6 : lw_okq (⟨"BolsterBeds$Reader", "here", "()I"⟩, 4) := ⟨⟨by decide +kernel, by decide +kernel⟩, List.mem_of_getElem? (i := 93) (by decide +kernel), List.mem_of_getElem? (i := 385) (by decide +kernel), List.mem_of_getElem? (i := 386) (by decide +kernel)⟩
theorem lw_p7 : lw_okq (⟨"BolsterBeds$Reader", "takesHead", "()Z"⟩, 4) := ⟨⟨by decide +kernel, by decide +kernel⟩, List.mem_of_getElem? (i := 93) (by decide +kernel), List.mem_of_getElem? (i := 390) (by decide +kernel), List.mem_of_getElem? (i := 391) (by decide +kernel)⟩
theorem lw_p8 : lw_okq (⟨"BolsterBeds$Reader", "takeFigure", "(I)I"⟩, 4) := ⟨⟨by decide +kernel, by decide +kernel⟩, List.mem_of_getElem? (i := 93) (by decide +kernel), List.mem_of_getElem? (i := 394) (by decide +kernel), List.mem_of_getElem? (i := 395) (by decide +kernel)⟩
theorem lw_p9 : lw_okq (⟨"BolsterBeds$Reader", "takesBed", "()Z"⟩, 4) := ⟨⟨by decide +kernel, by decide +kernel⟩, List.mem_of_getElem? (i := 93) (by decide +kernel), List.mem_of_getElem? (i := 398) (by decide +kernel), List.mem_of_getElem? (i := 399) (by decide +kernel)⟩
theorem lw_p10 : lw_okq (⟨"BolsterBeds$Reader", "kindHere", "()I"⟩, 4) := ⟨⟨by decide +kernel, by decide +kernel⟩, List.mem_of_getElem? (i := 93) (by decide +kernel), List.mem_of_getElem? (i := 402) (by decide +kernel), List.mem_of_getElem? (i := 403) (by decide +kernel)⟩
theorem lw_p11 : lw_okq (⟨"BolsterBeds", "enact", "(III)I"⟩, 18) := ⟨⟨by decide +kernel, by decide +kernel⟩, List.mem_of_getElem? (i := 16) (by decide +kernel), List.mem_of_getElem? (i := 499) (by decide +kernel), List.mem_of_getElem? (i := 500) (by decide +kernel)⟩
theorem lw_p12 : lw_okq (⟨"BolsterBeds$Town", "swapRights", "(II)V"⟩, 10) := ⟨⟨by decide +kernel, by decide +kernel⟩, List.mem_of_getElem? (i := 48) (by decide +kernel), List.mem_of_getElem? (i := 521) (by decide +kernel), List.mem_of_getElem? (i := 522) (by decide +kernel)⟩
theorem lw_p13 : lw_okq (⟨"BolsterBeds$Town", "sleepIn", "(I)I"⟩, 10) := ⟨⟨by decide +kernel, by decide +kernel⟩, List.mem_of_getElem? (i := 48) (by decide +kernel), List.mem_of_getElem? (i := 529) (by decide +kernel), List.mem_of_getElem? (i := 530) (by decide +kernel)⟩
theorem lw_p14 : lw_okq (⟨"BolsterBeds", "redoFromStart", "()V"⟩, 18) := ⟨⟨by decide +kernel, by decide +kernel⟩, List.mem_of_getElem? (i := 16) (by decide +kernel), List.mem_of_getElem? (i := 550) (by decide +kernel), List.mem_of_getElem? (i := 551) (by decide +kernel)⟩
theorem lw_p15 : lw_okq (⟨"BolsterBeds$Rounds", "goOn", "(LBolsterBeds$Town;III)V"⟩, 4) := ⟨⟨by decide +kernel, by decide +kernel⟩, List.mem_of_getElem? (i := 115) (by decide +kernel), List.mem_of_getElem? (i := 598) (by decide +kernel), List.mem_of_getElem? (i := 599) (by decide +kernel)⟩
def lw_privs_1 : List (MethodName × Nat) := [(⟨"BolsterBeds", "makeAnew", "(LBolsterBeds$Shelf;III)I"⟩, 18), (⟨"BolsterBeds", "refuse", "(I)I"⟩, 18), (⟨"BolsterBeds", "refusalOfPlace", "(LBolsterBeds$Shelf;II)I"⟩, 18), (⟨"BolsterBeds", "refusalOfMissing", "(LBolsterBeds$Shelf;I)I"⟩, 18), (⟨"BolsterBeds", "tell", "(I)I"⟩, 18), (⟨"BolsterBeds$Reader", "skipBlanks", "()V"⟩, 4), (⟨"BolsterBeds$Reader", "here", "()I"⟩, 4), (⟨"BolsterBeds$Reader", "takesHead", "()Z"⟩, 4), (⟨"BolsterBeds$Reader", "takeFigure", "(I)I"⟩, 4), (⟨"BolsterBeds$Reader", "takesBed", "()Z"⟩, 4), (⟨"BolsterBeds$Reader", "kindHere", "()I"⟩, 4), (⟨"BolsterBeds", "enact", "(III)I"⟩, 18), (⟨"BolsterBeds$Town", "swapRights", "(II)V"⟩, 10), (⟨"BolsterBeds$Town", "sleepIn", "(I)I"⟩, 10), (⟨"BolsterBeds", "redoFromStart", "()V"⟩, 18), (⟨"BolsterBeds$Rounds", "goOn", "(LBolsterBeds$Town;III)V"⟩, 4)]
theorem lw_r1 : ∀ q ∈ lw_privs_1, lw_okq q := List.forall_mem_cons.mpr ⟨lw_p0, List.forall_mem_cons.mpr ⟨lw_p1, List.forall_mem_cons.mpr ⟨lw_p2, List.forall_mem_cons.mpr ⟨lw_p3, List.forall_mem_cons.mpr ⟨lw_p4, List.forall_mem_cons.mpr ⟨lw_p5, List.forall_mem_cons.mpr ⟨lw_p6, List.forall_mem_cons.mpr ⟨lw_p7, List.forall_mem_cons.mpr ⟨lw_p8, List.forall_mem_cons.mpr ⟨lw_p9, List.forall_mem_cons.mpr ⟨lw_p10, List.forall_mem_cons.mpr ⟨lw_p11, List.forall_mem_cons.mpr ⟨lw_p12, List.forall_mem_cons.mpr ⟨lw_p13, List.forall_mem_cons.mpr ⟨lw_p14, List.forall_mem_cons.mpr ⟨lw_p15, fun _ h => absurd h List.not_mem_nil⟩⟩⟩⟩⟩⟩⟩⟩⟩⟩⟩⟩⟩⟩⟩⟩
theorem lw_p16 : lw_okq (⟨"BolsterBeds$Rounds", "takeIfMore", "(I)V"⟩, 4) := ⟨⟨by decide +kernel, by decide +kernel⟩, List.mem_of_getElem? (i := 115) (by decide +kernel), List.mem_of_getElem? (i := 602) (by decide +kernel), List.mem_of_getElem? (i := 603) (by decide +kernel)⟩
theorem lw_p17 : lw_okq (⟨"BolsterBeds", "isRound", "(I)Z"⟩, 18) := ⟨⟨by decide +kernel, by decide +kernel⟩, List.mem_of_getElem? (i := 16) (by decide +kernel), List.mem_of_getElem? (i := 615) (by decide +kernel), List.mem_of_getElem? (i := 616) (by decide +kernel)⟩
theorem lw_p18 : lw_okq (⟨"BolsterBeds$Marriages", "give", "(LBolsterBeds$Town;III)V"⟩, 3) := ⟨⟨by decide +kernel, by decide +kernel⟩, List.mem_of_getElem? (i := 149) (by decide +kernel), List.mem_of_getElem? (i := 634) (by decide +kernel), List.mem_of_getElem? (i := 635) (by decide +kernel)⟩
theorem lw_p19 : lw_okq (⟨"BolsterBeds", "takePairs", "(II)I"⟩, 18) := ⟨⟨by decide +kernel, by decide +kernel⟩, List.mem_of_getElem? (i := 16) (by decide +kernel), List.mem_of_getElem? (i := 653) (by decide +kernel), List.mem_of_getElem? (i := 654) (by decide +kernel)⟩
theorem lw_p20 : lw_okq (⟨"BolsterBeds$Clues", "fits", "(LBolsterBeds$Town;III)Z"⟩, 6) := ⟨⟨by decide +kernel, by decide +kernel⟩, List.mem_of_getElem? (i := 166) (by decide +kernel), List.mem_of_getElem? (i := 668) (by decide +kernel), List.mem_of_getElem? (i := 669) (by decide +kernel)⟩
theorem lw_p21 : lw_okq (⟨"BolsterBeds$Clues", "greatestPart", "(LBolsterBeds$Town;II)I"⟩, 6) := ⟨⟨by decide +kernel, by decide +kernel⟩, List.mem_of_getElem? (i := 166) (by decide +kernel), List.mem_of_getElem? (i := 692) (by decide +kernel), List.mem_of_getElem? (i := 693) (by decide +kernel)⟩
theorem lw_p22 : lw_okq (⟨"BolsterBeds$Duel", "fewestFrom", "(LBolsterBeds$Town;II)I"⟩, 1) := ⟨⟨by decide +kernel, by decide +kernel⟩, List.mem_of_getElem? (i := 192) (by decide +kernel), List.mem_of_getElem? (i := 706) (by decide +kernel), List.mem_of_getElem? (i := 707) (by decide +kernel)⟩
theorem lw_p23 : lw_okq (⟨"BolsterBeds$Duel", "mostFrom", "(LBolsterBeds$Town;II)I"⟩, 1) := ⟨⟨by decide +kernel, by decide +kernel⟩, List.mem_of_getElem? (i := 192) (by decide +kernel), List.mem_of_getElem? (i := 717) (by decide +kernel), List.mem_of_getElem? (i := 718) (by decide +kernel)⟩
theorem lw_p24 : lw_okq (⟨"BolsterBeds", "tellChance", "(JJ)I"⟩, 18) := ⟨⟨by decide +kernel, by decide +kernel⟩, List.mem_of_getElem? (i := 16) (by decide +kernel), List.mem_of_getElem? (i := 744) (by decide +kernel), List.mem_of_getElem? (i := 745) (by decide +kernel)⟩
theorem lw_p25 : lw_okq (⟨"BolsterBedsModel", "found", "(I)I"⟩, 17) := ⟨⟨by decide +kernel, by decide +kernel⟩, List.mem_of_getElem? (i := 819) (by decide +kernel), List.mem_of_getElem? (i := 888) (by decide +kernel), List.mem_of_getElem? (i := 889) (by decide +kernel)⟩
theorem lw_p26 : lw_okq (⟨"BolsterBedsModel", "anew", "(II)V"⟩, 17) := ⟨⟨by decide +kernel, by decide +kernel⟩, List.mem_of_getElem? (i := 819) (by decide +kernel), List.mem_of_getElem? (i := 892) (by decide +kernel), List.mem_of_getElem? (i := 893) (by decide +kernel)⟩
theorem lw_p27 : lw_okq (⟨"BolsterBedsModel", "tells", "(II)I"⟩, 17) := ⟨⟨by decide +kernel, by decide +kernel⟩, List.mem_of_getElem? (i := 819) (by decide +kernel), List.mem_of_getElem? (i := 904) (by decide +kernel), List.mem_of_getElem? (i := 905) (by decide +kernel)⟩
theorem lw_p28 : lw_okq (⟨"BolsterBedsModel", "faultOf", "(I)I"⟩, 17) := ⟨⟨by decide +kernel, by decide +kernel⟩, List.mem_of_getElem? (i := 819) (by decide +kernel), List.mem_of_getElem? (i := 940) (by decide +kernel), List.mem_of_getElem? (i := 941) (by decide +kernel)⟩
theorem lw_p29 : lw_okq (⟨"BolsterBedsModel", "blanks", "(I)V"⟩, 17) := ⟨⟨by decide +kernel, by decide +kernel⟩, List.mem_of_getElem? (i := 819) (by decide +kernel), List.mem_of_getElem? (i := 944) (by decide +kernel), List.mem_of_getElem? (i := 945) (by decide +kernel)⟩
theorem lw_p30 : lw_okq (⟨"BolsterBedsModel", "byteAt", "(II)I"⟩, 17) := ⟨⟨by decide +kernel, by decide +kernel⟩, List.mem_of_getElem? (i := 819) (by decide +kernel), List.mem_of_getElem? (i := 948) (by decide +kernel), List.mem_of_getElem? (i := 949) (by decide +kernel)⟩
theorem lw_p31 : lw_okq (⟨"BolsterBedsModel", "takesFirst", "(I)Z"⟩, 17) := ⟨⟨by decide +kernel, by decide +kernel⟩, List.mem_of_getElem? (i := 819) (by decide +kernel), List.mem_of_getElem? (i := 952) (by decide +kernel), List.mem_of_getElem? (i := 953) (by decide +kernel)⟩
def lw_privs_2 : List (MethodName × Nat) := [(⟨"BolsterBeds$Rounds", "takeIfMore", "(I)V"⟩, 4), (⟨"BolsterBeds", "isRound", "(I)Z"⟩, 18), (⟨"BolsterBeds$Marriages", "give", "(LBolsterBeds$Town;III)V"⟩, 3), (⟨"BolsterBeds", "takePairs", "(II)I"⟩, 18), (⟨"BolsterBeds$Clues", "fits", "(LBolsterBeds$Town;III)Z"⟩, 6), (⟨"BolsterBeds$Clues", "greatestPart", "(LBolsterBeds$Town;II)I"⟩, 6), (⟨"BolsterBeds$Duel", "fewestFrom", "(LBolsterBeds$Town;II)I"⟩, 1), (⟨"BolsterBeds$Duel", "mostFrom", "(LBolsterBeds$Town;II)I"⟩, 1), (⟨"BolsterBeds", "tellChance", "(JJ)I"⟩, 18), (⟨"BolsterBedsModel", "found", "(I)I"⟩, 17), (⟨"BolsterBedsModel", "anew", "(II)V"⟩, 17), (⟨"BolsterBedsModel", "tells", "(II)I"⟩, 17), (⟨"BolsterBedsModel", "faultOf", "(I)I"⟩, 17), (⟨"BolsterBedsModel", "blanks", "(I)V"⟩, 17), (⟨"BolsterBedsModel", "byteAt", "(II)I"⟩, 17), (⟨"BolsterBedsModel", "takesFirst", "(I)Z"⟩, 17)]
theorem lw_r2 : ∀ q ∈ lw_privs_2, lw_okq q := List.forall_mem_cons.mpr ⟨lw_p16, List.forall_mem_cons.mpr ⟨lw_p17, List.forall_mem_cons.mpr ⟨lw_p18, List.forall_mem_cons.mpr ⟨lw_p19, List.forall_mem_cons.mpr ⟨lw_p20, List.forall_mem_cons.mpr ⟨lw_p21, List.forall_mem_cons.mpr ⟨lw_p22, List.forall_mem_cons.mpr ⟨lw_p23, List.forall_mem_cons.mpr ⟨lw_p24, List.forall_mem_cons.mpr ⟨lw_p25, List.forall_mem_cons.mpr ⟨lw_p26, List.forall_mem_cons.mpr ⟨lw_p27, List.forall_mem_cons.mpr ⟨lw_p28, List.forall_mem_cons.mpr ⟨lw_p29, List.forall_mem_cons.mpr ⟨lw_p30, List.forall_mem_cons.mpr ⟨lw_p31, fun _ h => absurd h List.not_mem_nil⟩⟩⟩⟩⟩⟩⟩⟩⟩⟩⟩⟩⟩⟩⟩⟩
theorem lw_p32 : lw_okq (⟨"BolsterBedsModel", "figures", "(IIIII)Z"⟩, 17) := ⟨⟨by decide +kernel, by decide +kernel⟩, List.mem_of_getElem? (i := 819) (by decide +kernel), List.mem_of_getElem? (i := 956) (by decide +kernel), List.mem_of_getElem? (i := 957) (by decide +kernel)⟩
theorem lw_p33 : lw_okq (⟨"BolsterBedsModel", "takesBed", "(I)Z"⟩, 17) := ⟨⟨by decide +kernel, by decide +kernel⟩, List.mem_of_getElem? (i := 819) (by decide +kernel), List.mem_of_getElem? (i := 961) (by decide +kernel), List.mem_of_getElem? (i := 962) (by decide +kernel)⟩
theorem lw_p34 : lw_okq (⟨"BolsterBedsModel", "copyAll", "(III)V"⟩, 17) := ⟨⟨by decide +kernel, by decide +kernel⟩, List.mem_of_getElem? (i := 819) (by decide +kernel), List.mem_of_getElem? (i := 972) (by decide +kernel), List.mem_of_getElem? (i := 973) (by decide +kernel)⟩
theorem lw_p35 : lw_okq (⟨"BolsterBedsModel", "isBed", "(I)Z"⟩, 17) := ⟨⟨by decide +kernel, by decide +kernel⟩, List.mem_of_getElem? (i := 819) (by decide +kernel), List.mem_of_getElem? (i := 980) (by decide +kernel), List.mem_of_getElem? (i := 981) (by decide +kernel)⟩
theorem lw_p36 : lw_okq (⟨"BolsterBedsModel", "bedTells", "(II)I"⟩, 17) := ⟨⟨by decide +kernel, by decide +kernel⟩, List.mem_of_getElem? (i := 819) (by decide +kernel), List.mem_of_getElem? (i := 985) (by decide +kernel), List.mem_of_getElem? (i := 986) (by decide +kernel)⟩
theorem lw_p37 : lw_okq (⟨"BolsterBedsModel", "crossIn", "(II)I"⟩, 17) := ⟨⟨by decide +kernel, by decide +kernel⟩, List.mem_of_getElem? (i := 819) (by decide +kernel), List.mem_of_getElem? (i := 989) (by decide +kernel), List.mem_of_getElem? (i := 990) (by decide +kernel)⟩
theorem lw_p38 : lw_okq (⟨"BolsterBedsModel", "gapIn", "(II)I"⟩, 17) := ⟨⟨by decide +kernel, by decide +kernel⟩, List.mem_of_getElem? (i := 819) (by decide +kernel), List.mem_of_getElem? (i := 993) (by decide +kernel), List.mem_of_getElem? (i := 994) (by decide +kernel)⟩
theorem lw_p39 : lw_okq (⟨"BolsterBedsModel", "crossBy", "(IIII)I"⟩, 17) := ⟨⟨by decide +kernel, by decide +kernel⟩, List.mem_of_getElem? (i := 819) (by decide +kernel), List.mem_of_getElem? (i := 1000) (by decide +kernel), List.mem_of_getElem? (i := 1001) (by decide +kernel)⟩
theorem lw_p40 : lw_okq (⟨"BolsterBedsModel", "crossAs", "(II)I"⟩, 17) := ⟨⟨by decide +kernel, by decide +kernel⟩, List.mem_of_getElem? (i := 819) (by decide +kernel), List.mem_of_getElem? (i := 1011) (by decide +kernel), List.mem_of_getElem? (i := 1012) (by decide +kernel)⟩
theorem lw_p41 : lw_okq (⟨"BolsterBedsModel", "isTown", "()Z"⟩, 17) := ⟨⟨by decide +kernel, by decide +kernel⟩, List.mem_of_getElem? (i := 819) (by decide +kernel), List.mem_of_getElem? (i := 1024) (by decide +kernel), List.mem_of_getElem? (i := 1025) (by decide +kernel)⟩
theorem lw_p42 : lw_okq (⟨"BolsterBedsModel", "minds", "()V"⟩, 17) := ⟨⟨by decide +kernel, by decide +kernel⟩, List.mem_of_getElem? (i := 819) (by decide +kernel), List.mem_of_getElem? (i := 1028) (by decide +kernel), List.mem_of_getElem? (i := 1029) (by decide +kernel)⟩
theorem lw_p43 : lw_okq (⟨"BolsterBedsModel", "passes", "(I)I"⟩, 17) := ⟨⟨by decide +kernel, by decide +kernel⟩, List.mem_of_getElem? (i := 819) (by decide +kernel), List.mem_of_getElem? (i := 1032) (by decide +kernel), List.mem_of_getElem? (i := 1033) (by decide +kernel)⟩
theorem lw_p44 : lw_okq (⟨"BolsterBedsModel", "inspects", "(II)I"⟩, 17) := ⟨⟨by decide +kernel, by decide +kernel⟩, List.mem_of_getElem? (i := 819) (by decide +kernel), List.mem_of_getElem? (i := 1040) (by decide +kernel), List.mem_of_getElem? (i := 1041) (by decide +kernel)⟩
theorem lw_p45 : lw_okq (⟨"BolsterBedsModel", "isDue", "(II)Z"⟩, 17) := ⟨⟨by decide +kernel, by decide +kernel⟩, List.mem_of_getElem? (i := 819) (by decide +kernel), List.mem_of_getElem? (i := 1044) (by decide +kernel), List.mem_of_getElem? (i := 1045) (by decide +kernel)⟩
theorem lw_p46 : lw_okq (⟨"BolsterBedsModel", "tries", "()V"⟩, 17) := ⟨⟨by decide +kernel, by decide +kernel⟩, List.mem_of_getElem? (i := 819) (by decide +kernel), List.mem_of_getElem? (i := 1077) (by decide +kernel), List.mem_of_getElem? (i := 1078) (by decide +kernel)⟩
theorem lw_p47 : lw_okq (⟨"BolsterBedsModel", "triesNights", "(I)V"⟩, 17) := ⟨⟨by decide +kernel, by decide +kernel⟩, List.mem_of_getElem? (i := 819) (by decide +kernel), List.mem_of_getElem? (i := 1081) (by decide +kernel), List.mem_of_getElem? (i := 1082) (by decide +kernel)⟩
def lw_privs_3 : List (MethodName × Nat) := [(⟨"BolsterBedsModel", "figures", "(IIIII)Z"⟩, 17), (⟨"BolsterBedsModel", "takesBed", "(I)Z"⟩, 17), (⟨"BolsterBedsModel", "copyAll", "(III)V"⟩, 17), (⟨"BolsterBedsModel", "isBed", "(I)Z"⟩, 17), (⟨"BolsterBedsModel", "bedTells", "(II)I"⟩, 17), (⟨"BolsterBedsModel", "crossIn", "(II)I"⟩, 17), (⟨"BolsterBedsModel", "gapIn", "(II)I"⟩, 17), (⟨"BolsterBedsModel", "crossBy", "(IIII)I"⟩, 17), (⟨"BolsterBedsModel", "crossAs", "(II)I"⟩, 17), (⟨"BolsterBedsModel", "isTown", "()Z"⟩, 17), (⟨"BolsterBedsModel", "minds", "()V"⟩, 17), (⟨"BolsterBedsModel", "passes", "(I)I"⟩, 17), (⟨"BolsterBedsModel", "inspects", "(II)I"⟩, 17), (⟨"BolsterBedsModel", "isDue", "(II)Z"⟩, 17), (⟨"BolsterBedsModel", "tries", "()V"⟩, 17), (⟨"BolsterBedsModel", "triesNights", "(I)V"⟩, 17)]
theorem lw_r3 : ∀ q ∈ lw_privs_3, lw_okq q := List.forall_mem_cons.mpr ⟨lw_p32, List.forall_mem_cons.mpr ⟨lw_p33, List.forall_mem_cons.mpr ⟨lw_p34, List.forall_mem_cons.mpr ⟨lw_p35, List.forall_mem_cons.mpr ⟨lw_p36, List.forall_mem_cons.mpr ⟨lw_p37, List.forall_mem_cons.mpr ⟨lw_p38, List.forall_mem_cons.mpr ⟨lw_p39, List.forall_mem_cons.mpr ⟨lw_p40, List.forall_mem_cons.mpr ⟨lw_p41, List.forall_mem_cons.mpr ⟨lw_p42, List.forall_mem_cons.mpr ⟨lw_p43, List.forall_mem_cons.mpr ⟨lw_p44, List.forall_mem_cons.mpr ⟨lw_p45, List.forall_mem_cons.mpr ⟨lw_p46, List.forall_mem_cons.mpr ⟨lw_p47, fun _ h => absurd h List.not_mem_nil⟩⟩⟩⟩⟩⟩⟩⟩⟩⟩⟩⟩⟩⟩⟩⟩
theorem lw_p48 : lw_okq (⟨"BolsterBedsModel", "crossWith", "(II)I"⟩, 17) := ⟨⟨by decide +kernel, by decide +kernel⟩, List.mem_of_getElem? (i := 819) (by decide +kernel), List.mem_of_getElem? (i := 1107) (by decide +kernel), List.mem_of_getElem? (i := 1108) (by decide +kernel)⟩
theorem lw_p49 : lw_okq (⟨"BolsterBedsModel", "wantsRight", "(II)Z"⟩, 17) := ⟨⟨by decide +kernel, by decide +kernel⟩, List.mem_of_getElem? (i := 819) (by decide +kernel), List.mem_of_getElem? (i := 1115) (by decide +kernel), List.mem_of_getElem? (i := 1116) (by decide +kernel)⟩
theorem lw_p50 : lw_okq (⟨"BolsterBedsModel", "against", "(I)I"⟩, 17) := ⟨⟨by decide +kernel, by decide +kernel⟩, List.mem_of_getElem? (i := 819) (by decide +kernel), List.mem_of_getElem? (i := 1123) (by decide +kernel), List.mem_of_getElem? (i := 1124) (by decide +kernel)⟩
theorem lw_p51 : lw_okq (⟨"BolsterBedsModel", "crossedSo", "(IIII)Z"⟩, 17) := ⟨⟨by decide +kernel, by decide +kernel⟩, List.mem_of_getElem? (i := 819) (by decide +kernel), List.mem_of_getElem? (i := 1128) (by decide +kernel), List.mem_of_getElem? (i := 1129) (by decide +kernel)⟩
theorem lw_p52 : lw_okq (⟨"BolsterBedsModel", "dueNow", "()I"⟩, 17) := ⟨⟨by decide +kernel, by decide +kernel⟩, List.mem_of_getElem? (i := 819) (by decide +kernel), List.mem_of_getElem? (i := 1150) (by decide +kernel), List.mem_of_getElem? (i := 1151) (by decide +kernel)⟩
theorem lw_p53 : lw_okq (⟨"BolsterBedsModel", "waysOf", "(III)J"⟩, 17) := ⟨⟨by decide +kernel, by decide +kernel⟩, List.mem_of_getElem? (i := 819) (by decide +kernel), List.mem_of_getElem? (i := 1157) (by decide +kernel), List.mem_of_getElem? (i := 1158) (by decide +kernel)⟩
theorem lw_p54 : lw_okq (⟨"BolsterBedsModel", "allWays", "(I)J"⟩, 17) := ⟨⟨by decide +kernel, by decide +kernel⟩, List.mem_of_getElem? (i := 819) (by decide +kernel), List.mem_of_getElem? (i := 1164) (by decide +kernel), List.mem_of_getElem? (i := 1165) (by decide +kernel)⟩
theorem lw_p55 : lw_okq (⟨"BolsterBedsModel", "tellsParts", "(JJ)I"⟩, 17) := ⟨⟨by decide +kernel, by decide +kernel⟩, List.mem_of_getElem? (i := 819) (by decide +kernel), List.mem_of_getElem? (i := 1168) (by decide +kernel), List.mem_of_getElem? (i := 1169) (by decide +kernel)⟩
theorem lw_p56 : lw_okq (⟨"BolsterBedsModel", "countOf", "(I)I"⟩, 17) := ⟨⟨by decide +kernel, by decide +kernel⟩, List.mem_of_getElem? (i := 819) (by decide +kernel), List.mem_of_getElem? (i := 1202) (by decide +kernel), List.mem_of_getElem? (i := 1203) (by decide +kernel)⟩
theorem lw_p57 : lw_okq (⟨"BolsterBedsModel", "mix", "(J)V"⟩, 17) := ⟨⟨by decide +kernel, by decide +kernel⟩, List.mem_of_getElem? (i := 819) (by decide +kernel), List.mem_of_getElem? (i := 1219) (by decide +kernel), List.mem_of_getElem? (i := 1220) (by decide +kernel)⟩
def lw_privs_4 : List (MethodName × Nat) := [(⟨"BolsterBedsModel", "crossWith", "(II)I"⟩, 17), (⟨"BolsterBedsModel", "wantsRight", "(II)Z"⟩, 17), (⟨"BolsterBedsModel", "against", "(I)I"⟩, 17), (⟨"BolsterBedsModel", "crossedSo", "(IIII)Z"⟩, 17), (⟨"BolsterBedsModel", "dueNow", "()I"⟩, 17), (⟨"BolsterBedsModel", "waysOf", "(III)J"⟩, 17), (⟨"BolsterBedsModel", "allWays", "(I)J"⟩, 17), (⟨"BolsterBedsModel", "tellsParts", "(JJ)I"⟩, 17), (⟨"BolsterBedsModel", "countOf", "(I)I"⟩, 17), (⟨"BolsterBedsModel", "mix", "(J)V"⟩, 17)]
theorem lw_r4 : ∀ q ∈ lw_privs_4, lw_okq q := List.forall_mem_cons.mpr ⟨lw_p48, List.forall_mem_cons.mpr ⟨lw_p49, List.forall_mem_cons.mpr ⟨lw_p50, List.forall_mem_cons.mpr ⟨lw_p51, List.forall_mem_cons.mpr ⟨lw_p52, List.forall_mem_cons.mpr ⟨lw_p53, List.forall_mem_cons.mpr ⟨lw_p54, List.forall_mem_cons.mpr ⟨lw_p55, List.forall_mem_cons.mpr ⟨lw_p56, List.forall_mem_cons.mpr ⟨lw_p57, fun _ h => absurd h List.not_mem_nil⟩⟩⟩⟩⟩⟩⟩⟩⟩⟩
def lw_privs : List (MethodName × Nat) := lw_privs_1 ++ (lw_privs_2 ++ (lw_privs_3 ++ (lw_privs_4)))
def lw_tbl : List Cond := k2_sels lw_privs ++ tables_1
theorem lw_privs_ok : ∀ q ∈ lw_privs, lw_okq q := by
  show ∀ q ∈ lw_privs_1 ++ (lw_privs_2 ++ (lw_privs_3 ++ (lw_privs_4))), lw_okq q
  exact List.forall_mem_append.mpr ⟨lw_r1, List.forall_mem_append.mpr ⟨lw_r2, List.forall_mem_append.mpr ⟨lw_r3, lw_r4⟩⟩⟩
/-- the words that may stand in a contract, and the nest mates' -/
def lw_good : List Cond := lw_tbl.filter goodWord
def lw_isN : Cond → Bool
  | .fieldLinkNest _ _ _ _ _ _ => true
  | .methodLinkNest _ _ _ _ => true
  | _ => false
def lw_nest : List Cond := lw_tbl.filter lw_isN
theorem lw_g {w : Cond} (i : Nat) (h : lw_tbl[i]? = some w) (hg : goodWord w = true) : w ∈ lw_good := List.mem_filter.mpr ⟨List.mem_of_getElem? h, hg⟩
theorem lw_n {w : Cond} (i : Nat) (h : lw_tbl[i]? = some w) (hg : lw_isN w = true) : w ∈ lw_nest := List.mem_filter.mpr ⟨List.mem_of_getElem? h, hg⟩
end
section
def RX0 : String := "BolsterBeds$Clues"
def TX0 : u_T := fun k => match k with
  | 0 => ("BolsterBeds$Clues", "nights", "[I", true)
  | 1 => ("BolsterBeds$Clues", "crossings", "[I", true)
  | 2 => ("BolsterBeds$Clues", "fitting", "[I", true)
  | 3 => ("BolsterBeds$Clues", "parts", "[I", true)
  | 4 => ("BolsterBeds$Clues", "pairs", "I", false)
  | _ => ("BolsterBeds$Clues", "greatest", "I", false)
def tyX0 : Nat → FieldType := fun k => match k with
  | 0 => .array .int
  | 1 => .array .int
  | 2 => .array .int
  | 3 => .array .int
  | 4 => .int
  | _ => .int
theorem nmX0 : ∀ a, a < 6 → ∀ b, b < 6 → a ≠ b → (TX0 a).2.1 ≠ (TX0 b).2.1 := by decide +kernel
theorem tyX0_ok : ∀ k, k < 6 → parseFieldDescriptor (TX0 k).2.2.1 = some (tyX0 k) := by decide +kernel
abbrev cX0_init : ByteArray := prog_2_method_1_code
def yX0_init : MethodName := ⟨RX0, "<init>", "()V"⟩
abbrev cX0_take : ByteArray := prog_2_method_2_code
def yX0_take : MethodName := ⟨RX0, "take", "(LBolsterBeds$Shelf;I)Z"⟩
abbrev cX0_thicksFitting : ByteArray := prog_2_method_3_code
def yX0_thicksFitting : MethodName := ⟨RX0, "thicksFitting", "(LBolsterBeds$Town;II)I"⟩
abbrev cX0_kindsFitting : ByteArray := prog_2_method_4_code
def yX0_kindsFitting : MethodName := ⟨RX0, "kindsFitting", "(LBolsterBeds$Town;II)I"⟩
abbrev cX0_tellingNight : ByteArray := prog_2_method_5_code
def yX0_tellingNight : MethodName := ⟨RX0, "tellingNight", "(LBolsterBeds$Town;I)I"⟩
abbrev cX0_greatestPart : ByteArray := prog_2_method_6_code
def yX0_greatestPart : MethodName := ⟨RX0, "greatestPart", "(LBolsterBeds$Town;II)I"⟩
abbrev cX0_fits : ByteArray := prog_2_method_7_code
def yX0_fits : MethodName := ⟨RX0, "fits", "(LBolsterBeds$Town;III)Z"⟩
def RX1 : String := "BolsterBeds$Duel"
def TX1 : u_T := fun k => match k with
  | _ => ("BolsterBeds$Duel", "levels", "LBolsterBeds$Levels;", true)
def tyX1 : Nat → FieldType := fun k => match k with
  | _ => .object "BolsterBeds$Levels"
theorem nmX1 : ∀ a, a < 1 → ∀ b, b < 1 → a ≠ b → (TX1 a).2.1 ≠ (TX1 b).2.1 := by decide +kernel
theorem tyX1_ok : ∀ k, k < 1 → parseFieldDescriptor (TX1 k).2.2.1 = some (tyX1 k) := by decide +kernel
abbrev cX1_init : ByteArray := prog_3_method_1_code
def yX1_init : MethodName := ⟨RX1, "<init>", "()V"⟩
abbrev cX1_foundFrom : ByteArray := prog_3_method_2_code
def yX1_foundFrom : MethodName := ⟨RX1, "foundFrom", "(LBolsterBeds$Town;II)I"⟩
abbrev cX1_fewestFrom : ByteArray := prog_3_method_3_code
def yX1_fewestFrom : MethodName := ⟨RX1, "fewestFrom", "(LBolsterBeds$Town;II)I"⟩
abbrev cX1_mostFrom : ByteArray := prog_3_method_4_code
def yX1_mostFrom : MethodName := ⟨RX1, "mostFrom", "(LBolsterBeds$Town;II)I"⟩
def RX2 : String := "BolsterBeds$Levels"
def TX2 : u_T := fun k => match k with
  | _ => ("BolsterBeds$Levels", "towns", "[LBolsterBeds$Town;", true)
def tyX2 : Nat → FieldType := fun k => match k with
  | _ => .array (.object "BolsterBeds$Town")
theorem nmX2 : ∀ a, a < 1 → ∀ b, b < 1 → a ≠ b → (TX2 a).2.1 ≠ (TX2 b).2.1 := by decide +kernel
theorem tyX2_ok : ∀ k, k < 1 → parseFieldDescriptor (TX2 k).2.2.1 = some (tyX2 k) := by decide +kernel
abbrev cX2_init : ByteArray := prog_4_method_1_code
def yX2_init : MethodName := ⟨RX2, "<init>", "(I)V"⟩
abbrev cX2_copyAt : ByteArray := prog_4_method_2_code
def yX2_copyAt : MethodName := ⟨RX2, "copyAt", "(ILBolsterBeds$Town;)LBolsterBeds$Town;"⟩
def RX3 : String := "BolsterBeds$Marriages"
def TX3 : u_T := fun k => match k with
  | 0 => ("BolsterBeds$Marriages", "first", "[I", true)
  | 1 => ("BolsterBeds$Marriages", "way", "[I", true)
  | _ => ("BolsterBeds$Marriages", "fewest", "I", false)
def tyX3 : Nat → FieldType := fun k => match k with
  | 0 => .array .int
  | 1 => .array .int
  | _ => .int
theorem nmX3 : ∀ a, a < 3 → ∀ b, b < 3 → a ≠ b → (TX3 a).2.1 ≠ (TX3 b).2.1 := by decide +kernel
theorem tyX3_ok : ∀ k, k < 3 → parseFieldDescriptor (TX3 k).2.2.1 = some (tyX3 k) := by decide +kernel
abbrev cX3_init : ByteArray := prog_5_method_1_code
def yX3_init : MethodName := ⟨RX3, "<init>", "()V"⟩
abbrev cX3_fewestCrossing : ByteArray := prog_5_method_2_code
def yX3_fewestCrossing : MethodName := ⟨RX3, "fewestCrossing", "(LBolsterBeds$Town;)I"⟩
abbrev cX3_give : ByteArray := prog_5_method_3_code
def yX3_give : MethodName := ⟨RX3, "give", "(LBolsterBeds$Town;III)V"⟩
def RX4 : String := "BolsterBeds$Reader"
def TX4 : u_T := fun k => match k with
  | 0 => ("BolsterBeds$Reader", "draft", "LBolsterBeds$Town;", true)
  | 1 => ("BolsterBeds$Reader", "signs", "[I", true)
  | 2 => ("BolsterBeds$Reader", "size", "I", false)
  | _ => ("BolsterBeds$Reader", "place", "I", false)
def tyX4 : Nat → FieldType := fun k => match k with
  | 0 => .object "BolsterBeds$Town"
  | 1 => .array .int
  | 2 => .int
  | _ => .int
theorem nmX4 : ∀ a, a < 4 → ∀ b, b < 4 → a ≠ b → (TX4 a).2.1 ≠ (TX4 b).2.1 := by decide +kernel
theorem tyX4_ok : ∀ k, k < 4 → parseFieldDescriptor (TX4 k).2.2.1 = some (tyX4 k) := by decide +kernel
abbrev cX4_init : ByteArray := prog_6_method_1_code
def yX4_init : MethodName := ⟨RX4, "<init>", "()V"⟩
abbrev cX4_readTown : ByteArray := prog_6_method_2_code
def yX4_readTown : MethodName := ⟨RX4, "readTown", "(LBolsterBeds$Shelf;I)I"⟩
abbrev cX4_takesHead : ByteArray := prog_6_method_3_code
def yX4_takesHead : MethodName := ⟨RX4, "takesHead", "()Z"⟩
abbrev cX4_takesBed : ByteArray := prog_6_method_4_code
def yX4_takesBed : MethodName := ⟨RX4, "takesBed", "()Z"⟩
abbrev cX4_skipBlanks : ByteArray := prog_6_method_5_code
def yX4_skipBlanks : MethodName := ⟨RX4, "skipBlanks", "()V"⟩
abbrev cX4_kindHere : ByteArray := prog_6_method_6_code
def yX4_kindHere : MethodName := ⟨RX4, "kindHere", "()I"⟩
abbrev cX4_takeFigure : ByteArray := prog_6_method_7_code
def yX4_takeFigure : MethodName := ⟨RX4, "takeFigure", "(I)I"⟩
abbrev cX4_here : ByteArray := prog_6_method_8_code
def yX4_here : MethodName := ⟨RX4, "here", "()I"⟩
def RX5 : String := "BolsterBeds$Rounds"
def TX5 : u_T := fun k => match k with
  | 0 => ("BolsterBeds$Rounds", "levels", "LBolsterBeds$Levels;", true)
  | 1 => ("BolsterBeds$Rounds", "first", "[I", true)
  | 2 => ("BolsterBeds$Rounds", "trail", "[I", true)
  | _ => ("BolsterBeds$Rounds", "most", "I", false)
def tyX5 : Nat → FieldType := fun k => match k with
  | 0 => .object "BolsterBeds$Levels"
  | 1 => .array .int
  | 2 => .array .int
  | _ => .int
theorem nmX5 : ∀ a, a < 4 → ∀ b, b < 4 → a ≠ b → (TX5 a).2.1 ≠ (TX5 b).2.1 := by decide +kernel
theorem tyX5_ok : ∀ k, k < 4 → parseFieldDescriptor (TX5 k).2.2.1 = some (tyX5 k) := by decide +kernel
abbrev cX5_init : ByteArray := prog_7_method_1_code
def yX5_init : MethodName := ⟨RX5, "<init>", "()V"⟩
abbrev cX5_mostFound : ByteArray := prog_7_method_2_code
def yX5_mostFound : MethodName := ⟨RX5, "mostFound", "(LBolsterBeds$Town;I)I"⟩
abbrev cX5_goOn : ByteArray := prog_7_method_3_code
def yX5_goOn : MethodName := ⟨RX5, "goOn", "(LBolsterBeds$Town;III)V"⟩
abbrev cX5_takeIfMore : ByteArray := prog_7_method_4_code
def yX5_takeIfMore : MethodName := ⟨RX5, "takeIfMore", "(I)V"⟩
def RX6 : String := "BolsterBeds$Shelf"
def TX6 : u_T := fun k => match k with
  | 0 => ("BolsterBeds$Shelf", "room", "I", true)
  | 1 => ("BolsterBeds$Shelf", "sizes", "[I", true)
  | _ => ("BolsterBeds$Shelf", "places", "[I", true)
def tyX6 : Nat → FieldType := fun k => match k with
  | 0 => .int
  | 1 => .array .int
  | _ => .array .int
theorem nmX6 : ∀ a, a < 3 → ∀ b, b < 3 → a ≠ b → (TX6 a).2.1 ≠ (TX6 b).2.1 := by decide +kernel
theorem tyX6_ok : ∀ k, k < 3 → parseFieldDescriptor (TX6 k).2.2.1 = some (tyX6 k) := by decide +kernel
abbrev cX6_init : ByteArray := prog_8_method_1_code
def yX6_init : MethodName := ⟨RX6, "<init>", "(II)V"⟩
abbrev cX6_isNumber : ByteArray := prog_8_method_2_code
def yX6_isNumber : MethodName := ⟨RX6, "isNumber", "(I)Z"⟩
abbrev cX6_stands : ByteArray := prog_8_method_3_code
def yX6_stands : MethodName := ⟨RX6, "stands", "(I)Z"⟩
abbrev cX6_size : ByteArray := prog_8_method_4_code
def yX6_size : MethodName := ⟨RX6, "size", "(I)I"⟩
abbrev cX6_standing : ByteArray := prog_8_method_5_code
def yX6_standing : MethodName := ⟨RX6, "standing", "()I"⟩
abbrev cX6_holds : ByteArray := prog_8_method_6_code
def yX6_holds : MethodName := ⟨RX6, "holds", "(III)Z"⟩
abbrev cX6_get : ByteArray := prog_8_method_7_code
def yX6_get : MethodName := ⟨RX6, "get", "(II)I"⟩
abbrev cX6_set : ByteArray := prog_8_method_8_code
def yX6_set : MethodName := ⟨RX6, "set", "(III)V"⟩
abbrev cX6_make : ByteArray := prog_8_method_9_code
def yX6_make : MethodName := ⟨RX6, "make", "(III)V"⟩
abbrev cX6_makeOf : ByteArray := prog_8_method_10_code
def yX6_makeOf : MethodName := ⟨RX6, "makeOf", "(II[I)V"⟩
abbrev cX6_remove : ByteArray := prog_8_method_11_code
def yX6_remove : MethodName := ⟨RX6, "remove", "(I)V"⟩
abbrev cX6_removeAll : ByteArray := prog_8_method_12_code
def yX6_removeAll : MethodName := ⟨RX6, "removeAll", "()V"⟩
abbrev cX6_move : ByteArray := prog_8_method_13_code
def yX6_move : MethodName := ⟨RX6, "move", "(IIIII)V"⟩
abbrev cX6_digestOn : ByteArray := prog_8_method_14_code
def yX6_digestOn : MethodName := ⟨RX6, "digestOn", "(J)J"⟩
def RX7 : String := "BolsterBeds$Town"
def TX7 : u_T := fun k => match k with
  | 0 => ("BolsterBeds$Town", "colds", "[I", true)
  | 1 => ("BolsterBeds$Town", "kinds", "[I", true)
  | 2 => ("BolsterBeds$Town", "lefts", "[I", true)
  | 3 => ("BolsterBeds$Town", "rights", "[I", true)
  | 4 => ("BolsterBeds$Town", "thicks", "[I", true)
  | 5 => ("BolsterBeds$Town", "lying", "[I", true)
  | 6 => ("BolsterBeds$Town", "timesFound", "[I", true)
  | 7 => ("BolsterBeds$Town", "thread", "I", false)
  | 8 => ("BolsterBeds$Town", "beds", "I", false)
  | _ => ("BolsterBeds$Town", "night", "I", false)
def tyX7 : Nat → FieldType := fun k => match k with
  | 0 => .array .int
  | 1 => .array .int
  | 2 => .array .int
  | 3 => .array .int
  | 4 => .array .int
  | 5 => .array .int
  | 6 => .array .int
  | 7 => .int
  | 8 => .int
  | _ => .int
theorem nmX7 : ∀ a, a < 10 → ∀ b, b < 10 → a ≠ b → (TX7 a).2.1 ≠ (TX7 b).2.1 := by decide +kernel
theorem tyX7_ok : ∀ k, k < 10 → parseFieldDescriptor (TX7 k).2.2.1 = some (tyX7 k) := by decide +kernel
abbrev cX7_init : ByteArray := prog_9_method_1_code
def yX7_init : MethodName := ⟨RX7, "<init>", "()V"⟩
abbrev cX7_copyFrom : ByteArray := prog_9_method_2_code
def yX7_copyFrom : MethodName := ⟨RX7, "copyFrom", "(LBolsterBeds$Town;)V"⟩
abbrev cX7_has : ByteArray := prog_9_method_3_code
def yX7_has : MethodName := ⟨RX7, "has", "(I)Z"⟩
abbrev cX7_kindOf : ByteArray := prog_9_method_4_code
def yX7_kindOf : MethodName := ⟨RX7, "kindOf", "(I)I"⟩
abbrev cX7_thickOf : ByteArray := prog_9_method_5_code
def yX7_thickOf : MethodName := ⟨RX7, "thickOf", "(I)I"⟩
abbrev cX7_liesIn : ByteArray := prog_9_method_6_code
def yX7_liesIn : MethodName := ⟨RX7, "liesIn", "(I)I"⟩
abbrev cX7_coldOf : ByteArray := prog_9_method_7_code
def yX7_coldOf : MethodName := ⟨RX7, "coldOf", "(I)I"⟩
abbrev cX7_gapWith : ByteArray := prog_9_method_8_code
def yX7_gapWith : MethodName := ⟨RX7, "gapWith", "(II)I"⟩
abbrev cX7_crossesWith : ByteArray := prog_9_method_9_code
def yX7_crossesWith : MethodName := ⟨RX7, "crossesWith", "(II)I"⟩
abbrev cX7_crossesAs : ByteArray := prog_9_method_10_code
def yX7_crossesAs : MethodName := ⟨RX7, "crossesAs", "(IIII)I"⟩
abbrev cX7_crossesIn : ByteArray := prog_9_method_11_code
def yX7_crossesIn : MethodName := ⟨RX7, "crossesIn", "(II)I"⟩
abbrev cX7_about : ByteArray := prog_9_method_12_code
def yX7_about : MethodName := ⟨RX7, "about", "(II)I"⟩
abbrev cX7_wouldBeFound : ByteArray := prog_9_method_13_code
def yX7_wouldBeFound : MethodName := ⟨RX7, "wouldBeFound", "(I)Z"⟩
abbrev cX7_wouldBeFoundBits : ByteArray := prog_9_method_14_code
def yX7_wouldBeFoundBits : MethodName := ⟨RX7, "wouldBeFoundBits", "()I"⟩
abbrev cX7_fines : ByteArray := prog_9_method_15_code
def yX7_fines : MethodName := ⟨RX7, "fines", "()I"⟩
abbrev cX7_liesInAll : ByteArray := prog_9_method_16_code
def yX7_liesInAll : MethodName := ⟨RX7, "liesInAll", "()I"⟩
abbrev cX7_quilts : ByteArray := prog_9_method_17_code
def yX7_quilts : MethodName := ⟨RX7, "quilts", "()I"⟩
abbrev cX7_mostLying : ByteArray := prog_9_method_18_code
def yX7_mostLying : MethodName := ⟨RX7, "mostLying", "(I)I"⟩
abbrev cX7_carryOut : ByteArray := prog_9_method_19_code
def yX7_carryOut : MethodName := ⟨RX7, "carryOut", "(I)I"⟩
abbrev cX7_passNight : ByteArray := prog_9_method_20_code
def yX7_passNight : MethodName := ⟨RX7, "passNight", "()I"⟩
abbrev cX7_passAlone : ByteArray := prog_9_method_21_code
def yX7_passAlone : MethodName := ⟨RX7, "passAlone", "(II)V"⟩
abbrev cX7_sleepIn : ByteArray := prog_9_method_22_code
def yX7_sleepIn : MethodName := ⟨RX7, "sleepIn", "(I)I"⟩
abbrev cX7_inspectBed : ByteArray := prog_9_method_23_code
def yX7_inspectBed : MethodName := ⟨RX7, "inspectBed", "(I)I"⟩
abbrev cX7_thinBed : ByteArray := prog_9_method_24_code
def yX7_thinBed : MethodName := ⟨RX7, "thinBed", "(II)V"⟩
abbrev cX7_swapRights : ByteArray := prog_9_method_25_code
def yX7_swapRights : MethodName := ⟨RX7, "swapRights", "(II)V"⟩
abbrev cX7_clearBeds : ByteArray := prog_9_method_26_code
def yX7_clearBeds : MethodName := ⟨RX7, "clearBeds", "()V"⟩
abbrev cX7_addBed : ByteArray := prog_9_method_27_code
def yX7_addBed : MethodName := ⟨RX7, "addBed", "(IIII)V"⟩
def RX8 : String := "BolsterBeds"
def TX8 : u_T := fun k => match k with
  | 0 => ("BolsterBeds", "rows", "LBolsterBeds$Shelf;", true)
  | 1 => ("BolsterBeds", "texts", "LBolsterBeds$Shelf;", true)
  | 2 => ("BolsterBeds", "kept", "LBolsterBeds$Shelf;", true)
  | 3 => ("BolsterBeds", "start", "LBolsterBeds$Town;", true)
  | 4 => ("BolsterBeds", "now", "LBolsterBeds$Town;", true)
  | 5 => ("BolsterBeds", "aside", "LBolsterBeds$Town;", true)
  | 6 => ("BolsterBeds", "deeds", "[I", true)
  | 7 => ("BolsterBeds", "deedCount", "I", false)
  | 8 => ("BolsterBeds", "reader", "LBolsterBeds$Reader;", true)
  | 9 => ("BolsterBeds", "rounds", "LBolsterBeds$Rounds;", true)
  | 10 => ("BolsterBeds", "marriages", "LBolsterBeds$Marriages;", true)
  | 11 => ("BolsterBeds", "clues", "LBolsterBeds$Clues;", true)
  | 12 => ("BolsterBeds", "turns", "LBolsterBeds$Duel;", true)
  | 13 => ("BolsterBeds", "told", "I", false)
  | 14 => ("BolsterBeds", "high", "J", false)
  | 15 => ("BolsterBeds", "low", "J", false)
  | 16 => ("BolsterBeds", "latestFinding", "I", false)
  | _ => ("BolsterBeds", "findingCounts", "[I", true)
def tyX8 : Nat → FieldType := fun k => match k with
  | 0 => .object "BolsterBeds$Shelf"
  | 1 => .object "BolsterBeds$Shelf"
  | 2 => .object "BolsterBeds$Shelf"
  | 3 => .object "BolsterBeds$Town"
  | 4 => .object "BolsterBeds$Town"
  | 5 => .object "BolsterBeds$Town"
  | 6 => .array .int
  | 7 => .int
  | 8 => .object "BolsterBeds$Reader"
  | 9 => .object "BolsterBeds$Rounds"
  | 10 => .object "BolsterBeds$Marriages"
  | 11 => .object "BolsterBeds$Clues"
  | 12 => .object "BolsterBeds$Duel"
  | 13 => .int
  | 14 => .long
  | 15 => .long
  | 16 => .int
  | _ => .array .int
theorem nmX8 : ∀ a, a < 18 → ∀ b, b < 18 → a ≠ b → (TX8 a).2.1 ≠ (TX8 b).2.1 := by decide +kernel
theorem tyX8_ok : ∀ k, k < 18 → parseFieldDescriptor (TX8 k).2.2.1 = some (tyX8 k) := by decide +kernel
abbrev cX8_init : ByteArray := prog_1_method_1_code
def yX8_init : MethodName := ⟨RX8, "<init>", "()V"⟩
abbrev cX8_row : ByteArray := prog_1_method_2_code
def yX8_row : MethodName := ⟨RX8, "row", "(II)I"⟩
abbrev cX8_lay : ByteArray := prog_1_method_3_code
def yX8_lay : MethodName := ⟨RX8, "lay", "(III)I"⟩
abbrev cX8_at : ByteArray := prog_1_method_4_code
def yX8_at : MethodName := ⟨RX8, "at", "(II)I"⟩
abbrev cX8_tear : ByteArray := prog_1_method_5_code
def yX8_tear : MethodName := ⟨RX8, "tear", "(I)I"⟩
abbrev cX8_copy : ByteArray := prog_1_method_6_code
def yX8_copy : MethodName := ⟨RX8, "copy", "(IIIII)I"⟩
abbrev cX8_mean : ByteArray := prog_1_method_7_code
def yX8_mean : MethodName := ⟨RX8, "mean", "(I)I"⟩
abbrev cX8_text : ByteArray := prog_1_method_8_code
def yX8_text : MethodName := ⟨RX8, "text", "(II)I"⟩
abbrev cX8_put : ByteArray := prog_1_method_9_code
def yX8_put : MethodName := ⟨RX8, "put", "(III)I"⟩
abbrev cX8_fault : ByteArray := prog_1_method_10_code
def yX8_fault : MethodName := ⟨RX8, "fault", "(I)I"⟩
abbrev cX8_town : ByteArray := prog_1_method_11_code
def yX8_town : MethodName := ⟨RX8, "town", "(I)I"⟩
abbrev cX8_bed : ByteArray := prog_1_method_12_code
def yX8_bed : MethodName := ⟨RX8, "bed", "(II)I"⟩
abbrev cX8_mark : ByteArray := prog_1_method_13_code
def yX8_mark : MethodName := ⟨RX8, "mark", "(II)I"⟩
abbrev cX8_cross : ByteArray := prog_1_method_14_code
def yX8_cross : MethodName := ⟨RX8, "cross", "(II)I"⟩
abbrev cX8_night : ByteArray := prog_1_method_15_code
def yX8_night : MethodName := ⟨RX8, "night", "()I"⟩
abbrev cX8_inspect : ByteArray := prog_1_method_16_code
def yX8_inspect : MethodName := ⟨RX8, "inspect", "(I)I"⟩
abbrev cX8_thin : ByteArray := prog_1_method_17_code
def yX8_thin : MethodName := ⟨RX8, "thin", "(I)I"⟩
abbrev cX8_swap : ByteArray := prog_1_method_18_code
def yX8_swap : MethodName := ⟨RX8, "swap", "(II)I"⟩
abbrev cX8_undo : ByteArray := prog_1_method_19_code
def yX8_undo : MethodName := ⟨RX8, "undo", "(I)I"⟩
abbrev cX8_keep : ByteArray := prog_1_method_20_code
def yX8_keep : MethodName := ⟨RX8, "keep", "(I)I"⟩
abbrev cX8_on : ByteArray := prog_1_method_21_code
def yX8_on : MethodName := ⟨RX8, "on", "(I)I"⟩
abbrev cX8_then : ByteArray := prog_1_method_22_code
def yX8_then : MethodName := ⟨RX8, "then", "(II)I"⟩
abbrev cX8_when : ByteArray := prog_1_method_23_code
def yX8_when : MethodName := ⟨RX8, "when", "(I)I"⟩
abbrev cX8_least : ByteArray := prog_1_method_24_code
def yX8_least : MethodName := ⟨RX8, "least", "(II)I"⟩
abbrev cX8_round : ByteArray := prog_1_method_25_code
def yX8_round : MethodName := ⟨RX8, "round", "(II)I"⟩
abbrev cX8_brings : ByteArray := prog_1_method_26_code
def yX8_brings : MethodName := ⟨RX8, "brings", "(I)I"⟩
abbrev cX8_marry : ByteArray := prog_1_method_27_code
def yX8_marry : MethodName := ⟨RX8, "marry", "(I)I"⟩
abbrev cX8_rather : ByteArray := prog_1_method_28_code
def yX8_rather : MethodName := ⟨RX8, "rather", "()I"⟩
abbrev cX8_thicks : ByteArray := prog_1_method_29_code
def yX8_thicks : MethodName := ⟨RX8, "thicks", "(II)I"⟩
abbrev cX8_kinds : ByteArray := prog_1_method_30_code
def yX8_kinds : MethodName := ⟨RX8, "kinds", "(II)I"⟩
abbrev cX8_test : ByteArray := prog_1_method_31_code
def yX8_test : MethodName := ⟨RX8, "test", "(II)I"⟩
abbrev cX8_duel : ByteArray := prog_1_method_32_code
def yX8_duel : MethodName := ⟨RX8, "duel", "(I)I"⟩
abbrev cX8_odds : ByteArray := prog_1_method_33_code
def yX8_odds : MethodName := ⟨RX8, "odds", "(II)I"⟩
abbrev cX8_mid : ByteArray := prog_1_method_34_code
def yX8_mid : MethodName := ⟨RX8, "mid", "(I)I"⟩
abbrev cX8_lots : ByteArray := prog_1_method_35_code
def yX8_lots : MethodName := ⟨RX8, "lots", "(II)I"⟩
abbrev cX8_asked : ByteArray := prog_1_method_36_code
def yX8_asked : MethodName := ⟨RX8, "asked", "()I"⟩
abbrev cX8_upper : ByteArray := prog_1_method_37_code
def yX8_upper : MethodName := ⟨RX8, "upper", "()J"⟩
abbrev cX8_lower : ByteArray := prog_1_method_38_code
def yX8_lower : MethodName := ⟨RX8, "lower", "()J"⟩
abbrev cX8_count : ByteArray := prog_1_method_39_code
def yX8_count : MethodName := ⟨RX8, "count", "(I)I"⟩
abbrev cX8_finding : ByteArray := prog_1_method_40_code
def yX8_finding : MethodName := ⟨RX8, "finding", "()I"⟩
abbrev cX8_findings : ByteArray := prog_1_method_41_code
def yX8_findings : MethodName := ⟨RX8, "findings", "(I)I"⟩
abbrev cX8_digest : ByteArray := prog_1_method_42_code
def yX8_digest : MethodName := ⟨RX8, "digest", "()J"⟩
abbrev cX8_tell : ByteArray := prog_1_method_43_code
def yX8_tell : MethodName := ⟨RX8, "tell", "(I)I"⟩
abbrev cX8_refuse : ByteArray := prog_1_method_44_code
def yX8_refuse : MethodName := ⟨RX8, "refuse", "(I)I"⟩
abbrev cX8_makeAnew : ByteArray := prog_1_method_45_code
def yX8_makeAnew : MethodName := ⟨RX8, "makeAnew", "(LBolsterBeds$Shelf;III)I"⟩
abbrev cX8_refusalOfMissing : ByteArray := prog_1_method_46_code
def yX8_refusalOfMissing : MethodName := ⟨RX8, "refusalOfMissing", "(LBolsterBeds$Shelf;I)I"⟩
abbrev cX8_refusalOfPlace : ByteArray := prog_1_method_47_code
def yX8_refusalOfPlace : MethodName := ⟨RX8, "refusalOfPlace", "(LBolsterBeds$Shelf;II)I"⟩
abbrev cX8_takePairs : ByteArray := prog_1_method_48_code
def yX8_takePairs : MethodName := ⟨RX8, "takePairs", "(II)I"⟩
abbrev cX8_isRound : ByteArray := prog_1_method_49_code
def yX8_isRound : MethodName := ⟨RX8, "isRound", "(I)Z"⟩
abbrev cX8_enact : ByteArray := prog_1_method_50_code
def yX8_enact : MethodName := ⟨RX8, "enact", "(III)I"⟩
abbrev cX8_redoFromStart : ByteArray := prog_1_method_51_code
def yX8_redoFromStart : MethodName := ⟨RX8, "redoFromStart", "()V"⟩
abbrev cX8_tellChance : ByteArray := prog_1_method_52_code
def yX8_tellChance : MethodName := ⟨RX8, "tellChance", "(JJ)I"⟩
abbrev cX8_waysOfReport : ByteArray := prog_1_method_53_code
def yX8_waysOfReport : MethodName := ⟨RX8, "waysOfReport", "(III)J"⟩
abbrev cX8_power : ByteArray := prog_1_method_54_code
def yX8_power : MethodName := ⟨RX8, "power", "(II)J"⟩
abbrev cX8_commonDivisor : ByteArray := prog_1_method_55_code
def yX8_commonDivisor : MethodName := ⟨RX8, "commonDivisor", "(JJ)J"⟩
abbrev cX8_read : ByteArray := prog_1_method_56_code
def yX8_read : MethodName := ⟨RX8, "read", "([II)I"⟩
abbrev cX8_write : ByteArray := prog_1_method_57_code
def yX8_write : MethodName := ⟨RX8, "write", "([III)V"⟩
abbrev cX8_shift : ByteArray := prog_1_method_58_code
def yX8_shift : MethodName := ⟨RX8, "shift", "([IIII)V"⟩
abbrev cX8_copyAll : ByteArray := prog_1_method_59_code
def yX8_copyAll : MethodName := ⟨RX8, "copyAll", "([I[I)V"⟩
abbrev cX8_isOfKind : ByteArray := prog_1_method_60_code
def yX8_isOfKind : MethodName := ⟨RX8, "isOfKind", "(II)Z"⟩
abbrev cX8_barOf : ByteArray := prog_1_method_61_code
def yX8_barOf : MethodName := ⟨RX8, "barOf", "(II)I"⟩
abbrev cX8_crossing : ByteArray := prog_1_method_62_code
def yX8_crossing : MethodName := ⟨RX8, "crossing", "(IIIII)I"⟩
def RX9 : String := "BolsterBedsModel"
def TX9 : u_T := fun k => match k with
  | 0 => ("BolsterBedsModel", "w", "[I", true)
  | 1 => ("BolsterBedsModel", "deeds", "I", false)
  | 2 => ("BolsterBedsModel", "keptDeeds", "[I", true)
  | 3 => ("BolsterBedsModel", "rows", "[I", true)
  | 4 => ("BolsterBedsModel", "rowSize", "[I", true)
  | 5 => ("BolsterBedsModel", "texts", "[I", true)
  | 6 => ("BolsterBedsModel", "textSize", "[I", true)
  | 7 => ("BolsterBedsModel", "held", "[I", true)
  | 8 => ("BolsterBedsModel", "finding", "I", false)
  | 9 => ("BolsterBedsModel", "findings", "[I", true)
  | 10 => ("BolsterBedsModel", "asked", "I", false)
  | 11 => ("BolsterBedsModel", "upper", "J", false)
  | 12 => ("BolsterBedsModel", "lower", "J", false)
  | 13 => ("BolsterBedsModel", "position", "I", false)
  | 14 => ("BolsterBedsModel", "parts", "[I", true)
  | 15 => ("BolsterBedsModel", "values", "[I", true)
  | _ => ("BolsterBedsModel", "h", "J", false)
def tyX9 : Nat → FieldType := fun k => match k with
  | 0 => .array .int
  | 1 => .int
  | 2 => .array .int
  | 3 => .array .int
  | 4 => .array .int
  | 5 => .array .int
  | 6 => .array .int
  | 7 => .array .int
  | 8 => .int
  | 9 => .array .int
  | 10 => .int
  | 11 => .long
  | 12 => .long
  | 13 => .int
  | 14 => .array .int
  | 15 => .array .int
  | _ => .long
theorem nmX9 : ∀ a, a < 17 → ∀ b, b < 17 → a ≠ b → (TX9 a).2.1 ≠ (TX9 b).2.1 := by decide +kernel
theorem tyX9_ok : ∀ k, k < 17 → parseFieldDescriptor (TX9 k).2.2.1 = some (tyX9 k) := by decide +kernel
abbrev cX9_init : ByteArray := prog_11_method_1_code
def yX9_init : MethodName := ⟨RX9, "<init>", "()V"⟩
abbrev cX9_in : ByteArray := prog_11_method_3_code
def yX9_in : MethodName := ⟨RX9, "in", "(JJJ)Z"⟩
abbrev cX9_has : ByteArray := prog_11_method_4_code
def yX9_has : MethodName := ⟨RX9, "has", "(II)Z"⟩
abbrev cX9_ones : ByteArray := prog_11_method_5_code
def yX9_ones : MethodName := ⟨RX9, "ones", "(I)I"⟩
abbrev cX9_off : ByteArray := prog_11_method_6_code
def yX9_off : MethodName := ⟨RX9, "off", "(II)I"⟩
abbrev cX9_found : ByteArray := prog_11_method_7_code
def yX9_found : MethodName := ⟨RX9, "found", "(I)I"⟩
abbrev cX9_tells : ByteArray := prog_11_method_8_code
def yX9_tells : MethodName := ⟨RX9, "tells", "(II)I"⟩
abbrev cX9_copyAll : ByteArray := prog_11_method_9_code
def yX9_copyAll : MethodName := ⟨RX9, "copyAll", "(III)V"⟩
abbrev cX9_isRow : ByteArray := prog_11_method_10_code
def yX9_isRow : MethodName := ⟨RX9, "isRow", "(I)Z"⟩
abbrev cX9_isText : ByteArray := prog_11_method_11_code
def yX9_isText : MethodName := ⟨RX9, "isText", "(I)Z"⟩
abbrev cX9_anew : ByteArray := prog_11_method_12_code
def yX9_anew : MethodName := ⟨RX9, "anew", "(II)V"⟩
abbrev cX9_row : ByteArray := prog_11_method_13_code
def yX9_row : MethodName := ⟨RX9, "row", "(II)I"⟩
abbrev cX9_lay : ByteArray := prog_11_method_14_code
def yX9_lay : MethodName := ⟨RX9, "lay", "(III)I"⟩
abbrev cX9_at : ByteArray := prog_11_method_15_code
def yX9_at : MethodName := ⟨RX9, "at", "(II)I"⟩
abbrev cX9_tear : ByteArray := prog_11_method_16_code
def yX9_tear : MethodName := ⟨RX9, "tear", "(I)I"⟩
abbrev cX9_fits : ByteArray := prog_11_method_17_code
def yX9_fits : MethodName := ⟨RX9, "fits", "(III)Z"⟩
abbrev cX9_copy : ByteArray := prog_11_method_18_code
def yX9_copy : MethodName := ⟨RX9, "copy", "(IIIII)I"⟩
abbrev cX9_mean : ByteArray := prog_11_method_19_code
def yX9_mean : MethodName := ⟨RX9, "mean", "(I)I"⟩
abbrev cX9_text : ByteArray := prog_11_method_20_code
def yX9_text : MethodName := ⟨RX9, "text", "(II)I"⟩
abbrev cX9_put : ByteArray := prog_11_method_21_code
def yX9_put : MethodName := ⟨RX9, "put", "(III)I"⟩
abbrev cX9_kindOf : ByteArray := prog_11_method_22_code
def yX9_kindOf : MethodName := ⟨RX9, "kindOf", "(I)I"⟩
abbrev cX9_byteAt : ByteArray := prog_11_method_23_code
def yX9_byteAt : MethodName := ⟨RX9, "byteAt", "(II)I"⟩
abbrev cX9_blanks : ByteArray := prog_11_method_24_code
def yX9_blanks : MethodName := ⟨RX9, "blanks", "(I)V"⟩
abbrev cX9_figures : ByteArray := prog_11_method_25_code
def yX9_figures : MethodName := ⟨RX9, "figures", "(IIIII)Z"⟩
abbrev cX9_takesFirst : ByteArray := prog_11_method_26_code
def yX9_takesFirst : MethodName := ⟨RX9, "takesFirst", "(I)Z"⟩
abbrev cX9_takesBed : ByteArray := prog_11_method_27_code
def yX9_takesBed : MethodName := ⟨RX9, "takesBed", "(I)Z"⟩
abbrev cX9_faultOf : ByteArray := prog_11_method_28_code
def yX9_faultOf : MethodName := ⟨RX9, "faultOf", "(I)I"⟩
abbrev cX9_fault : ByteArray := prog_11_method_29_code
def yX9_fault : MethodName := ⟨RX9, "fault", "(I)I"⟩
abbrev cX9_town : ByteArray := prog_11_method_30_code
def yX9_town : MethodName := ⟨RX9, "town", "(I)I"⟩
abbrev cX9_isBed : ByteArray := prog_11_method_31_code
def yX9_isBed : MethodName := ⟨RX9, "isBed", "(I)Z"⟩
abbrev cX9_isTown : ByteArray := prog_11_method_32_code
def yX9_isTown : MethodName := ⟨RX9, "isTown", "()Z"⟩
abbrev cX9_barOf : ByteArray := prog_11_method_33_code
def yX9_barOf : MethodName := ⟨RX9, "barOf", "(II)I"⟩
abbrev cX9_crossBy : ByteArray := prog_11_method_34_code
def yX9_crossBy : MethodName := ⟨RX9, "crossBy", "(IIII)I"⟩
abbrev cX9_gapIn : ByteArray := prog_11_method_35_code
def yX9_gapIn : MethodName := ⟨RX9, "gapIn", "(II)I"⟩
abbrev cX9_crossIn : ByteArray := prog_11_method_36_code
def yX9_crossIn : MethodName := ⟨RX9, "crossIn", "(II)I"⟩
abbrev cX9_passes : ByteArray := prog_11_method_37_code
def yX9_passes : MethodName := ⟨RX9, "passes", "(I)I"⟩
abbrev cX9_isDue : ByteArray := prog_11_method_38_code
def yX9_isDue : MethodName := ⟨RX9, "isDue", "(II)Z"⟩
abbrev cX9_inspects : ByteArray := prog_11_method_39_code
def yX9_inspects : MethodName := ⟨RX9, "inspects", "(II)I"⟩
abbrev cX9_bedTells : ByteArray := prog_11_method_40_code
def yX9_bedTells : MethodName := ⟨RX9, "bedTells", "(II)I"⟩
abbrev cX9_bed : ByteArray := prog_11_method_41_code
def yX9_bed : MethodName := ⟨RX9, "bed", "(II)I"⟩
abbrev cX9_crossAs : ByteArray := prog_11_method_42_code
def yX9_crossAs : MethodName := ⟨RX9, "crossAs", "(II)I"⟩
abbrev cX9_mark : ByteArray := prog_11_method_43_code
def yX9_mark : MethodName := ⟨RX9, "mark", "(II)I"⟩
abbrev cX9_cross : ByteArray := prog_11_method_44_code
def yX9_cross : MethodName := ⟨RX9, "cross", "(II)I"⟩
abbrev cX9_minds : ByteArray := prog_11_method_45_code
def yX9_minds : MethodName := ⟨RX9, "minds", "()V"⟩
abbrev cX9_night : ByteArray := prog_11_method_46_code
def yX9_night : MethodName := ⟨RX9, "night", "()I"⟩
abbrev cX9_inspect : ByteArray := prog_11_method_47_code
def yX9_inspect : MethodName := ⟨RX9, "inspect", "(I)I"⟩
abbrev cX9_thin : ByteArray := prog_11_method_48_code
def yX9_thin : MethodName := ⟨RX9, "thin", "(I)I"⟩
abbrev cX9_swap : ByteArray := prog_11_method_49_code
def yX9_swap : MethodName := ⟨RX9, "swap", "(II)I"⟩
abbrev cX9_undo : ByteArray := prog_11_method_50_code
def yX9_undo : MethodName := ⟨RX9, "undo", "(I)I"⟩
abbrev cX9_isKept : ByteArray := prog_11_method_51_code
def yX9_isKept : MethodName := ⟨RX9, "isKept", "(I)Z"⟩
abbrev cX9_keep : ByteArray := prog_11_method_52_code
def yX9_keep : MethodName := ⟨RX9, "keep", "(I)I"⟩
abbrev cX9_on : ByteArray := prog_11_method_53_code
def yX9_on : MethodName := ⟨RX9, "on", "(I)I"⟩
abbrev cX9_tries : ByteArray := prog_11_method_54_code
def yX9_tries : MethodName := ⟨RX9, "tries", "()V"⟩
abbrev cX9_triesNights : ByteArray := prog_11_method_55_code
def yX9_triesNights : MethodName := ⟨RX9, "triesNights", "(I)V"⟩
abbrev cX9_then : ByteArray := prog_11_method_56_code
def yX9_then : MethodName := ⟨RX9, "then", "(II)I"⟩
abbrev cX9_when : ByteArray := prog_11_method_57_code
def yX9_when : MethodName := ⟨RX9, "when", "(I)I"⟩
abbrev cX9_least : ByteArray := prog_11_method_58_code
def yX9_least : MethodName := ⟨RX9, "least", "(II)I"⟩
abbrev cX9_round : ByteArray := prog_11_method_59_code
def yX9_round : MethodName := ⟨RX9, "round", "(II)I"⟩
abbrev cX9_brings : ByteArray := prog_11_method_60_code
def yX9_brings : MethodName := ⟨RX9, "brings", "(I)I"⟩
abbrev cX9_crossWith : ByteArray := prog_11_method_61_code
def yX9_crossWith : MethodName := ⟨RX9, "crossWith", "(II)I"⟩
abbrev cX9_marry : ByteArray := prog_11_method_62_code
def yX9_marry : MethodName := ⟨RX9, "marry", "(I)I"⟩
abbrev cX9_wantsRight : ByteArray := prog_11_method_63_code
def yX9_wantsRight : MethodName := ⟨RX9, "wantsRight", "(II)Z"⟩
abbrev cX9_rather : ByteArray := prog_11_method_64_code
def yX9_rather : MethodName := ⟨RX9, "rather", "()I"⟩
abbrev cX9_against : ByteArray := prog_11_method_65_code
def yX9_against : MethodName := ⟨RX9, "against", "(I)I"⟩
abbrev cX9_crossedSo : ByteArray := prog_11_method_66_code
def yX9_crossedSo : MethodName := ⟨RX9, "crossedSo", "(IIII)Z"⟩
abbrev cX9_thicks : ByteArray := prog_11_method_67_code
def yX9_thicks : MethodName := ⟨RX9, "thicks", "(II)I"⟩
abbrev cX9_kinds : ByteArray := prog_11_method_68_code
def yX9_kinds : MethodName := ⟨RX9, "kinds", "(II)I"⟩
abbrev cX9_test : ByteArray := prog_11_method_69_code
def yX9_test : MethodName := ⟨RX9, "test", "(II)I"⟩
abbrev cX9_duel : ByteArray := prog_11_method_70_code
def yX9_duel : MethodName := ⟨RX9, "duel", "(I)I"⟩
abbrev cX9_tellsParts : ByteArray := prog_11_method_71_code
def yX9_tellsParts : MethodName := ⟨RX9, "tellsParts", "(JJ)I"⟩
abbrev cX9_dueNow : ByteArray := prog_11_method_72_code
def yX9_dueNow : MethodName := ⟨RX9, "dueNow", "()I"⟩
abbrev cX9_waysOf : ByteArray := prog_11_method_73_code
def yX9_waysOf : MethodName := ⟨RX9, "waysOf", "(III)J"⟩
abbrev cX9_allWays : ByteArray := prog_11_method_74_code
def yX9_allWays : MethodName := ⟨RX9, "allWays", "(I)J"⟩
abbrev cX9_odds : ByteArray := prog_11_method_75_code
def yX9_odds : MethodName := ⟨RX9, "odds", "(II)I"⟩
abbrev cX9_mid : ByteArray := prog_11_method_76_code
def yX9_mid : MethodName := ⟨RX9, "mid", "(I)I"⟩
abbrev cX9_lots : ByteArray := prog_11_method_77_code
def yX9_lots : MethodName := ⟨RX9, "lots", "(II)I"⟩
abbrev cX9_asked : ByteArray := prog_11_method_78_code
def yX9_asked : MethodName := ⟨RX9, "asked", "()I"⟩
abbrev cX9_upper : ByteArray := prog_11_method_79_code
def yX9_upper : MethodName := ⟨RX9, "upper", "()J"⟩
abbrev cX9_lower : ByteArray := prog_11_method_80_code
def yX9_lower : MethodName := ⟨RX9, "lower", "()J"⟩
abbrev cX9_countOf : ByteArray := prog_11_method_81_code
def yX9_countOf : MethodName := ⟨RX9, "countOf", "(I)I"⟩
abbrev cX9_count : ByteArray := prog_11_method_82_code
def yX9_count : MethodName := ⟨RX9, "count", "(I)I"⟩
abbrev cX9_finding : ByteArray := prog_11_method_83_code
def yX9_finding : MethodName := ⟨RX9, "finding", "()I"⟩
abbrev cX9_findings : ByteArray := prog_11_method_84_code
def yX9_findings : MethodName := ⟨RX9, "findings", "(I)I"⟩
abbrev cX9_mix : ByteArray := prog_11_method_85_code
def yX9_mix : MethodName := ⟨RX9, "mix", "(J)V"⟩
abbrev cX9_digest : ByteArray := prog_11_method_86_code
def yX9_digest : MethodName := ⟨RX9, "digest", "()J"⟩
def RJ6 : String := "java/lang/Integer"
def TJ6 : u_T := fun k => match k with
  | _ => ("", "", "", false)
def tyJ6 : Nat → FieldType := fun k => match k with
  | _ => .int
theorem nmJ6 : ∀ a, a < 0 → ∀ b, b < 0 → a ≠ b → (TJ6 a).2.1 ≠ (TJ6 b).2.1 := by decide +kernel
theorem tyJ6_ok : ∀ k, k < 0 → parseFieldDescriptor (TJ6 k).2.2.1 = some (tyJ6 k) := by decide +kernel
abbrev cJ6_bitCount_0f7a4 : ByteArray := prog_12_method_49_code
def yJ6_bitCount_0f7a4 : MethodName := ⟨RJ6, "bitCount", "(I)I"⟩
def RJ9 : String := "java/lang/Math"
def TJ9 : u_T := fun k => match k with
  | _ => ("", "", "", false)
def tyJ9 : Nat → FieldType := fun k => match k with
  | _ => .int
theorem nmJ9 : ∀ a, a < 0 → ∀ b, b < 0 → a ≠ b → (TJ9 a).2.1 ≠ (TJ9 b).2.1 := by decide +kernel
theorem tyJ9_ok : ∀ k, k < 0 → parseFieldDescriptor (TJ9 k).2.2.1 = some (tyJ9 k) := by decide +kernel
abbrev cJ9_abs_0f7a4 : ByteArray := prog_13_method_59_code
def yJ9_abs_0f7a4 : MethodName := ⟨RJ9, "abs", "(I)I"⟩
abbrev cJ9_max_7cf53 : ByteArray := prog_13_method_65_code
def yJ9_max_7cf53 : MethodName := ⟨RJ9, "max", "(II)I"⟩
abbrev cJ9_min_7cf53 : ByteArray := prog_13_method_69_code
def yJ9_min_7cf53 : MethodName := ⟨RJ9, "min", "(II)I"⟩
def RJ10 : String := "java/lang/System"
def TJ10 : u_T := fun k => match k with
  | _ => ("", "", "", false)
def tyJ10 : Nat → FieldType := fun k => match k with
  | _ => .int
theorem nmJ10 : ∀ a, a < 0 → ∀ b, b < 0 → a ≠ b → (TJ10 a).2.1 ≠ (TJ10 b).2.1 := by decide +kernel
theorem tyJ10_ok : ∀ k, k < 0 → parseFieldDescriptor (TJ10 k).2.2.1 = some (tyJ10 k) := by decide +kernel
def RJ7 : String := "java/util/Arrays"
def TJ7 : u_T := fun k => match k with
  | _ => ("", "", "", false)
def tyJ7 : Nat → FieldType := fun k => match k with
  | _ => .int
theorem nmJ7 : ∀ a, a < 0 → ∀ b, b < 0 → a ≠ b → (TJ7 a).2.1 ≠ (TJ7 b).2.1 := by decide +kernel
theorem tyJ7_ok : ∀ k, k < 0 → parseFieldDescriptor (TJ7 k).2.2.1 = some (tyJ7 k) := by decide +kernel
abbrev cJ7_fill_53178 : ByteArray := prog_15_method_103_code
def yJ7_fill_53178 : MethodName := ⟨RJ7, "fill", "([II)V"⟩
def RL : String := "BolsterBedsLaw"
abbrev cL_law : ByteArray := code
def yL_law : MethodName := ⟨RL, "law", "([I)Z"⟩
end
section
/-! ===== the world of this claim: one list of cells, by place; numbers as functions of place and index ===== -/
abbrev Mem : Type := (Nat → Nat → Int32) × (Nat → Nat → Int64)
abbrev Shp : Type := (Nat × List (Option (Option Nat))) ⊕ (Nat ⊕ List Nat)
def shpL : List Shp := [
  .inl (8, [some (some 1), some (some 4), some (some 7), some (some 10), some (some 18), some (some 26), some (some 34), none, some (some 35), some (some 45), some (some 90), some (some 93), some (some 98), none, some none, some none, none, some (some 133)]),
  .inl (6, [none, some (some 2), some (some 3)]),
  .inr (.inl 6),
  .inr (.inl 240),
  .inl (6, [none, some (some 5), some (some 6)]),
  .inr (.inl 4),
  .inr (.inl 240),
  .inl (6, [none, some (some 8), some (some 9)]),
  .inr (.inl 3),
  .inr (.inl 120),
  .inl (7, [some (some 11), some (some 12), some (some 13), some (some 14), some (some 15), some (some 16), some (some 17), none, none, none]),
  .inr (.inl 4),
  .inr (.inl 6),
  .inr (.inl 6),
  .inr (.inl 6),
  .inr (.inl 6),
  .inr (.inl 6),
  .inr (.inl 6),
  .inl (7, [some (some 19), some (some 20), some (some 21), some (some 22), some (some 23), some (some 24), some (some 25), none, none, none]),
  .inr (.inl 4),
  .inr (.inl 6),
  .inr (.inl 6),
  .inr (.inl 6),
  .inr (.inl 6),
  .inr (.inl 6),
  .inr (.inl 6),
  .inl (7, [some (some 27), some (some 28), some (some 29), some (some 30), some (some 31), some (some 32), some (some 33), none, none, none]),
  .inr (.inl 4),
  .inr (.inl 6),
  .inr (.inl 6),
  .inr (.inl 6),
  .inr (.inl 6),
  .inr (.inl 6),
  .inr (.inl 6),
  .inr (.inl 40),
  .inl (4, [some (some 36), some (some 44), none, none]),
  .inl (7, [some (some 37), some (some 38), some (some 39), some (some 40), some (some 41), some (some 42), some (some 43), none, none, none]),
  .inr (.inl 4),
  .inr (.inl 6),
  .inr (.inl 6),
  .inr (.inl 6),
  .inr (.inl 6),
  .inr (.inl 6),
  .inr (.inl 6),
  .inr (.inl 60),
  .inl (5, [some (some 46), some (some 88), some (some 89), none]),
  .inl (2, [some (some 47)]),
  .inr (.inr [48, 56, 64, 72, 80]),
  .inl (7, [some (some 49), some (some 50), some (some 51), some (some 52), some (some 53), some (some 54), some (some 55), none, none, none]),
  .inr (.inl 4),
  .inr (.inl 6),
  .inr (.inl 6),
  .inr (.inl 6),
  .inr (.inl 6),
  .inr (.inl 6),
  .inr (.inl 6),
  .inl (7, [some (some 57), some (some 58), some (some 59), some (some 60), some (some 61), some (some 62), some (some 63), none, none, none]),
  .inr (.inl 4),
  .inr (.inl 6),
  .inr (.inl 6),
  .inr (.inl 6),
  .inr (.inl 6),
  .inr (.inl 6),
  .inr (.inl 6),
  .inl (7, [some (some 65), some (some 66), some (some 67), some (some 68), some (some 69), some (some 70), some (some 71), none, none, none]),
  .inr (.inl 4),
  .inr (.inl 6),
  .inr (.inl 6),
  .inr (.inl 6),
  .inr (.inl 6),
  .inr (.inl 6),
  .inr (.inl 6),
  .inl (7, [some (some 73), some (some 74), some (some 75), some (some 76), some (some 77), some (some 78), some (some 79), none, none, none]),
  .inr (.inl 4),
  .inr (.inl 6),
  .inr (.inl 6),
  .inr (.inl 6),
  .inr (.inl 6),
  .inr (.inl 6),
  .inr (.inl 6),
  .inl (7, [some (some 81), some (some 82), some (some 83), some (some 84), some (some 85), some (some 86), some (some 87), none, none, none]),
  .inr (.inl 4),
  .inr (.inl 6),
  .inr (.inl 6),
  .inr (.inl 6),
  .inr (.inl 6),
  .inr (.inl 6),
  .inr (.inl 6),
  .inr (.inl 4),
  .inr (.inl 4),
  .inl (3, [some (some 91), some (some 92), none]),
  .inr (.inl 6),
  .inr (.inl 6),
  .inl (0, [some (some 94), some (some 95), some (some 96), some (some 97), none, none]),
  .inr (.inl 20),
  .inr (.inl 20),
  .inr (.inl 6),
  .inr (.inl 31),
  .inl (1, [some (some 99)]),
  .inl (2, [some (some 100)]),
  .inr (.inr [101, 109, 117, 125]),
  .inl (7, [some (some 102), some (some 103), some (some 104), some (some 105), some (some 106), some (some 107), some (some 108), none, none, none]),
  .inr (.inl 4),
  .inr (.inl 6),
  .inr (.inl 6),
  .inr (.inl 6),
  .inr (.inl 6),
  .inr (.inl 6),
  .inr (.inl 6),
  .inl (7, [some (some 110), some (some 111), some (some 112), some (some 113), some (some 114), some (some 115), some (some 116), none, none, none]),
  .inr (.inl 4),
  .inr (.inl 6),
  .inr (.inl 6),
  .inr (.inl 6),
  .inr (.inl 6),
  .inr (.inl 6),
  .inr (.inl 6),
  .inl (7, [some (some 118), some (some 119), some (some 120), some (some 121), some (some 122), some (some 123), some (some 124), none, none, none]),
  .inr (.inl 4),
  .inr (.inl 6),
  .inr (.inl 6),
  .inr (.inl 6),
  .inr (.inl 6),
  .inr (.inl 6),
  .inr (.inl 6),
  .inl (7, [some (some 126), some (some 127), some (some 128), some (some 129), some (some 130), some (some 131), some (some 132), none, none, none]),
  .inr (.inl 4),
  .inr (.inl 6),
  .inr (.inl 6),
  .inr (.inl 6),
  .inr (.inl 6),
  .inr (.inl 6),
  .inr (.inl 6),
  .inr (.inl 6),
  .inl (9, [some (some 135), none, some (some 136), some (some 137), some (some 138), some (some 139), some (some 140), some (some 141), none, some (some 142), none, some none, some none, none, some (some 143), some (some 144), some none]),
  .inr (.inl 7304),
  .inr (.inl 3),
  .inr (.inl 240),
  .inr (.inl 6),
  .inr (.inl 240),
  .inr (.inl 4),
  .inr (.inl 40),
  .inr (.inl 6),
  .inr (.inl 32),
  .inr (.inl 2401)]
def nW : Nat := 145
theorem shpL_len : shpL.length = nW := by decide +kernel
def shp (k : Nat) : Shp := shpL.getD k (.inr (.inl 0))

abbrev cls9 : List vw_C := [(RX0, TX0, 6), (RX1, TX1, 1), (RX2, TX2, 1), (RX3, TX3, 3), (RX4, TX4, 4), (RX5, TX5, 4), (RX6, TX6, 3), (RX7, TX7, 10), (RX8, TX8, 18), (RX9, TX9, 17)]
def setI (σ : Mem) (k j : Nat) (v : Int32) : Mem := (fun a b => if a = k ∧ b = j then v else σ.1 a b, σ.2)
def setL (σ : Mem) (k j : Nat) (v : Int64) : Mem := (σ.1, fun a b => if a = k ∧ b = j then v else σ.2 a b)
def fvl (ad : Nat → Nat) (σ : Mem) (k j : Nat) : Option (Option Nat) → Value
  | none => .int (σ.1 k j)
  | some none => .long (σ.2 k j)
  | some (some p) => .ref (ad p)
def fvs (ad : Nat → Nat) (σ : Mem) (k : Nat) : Nat → List (Option (Option Nat)) → List Value
  | _, [] => []
  | j, f :: t => fvl ad σ k j f :: fvs ad σ k (j + 1) t
def cel (ad : Nat → Nat) (cI cT : ClassId) (σ : Mem) (k : Nat) : va_E := match shp k with
  | .inl q => .inr (q.1, fvs ad σ k 0 q.2)
  | .inr (.inl n) => .inl (cI, n, .inl (σ.1 k))
  | .inr (.inr l) => .inl (cT, l.length, .inr (.inr (.inr (.inr (fun j => (l[j]?).map ad)))))
def wld (ad : Nat → Nat) (cI cT : ClassId) (σ : Mem) : va_W := (List.range nW).map (fun k => (ad k, cel ad cI cT σ k))
theorem wld_get {ad : Nat → Nat} {cI cT : ClassId} {σ : Mem} {k : Nat} (h : k < nW) : (wld ad cI cT σ)[k]? = some (ad k, cel ad cI cT σ k) := by
  unfold wld
  rw [List.getElem?_map, List.getElem?_range h]
  rfl
theorem wld_some {ad : Nat → Nat} {cI cT : ClassId} {σ : Mem} {k : Nat} {q : Nat × va_E} (h : (wld ad cI cT σ)[k]? = some q) : k < nW ∧ q = (ad k, cel ad cI cT σ k) := by
  have hl : k < nW := by
    have := (List.getElem?_eq_some_iff.mp h).1
    unfold wld at this
    simpa using this
  rw [wld_get hl] at h
  exact ⟨hl, (Option.some.inj h).symm⟩
theorem wld_set {ad : Nat → Nat} {cI cT : ClassId} {σ σ' : Mem} {k : Nat} {e : va_E} (hk : k < nW) (he : e = cel ad cI cT σ' k) (ho : ∀ j, j ≠ k → cel ad cI cT σ' j = cel ad cI cT σ j) : (wld ad cI cT σ).set k (ad k, e) = wld ad cI cT σ' := by
  subst he
  apply List.ext_getElem?
  intro i
  by_cases hi : i = k
  · subst hi
    rw [List.getElem?_set_self (by unfold wld; simpa using hk), wld_get hk]
  · rw [List.getElem?_set_ne (Ne.symm hi)]
    by_cases hl : i < nW
    · rw [wld_get hl, wld_get hl, ho i hi]
    · rw [List.getElem?_eq_none (by unfold wld; simpa using hl), List.getElem?_eq_none (by unfold wld; simpa using hl)]
theorem shp_lt {k : Nat} (h : shp k ≠ .inr (.inl 0)) : k < nW := by
  rcases Nat.lt_or_ge k nW with q | q
  · exact q
  · exact absurd (by unfold shp; rw [List.getD_eq_getElem?_getD, List.getElem?_eq_none (by rw [shpL_len]; exact q)]; rfl) h
theorem fvs_get (ad : Nat → Nat) (σ : Mem) (k : Nat) : ∀ (fl : List (Option (Option Nat))) (j0 j : Nat) (f : Option (Option Nat)), fl[j]? = some f → (fvs ad σ k j0 fl)[j]? = some (fvl ad σ k (j0 + j) f)
  | [], j0, j, f, h => by simp at h
  | g :: t, j0, 0, f, h => by
    have : g = f := by simpa using h
    subst this
    rfl
  | g :: t, j0, j + 1, f, h => by
    have h1 : t[j]? = some f := by simpa using h
    have h2 := fvs_get ad σ k t (j0 + 1) j f h1
    show (fvs ad σ k (j0 + 1) t)[j]? = _
    rw [h2, show j0 + 1 + j = j0 + (j + 1) by omega]
theorem fvs_len (ad : Nat → Nat) (σ : Mem) (k : Nat) : ∀ (fl : List (Option (Option Nat))) (j0 : Nat), (fvs ad σ k j0 fl).length = fl.length
  | [], _ => rfl
  | _ :: t, j0 => by
    show (fvs ad σ k (j0 + 1) t).length + 1 = t.length + 1
    rw [fvs_len ad σ k t (j0 + 1)]
theorem fvl_setI {ad : Nat → Nat} {σ : Mem} {k j : Nat} {v : Int32} {k2 j2 : Nat} {f : Option (Option Nat)} (h : ¬ (k2 = k ∧ j2 = j)) : fvl ad (setI σ k j v) k2 j2 f = fvl ad σ k2 j2 f := by
  cases f with
  | none => simp [fvl, setI, h]
  | some g => cases g <;> rfl
theorem fvl_setL {ad : Nat → Nat} {σ : Mem} {k j : Nat} {v : Int64} {k2 j2 : Nat} {f : Option (Option Nat)} (h : ¬ (k2 = k ∧ j2 = j)) : fvl ad (setL σ k j v) k2 j2 f = fvl ad σ k2 j2 f := by
  cases f with
  | none => rfl
  | some g => cases g with
    | none => simp [fvl, setL, h]
    | some p => rfl
theorem fvs_ext {ad : Nat → Nat} {σ σ' : Mem} {k : Nat} : ∀ (fl : List (Option (Option Nat))) (j0 : Nat), (∀ j f, fl[j]? = some f → fvl ad σ k (j0 + j) f = fvl ad σ' k (j0 + j) f) → fvs ad σ k j0 fl = fvs ad σ' k j0 fl
  | [], _, _ => rfl
  | g :: t, j0, h => by
    have h0 := h 0 g rfl
    have h1 := fvs_ext (ad := ad) (σ := σ) (σ' := σ') (k := k) t (j0 + 1) (fun j f hf => by
      have := h (j + 1) f (by simpa using hf)
      rw [show j0 + 1 + j = j0 + (j + 1) by omega]
      exact this)
    show _ :: _ = _ :: _
    rw [h1]
    rw [show fvl ad σ k j0 g = fvl ad σ' k j0 g from h0]
theorem fvs_setI {ad : Nat → Nat} {σ : Mem} {k j : Nat} {v : Int32} : ∀ (fl : List (Option (Option Nat))) (j0 i : Nat), fl[i]? = some none → j0 + i = j → (fvs ad σ k j0 fl).set i (.int v) = fvs ad (setI σ k j v) k j0 fl
  | [], _, _, h, _ => by simp at h
  | g :: t, j0, 0, h, hj => by
    have : g = none := by simpa using h
    subst this
    subst hj
    show Value.int v :: fvs ad σ k (j0 + 1) t = fvl ad (setI σ k (j0 + 0) v) k j0 none :: fvs ad (setI σ k (j0 + 0) v) k (j0 + 1) t
    rw [fvs_ext (σ' := setI σ k (j0 + 0) v) t (j0 + 1) (fun j f _ => (fvl_setI (by omega)).symm)]
    congr 1
    simp [fvl, setI]
  | g :: t, j0, i + 1, h, hj => by
    have h1 : t[i]? = some none := by simpa using h
    have h2 := fvs_setI (ad := ad) (σ := σ) (k := k) (j := j) (v := v) t (j0 + 1) i h1 (by omega)
    show fvl ad σ k j0 g :: (fvs ad σ k (j0 + 1) t).set i (.int v) = fvl ad (setI σ k j v) k j0 g :: fvs ad (setI σ k j v) k (j0 + 1) t
    rw [h2, fvl_setI (by omega)]
theorem fvs_setL {ad : Nat → Nat} {σ : Mem} {k j : Nat} {v : Int64} : ∀ (fl : List (Option (Option Nat))) (j0 i : Nat), fl[i]? = some (some none) → j0 + i = j → (fvs ad σ k j0 fl).set i (.long v) = fvs ad (setL σ k j v) k j0 fl
  | [], _, _, h, _ => by simp at h
  | g :: t, j0, 0, h, hj => by
    have : g = some none := by simpa using h
    subst this
    subst hj
    show Value.long v :: fvs ad σ k (j0 + 1) t = fvl ad (setL σ k (j0 + 0) v) k j0 (some none) :: fvs ad (setL σ k (j0 + 0) v) k (j0 + 1) t
    rw [fvs_ext (σ' := setL σ k (j0 + 0) v) t (j0 + 1) (fun j f _ => (fvl_setL (by omega)).symm)]
    congr 1
    simp [fvl, setL]
  | g :: t, j0, i + 1, h, hj => by
    have h1 : t[i]? = some (some none) := by simpa using h
    have h2 := fvs_setL (ad := ad) (σ := σ) (k := k) (j := j) (v := v) t (j0 + 1) i h1 (by omega)
    show fvl ad σ k j0 g :: (fvs ad σ k (j0 + 1) t).set i (.long v) = fvl ad (setL σ k j v) k j0 g :: fvs ad (setL σ k j v) k (j0 + 1) t
    rw [h2, fvl_setL (by omega)]
theorem cel_ext {ad : Nat → Nat} {cI cT : ClassId} {σ σ' : Mem} {k : Nat} (h1 : ∀ b, σ'.1 k b = σ.1 k b) (h2 : ∀ b, σ'.2 k b = σ.2 k b) : cel ad cI cT σ' k = cel ad cI cT σ k := by
  unfold cel
  split
  · rw [fvs_ext (σ := σ') (σ' := σ)]
    intro j f _
    cases f with
    | none => show Value.int _ = Value.int _; rw [h1]
    | some g => cases g with
      | none => show Value.long _ = Value.long _; rw [h2]
      | some p => rfl
  · rw [show σ'.1 k = σ.1 k from funext h1]
  · rfl
theorem cel_setI_ne {ad : Nat → Nat} {cI cT : ClassId} {σ : Mem} {k j : Nat} {v : Int32} {i : Nat} (h : i ≠ k) : cel ad cI cT (setI σ k j v) i = cel ad cI cT σ i := cel_ext (fun b => by simp [setI, h]) (fun _ => rfl)
theorem cel_setL_ne {ad : Nat → Nat} {cI cT : ClassId} {σ : Mem} {k j : Nat} {v : Int64} {i : Nat} (h : i ≠ k) : cel ad cI cT (setL σ k j v) i = cel ad cI cT σ i := cel_ext (fun _ => rfl) (fun b => by simp [setL, h])
/-! ===== what a method reads and writes, with what must hold for it ===== -/
def gI (ci j k : Nat) (σ : Mem) : Option Int32 := match shp k with
  | .inl q => if q.1 = ci ∧ q.2[j]? = some none then some (σ.1 k j) else none
  | .inr _ => none
def gL (ci j k : Nat) (σ : Mem) : Option Int64 := match shp k with
  | .inl q => if q.1 = ci ∧ q.2[j]? = some (some none) then some (σ.2 k j) else none
  | .inr _ => none
def gR (ci j k : Nat) : Option Nat := match shp k with
  | .inl q => if q.1 = ci then (match q.2[j]? with
    | some (some (some p)) => some p
    | _ => none) else none
  | .inr _ => none
def pI (ci j k : Nat) (v : Int32) (σ : Mem) : Option Mem := match shp k with
  | .inl q => if q.1 = ci ∧ q.2[j]? = some none then some (setI σ k j v) else none
  | .inr _ => none
def pL (ci j k : Nat) (v : Int64) (σ : Mem) : Option Mem := match shp k with
  | .inl q => if q.1 = ci ∧ q.2[j]? = some (some none) then some (setL σ k j v) else none
  | .inr _ => none
def aI (k : Nat) (i : Int32) (σ : Mem) : Option Int32 := match shp k with
  | .inr (.inl n) => if 0 ≤ i.toInt ∧ i.toInt < n then some (σ.1 k i.toNatClampNeg) else none
  | _ => none
def sI (k : Nat) (i v : Int32) (σ : Mem) : Option Mem := match shp k with
  | .inr (.inl n) => if 0 ≤ i.toInt ∧ i.toInt < n then some (setI σ k i.toNatClampNeg v) else none
  | _ => none
def aR (k : Nat) (i : Int32) : Option Nat := match shp k with
  | .inr (.inr l) => if 0 ≤ i.toInt ∧ i.toInt < l.length then l[i.toNatClampNeg]? else none
  | _ => none
def aN (k : Nat) : Option Int32 := if k < nW then (match shp k with
  | .inr (.inl n) => some (Int32.ofNat n)
  | .inr (.inr l) => some (Int32.ofNat l.length)
  | .inl _ => none) else none
def isK (ci k : Nat) : Bool := match shp k with
  | .inl q => q.1 == ci
  | .inr _ => false
/-- System.arraycopy of numbers -/
def cpI (a : Nat) (sp : Int32) (b : Nat) (dp n : Int32) (σ : Mem) : Option Mem := match shp a, shp b with
  | .inr (.inl n0), .inr (.inl n1) => if 0 ≤ sp.toInt ∧ 0 ≤ dp.toInt ∧ 0 ≤ n.toInt ∧ sp.toInt + n.toInt ≤ n0 ∧ dp.toInt + n.toInt ≤ n1 ∧ a < nW ∧ b < nW then some (fun x y => if x = b then va_cpy (σ.1 a) (σ.1 b) sp.toNatClampNeg dp.toNatClampNeg n.toNatClampNeg y else σ.1 x y, σ.2) else none
  | _, _ => none
/-- the bytes of the kinds' letters -/
def klv (j : Nat) : Int32 := match j with
  | 0 => 98 | 1 => 115 | 2 => 113 | 3 => 99 | 4 => 116 | _ => 119
/-- a loop: the last answer of a step that goes on or ends; nothing if it never ends -/
def lpn {S T : Type} (f : S → Option (S ⊕ T)) : Nat → S → Option T
  | 0, _ => none
  | n + 1, s => match f s with
    | none => none
    | some (.inl s') => lpn f n s'
    | some (.inr t) => some t
noncomputable def lp {S T : Type} (f : S → Option (S ⊕ T)) (s : S) : Option T := @dite _ (∃ t n, lpn f n s = some t) (Classical.propDecidable _) (fun h => some (Classical.choose h)) (fun _ => none)
theorem lpn_mono {S T : Type} {f : S → Option (S ⊕ T)} : ∀ (n : Nat) (s : S) (t : T) (k : Nat), lpn f n s = some t → lpn f (n + k) s = some t
  | 0, _, _, _, h => by cases h
  | n + 1, s, t, k, h => by
    rw [show n + 1 + k = (n + k) + 1 by omega]
    unfold lpn at h ⊢
    cases hf : f s with
    | none => rw [hf] at h; cases h
    | some x => cases x with
      | inl s' => rw [hf] at h; exact lpn_mono n s' t k h
      | inr u => rw [hf] at h; exact h
theorem lpn_det {S T : Type} {f : S → Option (S ⊕ T)} {n m : Nat} {s : S} {t u : T} (h1 : lpn f n s = some t) (h2 : lpn f m s = some u) : t = u := by
  have a := lpn_mono n s t m h1
  have b := lpn_mono m s u n h2
  rw [Nat.add_comm] at b
  rw [a] at b
  exact Option.some.inj b
theorem lp_iff {S T : Type} {f : S → Option (S ⊕ T)} {s : S} {t : T} : lp f s = some t ↔ ∃ n, lpn f n s = some t := by
  unfold lp
  constructor
  · intro h
    by_cases hx : ∃ t n, lpn f n s = some t
    · rw [dif_pos hx] at h
      rw [← Option.some.inj h]
      exact Classical.choose_spec hx
    · rw [dif_neg hx] at h
      cases h
  · intro ⟨n, hn⟩
    have hx : ∃ t n, lpn f n s = some t := ⟨t, n, hn⟩
    rw [dif_pos hx]
    obtain ⟨m, hm⟩ := Classical.choose_spec hx
    rw [lpn_det hm hn]
theorem lp_in {S T : Type} {f : S → Option (S ⊕ T)} {s s' : S} (h : f s = some (.inl s')) : lp f s = lp f s' := by
  cases h1 : lp f s' with
  | some t =>
    obtain ⟨n, hn⟩ := lp_iff.mp h1
    exact lp_iff.mpr ⟨n + 1, by unfold lpn; rw [h]; exact hn⟩
  | none =>
    cases h2 : lp f s with
    | none => rfl
    | some t =>
      obtain ⟨n, hn⟩ := lp_iff.mp h2
      cases n with
      | zero => cases hn
      | succ n =>
        unfold lpn at hn
        rw [h] at hn
        rw [lp_iff.mpr ⟨n, hn⟩] at h1
        cases h1
theorem lp_out {S T : Type} {f : S → Option (S ⊕ T)} {s : S} {t : T} (h : f s = some (.inr t)) : lp f s = some t := lp_iff.mpr ⟨1, by unfold lpn; rw [h]⟩
/-- what follows a loop's start, by what follows each of its steps -/
theorem lp_ind {S T : Type} {f : S → Option (S ⊕ T)} {P : S → T → Prop} (h1 : ∀ s t, f s = some (.inr t) → P s t) (h2 : ∀ s s' t, f s = some (.inl s') → P s' t → P s t) : ∀ s t, lp f s = some t → P s t := by
  intro s t h
  obtain ⟨n, hn⟩ := lp_iff.mp h
  clear h
  induction n generalizing s with
  | zero => cases hn
  | succ n ih =>
    unfold lpn at hn
    cases hf : f s with
    | none => rw [hf] at hn; cases hn
    | some x => cases x with
      | inl s' => rw [hf] at hn; exact h2 s s' t hf (ih s' hn)
      | inr u => rw [hf] at hn; cases hn; exact h1 s _ hf
theorem bnd {α β : Type} {o : Option α} {f : α → Option β} {r : β} (h : o.bind f = some r) : ∃ a, o = some a ∧ f a = some r := Option.bind_eq_some_iff.mp h
theorem ifp {α : Type} {c : Prop} [Decidable c] {a b : α} {r : α} (h : (if c then a else b) = r) (hc : c) : a = r := by rw [if_pos hc] at h; exact h
theorem ifn {α : Type} {c : Prop} [Decidable c] {a b : α} {r : α} (h : (if c then a else b) = r) (hc : ¬ c) : b = r := by rw [if_neg hc] at h; exact h
end
section
/-! ===== the judgement V: W over the world of this claim ===== -/
abbrev DD : Type := Launch × va_G × ClassId × ClassId × (Nat → Nat) × Nat
abbrev GG : Type := Program × Env × Room × State × MethodId × Array Value × List Frame × Method × Code × Nat × Nat × (State → Prop)
def adA (ad : Nat → Nat) : Nat → Prop := fun q => ∃ k, k < nW ∧ q = ad k
def KL (ad : Nat → Nat) (t : Nat) (U : State) (H : Heap) : Prop := va_Z RX8 "KIND_LETTERS" "[I" (.ref t) (adA ad) U H ∧ va_T .int t 6 (fun j => .int (klv j)) (adA ad) U H
abbrev tysA (cI cT : ClassId) : List (ClassId × FieldType) := [(cI, .int), (cT, .object "BolsterBeds$Town")]
/-- what holds of the tables and of the cells that nobody writes -/
def St (D : va_G) (cI cT : ClassId) (ad : Nat → Nat) (tK : Nat) (U : State) (H : Heap) : Prop := va_K D cls9 (tysA cI cT) U ∧ (∀ i j, i < nW → j < nW → ad i = ad j → i = j) ∧ KL ad tK U H ∧ ∀ w ∈ lw_nest, va_Nw w U
def V (Δ : DD) (Γ : GG) (nL pc : Nat) (ll : List (Nat × Value)) (st : List Value) (σ : Mem) : Prop := match Δ, Γ with
  | (l, D, cI, cT, ad, tK), (p, e, R, s, m, args, below, meth, c, kc, ks, Q) => ∀ (H : Heap) (locs : List Loc) (ls : Array Slot), va_P D cls9 (wld ad cI cT σ) H → va_S (adA ad) s.heap H locs → lv_has ls nL ll → W p l e R s m args below meth c H locs kc ks Q (F0 m pc ls st)
def Cx (Δ : DD) (Γ : GG) (own : String) (cc : ByteArray) (nL d : Nat) (ret : Option FieldType) : Prop := match Δ, Γ with
  | (_, D, cI, cT, ad, tK), (p, _, R, s, m, args, _, meth, c, kc, ks, _) => p.tables.exec = Jvm.exec ∧ c.code = cc ∧ c.maxLocals = nL ∧ s.vm.findClass own = some m.cls ∧ (∀ w ∈ lw_good, w.before args s = true) ∧ St D cI cT ad tK s s.heap ∧ meth.sig.returnType = ret ∧ meth.locks = false ∧ d + 1 ≤ R.frames ∧ 64 * (d + 1) ≤ R.locals ∧ kc ≤ R.cells ∧ ks ≤ R.slots
def Pq (Δ : DD) (rv : Option Value) (σ' : Mem) : Array Value → State → Outcome → State → Prop := match Δ with
  | (_, D, cI, cT, ad, _) => fun _ st o t => o = .returned rv ∧ va_P D cls9 (wld ad cI cT σ') t.heap ∧ va_F (adA ad) st t
def Pp (Δ : DD) (av : List Value) (σ : Mem) : Array Value → State → Prop := match Δ with
  | (_, D, cI, cT, ad, tK) => va_Pc av (fun U => va_P D cls9 (wld ad cI cT σ) U.heap ∧ St D cI cT ad tK U U.heap)
def RetQ (Δ : DD) (Γ : GG) (rv : Option Value) (σ' : Mem) : Prop := match Γ with
  | (_, _, _, s, _, args, below, _, _, kc, ks, Q) => Q = MQ below (Pq Δ rv σ') args s kc ks (adA Δ.2.2.2.2.1)
abbrev rm (d : Nat) : Room := { frames := d, cells := 0, slots := 0, locals := 64 * d }
/-- a method's contract: from these arguments and numbers it returns, with this answer and these numbers -/
def Mt (Δ : DD) (d : Nat) (y : MethodName) (cc : ByteArray) (nL : Nat) (ret : Option FieldType) (av : List Value) (σ : Mem) (rv : Option Value) (σ' : Mem) : Prop :=
  Met Δ.1 y (Cond.code y cc nL ret :: lw_good) (rm d) (Pp Δ av σ) (Pq Δ rv σ') 0 0 (adA Δ.2.2.2.2.1)
abbrev rf (Δ : DD) (k : Nat) : Value := .ref (Δ.2.2.2.2.1 k)
abbrev vr (Δ : DD) (o : Option Nat) : Value := match o with
  | some k => rf Δ k
  | none => .null
theorem nest_on {w : Cond} (h : w ∈ lw_nest) : w.onTables = true := by
  have h1 := (List.mem_filter.mp h).2
  cases w <;> first | rfl | (exact absurd h1 (by decide)) | (simp [lw_isN] at h1)
theorem nest_warm {w : Cond} (h : w ∈ lw_nest) {s U : State} (hW : s.WarmedH U.vm) (hz : va_Nw w s) : va_Nw w U := by
  have h1 := (List.mem_filter.mp h).2
  cases w <;> first | exact va_Nw.warmF hW hz | exact va_Nw.warmM hW hz | (simp [lw_isN] at h1)
theorem KL.moved {ad : Nat → Nat} {t : Nat} {u U : State} {H : Heap} (hvm : u.vm.Alike U.vm) (h : KL ad t u H) : KL ad t U H := ⟨h.1.moved hvm, h.2.moved hvm⟩
theorem KL.kept {ad : Nat → Nat} {t : Nat} {U : State} {H H1 : Heap} (hq : ∀ a : Nat, a < H.size → ¬ adA ad a → H1[a]? = H[a]?) (h : KL ad t U H) : KL ad t U H1 := ⟨h.1.kept hq, h.2.kept hq⟩
theorem St.go {D : va_G} {cI cT : ClassId} {ad : Nat → Nat} {tK : Nat} {s U : State} {H : Heap} {locs : List Loc} (h : St D cI cT ad tK s s.heap) (hS : va_S (adA ad) s.heap H locs) (hW : s.WarmedH U.vm) : St D cI cT ad tK U H :=
  ⟨va_K.moved hW.alike h.1, h.2.1, (h.2.2.1.kept (fun a h1 h2 => hS.2.1 a h1 h2)).moved hW.alike, fun w hw => nest_warm hw hW (h.2.2.2 w hw)⟩
theorem St.call {D : va_G} {cI cT : ClassId} {ad : Nat → Nat} {tK : Nat} {U : State} {H : Heap} (a : Array Value) (g : JFrame) (mk : MethodId) (h : St D cI cT ad tK U H) : St D cI cT ad tK (U.calling g mk a) H :=
  ⟨va_K.moved (u := U) (U := U.calling g mk a) (Vm.Alike.refl U.vm) h.1, h.2.1, h.2.2.1.moved (u := U) (U := U.calling g mk a) (Vm.Alike.refl U.vm), fun w hw => va_Nw.same (u := U) (U := U.calling g mk a) (nest_on hw) rfl (h.2.2.2 w hw)⟩
theorem Pp.blind (Δ : DD) (av : List Value) (σ : Mem) : FrameBlind (Pp Δ av σ) := by
  obtain ⟨l, D, cI, cT, ad, tK⟩ := Δ
  intro a U g mk h
  exact ⟨h.1, h.2.1, h.2.2.call a g mk⟩
theorem wld_D {ad : Nat → Nat} {cI cT : ClassId} {σ : Mem} (h : ∀ i j, i < nW → j < nW → ad i = ad j → i = j) : va_D (adA ad) (wld ad cI cT σ) := by
  refine ⟨fun i j p q hp hq e => ?_, fun k q hq => ?_⟩
  · obtain ⟨h1, rfl⟩ := wld_some hp
    obtain ⟨h2, rfl⟩ := wld_some hq
    exact h i j h1 h2 e
  · obtain ⟨h1, rfl⟩ := wld_some hq
    exact ⟨k, h1, rfl⟩
theorem good_all : ∀ w ∈ lw_good, goodWord w = true := fun _ h => (List.mem_filter.mp h).2
/-- from a walk of the body to the contract -/
theorem mt_of {Δ : DD} {d : Nat} {own : String} {y : MethodName} {cc : ByteArray} {nL : Nat} {ret : Option FieldType} {av : List Value} {σ : Mem} {rv : Option Value} {σ' : Mem} (hy : plainName y.cls = true) (hown : y.cls = own) (hlen : (lg_sl av).length ≤ nL)
    (body : ∀ Γ : GG, Cx Δ Γ own cc nL d ret → RetQ Δ Γ rv σ' → V Δ Γ nL 0 (lv_args 0 av) [] σ) : Mt Δ (d + 1) y cc nL ret av σ rv σ' := by
  obtain ⟨l, D, cI, cT, ad, tK⟩ := Δ
  refine Met.ofW (cc := cc) (maxL := nL) (ret := ret) hy rfl ?_
  intro p e s m args below meth c s₁ B hml hv
  obtain ⟨rfl, hP, hSt⟩ := hv
  have hts0 := atoms_spec (ws := Cond.code y cc nL ret :: lw_good) B.pre
  have hl := lv_entry av (n := nL) hlen
  rw [lg_entry_eq]
  refine body (p, e, (headSpec (Cond.code y cc nL ret :: lw_good) (rm (d + 1))).room, s, m, av.toArray, below, meth, c, 0, 0, _) ⟨B.exec, B.bytes, hml, ?_, fun w hw => hts0 w (List.mem_cons_of_mem _ hw), hSt, B.returns, B.notSynchronized, ?_, ?_, Nat.le_refl _, Nat.le_refl _⟩ rfl s.heap [] _ hP va_S.rf hl
  · rw [← hown]; exact findClass_of_methodNamed B.named
  · exact Nat.le_refl _
  · exact Nat.le_refl _
section ROWS
variable {Δ : DD} {Γ : GG} {own : String} {cc : ByteArray} {nL d pc : Nat} {ret : Option FieldType} {ll : List (Nat × Value)} {st : List Value} {σ : Mem}
theorem v_iconst (C : Cx Δ Γ own cc nL d ret) {n : Int} (v : Int32) (hdg : decode cc pc = .ok (.iconst n, 1)) (hv : Int32.ofInt n = v) (k : V Δ Γ nL (pc + 1) ll (.int v :: st) σ) : V Δ Γ nL pc ll st σ := by
  obtain ⟨l, D, cI, cT, ad, tK⟩ := Δ; obtain ⟨p, e, R, s, m, args, below, meth, c, kc, ks, Q⟩ := Γ
  exact fun H locs ls hP hS hl => lv_iconst C.1 C.2.1 hdg hv (k H locs ls hP hS hl)
theorem v_bipush (C : Cx Δ Γ own cc nL d ret) {n : Int} (v : Int32) (hdg : decode cc pc = .ok (.bipush n, 2)) (hv : (Int8.ofInt n).toInt32 = v) (k : V Δ Γ nL (pc + 2) ll (.int v :: st) σ) : V Δ Γ nL pc ll st σ := by
  obtain ⟨l, D, cI, cT, ad, tK⟩ := Δ; obtain ⟨p, e, R, s, m, args, below, meth, c, kc, ks, Q⟩ := Γ
  exact fun H locs ls hP hS hl => lv_bipush C.1 C.2.1 hdg hv (k H locs ls hP hS hl)
theorem v_sipush (C : Cx Δ Γ own cc nL d ret) {n : Int} (v : Int32) (hdg : decode cc pc = .ok (.sipush n, 3)) (hv : (Int16.ofInt n).toInt32 = v) (k : V Δ Γ nL (pc + 3) ll (.int v :: st) σ) : V Δ Γ nL pc ll st σ := by
  obtain ⟨l, D, cI, cT, ad, tK⟩ := Δ; obtain ⟨p, e, R, s, m, args, below, meth, c, kc, ks, Q⟩ := Γ
  exact fun H locs ls hP hS hl => lv_sipush C.1 C.2.1 hdg hv (k H locs ls hP hS hl)
theorem v_lconst (C : Cx Δ Γ own cc nL d ret) {n : Fin 2} (v : Int64) (hdg : decode cc pc = .ok (.lconst n, 1)) (hv : Int64.ofNat (n : Nat) = v) (k : V Δ Γ nL (pc + 1) ll (.long v :: st) σ) : V Δ Γ nL pc ll st σ := by
  obtain ⟨l, D, cI, cT, ad, tK⟩ := Δ; obtain ⟨p, e, R, s, m, args, below, meth, c, kc, ks, Q⟩ := Γ
  exact fun H locs ls hP hS hl => lv_lconst C.1 C.2.1 hdg hv (k H locs ls hP hS hl)
theorem v_ldc (C : Cx Δ Γ own cc nL d ret) {i : Nat} (v : Int32) (hw : Cond.constant own i v ∈ lw_good) (hdg : decode cc pc = .ok (.ldc i, 2)) (k : V Δ Γ nL (pc + 2) ll (.int v :: st) σ) : V Δ Γ nL pc ll st σ := by
  obtain ⟨l, D, cI, cT, ad, tK⟩ := Δ; obtain ⟨p, e, R, s, m, args, below, meth, c, kc, ks, Q⟩ := Γ
  exact fun H locs ls hP hS hl => lv_ldc C.1 C.2.1 C.2.2.2.1 (C.2.2.2.2.1 _ hw) hdg (k H locs ls hP hS hl)
theorem v_ldcw (C : Cx Δ Γ own cc nL d ret) {i : Nat} (v : Int32) (hw : Cond.constant own i v ∈ lw_good) (hdg : decode cc pc = .ok (.ldc_w i, 3)) (k : V Δ Γ nL (pc + 3) ll (.int v :: st) σ) : V Δ Γ nL pc ll st σ := by
  obtain ⟨l, D, cI, cT, ad, tK⟩ := Δ; obtain ⟨p, e, R, s, m, args, below, meth, c, kc, ks, Q⟩ := Γ
  exact fun H locs ls hP hS hl => lv_ldcw C.1 C.2.1 C.2.2.2.1 (C.2.2.2.2.1 _ hw) hdg (k H locs ls hP hS hl)
theorem v_ldc2 (C : Cx Δ Γ own cc nL d ret) {i : Nat} (v : Int64) (hw : Cond.constantLong own i v ∈ lw_good) (hdg : decode cc pc = .ok (.ldc2_w i, 3)) (k : V Δ Γ nL (pc + 3) ll (.long v :: st) σ) : V Δ Γ nL pc ll st σ := by
  obtain ⟨l, D, cI, cT, ad, tK⟩ := Δ; obtain ⟨p, e, R, s, m, args, below, meth, c, kc, ks, Q⟩ := Γ
  exact fun H locs ls hP hS hl => lv_ldc2 C.1 C.2.1 C.2.2.2.1 (C.2.2.2.2.1 _ hw) hdg (k H locs ls hP hS hl)
theorem v_null (C : Cx Δ Γ own cc nL d ret) (hdg : decode cc pc = .ok (.aconst_null, 1)) (k : V Δ Γ nL (pc + 1) ll (.null :: st) σ) : V Δ Γ nL pc ll st σ := by
  obtain ⟨l, D, cI, cT, ad, tK⟩ := Δ; obtain ⟨p, e, R, s, m, args, below, meth, c, kc, ks, Q⟩ := Γ
  exact fun H locs ls hP hS hl => lv_null C.1 C.2.1 hdg (k H locs ls hP hS hl)
theorem v_iload_n (C : Cx Δ Γ own cc nL d ret) {i : Fin 4} {x : Int32} (j q : Nat) (hdg : decode cc pc = .ok (.iload_n i, 1)) (hj : (i : Nat) = j) (hk : ll[q]? = some (j, .int x)) (k : V Δ Γ nL (pc + 1) ll (.int x :: st) σ) : V Δ Γ nL pc ll st σ := by
  obtain ⟨l, D, cI, cT, ad, tK⟩ := Δ; obtain ⟨p, e, R, s, m, args, below, meth, c, kc, ks, Q⟩ := Γ
  exact fun H locs ls hP hS hl => lv_iload_n C.1 C.2.1 hdg hj (lv_at hl q hk) (k H locs ls hP hS hl)
theorem v_iload (C : Cx Δ Γ own cc nL d ret) {x : Int32} (j q : Nat) (hdg : decode cc pc = .ok (.iload j, 2)) (hk : ll[q]? = some (j, .int x)) (k : V Δ Γ nL (pc + 2) ll (.int x :: st) σ) : V Δ Γ nL pc ll st σ := by
  obtain ⟨l, D, cI, cT, ad, tK⟩ := Δ; obtain ⟨p, e, R, s, m, args, below, meth, c, kc, ks, Q⟩ := Γ
  exact fun H locs ls hP hS hl => lv_iload C.1 C.2.1 hdg (lv_at hl q hk) (k H locs ls hP hS hl)
theorem v_lload_n (C : Cx Δ Γ own cc nL d ret) {i : Fin 4} {x : Int64} (j q : Nat) (hdg : decode cc pc = .ok (.lload_n i, 1)) (hj : (i : Nat) = j) (hk : ll[q]? = some (j, .long x)) (k : V Δ Γ nL (pc + 1) ll (.long x :: st) σ) : V Δ Γ nL pc ll st σ := by
  obtain ⟨l, D, cI, cT, ad, tK⟩ := Δ; obtain ⟨p, e, R, s, m, args, below, meth, c, kc, ks, Q⟩ := Γ
  exact fun H locs ls hP hS hl => lv_lload_n C.1 C.2.1 hdg hj (lv_at hl q hk) (k H locs ls hP hS hl)
theorem v_lload (C : Cx Δ Γ own cc nL d ret) {x : Int64} (j q : Nat) (hdg : decode cc pc = .ok (.lload j, 2)) (hk : ll[q]? = some (j, .long x)) (k : V Δ Γ nL (pc + 2) ll (.long x :: st) σ) : V Δ Γ nL pc ll st σ := by
  obtain ⟨l, D, cI, cT, ad, tK⟩ := Δ; obtain ⟨p, e, R, s, m, args, below, meth, c, kc, ks, Q⟩ := Γ
  exact fun H locs ls hP hS hl => lv_lload C.1 C.2.1 hdg (lv_at hl q hk) (k H locs ls hP hS hl)
theorem v_aload_n (C : Cx Δ Γ own cc nL d ret) {i : Fin 4} {x : Nat} (j q : Nat) (hdg : decode cc pc = .ok (.aload_n i, 1)) (hj : (i : Nat) = j) (hk : ll[q]? = some (j, .ref x)) (k : V Δ Γ nL (pc + 1) ll (.ref x :: st) σ) : V Δ Γ nL pc ll st σ := by
  obtain ⟨l, D, cI, cT, ad, tK⟩ := Δ; obtain ⟨p, e, R, s, m, args, below, meth, c, kc, ks, Q⟩ := Γ
  exact fun H locs ls hP hS hl => lv_aload_n C.1 C.2.1 hdg hj (lv_at hl q hk) (k H locs ls hP hS hl)
theorem v_aload (C : Cx Δ Γ own cc nL d ret) {x : Nat} (j q : Nat) (hdg : decode cc pc = .ok (.aload j, 2)) (hk : ll[q]? = some (j, .ref x)) (k : V Δ Γ nL (pc + 2) ll (.ref x :: st) σ) : V Δ Γ nL pc ll st σ := by
  obtain ⟨l, D, cI, cT, ad, tK⟩ := Δ; obtain ⟨p, e, R, s, m, args, below, meth, c, kc, ks, Q⟩ := Γ
  exact fun H locs ls hP hS hl => lv_aload C.1 C.2.1 hdg (lv_at hl q hk) (k H locs ls hP hS hl)
theorem v_aload_nN (C : Cx Δ Γ own cc nL d ret) {i : Fin 4} (j q : Nat) (hdg : decode cc pc = .ok (.aload_n i, 1)) (hj : (i : Nat) = j) (hk : ll[q]? = some (j, .null)) (k : V Δ Γ nL (pc + 1) ll (.null :: st) σ) : V Δ Γ nL pc ll st σ := by
  obtain ⟨l, D, cI, cT, ad, tK⟩ := Δ; obtain ⟨p, e, R, s, m, args, below, meth, c, kc, ks, Q⟩ := Γ
  exact fun H locs ls hP hS hl => lv_aload_nN C.1 C.2.1 hdg hj (lv_at hl q hk) (k H locs ls hP hS hl)
theorem v_aloadN (C : Cx Δ Γ own cc nL d ret) (j q : Nat) (hdg : decode cc pc = .ok (.aload j, 2)) (hk : ll[q]? = some (j, .null)) (k : V Δ Γ nL (pc + 2) ll (.null :: st) σ) : V Δ Γ nL pc ll st σ := by
  obtain ⟨l, D, cI, cT, ad, tK⟩ := Δ; obtain ⟨p, e, R, s, m, args, below, meth, c, kc, ks, Q⟩ := Γ
  exact fun H locs ls hP hS hl => lv_aloadN C.1 C.2.1 hdg (lv_at hl q hk) (k H locs ls hP hS hl)
theorem v_istore_n (C : Cx Δ Γ own cc nL d ret) {z : Fin 4} {x : Int32} (i : Nat) {ll' : List (Nat × Value)} (hdg : decode cc pc = .ok (.istore_n z, 1)) (hz : (z : Nat) = i) (hn : i < nL) (hl : (i, Value.int x) :: ll.filter (fun q => !(q.1 == i) && !(q.1 + 1 == i && q.2.category == 2)) = ll') (k : V Δ Γ nL (pc + 1) ll' st σ) : V Δ Γ nL pc ll (.int x :: st) σ := by
  obtain ⟨l, D, cI, cT, ad, tK⟩ := Δ; obtain ⟨p, e, R, s, m, args, below, meth, c, kc, ks, Q⟩ := Γ
  exact fun H locs ls hP hS h => lv_istore_n C.1 C.2.1 hdg hz h hn hl (fun ls' h' => k H locs ls' hP hS h')
theorem v_istore (C : Cx Δ Γ own cc nL d ret) {x : Int32} (i : Nat) {ll' : List (Nat × Value)} (hdg : decode cc pc = .ok (.istore i, 2)) (hn : i < nL) (hl : (i, Value.int x) :: ll.filter (fun q => !(q.1 == i) && !(q.1 + 1 == i && q.2.category == 2)) = ll') (k : V Δ Γ nL (pc + 2) ll' st σ) : V Δ Γ nL pc ll (.int x :: st) σ := by
  obtain ⟨l, D, cI, cT, ad, tK⟩ := Δ; obtain ⟨p, e, R, s, m, args, below, meth, c, kc, ks, Q⟩ := Γ
  exact fun H locs ls hP hS h => lv_istore C.1 C.2.1 hdg h hn hl (fun ls' h' => k H locs ls' hP hS h')
theorem v_astore_n (C : Cx Δ Γ own cc nL d ret) {z : Fin 4} {x : Nat} (i : Nat) {ll' : List (Nat × Value)} (hdg : decode cc pc = .ok (.astore_n z, 1)) (hz : (z : Nat) = i) (hn : i < nL) (hl : (i, Value.ref x) :: ll.filter (fun q => !(q.1 == i) && !(q.1 + 1 == i && q.2.category == 2)) = ll') (k : V Δ Γ nL (pc + 1) ll' st σ) : V Δ Γ nL pc ll (.ref x :: st) σ := by
  obtain ⟨l, D, cI, cT, ad, tK⟩ := Δ; obtain ⟨p, e, R, s, m, args, below, meth, c, kc, ks, Q⟩ := Γ
  exact fun H locs ls hP hS h => lv_astore_n C.1 C.2.1 hdg hz h hn hl (fun ls' h' => k H locs ls' hP hS h')
theorem v_astore (C : Cx Δ Γ own cc nL d ret) {x : Nat} (i : Nat) {ll' : List (Nat × Value)} (hdg : decode cc pc = .ok (.astore i, 2)) (hn : i < nL) (hl : (i, Value.ref x) :: ll.filter (fun q => !(q.1 == i) && !(q.1 + 1 == i && q.2.category == 2)) = ll') (k : V Δ Γ nL (pc + 2) ll' st σ) : V Δ Γ nL pc ll (.ref x :: st) σ := by
  obtain ⟨l, D, cI, cT, ad, tK⟩ := Δ; obtain ⟨p, e, R, s, m, args, below, meth, c, kc, ks, Q⟩ := Γ
  exact fun H locs ls hP hS h => lv_astore C.1 C.2.1 hdg h hn hl (fun ls' h' => k H locs ls' hP hS h')
theorem v_lstore_n (C : Cx Δ Γ own cc nL d ret) {z : Fin 4} {x : Int64} (i : Nat) {ll' : List (Nat × Value)} (hdg : decode cc pc = .ok (.lstore_n z, 1)) (hz : (z : Nat) = i) (hn : i + 1 < nL) (hl : (i, Value.long x) :: ll.filter (fun q => !(q.1 == i) && (!(q.1 == i + 1) && !(q.1 + 1 == i && q.2.category == 2))) = ll') (k : V Δ Γ nL (pc + 1) ll' st σ) : V Δ Γ nL pc ll (.long x :: st) σ := by
  obtain ⟨l, D, cI, cT, ad, tK⟩ := Δ; obtain ⟨p, e, R, s, m, args, below, meth, c, kc, ks, Q⟩ := Γ
  exact fun H locs ls hP hS h => lv_lstore_n C.1 C.2.1 hdg hz h hn hl (fun ls' h' => k H locs ls' hP hS h')
theorem v_lstore (C : Cx Δ Γ own cc nL d ret) {x : Int64} (i : Nat) {ll' : List (Nat × Value)} (hdg : decode cc pc = .ok (.lstore i, 2)) (hn : i + 1 < nL) (hl : (i, Value.long x) :: ll.filter (fun q => !(q.1 == i) && (!(q.1 == i + 1) && !(q.1 + 1 == i && q.2.category == 2))) = ll') (k : V Δ Γ nL (pc + 2) ll' st σ) : V Δ Γ nL pc ll (.long x :: st) σ := by
  obtain ⟨l, D, cI, cT, ad, tK⟩ := Δ; obtain ⟨p, e, R, s, m, args, below, meth, c, kc, ks, Q⟩ := Γ
  exact fun H locs ls hP hS h => lv_lstore C.1 C.2.1 hdg h hn hl (fun ls' h' => k H locs ls' hP hS h')
theorem v_astore_nN (C : Cx Δ Γ own cc nL d ret) {z : Fin 4} (i : Nat) {ll' : List (Nat × Value)} (hdg : decode cc pc = .ok (.astore_n z, 1)) (hz : (z : Nat) = i) (hn : i < nL) (hl : (i, Value.null) :: ll.filter (fun q => !(q.1 == i) && !(q.1 + 1 == i && q.2.category == 2)) = ll') (k : V Δ Γ nL (pc + 1) ll' st σ) : V Δ Γ nL pc ll (.null :: st) σ := by
  obtain ⟨l, D, cI, cT, ad, tK⟩ := Δ; obtain ⟨p, e, R, s, m, args, below, meth, c, kc, ks, Q⟩ := Γ
  exact fun H locs ls hP hS h => lv_astore_nN C.1 C.2.1 hdg hz h hn hl (fun ls' h' => k H locs ls' hP hS h')
theorem v_astoreN (C : Cx Δ Γ own cc nL d ret) (i : Nat) {ll' : List (Nat × Value)} (hdg : decode cc pc = .ok (.astore i, 2)) (hn : i < nL) (hl : (i, Value.null) :: ll.filter (fun q => !(q.1 == i) && !(q.1 + 1 == i && q.2.category == 2)) = ll') (k : V Δ Γ nL (pc + 2) ll' st σ) : V Δ Γ nL pc ll (.null :: st) σ := by
  obtain ⟨l, D, cI, cT, ad, tK⟩ := Δ; obtain ⟨p, e, R, s, m, args, below, meth, c, kc, ks, Q⟩ := Γ
  exact fun H locs ls hP hS h => lv_astoreN C.1 C.2.1 hdg h hn hl (fun ls' h' => k H locs ls' hP hS h')
theorem v_iinc (C : Cx Δ Γ own cc nL d ret) {i : Nat} {n : Int} {x : Int32} (v : Int32) (q : Nat) {ll' : List (Nat × Value)} (hdg : decode cc pc = .ok (.iinc i n, 3)) (hk : ll[q]? = some (i, .int x)) (hv : x + Int32.ofInt n = v) (hn : i < nL) (hl : (i, Value.int v) :: ll.filter (fun q => !(q.1 == i) && !(q.1 + 1 == i && q.2.category == 2)) = ll') (k : V Δ Γ nL (pc + 3) ll' st σ) : V Δ Γ nL pc ll st σ := by
  obtain ⟨l, D, cI, cT, ad, tK⟩ := Δ; obtain ⟨p, e, R, s, m, args, below, meth, c, kc, ks, Q⟩ := Γ
  exact fun H locs ls hP hS h => lv_iinc C.1 C.2.1 hdg h hk hv hn hl (fun ls' h' => k H locs ls' hP hS h')
theorem v_iadd (C : Cx Δ Γ own cc nL d ret) {x y : Int32} (hdg : decode cc pc = .ok (.iadd, 1)) (k : V Δ Γ nL (pc + 1) ll (.int (x + y) :: st) σ) : V Δ Γ nL pc ll (.int y :: .int x :: st) σ := by
  obtain ⟨l, D, cI, cT, ad, tK⟩ := Δ; obtain ⟨p, e, R, s, m, args, below, meth, c, kc, ks, Q⟩ := Γ
  exact fun H locs ls hP hS hl => lv_iadd C.1 C.2.1 hdg (k H locs ls hP hS hl)
theorem v_isub (C : Cx Δ Γ own cc nL d ret) {x y : Int32} (hdg : decode cc pc = .ok (.isub, 1)) (k : V Δ Γ nL (pc + 1) ll (.int (x - y) :: st) σ) : V Δ Γ nL pc ll (.int y :: .int x :: st) σ := by
  obtain ⟨l, D, cI, cT, ad, tK⟩ := Δ; obtain ⟨p, e, R, s, m, args, below, meth, c, kc, ks, Q⟩ := Γ
  exact fun H locs ls hP hS hl => lv_isub C.1 C.2.1 hdg (k H locs ls hP hS hl)
theorem v_imul (C : Cx Δ Γ own cc nL d ret) {x y : Int32} (hdg : decode cc pc = .ok (.imul, 1)) (k : V Δ Γ nL (pc + 1) ll (.int (x * y) :: st) σ) : V Δ Γ nL pc ll (.int y :: .int x :: st) σ := by
  obtain ⟨l, D, cI, cT, ad, tK⟩ := Δ; obtain ⟨p, e, R, s, m, args, below, meth, c, kc, ks, Q⟩ := Γ
  exact fun H locs ls hP hS hl => lv_imul C.1 C.2.1 hdg (k H locs ls hP hS hl)
theorem v_iand (C : Cx Δ Γ own cc nL d ret) {x y : Int32} (hdg : decode cc pc = .ok (.iand, 1)) (k : V Δ Γ nL (pc + 1) ll (.int (x &&& y) :: st) σ) : V Δ Γ nL pc ll (.int y :: .int x :: st) σ := by
  obtain ⟨l, D, cI, cT, ad, tK⟩ := Δ; obtain ⟨p, e, R, s, m, args, below, meth, c, kc, ks, Q⟩ := Γ
  exact fun H locs ls hP hS hl => lv_iand C.1 C.2.1 hdg (k H locs ls hP hS hl)
theorem v_ior (C : Cx Δ Γ own cc nL d ret) {x y : Int32} (hdg : decode cc pc = .ok (.ior, 1)) (k : V Δ Γ nL (pc + 1) ll (.int (x ||| y) :: st) σ) : V Δ Γ nL pc ll (.int y :: .int x :: st) σ := by
  obtain ⟨l, D, cI, cT, ad, tK⟩ := Δ; obtain ⟨p, e, R, s, m, args, below, meth, c, kc, ks, Q⟩ := Γ
  exact fun H locs ls hP hS hl => lv_ior C.1 C.2.1 hdg (k H locs ls hP hS hl)
theorem v_ixor (C : Cx Δ Γ own cc nL d ret) {x y : Int32} (hdg : decode cc pc = .ok (.ixor, 1)) (k : V Δ Γ nL (pc + 1) ll (.int (x ^^^ y) :: st) σ) : V Δ Γ nL pc ll (.int y :: .int x :: st) σ := by
  obtain ⟨l, D, cI, cT, ad, tK⟩ := Δ; obtain ⟨p, e, R, s, m, args, below, meth, c, kc, ks, Q⟩ := Γ
  exact fun H locs ls hP hS hl => lv_ixor C.1 C.2.1 hdg (k H locs ls hP hS hl)
theorem v_ishl (C : Cx Δ Γ own cc nL d ret) {x y : Int32} (hdg : decode cc pc = .ok (.ishl, 1)) (k : V Δ Γ nL (pc + 1) ll (.int (x <<< (y &&& 31)) :: st) σ) : V Δ Γ nL pc ll (.int y :: .int x :: st) σ := by
  obtain ⟨l, D, cI, cT, ad, tK⟩ := Δ; obtain ⟨p, e, R, s, m, args, below, meth, c, kc, ks, Q⟩ := Γ
  exact fun H locs ls hP hS hl => lv_ishl C.1 C.2.1 hdg (k H locs ls hP hS hl)
theorem v_ishr (C : Cx Δ Γ own cc nL d ret) {x y : Int32} (hdg : decode cc pc = .ok (.ishr, 1)) (k : V Δ Γ nL (pc + 1) ll (.int (x >>> (y &&& 31)) :: st) σ) : V Δ Γ nL pc ll (.int y :: .int x :: st) σ := by
  obtain ⟨l, D, cI, cT, ad, tK⟩ := Δ; obtain ⟨p, e, R, s, m, args, below, meth, c, kc, ks, Q⟩ := Γ
  exact fun H locs ls hP hS hl => lv_ishr C.1 C.2.1 hdg (k H locs ls hP hS hl)
theorem v_idiv (C : Cx Δ Γ own cc nL d ret) {x y : Int32} (hdg : decode cc pc = .ok (.idiv, 1)) (hne : ¬ y = 0) (k : V Δ Γ nL (pc + 1) ll (.int (x / y) :: st) σ) : V Δ Γ nL pc ll (.int y :: .int x :: st) σ := by
  obtain ⟨l, D, cI, cT, ad, tK⟩ := Δ; obtain ⟨p, e, R, s, m, args, below, meth, c, kc, ks, Q⟩ := Γ
  exact fun H locs ls hP hS hl => lv_idiv C.1 C.2.1 hdg hne (k H locs ls hP hS hl)
theorem v_irem (C : Cx Δ Γ own cc nL d ret) {x y : Int32} (hdg : decode cc pc = .ok (.irem, 1)) (hne : ¬ y = 0) (k : V Δ Γ nL (pc + 1) ll (.int (x - x / y * y) :: st) σ) : V Δ Γ nL pc ll (.int y :: .int x :: st) σ := by
  obtain ⟨l, D, cI, cT, ad, tK⟩ := Δ; obtain ⟨p, e, R, s, m, args, below, meth, c, kc, ks, Q⟩ := Γ
  exact fun H locs ls hP hS hl => lv_irem C.1 C.2.1 hdg hne (k H locs ls hP hS hl)
theorem v_ladd (C : Cx Δ Γ own cc nL d ret) {x y : Int64} (hdg : decode cc pc = .ok (.ladd, 1)) (k : V Δ Γ nL (pc + 1) ll (.long (x + y) :: st) σ) : V Δ Γ nL pc ll (.long y :: .long x :: st) σ := by
  obtain ⟨l, D, cI, cT, ad, tK⟩ := Δ; obtain ⟨p, e, R, s, m, args, below, meth, c, kc, ks, Q⟩ := Γ
  exact fun H locs ls hP hS hl => lv_ladd C.1 C.2.1 hdg (k H locs ls hP hS hl)
theorem v_lsub (C : Cx Δ Γ own cc nL d ret) {x y : Int64} (hdg : decode cc pc = .ok (.lsub, 1)) (k : V Δ Γ nL (pc + 1) ll (.long (x - y) :: st) σ) : V Δ Γ nL pc ll (.long y :: .long x :: st) σ := by
  obtain ⟨l, D, cI, cT, ad, tK⟩ := Δ; obtain ⟨p, e, R, s, m, args, below, meth, c, kc, ks, Q⟩ := Γ
  exact fun H locs ls hP hS hl => lv_lsub C.1 C.2.1 hdg (k H locs ls hP hS hl)
theorem v_lmul (C : Cx Δ Γ own cc nL d ret) {x y : Int64} (hdg : decode cc pc = .ok (.lmul, 1)) (k : V Δ Γ nL (pc + 1) ll (.long (x * y) :: st) σ) : V Δ Γ nL pc ll (.long y :: .long x :: st) σ := by
  obtain ⟨l, D, cI, cT, ad, tK⟩ := Δ; obtain ⟨p, e, R, s, m, args, below, meth, c, kc, ks, Q⟩ := Γ
  exact fun H locs ls hP hS hl => lv_lmul C.1 C.2.1 hdg (k H locs ls hP hS hl)
theorem v_ldiv (C : Cx Δ Γ own cc nL d ret) {x y : Int64} (hdg : decode cc pc = .ok (.ldiv, 1)) (hne : ¬ y = 0) (k : V Δ Γ nL (pc + 1) ll (.long (x / y) :: st) σ) : V Δ Γ nL pc ll (.long y :: .long x :: st) σ := by
  obtain ⟨l, D, cI, cT, ad, tK⟩ := Δ; obtain ⟨p, e, R, s, m, args, below, meth, c, kc, ks, Q⟩ := Γ
  exact fun H locs ls hP hS hl => lv_ldiv C.1 C.2.1 hdg hne (k H locs ls hP hS hl)
theorem v_lrem (C : Cx Δ Γ own cc nL d ret) {x y : Int64} (hdg : decode cc pc = .ok (.lrem, 1)) (hne : ¬ y = 0) (k : V Δ Γ nL (pc + 1) ll (.long (x - x / y * y) :: st) σ) : V Δ Γ nL pc ll (.long y :: .long x :: st) σ := by
  obtain ⟨l, D, cI, cT, ad, tK⟩ := Δ; obtain ⟨p, e, R, s, m, args, below, meth, c, kc, ks, Q⟩ := Γ
  exact fun H locs ls hP hS hl => lv_lrem C.1 C.2.1 hdg hne (k H locs ls hP hS hl)
theorem v_iushr (C : Cx Δ Γ own cc nL d ret) {x y : Int32} (hdg : decode cc pc = .ok (.iushr, 1)) (k : V Δ Γ nL (pc + 1) ll (.int (x.toUInt32 >>> (y.toUInt32 &&& Int32.toUInt32 31)).toInt32 :: st) σ) : V Δ Γ nL pc ll (.int y :: .int x :: st) σ := by
  obtain ⟨l, D, cI, cT, ad, tK⟩ := Δ; obtain ⟨p, e, R, s, m, args, below, meth, c, kc, ks, Q⟩ := Γ
  exact fun H locs ls hP hS hl => lv_iushr C.1 C.2.1 hdg rfl (k H locs ls hP hS hl)
theorem v_ineg (C : Cx Δ Γ own cc nL d ret) {x : Int32} (hdg : decode cc pc = .ok (.ineg, 1)) (k : V Δ Γ nL (pc + 1) ll (.int (-x) :: st) σ) : V Δ Γ nL pc ll (.int x :: st) σ := by
  obtain ⟨l, D, cI, cT, ad, tK⟩ := Δ; obtain ⟨p, e, R, s, m, args, below, meth, c, kc, ks, Q⟩ := Γ
  exact fun H locs ls hP hS hl => lv_ineg C.1 C.2.1 hdg (k H locs ls hP hS hl)
theorem v_i2l (C : Cx Δ Γ own cc nL d ret) {x : Int32} (hdg : decode cc pc = .ok (.i2l, 1)) (k : V Δ Γ nL (pc + 1) ll (.long x.toInt64 :: st) σ) : V Δ Γ nL pc ll (.int x :: st) σ := by
  obtain ⟨l, D, cI, cT, ad, tK⟩ := Δ; obtain ⟨p, e, R, s, m, args, below, meth, c, kc, ks, Q⟩ := Γ
  exact fun H locs ls hP hS hl => lv_i2l C.1 C.2.1 hdg rfl (k H locs ls hP hS hl)
theorem v_l2i (C : Cx Δ Γ own cc nL d ret) {x : Int64} (hdg : decode cc pc = .ok (.l2i, 1)) (k : V Δ Γ nL (pc + 1) ll (.int x.toInt32 :: st) σ) : V Δ Γ nL pc ll (.long x :: st) σ := by
  obtain ⟨l, D, cI, cT, ad, tK⟩ := Δ; obtain ⟨p, e, R, s, m, args, below, meth, c, kc, ks, Q⟩ := Γ
  exact fun H locs ls hP hS hl => lv_l2i C.1 C.2.1 hdg rfl (k H locs ls hP hS hl)
theorem v_i2b (C : Cx Δ Γ own cc nL d ret) {x : Int32} (hdg : decode cc pc = .ok (.i2b, 1)) (k : V Δ Γ nL (pc + 1) ll (.int x.toInt8.toInt32 :: st) σ) : V Δ Γ nL pc ll (.int x :: st) σ := by
  obtain ⟨l, D, cI, cT, ad, tK⟩ := Δ; obtain ⟨p, e, R, s, m, args, below, meth, c, kc, ks, Q⟩ := Γ
  exact fun H locs ls hP hS hl => lv_i2b C.1 C.2.1 hdg rfl (k H locs ls hP hS hl)
theorem v_lcmp (C : Cx Δ Γ own cc nL d ret) {x y : Int64} (hdg : decode cc pc = .ok (.lcmp, 1)) (k : V Δ Γ nL (pc + 1) ll (.int (lg_cmp x y) :: st) σ) : V Δ Γ nL pc ll (.long y :: .long x :: st) σ := by
  obtain ⟨l, D, cI, cT, ad, tK⟩ := Δ; obtain ⟨p, e, R, s, m, args, below, meth, c, kc, ks, Q⟩ := Γ
  exact fun H locs ls hP hS hl => W.lcmp C.1 C.2.1 hdg (k H locs ls hP hS hl)
theorem v_dup (C : Cx Δ Γ own cc nL d ret) {x : Value} (hdg : decode cc pc = .ok (.dup, 1)) (hc : x.category = 1) (k : V Δ Γ nL (pc + 1) ll (x :: x :: st) σ) : V Δ Γ nL pc ll (x :: st) σ := by
  obtain ⟨l, D, cI, cT, ad, tK⟩ := Δ; obtain ⟨p, e, R, s, m, args, below, meth, c, kc, ks, Q⟩ := Γ
  exact fun H locs ls hP hS hl => lv_dup C.1 C.2.1 hdg hc (k H locs ls hP hS hl)
theorem v_pop (C : Cx Δ Γ own cc nL d ret) {x : Value} (hdg : decode cc pc = .ok (.pop, 1)) (hc : x.category = 1) (k : V Δ Γ nL (pc + 1) ll st σ) : V Δ Γ nL pc ll (x :: st) σ := by
  obtain ⟨l, D, cI, cT, ad, tK⟩ := Δ; obtain ⟨p, e, R, s, m, args, below, meth, c, kc, ks, Q⟩ := Γ
  exact fun H locs ls hP hS hl => lv_pop C.1 C.2.1 hdg hc (k H locs ls hP hS hl)
theorem v_dup2 (C : Cx Δ Γ own cc nL d ret) {x y : Value} (hdg : decode cc pc = .ok (.dup2, 1)) (hc : x.category = 1) (hc2 : y.category = 1) (k : V Δ Γ nL (pc + 1) ll (x :: y :: x :: y :: st) σ) : V Δ Γ nL pc ll (x :: y :: st) σ := by
  obtain ⟨l, D, cI, cT, ad, tK⟩ := Δ; obtain ⟨p, e, R, s, m, args, below, meth, c, kc, ks, Q⟩ := Γ
  exact fun H locs ls hP hS hl => lv_dup2_11 C.1 C.2.1 hdg hc hc2 (k H locs ls hP hS hl)
theorem v_if_eq (C : Cx Δ Γ own cc nL d ret) {x : Int32} (tgt : Nat) {off : Int} (hdg : decode cc pc = .ok (.ifCond .eq off, 3)) (ht : (pc : Int) + off = (tgt : Int)) (kt : x = 0 → V Δ Γ nL tgt ll st σ) (kf : ¬ x = 0 → V Δ Γ nL (pc + 3) ll st σ) : V Δ Γ nL pc ll (.int x :: st) σ := by
  obtain ⟨l, D, cI, cT, ad, tK⟩ := Δ; obtain ⟨p, e, R, s, m, args, below, meth, c, kc, ks, Q⟩ := Γ
  exact fun H locs ls hP hS hl => lv_if_eq C.1 C.2.1 hdg ht (fun h => kt h H locs ls hP hS hl) (fun h => kf h H locs ls hP hS hl)
theorem v_icmp_eq (C : Cx Δ Γ own cc nL d ret) {x y : Int32} (tgt : Nat) {off : Int} (hdg : decode cc pc = .ok (.if_icmp .eq off, 3)) (ht : (pc : Int) + off = (tgt : Int)) (kt : x = y → V Δ Γ nL tgt ll st σ) (kf : ¬ x = y → V Δ Γ nL (pc + 3) ll st σ) : V Δ Γ nL pc ll (.int y :: .int x :: st) σ := by
  obtain ⟨l, D, cI, cT, ad, tK⟩ := Δ; obtain ⟨p, e, R, s, m, args, below, meth, c, kc, ks, Q⟩ := Γ
  exact fun H locs ls hP hS hl => lv_icmp_eq C.1 C.2.1 hdg ht (fun h => kt h H locs ls hP hS hl) (fun h => kf h H locs ls hP hS hl)
theorem v_if_ne (C : Cx Δ Γ own cc nL d ret) {x : Int32} (tgt : Nat) {off : Int} (hdg : decode cc pc = .ok (.ifCond .ne off, 3)) (ht : (pc : Int) + off = (tgt : Int)) (kt : ¬ x = 0 → V Δ Γ nL tgt ll st σ) (kf : x = 0 → V Δ Γ nL (pc + 3) ll st σ) : V Δ Γ nL pc ll (.int x :: st) σ := by
  obtain ⟨l, D, cI, cT, ad, tK⟩ := Δ; obtain ⟨p, e, R, s, m, args, below, meth, c, kc, ks, Q⟩ := Γ
  exact fun H locs ls hP hS hl => lv_if_ne C.1 C.2.1 hdg ht (fun h => kt h H locs ls hP hS hl) (fun h => kf h H locs ls hP hS hl)
theorem v_icmp_ne (C : Cx Δ Γ own cc nL d ret) {x y : Int32} (tgt : Nat) {off : Int} (hdg : decode cc pc = .ok (.if_icmp .ne off, 3)) (ht : (pc : Int) + off = (tgt : Int)) (kt : ¬ x = y → V Δ Γ nL tgt ll st σ) (kf : x = y → V Δ Γ nL (pc + 3) ll st σ) : V Δ Γ nL pc ll (.int y :: .int x :: st) σ := by
  obtain ⟨l, D, cI, cT, ad, tK⟩ := Δ; obtain ⟨p, e, R, s, m, args, below, meth, c, kc, ks, Q⟩ := Γ
  exact fun H locs ls hP hS hl => lv_icmp_ne C.1 C.2.1 hdg ht (fun h => kt h H locs ls hP hS hl) (fun h => kf h H locs ls hP hS hl)
theorem v_if_lt (C : Cx Δ Γ own cc nL d ret) {x : Int32} (tgt : Nat) {off : Int} (hdg : decode cc pc = .ok (.ifCond .lt off, 3)) (ht : (pc : Int) + off = (tgt : Int)) (kt : x < 0 → V Δ Γ nL tgt ll st σ) (kf : ¬ x < 0 → V Δ Γ nL (pc + 3) ll st σ) : V Δ Γ nL pc ll (.int x :: st) σ := by
  obtain ⟨l, D, cI, cT, ad, tK⟩ := Δ; obtain ⟨p, e, R, s, m, args, below, meth, c, kc, ks, Q⟩ := Γ
  exact fun H locs ls hP hS hl => lv_if_lt C.1 C.2.1 hdg ht (fun h => kt h H locs ls hP hS hl) (fun h => kf h H locs ls hP hS hl)
theorem v_icmp_lt (C : Cx Δ Γ own cc nL d ret) {x y : Int32} (tgt : Nat) {off : Int} (hdg : decode cc pc = .ok (.if_icmp .lt off, 3)) (ht : (pc : Int) + off = (tgt : Int)) (kt : x < y → V Δ Γ nL tgt ll st σ) (kf : ¬ x < y → V Δ Γ nL (pc + 3) ll st σ) : V Δ Γ nL pc ll (.int y :: .int x :: st) σ := by
  obtain ⟨l, D, cI, cT, ad, tK⟩ := Δ; obtain ⟨p, e, R, s, m, args, below, meth, c, kc, ks, Q⟩ := Γ
  exact fun H locs ls hP hS hl => lv_icmp_lt C.1 C.2.1 hdg ht (fun h => kt h H locs ls hP hS hl) (fun h => kf h H locs ls hP hS hl)
theorem v_if_ge (C : Cx Δ Γ own cc nL d ret) {x : Int32} (tgt : Nat) {off : Int} (hdg : decode cc pc = .ok (.ifCond .ge off, 3)) (ht : (pc : Int) + off = (tgt : Int)) (kt : 0 ≤ x → V Δ Γ nL tgt ll st σ) (kf : ¬ 0 ≤ x → V Δ Γ nL (pc + 3) ll st σ) : V Δ Γ nL pc ll (.int x :: st) σ := by
  obtain ⟨l, D, cI, cT, ad, tK⟩ := Δ; obtain ⟨p, e, R, s, m, args, below, meth, c, kc, ks, Q⟩ := Γ
  exact fun H locs ls hP hS hl => lv_if_ge C.1 C.2.1 hdg ht (fun h => kt h H locs ls hP hS hl) (fun h => kf h H locs ls hP hS hl)
theorem v_icmp_ge (C : Cx Δ Γ own cc nL d ret) {x y : Int32} (tgt : Nat) {off : Int} (hdg : decode cc pc = .ok (.if_icmp .ge off, 3)) (ht : (pc : Int) + off = (tgt : Int)) (kt : y ≤ x → V Δ Γ nL tgt ll st σ) (kf : ¬ y ≤ x → V Δ Γ nL (pc + 3) ll st σ) : V Δ Γ nL pc ll (.int y :: .int x :: st) σ := by
  obtain ⟨l, D, cI, cT, ad, tK⟩ := Δ; obtain ⟨p, e, R, s, m, args, below, meth, c, kc, ks, Q⟩ := Γ
  exact fun H locs ls hP hS hl => lv_icmp_ge C.1 C.2.1 hdg ht (fun h => kt h H locs ls hP hS hl) (fun h => kf h H locs ls hP hS hl)
theorem v_if_gt (C : Cx Δ Γ own cc nL d ret) {x : Int32} (tgt : Nat) {off : Int} (hdg : decode cc pc = .ok (.ifCond .gt off, 3)) (ht : (pc : Int) + off = (tgt : Int)) (kt : 0 < x → V Δ Γ nL tgt ll st σ) (kf : ¬ 0 < x → V Δ Γ nL (pc + 3) ll st σ) : V Δ Γ nL pc ll (.int x :: st) σ := by
  obtain ⟨l, D, cI, cT, ad, tK⟩ := Δ; obtain ⟨p, e, R, s, m, args, below, meth, c, kc, ks, Q⟩ := Γ
  exact fun H locs ls hP hS hl => lv_if_gt C.1 C.2.1 hdg ht (fun h => kt h H locs ls hP hS hl) (fun h => kf h H locs ls hP hS hl)
theorem v_icmp_gt (C : Cx Δ Γ own cc nL d ret) {x y : Int32} (tgt : Nat) {off : Int} (hdg : decode cc pc = .ok (.if_icmp .gt off, 3)) (ht : (pc : Int) + off = (tgt : Int)) (kt : y < x → V Δ Γ nL tgt ll st σ) (kf : ¬ y < x → V Δ Γ nL (pc + 3) ll st σ) : V Δ Γ nL pc ll (.int y :: .int x :: st) σ := by
  obtain ⟨l, D, cI, cT, ad, tK⟩ := Δ; obtain ⟨p, e, R, s, m, args, below, meth, c, kc, ks, Q⟩ := Γ
  exact fun H locs ls hP hS hl => lv_icmp_gt C.1 C.2.1 hdg ht (fun h => kt h H locs ls hP hS hl) (fun h => kf h H locs ls hP hS hl)
theorem v_if_le (C : Cx Δ Γ own cc nL d ret) {x : Int32} (tgt : Nat) {off : Int} (hdg : decode cc pc = .ok (.ifCond .le off, 3)) (ht : (pc : Int) + off = (tgt : Int)) (kt : x ≤ 0 → V Δ Γ nL tgt ll st σ) (kf : ¬ x ≤ 0 → V Δ Γ nL (pc + 3) ll st σ) : V Δ Γ nL pc ll (.int x :: st) σ := by
  obtain ⟨l, D, cI, cT, ad, tK⟩ := Δ; obtain ⟨p, e, R, s, m, args, below, meth, c, kc, ks, Q⟩ := Γ
  exact fun H locs ls hP hS hl => lv_if_le C.1 C.2.1 hdg ht (fun h => kt h H locs ls hP hS hl) (fun h => kf h H locs ls hP hS hl)
theorem v_icmp_le (C : Cx Δ Γ own cc nL d ret) {x y : Int32} (tgt : Nat) {off : Int} (hdg : decode cc pc = .ok (.if_icmp .le off, 3)) (ht : (pc : Int) + off = (tgt : Int)) (kt : x ≤ y → V Δ Γ nL tgt ll st σ) (kf : ¬ x ≤ y → V Δ Γ nL (pc + 3) ll st σ) : V Δ Γ nL pc ll (.int y :: .int x :: st) σ := by
  obtain ⟨l, D, cI, cT, ad, tK⟩ := Δ; obtain ⟨p, e, R, s, m, args, below, meth, c, kc, ks, Q⟩ := Γ
  exact fun H locs ls hP hS hl => lv_icmp_le C.1 C.2.1 hdg ht (fun h => kt h H locs ls hP hS hl) (fun h => kf h H locs ls hP hS hl)
theorem v_goto (C : Cx Δ Γ own cc nL d ret) (tgt : Nat) {off : Int} (hdg : decode cc pc = .ok (.goto off, 3)) (ht : (pc : Int) + off = (tgt : Int)) (k : V Δ Γ nL tgt ll st σ) : V Δ Γ nL pc ll st σ := by
  obtain ⟨l, D, cI, cT, ad, tK⟩ := Δ; obtain ⟨p, e, R, s, m, args, below, meth, c, kc, ks, Q⟩ := Γ
  exact fun H locs ls hP hS hl => lv_goto C.1 C.2.1 hdg ht (k H locs ls hP hS hl)
theorem v_ifnonnull (C : Cx Δ Γ own cc nL d ret) (tgt : Nat) {x : Nat} {off : Int} (hdg : decode cc pc = .ok (.ifnonnull off, 3)) (ht : (pc : Int) + off = (tgt : Int)) (k : V Δ Γ nL tgt ll st σ) : V Δ Γ nL pc ll (rf Δ x :: st) σ := by
  obtain ⟨l, D, cI, cT, ad, tK⟩ := Δ; obtain ⟨p, e, R, s, m, args, below, meth, c, kc, ks, Q⟩ := Γ
  exact fun H locs ls hP hS hl => lv_ifnonnull C.1 C.2.1 hdg ht (k H locs ls hP hS hl)
theorem v_ifnull (C : Cx Δ Γ own cc nL d ret) {x : Nat} {off : Int} (hdg : decode cc pc = .ok (.ifnull off, 3)) (k : V Δ Γ nL (pc + 3) ll st σ) : V Δ Γ nL pc ll (rf Δ x :: st) σ := by
  obtain ⟨l, D, cI, cT, ad, tK⟩ := Δ; obtain ⟨p, e, R, s, m, args, below, meth, c, kc, ks, Q⟩ := Γ
  exact fun H locs ls hP hS hl => lv_ifnull C.1 C.2.1 hdg (k H locs ls hP hS hl)
theorem v_ifnonnullN (C : Cx Δ Γ own cc nL d ret) {off : Int} (hdg : decode cc pc = .ok (.ifnonnull off, 3)) (k : V Δ Γ nL (pc + 3) ll st σ) : V Δ Γ nL pc ll (.null :: st) σ := by
  obtain ⟨l, D, cI, cT, ad, tK⟩ := Δ; obtain ⟨p, e, R, s, m, args, below, meth, c, kc, ks, Q⟩ := Γ
  exact fun H locs ls hP hS hl => lv_ifnonnullN C.1 C.2.1 hdg (k H locs ls hP hS hl)
theorem v_ifnullN (C : Cx Δ Γ own cc nL d ret) (tgt : Nat) {off : Int} (hdg : decode cc pc = .ok (.ifnull off, 3)) (ht : (pc : Int) + off = (tgt : Int)) (k : V Δ Γ nL tgt ll st σ) : V Δ Γ nL pc ll (.null :: st) σ := by
  obtain ⟨l, D, cI, cT, ad, tK⟩ := Δ; obtain ⟨p, e, R, s, m, args, below, meth, c, kc, ks, Q⟩ := Γ
  exact fun H locs ls hP hS hl => lv_ifnullN C.1 C.2.1 hdg ht (k H locs ls hP hS hl)
theorem v_tableIn (C : Cx Δ Γ own cc nL d ret) (tgt : Nat) {dflt lo hi : Int} {offs : Array Int} {len : Nat} {x : Int32} (off : Int) (hdg : decode cc pc = .ok (.tableswitch dflt lo hi offs, len)) (h1 : ¬ x.toInt < lo) (h2 : ¬ hi < x.toInt) (ho : offs[(x.toInt - lo).toNat]? = some off) (ht : (pc : Int) + off = (tgt : Int)) (k : V Δ Γ nL tgt ll st σ) : V Δ Γ nL pc ll (.int x :: st) σ := by
  obtain ⟨l, D, cI, cT, ad, tK⟩ := Δ; obtain ⟨p, e, R, s, m, args, below, meth, c, kc, ks, Q⟩ := Γ
  exact fun H locs ls hP hS hl => lv_tableIn C.1 C.2.1 hdg h1 h2 ho ht (k H locs ls hP hS hl)
/-- a switch over numbers in a row: one goal for a number, one for the rest -/
theorem v_tableEq (C : Cx Δ Γ own cc nL d ret) (tgt : Nat) (v : Int32) {dflt lo hi : Int} {offs : Array Int} {len : Nat} {x : Int32} (off : Int) (hdg : decode cc pc = .ok (.tableswitch dflt lo hi offs, len)) (hx : x = v) (h1 : ¬ v.toInt < lo) (h2 : ¬ hi < v.toInt) (ho : offs[(v.toInt - lo).toNat]? = some off) (ht : (pc : Int) + off = (tgt : Int)) (k : V Δ Γ nL tgt ll st σ) : V Δ Γ nL pc ll (.int x :: st) σ := by
  subst hx
  exact v_tableIn C tgt off hdg h1 h2 ho ht k
theorem v_tableOut (C : Cx Δ Γ own cc nL d ret) (tgt : Nat) {dflt lo hi : Int} {offs : Array Int} {len : Nat} {x : Int32} (hdg : decode cc pc = .ok (.tableswitch dflt lo hi offs, len)) (h : x.toInt < lo ∨ hi < x.toInt) (ht : (pc : Int) + dflt = (tgt : Int)) (k : V Δ Γ nL tgt ll st σ) : V Δ Γ nL pc ll (.int x :: st) σ := by
  obtain ⟨l, D, cI, cT, ad, tK⟩ := Δ; obtain ⟨p, e, R, s, m, args, below, meth, c, kc, ks, Q⟩ := Γ
  exact fun H locs ls hP hS hl => lv_tableOut C.1 C.2.1 hdg h ht (k H locs ls hP hS hl)
theorem v_lookup (C : Cx Δ Γ own cc nL d ret) (tgt : Nat) {dflt : Int} {ps : Array (Int × Int)} {len : Nat} {x : Int32} (off : Int) (hdg : decode cc pc = .ok (.lookupswitch dflt ps, len)) (hp : (ps.toList.zip (ps.toList.drop 1)).all (fun (a, next) => a.1 < next.1) = true) (ho : Op.lookupswitch.offset ps.toList dflt x.toInt = off) (ht : (pc : Int) + off = (tgt : Int)) (k : V Δ Γ nL tgt ll st σ) : V Δ Γ nL pc ll (.int x :: st) σ := by
  obtain ⟨l, D, cI, cT, ad, tK⟩ := Δ; obtain ⟨p, e, R, s, m, args, below, meth, c, kc, ks, Q⟩ := Γ
  exact fun H locs ls hP hS hl => lv_lookup C.1 C.2.1 hdg hp ho ht (k H locs ls hP hS hl)
/-! ends -/
theorem v_iret (C : Cx Δ Γ own cc nL d (some .int)) {rv : Option Value} {σ' : Mem} (hq : RetQ Δ Γ rv σ') {v : Int32} (hr : rv = some (.int v)) (hs : σ' = σ) (hdg : decode cc pc = .ok (.ireturn, 1)) : V Δ Γ nL pc ll [.int v] σ := by
  obtain ⟨l, D, cI, cT, ad, tK⟩ := Δ; obtain ⟨p, e, R, s, m, args, below, meth, c, kc, ks, Q⟩ := Γ
  subst hr; subst hs
  obtain rfl := hq
  exact fun H locs ls hP hS hl => W.iret (Qc := Pq (l, D, cI, cT, ad, tK) (some (.int v)) σ') C.1 C.2.1 C.2.2.2.2.2.2.1 (fun t ht _ => ⟨rfl, by rw [ht]; exact hP, hS.F ht⟩) hS.2.2 hdg C.2.2.2.2.2.2.2.1
theorem v_zret (C : Cx Δ Γ own cc nL d (some .boolean)) {rv : Option Value} {σ' : Mem} (hq : RetQ Δ Γ rv σ') {v : Int32} (hv : narrow .boolean (.int v) = .int v) (hr : rv = some (.int v)) (hs : σ' = σ) (hdg : decode cc pc = .ok (.ireturn, 1)) : V Δ Γ nL pc ll [.int v] σ := by
  obtain ⟨l, D, cI, cT, ad, tK⟩ := Δ; obtain ⟨p, e, R, s, m, args, below, meth, c, kc, ks, Q⟩ := Γ
  subst hr; subst hs
  obtain rfl := hq
  exact fun H locs ls hP hS hl => W.zret (Qc := Pq (l, D, cI, cT, ad, tK) (some (.int v)) σ') C.1 C.2.1 C.2.2.2.2.2.2.1 hv (fun t ht _ => ⟨rfl, by rw [ht]; exact hP, hS.F ht⟩) hS.2.2 hdg C.2.2.2.2.2.2.2.1
theorem v_lret (C : Cx Δ Γ own cc nL d (some .long)) {rv : Option Value} {σ' : Mem} (hq : RetQ Δ Γ rv σ') {v : Int64} (hr : rv = some (.long v)) (hs : σ' = σ) (hdg : decode cc pc = .ok (.lreturn, 1)) : V Δ Γ nL pc ll [.long v] σ := by
  obtain ⟨l, D, cI, cT, ad, tK⟩ := Δ; obtain ⟨p, e, R, s, m, args, below, meth, c, kc, ks, Q⟩ := Γ
  subst hr; subst hs
  obtain rfl := hq
  exact fun H locs ls hP hS hl => W.lret (Qc := Pq (l, D, cI, cT, ad, tK) (some (.long v)) σ') C.1 C.2.1 C.2.2.2.2.2.2.1 (fun t ht _ => ⟨rfl, by rw [ht]; exact hP, hS.F ht⟩) hS.2.2 hdg C.2.2.2.2.2.2.2.1
theorem v_aret (C : Cx Δ Γ own cc nL d ret) {rv : Option Value} {σ' : Mem} (hq : RetQ Δ Γ rv σ') {v : Value} {rt : String} (hret : ret = some (.object rt)) (hv : v = .null ∨ ∃ a, v = .ref a) (hr : rv = some v) (hs : σ' = σ) (hdg : decode cc pc = .ok (.areturn, 1)) : V Δ Γ nL pc ll [v] σ := by
  obtain ⟨l, D, cI, cT, ad, tK⟩ := Δ; obtain ⟨p, e, R, s, m, args, below, meth, c, kc, ks, Q⟩ := Γ
  subst hr; subst hs; subst hret
  obtain rfl := hq
  exact fun H locs ls hP hS hl => W.aret (Qc := Pq (l, D, cI, cT, ad, tK) (some v) σ') C.1 C.2.1 C.2.2.2.2.2.2.1 (Or.inl ⟨_, rfl⟩) hv (fun t ht _ => ⟨rfl, by rw [ht]; exact hP, hS.F ht⟩) hS.2.2 hdg C.2.2.2.2.2.2.2.1
theorem v_vret (C : Cx Δ Γ own cc nL d none) {rv : Option Value} {σ' : Mem} (hq : RetQ Δ Γ rv σ') (hr : rv = none) (hs : σ' = σ) (hdg : decode cc pc = .ok (.return_, 1)) : V Δ Γ nL pc ll [] σ := by
  obtain ⟨l, D, cI, cT, ad, tK⟩ := Δ; obtain ⟨p, e, R, s, m, args, below, meth, c, kc, ks, Q⟩ := Γ
  subst hr; subst hs
  obtain rfl := hq
  exact fun H locs ls hP hS hl => W.vret (Qc := Pq (l, D, cI, cT, ad, tK) none σ') C.1 C.2.1 C.2.2.2.2.2.2.1 (fun t ht _ => ⟨rfl, by rw [ht]; exact hP, hS.F ht⟩) hS.2.2 hdg C.2.2.2.2.2.2.2.1
end ROWS
end
section
/-! ===== fields, arrays, calls, over V ===== -/
def CW (ci : Nat) (C : String) (T : u_T) (N : Nat) (ty : Nat → FieldType) : Prop := cls9[ci]? = some (C, T, N) ∧ (∀ w ∈ u_ws C T N, w ∈ lw_good) ∧ (∀ k, k < N → parseFieldDescriptor (T k).2.2.1 = some (ty k)) ∧ ∀ a, a < N → ∀ b, b < N → a ≠ b → (T a).2.1 ≠ (T b).2.1
/-- a field as a class links it: by its own words (FU), by the nest's (FN); one that may be written (.. fty) -/
def FU (own : String) (idx ci j : Nat) : Prop := ∃ (C : String) (T : u_T) (N : Nat) (ty : Nat → FieldType), CW ci C T N ty ∧ j < N ∧ (T j).1 = C ∧ ((Cond.fieldLink own idx C (T j).2.1 (T j).2.2.1 ∈ lw_good) ∨ ∃ host, Cond.fieldLinkNest own idx C (T j).2.1 (T j).2.2.1 host ∈ lw_nest)
def FP (own : String) (idx ci j : Nat) (fty : FieldType) : Prop := ∃ (C : String) (T : u_T) (N : Nat) (ty : Nat → FieldType), CW ci C T N ty ∧ j < N ∧ (T j).1 = C ∧ ((Cond.fieldLink own idx C (T j).2.1 (T j).2.2.1 ∈ lw_good) ∨ ∃ host, Cond.fieldLinkNest own idx C (T j).2.1 (T j).2.2.1 host ∈ lw_nest) ∧ (T j).2.2.2 = false ∧ parseFieldDescriptor (T j).2.2.1 = some fty
theorem cel_obj {ad : Nat → Nat} {cI cT : ClassId} {σ : Mem} {k : Nat} {q : Nat × List (Option (Option Nat))} (h : shp k = .inl q) : cel ad cI cT σ k = .inr (q.1, fvs ad σ k 0 q.2) := by unfold cel; rw [h]
theorem cel_arr {ad : Nat → Nat} {cI cT : ClassId} {σ : Mem} {k n : Nat} (h : shp k = .inr (.inl n)) : cel ad cI cT σ k = .inl (cI, n, .inl (σ.1 k)) := by unfold cel; rw [h]
theorem cel_ref {ad : Nat → Nat} {cI cT : ClassId} {σ : Mem} {k : Nat} {l : List Nat} (h : shp k = .inr (.inr l)) : cel ad cI cT σ k = .inl (cT, l.length, .inr (.inr (.inr (.inr (fun j => (l[j]?).map ad))))) := by unfold cel; rw [h]
theorem in_of {i : Int32} {n : Nat} (h : 0 ≤ i.toInt ∧ i.toInt < n) : vp_in i n := vp_in_iff.mpr h
section HROWS
variable {Δ : DD} {Γ : GG} {own : String} {cc : ByteArray} {nL d pc : Nat} {ret : Option FieldType} {ll : List (Nat × Value)} {st : List Value} {σ : Mem}
theorem v_getf (C : Cx Δ Γ own cc nL d ret) {idx ci j k : Nat} {q : Nat × List (Option (Option Nat))} {f : Option (Option Nat)} (fu : FU own idx ci j) (hs : shp k = .inl q) (hc : q.1 = ci) (hf : q.2[j]? = some f) (hdg : decode cc pc = .ok (.getfield idx, 3)) (kk : V Δ Γ nL (pc + 3) ll (fvl Δ.2.2.2.2.1 σ k j f :: st) σ) : V Δ Γ nL pc ll (rf Δ k :: st) σ := by
  obtain ⟨l, D, cI, cT, ad, tK⟩ := Δ; obtain ⟨p, e, R, s, m, args, below, meth, c, kc, ks, Q⟩ := Γ
  intro H locs ls hP hS hl
  obtain ⟨Cn, T, N, ty, cw, hj, hT, hw⟩ := fu
  have hk : k < nW := shp_lt (by rw [hs]; exact fun h => by cases h)
  have he : (wld ad cI cT σ)[k]? = some (ad k, .inr (q.1, fvs ad σ k 0 q.2)) := by rw [wld_get hk, cel_obj hs]
  have hv : (fvs ad σ k 0 q.2)[j]? = some (fvl ad σ k j f) := by
    have := fvs_get ad σ k q.2 0 j f hf
    rwa [Nat.zero_add] at this
  subst hc
  rcases hw with hw | ⟨host, hw⟩
  · exact va_get C.1 C.2.1 C.2.2.2.2.1 cw.2.1 C.2.2.2.1 C.2.2.2.2.2.1.1 hP k he cw.1 j hj (C.2.2.2.2.1 _ hw) (fun x h => by rw [hT] at h; exact h) hv hdg (kk H locs ls hP hS hl)
  · exact va_getN C.1 C.2.1 C.2.2.2.2.1 cw.2.1 C.2.2.2.1 C.2.2.2.2.2.1.1 hP k he cw.1 j hj (va_Nw.use (nest_on hw) (C.2.2.2.2.2.1.2.2.2 _ hw)) (fun x h => by rw [hT] at h; exact h) hv hdg (kk H locs ls hP hS hl)
theorem v_gI (C : Cx Δ Γ own cc nL d ret) {idx ci j k : Nat} {v : Int32} (fu : FU own idx ci j) (hg : gI ci j k σ = some v) (hdg : decode cc pc = .ok (.getfield idx, 3)) (kk : V Δ Γ nL (pc + 3) ll (.int v :: st) σ) : V Δ Γ nL pc ll (rf Δ k :: st) σ := by
  unfold gI at hg
  split at hg
  · next q hs =>
    split at hg
    · next hc =>
      cases hg
      exact v_getf C fu hs hc.1 hc.2 hdg kk
    · cases hg
  · cases hg
theorem v_gL (C : Cx Δ Γ own cc nL d ret) {idx ci j k : Nat} {v : Int64} (fu : FU own idx ci j) (hg : gL ci j k σ = some v) (hdg : decode cc pc = .ok (.getfield idx, 3)) (kk : V Δ Γ nL (pc + 3) ll (.long v :: st) σ) : V Δ Γ nL pc ll (rf Δ k :: st) σ := by
  unfold gL at hg
  split at hg
  · next q hs =>
    split at hg
    · next hc =>
      cases hg
      exact v_getf C fu hs hc.1 hc.2 hdg kk
    · cases hg
  · cases hg
theorem v_gR (C : Cx Δ Γ own cc nL d ret) {idx ci j k a : Nat} (fu : FU own idx ci j) (hg : gR ci j k = some a) (hdg : decode cc pc = .ok (.getfield idx, 3)) (kk : V Δ Γ nL (pc + 3) ll (rf Δ a :: st) σ) : V Δ Γ nL pc ll (rf Δ k :: st) σ := by
  unfold gR at hg
  split at hg
  · next q hs =>
    split at hg
    · next hc =>
      split at hg
      · next p hf =>
        cases hg
        exact v_getf C fu hs hc hf hdg kk
      · cases hg
    · cases hg
  · cases hg
theorem v_putf (C : Cx Δ Γ own cc nL d ret) {idx ci j k : Nat} {q : Nat × List (Option (Option Nat))} {fty : FieldType} {v : Value} {σ' : Mem} (fu : FP own idx ci j fty) (hs : shp k = .inl q) (hc : q.1 = ci) (hj2 : j < q.2.length) (hn : narrow fty v = v) (hfit : fits fty v = true)
    (hset : (fvs Δ.2.2.2.2.1 σ k 0 q.2).set j v = fvs Δ.2.2.2.2.1 σ' k 0 q.2) (ho : ∀ i, i ≠ k → cel Δ.2.2.2.2.1 Δ.2.2.1 Δ.2.2.2.1 σ' i = cel Δ.2.2.2.2.1 Δ.2.2.1 Δ.2.2.2.1 σ i)
    (hdg : decode cc pc = .ok (.putfield idx, 3)) (kk : V Δ Γ nL (pc + 3) ll st σ') : V Δ Γ nL pc ll (v :: rf Δ k :: st) σ := by
  obtain ⟨l, D, cI, cT, ad, tK⟩ := Δ; obtain ⟨p, e, R, s, m, args, below, meth, c, kc, ks, Q⟩ := Γ
  intro H locs ls hP hS hl
  obtain ⟨Cn, T, N, ty, cw, hj, hT, hw, hfin, hd⟩ := fu
  have hk : k < nW := shp_lt (by rw [hs]; exact fun h => by cases h)
  have he : (wld ad cI cT σ)[k]? = some (ad k, .inr (q.1, fvs ad σ k 0 q.2)) := by rw [wld_get hk, cel_obj hs]
  have hD := wld_D (cI := cI) (cT := cT) (σ := σ) C.2.2.2.2.2.1.2.1
  have hws : (wld ad cI cT σ).set k (ad k, .inr (q.1, (fvs ad σ k 0 q.2).set j v)) = wld ad cI cT σ' := wld_set hk (by rw [cel_obj hs]; dsimp only at hset; rw [hset]) ho
  subst hc
  have hlen : j < (fvs ad σ k 0 q.2).length := by rw [fvs_len]; exact hj2
  rcases hw with hw | ⟨host, hw⟩
  · exact va_put C.1 C.2.1 C.2.2.2.2.1 cw.2.1 ty cw.2.2.1 cw.2.2.2 C.2.2.2.1 C.2.2.2.2.2.1.1 hP hD hS k he cw.1 j hj (C.2.2.2.2.1 _ hw) (fun x h => by rw [hT] at h; exact h) hfin hd hn hfit hlen hdg (fun H1 locs1 hP1 _ hS1 => kk H1 locs1 ls (by rw [← hws]; exact hP1) hS1 hl)
  · exact va_putN C.1 C.2.1 C.2.2.2.2.1 cw.2.1 ty cw.2.2.1 cw.2.2.2 C.2.2.2.1 C.2.2.2.2.2.1.1 hP hD hS k he cw.1 j hj (va_Nw.use (nest_on hw) (C.2.2.2.2.2.1.2.2.2 _ hw)) (fun x h => by rw [hT] at h; exact h) hfin hd hn hfit hlen hdg (fun H1 locs1 hP1 _ hS1 => kk H1 locs1 ls (by rw [← hws]; exact hP1) hS1 hl)
theorem v_pI (C : Cx Δ Γ own cc nL d ret) {idx ci j k : Nat} {v : Int32} {σ' : Mem} (fu : FP own idx ci j .int) (hg : pI ci j k v σ = some σ') (hdg : decode cc pc = .ok (.putfield idx, 3)) (kk : V Δ Γ nL (pc + 3) ll st σ') : V Δ Γ nL pc ll (.int v :: rf Δ k :: st) σ := by
  unfold pI at hg
  split at hg
  · next q hs =>
    split at hg
    · next hc =>
      cases hg
      exact v_putf C fu hs hc.1 (List.getElem?_eq_some_iff.mp hc.2).1 rfl rfl (fvs_setI q.2 0 j hc.2 (Nat.zero_add j)) (fun i hi => cel_setI_ne hi) hdg kk
    · cases hg
  · cases hg
theorem v_pL (C : Cx Δ Γ own cc nL d ret) {idx ci j k : Nat} {v : Int64} {σ' : Mem} (fu : FP own idx ci j .long) (hg : pL ci j k v σ = some σ') (hdg : decode cc pc = .ok (.putfield idx, 3)) (kk : V Δ Γ nL (pc + 3) ll st σ') : V Δ Γ nL pc ll (.long v :: rf Δ k :: st) σ := by
  unfold pL at hg
  split at hg
  · next q hs =>
    split at hg
    · next hc =>
      cases hg
      exact v_putf C fu hs hc.1 (List.getElem?_eq_some_iff.mp hc.2).1 rfl rfl (fvs_setL q.2 0 j hc.2 (Nat.zero_add j)) (fun i hi => cel_setL_ne hi) hdg kk
    · cases hg
  · cases hg
theorem v_aI (C : Cx Δ Γ own cc nL d ret) {k : Nat} {i v : Int32} (hg : aI k i σ = some v) (hdg : decode cc pc = .ok (.iaload, 1)) (kk : V Δ Γ nL (pc + 1) ll (.int v :: st) σ) : V Δ Γ nL pc ll (.int i :: rf Δ k :: st) σ := by
  unfold aI at hg
  split at hg
  · next n hs =>
    split at hg
    · next hc =>
      cases hg
      obtain ⟨l, D, cI, cT, ad, tK⟩ := Δ; obtain ⟨p, e, R, s, m, args, below, meth, c, kc, ks, Q⟩ := Γ
      intro H locs ls hP hS hl
      have hk : k < nW := shp_lt (by rw [hs]; intro h; cases h; exact absurd (Int.lt_of_le_of_lt hc.1 hc.2) (by decide))
      exact va_iald C.1 C.2.1 C.2.2.2.2.2.1.1 hP k 0 (by rw [wld_get hk, cel_arr hs]) rfl (in_of hc) hdg (kk H locs ls hP hS hl)
    · cases hg
  · cases hg
theorem v_sI (C : Cx Δ Γ own cc nL d ret) {k : Nat} {i v : Int32} {σ' : Mem} (hg : sI k i v σ = some σ') (hdg : decode cc pc = .ok (.iastore, 1)) (kk : V Δ Γ nL (pc + 1) ll st σ') : V Δ Γ nL pc ll (.int v :: .int i :: rf Δ k :: st) σ := by
  unfold sI at hg
  split at hg
  · next n hs =>
    split at hg
    · next hc =>
      cases hg
      obtain ⟨l, D, cI, cT, ad, tK⟩ := Δ; obtain ⟨p, e, R, s, m, args, below, meth, c, kc, ks, Q⟩ := Γ
      intro H locs ls hP hS hl
      have hk : k < nW := shp_lt (by rw [hs]; intro h; cases h; exact absurd (Int.lt_of_le_of_lt hc.1 hc.2) (by decide))
      have hD := wld_D (cI := cI) (cT := cT) (σ := σ) C.2.2.2.2.2.1.2.1
      have hws : (wld ad cI cT σ).set k (ad k, .inl (cI, n, .inl (upd (σ.1 k) i.toNatClampNeg v))) = wld ad cI cT (setI σ k i.toNatClampNeg v) := by
        refine wld_set hk ?_ (fun i hi => cel_setI_ne hi)
        rw [cel_arr hs]
        congr 3
        congr 1
        funext y
        simp [upd, setI]
      exact va_iast C.1 C.2.1 C.2.2.2.2.2.1.1 hP hD hS k 0 (by rw [wld_get hk, cel_arr hs]) rfl (in_of hc) hdg (fun H1 locs1 hP1 _ hS1 => kk H1 locs1 ls (by rw [← hws]; exact hP1) hS1 hl)
    · cases hg
  · cases hg
theorem v_aR (C : Cx Δ Γ own cc nL d ret) {k a : Nat} {i : Int32} (hg : aR k i = some a) (hdg : decode cc pc = .ok (.aaload, 1)) (kk : V Δ Γ nL (pc + 1) ll (rf Δ a :: st) σ) : V Δ Γ nL pc ll (.int i :: rf Δ k :: st) σ := by
  unfold aR at hg
  split at hg
  · next lst hs =>
    split at hg
    · next hc =>
      obtain ⟨l, D, cI, cT, ad, tK⟩ := Δ; obtain ⟨p, e, R, s, m, args, below, meth, c, kc, ks, Q⟩ := Γ
      intro H locs ls hP hS hl
      have hk : k < nW := shp_lt (by rw [hs]; intro h; cases h)
      refine va_aldq C.1 C.2.1 C.2.2.2.2.2.1.1 hP k 1 (by rw [wld_get hk, cel_ref hs]) rfl (in_of hc) hdg ?_
      rw [hg]
      exact kk H locs ls hP hS hl
    · cases hg
  · cases hg
theorem v_aN (C : Cx Δ Γ own cc nL d ret) {k : Nat} {v : Int32} (hg : aN k = some v) (hdg : decode cc pc = .ok (.arraylength, 1)) (kk : V Δ Γ nL (pc + 1) ll (.int v :: st) σ) : V Δ Γ nL pc ll (rf Δ k :: st) σ := by
  unfold aN at hg
  split at hg
  · next hk =>
    obtain ⟨l, D, cI, cT, ad, tK⟩ := Δ; obtain ⟨p, e, R, s, m, args, below, meth, c, kc, ks, Q⟩ := Γ
    intro H locs ls hP hS hl
    split at hg
    · next n hs =>
      cases hg
      exact va_alen C.1 C.2.1 C.2.2.2.2.2.1.1 hP k 0 (by rw [wld_get hk, cel_arr hs]) rfl rfl hdg (kk H locs ls hP hS hl)
    · next n hs =>
      cases hg
      exact va_alen C.1 C.2.1 C.2.2.2.2.2.1.1 hP k 1 (by rw [wld_get hk, cel_ref hs]) rfl rfl hdg (kk H locs ls hP hS hl)
    · cases hg
  · cases hg
/-- the letters of the kinds -/
def aK (i : Int32) : Option Int32 := if 0 ≤ i.toInt ∧ i.toInt < 6 then some (klv i.toNatClampNeg) else none
theorem v_gK (C : Cx Δ Γ own cc nL d ret) {idx : Nat} {host : String} (hw : Cond.fieldLinkNest own idx "BolsterBeds" "KIND_LETTERS" "[I" host ∈ lw_nest) (hdg : decode cc pc = .ok (.getstatic idx, 3)) (kk : V Δ Γ nL (pc + 3) ll (.ref Δ.2.2.2.2.2 :: st) σ) : V Δ Γ nL pc ll st σ := by
  obtain ⟨l, D, cI, cT, ad, tK⟩ := Δ; obtain ⟨p, e, R, s, m, args, below, meth, c, kc, ks, Q⟩ := Γ
  intro H locs ls hP hS hl
  exact va_getsN C.1 C.2.1 C.2.2.2.2.2.1.2.2.1.1 hS C.2.2.2.1 (va_Nw.use (nest_on hw) (C.2.2.2.2.2.1.2.2.2 _ hw)) (fun x h => h) hdg (kk H locs ls hP hS hl)
theorem v_aK (C : Cx Δ Γ own cc nL d ret) {i v : Int32} (hg : aK i = some v) (hdg : decode cc pc = .ok (.iaload, 1)) (kk : V Δ Γ nL (pc + 1) ll (.int v :: st) σ) : V Δ Γ nL pc ll (.int i :: .ref Δ.2.2.2.2.2 :: st) σ := by
  unfold aK at hg
  split at hg
  · next hc =>
    cases hg
    obtain ⟨l, D, cI, cT, ad, tK⟩ := Δ; obtain ⟨p, e, R, s, m, args, below, meth, c, kc, ks, Q⟩ := Γ
    intro H locs ls hP hS hl
    exact va_ti C.1 C.2.1 C.2.2.2.2.2.1.2.2.1.2 hS (in_of hc) rfl hdg (kk H locs ls hP hS hl)
  · cases hg
theorem v_nK (C : Cx Δ Γ own cc nL d ret) (hdg : decode cc pc = .ok (.arraylength, 1)) (kk : V Δ Γ nL (pc + 1) ll (.int 6 :: st) σ) : V Δ Γ nL pc ll (.ref Δ.2.2.2.2.2 :: st) σ := by
  obtain ⟨l, D, cI, cT, ad, tK⟩ := Δ; obtain ⟨p, e, R, s, m, args, below, meth, c, kc, ks, Q⟩ := Γ
  intro H locs ls hP hS hl
  exact va_tlen C.1 C.2.1 C.2.2.2.2.2.1.2.2.1.2 hS rfl hdg (kk H locs ls hP hS hl)
end HROWS
end
section
/-! ===== calls over V, and what the library does ===== -/
theorem tnn {z : Int32} (h : 0 ≤ z.toInt) : z.toInt = (z.toNatClampNeg : Int) ∧ ¬ z < 0 := by
  refine ⟨?_, ?_⟩
  · have : z.toNatClampNeg = z.toInt.toNat := rfl
    omega
  · rw [Int32.lt_iff_toInt_lt]
    have : (0 : Int32).toInt = 0 := rfl
    omega
/-- a method that an object of its class is asked for; a static one -/
def MWi (ci : Nat) (y : MethodName) (cc : ByteArray) (nL : Nat) (ret : Option FieldType) (n : Nat) : Prop := Cond.instanceMethod y ∈ lw_good ∧ Cond.selects y.cls y y ∈ lw_good ∧ Cond.code y cc nL ret ∈ lw_good ∧ Cond.initialized y.cls ∈ lw_good ∧ (y.cls ≠ "java/lang/invoke/MethodHandle" ∧ y.cls ≠ "java/lang/invoke/VarHandle" ∧ (parseMethodDescriptor y.desc).map (fun d => d.parameters.length) = some n) ∧ nL ≤ 45 ∧ ∃ q : vw_C, cls9[ci]? = some q ∧ q.1 = y.cls
def MWs (y : MethodName) (cc : ByteArray) (nL : Nat) (ret : Option FieldType) (n : Nat) : Prop := Cond.static y ∈ lw_good ∧ Cond.code y cc nL ret ∈ lw_good ∧ Cond.initialized y.cls ∈ lw_good ∧ (y.cls ≠ "java/lang/invoke/MethodHandle" ∧ y.cls ≠ "java/lang/invoke/VarHandle" ∧ (parseMethodDescriptor y.desc).map (fun d => d.parameters.length) = some n) ∧ nL ≤ 45
def LK (own : String) (idx : Nat) (y : MethodName) : Prop := Cond.methodLink own idx y ∈ lw_good ∨ ∃ host, Cond.methodLinkNest own idx y host ∈ lw_nest
theorem good_in {y : MethodName} {cc : ByteArray} {nL : Nat} {ret : Option FieldType} (h : Cond.code y cc nL ret ∈ lw_good) : GoodIn lw_good (Cond.code y cc nL ret :: lw_good) := by
  intro w hw
  have hm : w ∈ lw_good := by
    rcases List.mem_cons.mp hw with e | e
    · rw [e]; exact h
    · exact e
  exact ⟨hm, good_of_word (good_all w hm)⟩
section CROWS
variable {Δ : DD} {Γ : GG} {own : String} {cc : ByteArray} {nL d pc : Nat} {ret : Option FieldType} {ll : List (Nat × Value)} {st : List Value} {σ : Mem}
/-- behind a call: the callee's answer on the stack, its numbers -/
theorem v_back {l : Launch} {D : va_G} {cI cT : ClassId} {ad : Nat → Nat} {tK : Nat} {p : Program} {e : Env} {R : Room} {s : State} {m : MethodId} {args : Array Value} {below : List Frame} {meth : Method} {c : Code} {kc ks : Nat} {Q : State → Prop} {H : Heap} {locs : List Loc} {ls : Array Slot} {st0 : List Value} {a : Array Value} {rv : Option Value} {σ' : Mem}
    (hr : va_Run p l e R s m args below meth c H locs kc ks 0 0 (F0 m pc ls st0) st (Pq (l, D, cI, cT, ad, tK) rv σ' a) (adA ad)) (hS : va_S (adA ad) s.heap H locs) (hl : lv_has ls nL ll)
    (kk : V (l, D, cI, cT, ad, tK) (p, e, R, s, m, args, below, meth, c, kc, ks, Q) nL (pc + 3) ll (rv.toList ++ st) σ') : W p l e R s m args below meth c H locs kc ks Q (F0 m pc ls st0) := by
  intro T hT X
  obtain ⟨v, st₀, t, T', L, h0, X', hL, e1, e2, ⟨hv, hP', hz, hk⟩, hst⟩ := hr T hT X
  have hv2 : v = rv := by cases hv; rfl
  subst hv2
  rw [h0] at hz hk
  obtain ⟨t2, a1, b1⟩ := kk T'.heap (locs ++ L) ls (by rw [e1]; exact hP') ⟨Nat.le_trans hS.1 (by rw [e1]; exact hz), fun q h1 h2 => by rw [e1, hk q (Nat.lt_of_lt_of_le h1 hS.1) h2]; exact hS.2.1 q h1 h2, fun q hq => by
      rcases List.mem_append.mp hq with h | h
      · exact hS.2.2 q h
      · exact hL q h⟩ hl T' rfl X'
  exact ⟨t2, hst t2 a1, b1⟩
theorem v_cV (C : Cx Δ Γ own cc nL d ret) {ci idx n k : Nat} {y : MethodName} {cc' : ByteArray} {nL' : Nat} {ret' : Option FieldType} (mw : MWi ci y cc' nL' ret' n) (lk : LK own idx y) (As : List Value) {rv : Option Value} {σ' : Mem} (hM : Mt Δ d y cc' nL' ret' (rf Δ k :: As) σ rv σ') (hK : isK ci k = true) {st0 : List Value} (hst : st0 = As.reverse ++ rf Δ k :: st) (hn : As.length = n) (hW : (st.map fun v => v.category).sum ≤ 8) (hdg : decode cc pc = .ok (.invokevirtual idx, 3)) (kk : V Δ Γ nL (pc + 3) ll (rv.toList ++ st) σ') : V Δ Γ nL pc ll st0 σ := by
  have hbl := Pp.blind Δ (rf Δ k :: As) σ
  obtain ⟨l, D, cI, cT, ad, tK⟩ := Δ; obtain ⟨p, e, R, s, m, args, below, meth, c, kc, ks, Q⟩ := Γ
  intro H locs ls hP hS hl
  obtain ⟨m1, m2, m3, m4, m5, m6, q, hq, hqc⟩ := mw
  obtain ⟨hx, hb, hml, hown, hts, hSt, -, -, hR1, hR2, hR3, hR4⟩ := C
  unfold isK at hK
  split at hK
  · next qk hs =>
    have hk : k < nW := shp_lt (by rw [hs]; exact fun h => by cases h)
    have hci : qk.1 = ci := by simpa using hK
    have hrecv := va_recv hSt.1 hP (ci := ci) (q0 := k) (a := ad k) hq (by rw [wld_get hk, cel_obj hs, hci])
    rw [hqc] at hrecv
    have hpre : PreV s H y.cls (ad k) (Pp (l, D, cI, cT, ad, tK) (.ref (ad k) :: As) σ) As := ⟨hbl, hrecv, fun U hU hW => ⟨rfl, by rw [hU]; exact hP, by rw [hU]; exact hSt.go hS hW⟩⟩
    have hbase := callB_of (R := R) (own := own) (index := idx) (mc := 0) (ms := 0) (rm := rm d) n hts (good_in m3) rfl rfl rfl (hts _ m4)
    rcases lk with hw | ⟨host, hw⟩
    · have cw : CallW R s args own y.cls idx y cc' nL' ret' (Cond.code y cc' nL' ret' :: lw_good) (rm d) 0 0 n := ⟨hbase (hts _ hw) m5 ⟨hR1, by show 8 + (nL' + 11) + 64 * d ≤ R.locals; omega⟩, hts _ m1, hts _ m2⟩
      exact v_back (va_runV (As := As) (rest := st) (b := ad k) ⟨hx, hb, hml, hown, hts⟩ hM cw hpre rfl hn hl.1 hst (lv_room (m := m) (pc := pc) (ls := ls) (rest := st0) hW) hdg ⟨hR3, hR4⟩) hS hl kk
    · have cw := va_cnB (R := R) (own := own) (host := host) (index := idx) (mc := 0) (ms := 0) (rm := rm d) n hts (good_in m3) rfl rfl rfl (hSt.2.2.2 _ hw) (hts _ m4) m5 ⟨hR1, by show 8 + (nL' + 11) + 64 * d ≤ R.locals; omega⟩
      exact v_back (va_runVN (As := As) (rest := st) (b := ad k) ⟨hx, hb, hml, hown, hts⟩ hM ⟨cw, hts _ m1, hts _ m2⟩ hpre rfl hn hl.1 hst (lv_room (m := m) (pc := pc) (ls := ls) (rest := st0) hW) hdg ⟨hR3, hR4⟩) hS hl kk
  · cases hK
theorem v_cS (C : Cx Δ Γ own cc nL d ret) {idx n : Nat} {y : MethodName} {cc' : ByteArray} {nL' : Nat} {ret' : Option FieldType} (mw : MWs y cc' nL' ret' n) (lk : LK own idx y) (As : List Value) {rv : Option Value} {σ' : Mem} (hM : Mt Δ d y cc' nL' ret' As σ rv σ') {st0 : List Value} (hst : st0 = As.reverse ++ st) (hn : As.length = n) (hW : (st.map fun v => v.category).sum ≤ 8) (hdg : decode cc pc = .ok (.invokestatic idx, 3)) (kk : V Δ Γ nL (pc + 3) ll (rv.toList ++ st) σ') : V Δ Γ nL pc ll st0 σ := by
  have hbl := Pp.blind Δ As σ
  obtain ⟨l, D, cI, cT, ad, tK⟩ := Δ; obtain ⟨p, e, R, s, m, args, below, meth, c, kc, ks, Q⟩ := Γ
  intro H locs ls hP hS hl
  obtain ⟨m1, m3, m4, m5, m6⟩ := mw
  obtain ⟨hx, hb, hml, hown, hts, hSt, -, -, hR1, hR2, hR3, hR4⟩ := C
  have hpre : PreS s H (Pp (l, D, cI, cT, ad, tK) As σ) As := ⟨hbl, fun U hU hW => ⟨rfl, by rw [hU]; exact hP, by rw [hU]; exact hSt.go hS hW⟩⟩
  rcases lk with hw | ⟨host, hw⟩
  · have cw := callB_of (R := R) (own := own) (index := idx) (mc := 0) (ms := 0) (rm := rm d) n hts (good_in m3) rfl rfl rfl (hts _ m4) (hts _ hw) m5 ⟨hR1, by show 8 + (nL' + 11) + 64 * d ≤ R.locals; omega⟩
    exact v_back (va_runS (As := As) (rest := st) ⟨hx, hb, hml, hown, hts⟩ hM ⟨cw, hts _ m1⟩ hpre rfl hn hl.1 hst (lv_room (m := m) (pc := pc) (ls := ls) (rest := st0) hW) hdg ⟨hR3, hR4⟩) hS hl kk
  · have cw := va_cnB (R := R) (own := own) (host := host) (index := idx) (mc := 0) (ms := 0) (rm := rm d) n hts (good_in m3) rfl rfl rfl (hSt.2.2.2 _ hw) (hts _ m4) m5 ⟨hR1, by show 8 + (nL' + 11) + 64 * d ≤ R.locals; omega⟩
    exact v_back (va_runSN (As := As) (rest := st) ⟨hx, hb, hml, hown, hts⟩ hM ⟨cw, hts _ m1, trivial⟩ hpre rfl hn hl.1 hst (lv_room (m := m) (pc := pc) (ls := ls) (rest := st0) hW) hdg ⟨hR3, hR4⟩) hS hl kk
/-! Math.max, min, abs; System.arraycopy -/
theorem v_max (C : Cx Δ Γ own cc nL d ret) {idx : Nat} {x y : Int32} (hw : Cond.methodLink own idx Lib.Math.max.name ∈ lw_good) (hw2 : Cond.static Lib.Math.max.name ∈ lw_good) (hw3 : Cond.initialized "java/lang/Math" ∈ lw_good) (hw4 : Cond.code Lib.Math.max.name Lib.Math.max.code 2 (some .int) ∈ lw_good) (hW : (st.map fun v => v.category).sum ≤ 8) (hdg : decode cc pc = .ok (.invokestatic idx, 3)) (kk : V Δ Γ nL (pc + 3) ll (.int (if x < y then y else x) :: st) σ) : V Δ Γ nL pc ll (.int y :: .int x :: st) σ := by
  obtain ⟨l, D, cI, cT, ad, tK⟩ := Δ; obtain ⟨p, e, R, s, m, args, below, meth, c, kc, ks, Q⟩ := Γ
  obtain ⟨hx, hb, hml, hown, hts, hSt, -, -, hR1, hR2, hR3, hR4⟩ := C
  exact fun H locs ls hP hS hl => va_mmax hx hb (hml.trans hl.1.symm) hown (hts _ hw) (hts _ hw2) (hts _ hw3) (hts _ hw4) (by omega) (by omega) hR3 hR4 hdg (kk H locs ls hP hS hl)
theorem v_min (C : Cx Δ Γ own cc nL d ret) {idx : Nat} {x y : Int32} (hw : Cond.methodLink own idx Lib.Math.min.name ∈ lw_good) (hw2 : Cond.static Lib.Math.min.name ∈ lw_good) (hw3 : Cond.initialized "java/lang/Math" ∈ lw_good) (hw4 : Cond.code Lib.Math.min.name Lib.Math.min.code 2 (some .int) ∈ lw_good) (hW : (st.map fun v => v.category).sum ≤ 8) (hdg : decode cc pc = .ok (.invokestatic idx, 3)) (kk : V Δ Γ nL (pc + 3) ll (.int (if y < x then y else x) :: st) σ) : V Δ Γ nL pc ll (.int y :: .int x :: st) σ := by
  obtain ⟨l, D, cI, cT, ad, tK⟩ := Δ; obtain ⟨p, e, R, s, m, args, below, meth, c, kc, ks, Q⟩ := Γ
  obtain ⟨hx, hb, hml, hown, hts, hSt, -, -, hR1, hR2, hR3, hR4⟩ := C
  exact fun H locs ls hP hS hl => va_mmin hx hb (hml.trans hl.1.symm) hown (hts _ hw) (hts _ hw2) (hts _ hw3) (hts _ hw4) (by omega) (by omega) hR3 hR4 hdg (kk H locs ls hP hS hl)
theorem v_abs (C : Cx Δ Γ own cc nL d ret) {idx : Nat} {x : Int32} (hw : Cond.methodLink own idx Lib.Math.abs.name ∈ lw_good) (hw2 : Cond.static Lib.Math.abs.name ∈ lw_good) (hw3 : Cond.initialized "java/lang/Math" ∈ lw_good) (hw4 : Cond.code Lib.Math.abs.name Lib.Math.abs.code 1 (some .int) ∈ lw_good) (hW : (st.map fun v => v.category).sum ≤ 8) (hdg : decode cc pc = .ok (.invokestatic idx, 3)) (kk : V Δ Γ nL (pc + 3) ll (.int (if 0 ≤ x then x else 0 - x) :: st) σ) : V Δ Γ nL pc ll (.int x :: st) σ := by
  obtain ⟨l, D, cI, cT, ad, tK⟩ := Δ; obtain ⟨p, e, R, s, m, args, below, meth, c, kc, ks, Q⟩ := Γ
  obtain ⟨hx, hb, hml, hown, hts, hSt, -, -, hR1, hR2, hR3, hR4⟩ := C
  exact fun H locs ls hP hS hl => va_mabs hx hb (hml.trans hl.1.symm) hown (hts _ hw) (hts _ hw2) (hts _ hw3) (hts _ hw4) (by omega) (by omega) hR3 hR4 hdg (kk H locs ls hP hS hl)
theorem v_copy (C : Cx Δ Γ own cc nL d ret) {idx a b : Nat} {sp dp n : Int32} {σ' : Mem} (hw : Cond.methodLink own idx arraycopyName ∈ lw_good) (hw1 : Cond.native arraycopyName ∈ lw_good) (hw2 : Cond.static arraycopyName ∈ lw_good) (hw3 : Cond.initialized "java/lang/System" ∈ lw_good) (hg : cpI a sp b dp n σ = some σ') (hW : (st.map fun v => v.category).sum ≤ 8) (hdg : decode cc pc = .ok (.invokestatic idx, 3)) (kk : V Δ Γ nL (pc + 3) ll st σ') : V Δ Γ nL pc ll (.int n :: .int dp :: rf Δ b :: .int sp :: rf Δ a :: st) σ := by
  unfold cpI at hg
  split at hg
  · next n0 n1 hs0 hs1 =>
    split at hg
    · next hc =>
      obtain ⟨h1, h2, h3, h4, h5, ha, hb'⟩ := hc
      have e1 := tnn h1
      have e2 := tnn h2
      have e3 := tnn h3
      cases hg
      obtain ⟨l, D, cI, cT, ad, tK⟩ := Δ; obtain ⟨p, e, R, s, m, args, below, meth, c, kc, ks, Q⟩ := Γ
      obtain ⟨hx, hb, hml, hown, hts, hSt, -, -, hR1, hR2, hR3, hR4⟩ := C
      intro H locs ls hP hS hl
      have hD := wld_D (cI := cI) (cT := cT) (σ := σ) hSt.2.1
      have hws : (wld ad cI cT σ).set b (ad b, .inl (cI, n1, .inl (va_cpy (σ.1 a) (σ.1 b) sp.toNatClampNeg dp.toNatClampNeg n.toNatClampNeg))) = wld ad cI cT (fun x y => if x = b then va_cpy (σ.1 a) (σ.1 b) sp.toNatClampNeg dp.toNatClampNeg n.toNatClampNeg y else σ.1 x y, σ.2) := by
        refine wld_set hb' ?_ (fun i hi => cel_ext (fun y => by simp [hi]) (fun _ => rfl))
        rw [cel_arr hs1]
        congr 3
        congr 1
        funext y
        simp
      exact va_copyi hx hb (hml.trans hl.1.symm) hown (hts _ hw) (hts _ hw1) (hts _ hw2) (hts _ hw3) hSt.1 hP hD hS a b 0 0 (by rw [wld_get ha, cel_arr hs0]) (by rw [wld_get hb', cel_arr hs1]) rfl rfl rfl e1.2 e2.2 e3.2 (by omega) (by omega) (fun i _ => rfl) (by omega) (by
        have : nativeFrameWords "java/lang/System" "arraycopy" 5 ≤ 40 := by decide +kernel
        omega) hdg (fun H1 locs1 hP1 _ hS1 => kk H1 locs1 ls (by rw [← hws]; exact hP1) hS1 hl)
    · cases hg
  · cases hg
end CROWS
end
section
/-! ===== rows in the forms that the printed walks use ===== -/
def chk (ci k : Nat) : Option Unit := if isK ci k = true then some () else none
theorem chk_k {ci k : Nat} {u : Unit} (h : chk ci k = some u) : isK ci k = true := by
  unfold chk at h
  split at h
  · assumption
  · cases h
def nz (y : Int32) : Option Unit := if y = 0 then none else some ()
def nzL (y : Int64) : Option Unit := if y = 0 then none else some ()
theorem nz_ne {y : Int32} {u : Unit} (h : nz y = some u) : ¬ y = 0 := by
  intro e
  unfold nz at h
  rw [if_pos e] at h
  cases h
theorem nzL_ne {y : Int64} {u : Unit} (h : nzL y = some u) : ¬ y = 0 := by
  intro e
  unfold nzL at h
  rw [if_pos e] at h
  cases h
/-- a truth value that is handed on: 0 or 1 -/
def bz (v : Int32) : Option Unit := if v &&& 1 = v then some () else none
theorem bz_nr {v : Int32} {u : Unit} (h : bz v = some u) : narrow .boolean (.int v) = .int v := by
  unfold bz at h
  split at h
  · next e => show Value.int (v &&& 1) = .int v; rw [e]
  · cases h
theorem mapd {α β : Type} {o : Option α} {f : α → β} {y : β} (h : o.map f = some y) : ∃ z, o = some z ∧ f z = y := by
  cases o with
  | none => cases h
  | some z => exact ⟨z, rfl, Option.some.inj h⟩
theorem inc_eq {x a b : Int32} (h : a = b) : x + a = x + b := by rw [h]
theorem lp_V {S T : Type} {f : S → Option (S ⊕ T)} {W : S → Prop} {K : T → Prop} (main : ∀ s y, f s = some y → (match y with
  | .inl s' => W s'
  | .inr t => K t) → W s) : ∀ s t, lp f s = some t → K t → W s :=
  fun s t h => lp_ind (P := fun s t => K t → W s) (fun s t hf hk => main s (.inr t) hf hk) (fun s s' t hf hp hk => main s (.inl s') hf (hp hk)) s t h
section MROWS
variable {Δ : DD} {Γ : GG} {own : String} {cc : ByteArray} {nL d pc : Nat} {ret : Option FieldType} {ll : List (Nat × Value)} {st : List Value} {σ : Mem}
theorem v_sub (ks : List Nat) {ll' : List (Nat × Value)} (h : lv_pick ll ks = ll') (k : V Δ Γ nL pc ll' st σ) : V Δ Γ nL pc ll st σ := by
  obtain ⟨l, D, cI, cT, ad, tK⟩ := Δ; obtain ⟨p, e, R, s, m, args, below, meth, c, kc, ks, Q⟩ := Γ
  exact fun H locs ls hP hS hl => k H locs ls hP hS (lv_sub hl ks h)
theorem v_iretF (C : Cx Δ Γ own cc nL d (some .int)) {q : Int32 × Mem} {v : Int32} (hq : RetQ Δ Γ (some (.int q.1)) q.2) (hK : (v, σ) = q) (hdg : decode cc pc = .ok (.ireturn, 1)) : V Δ Γ nL pc ll [.int v] σ := by
  subst hK
  exact v_iret C hq rfl rfl hdg
theorem v_iretP (C : Cx Δ Γ own cc nL d (some .int)) {q : Int32} {v : Int32} (hq : RetQ Δ Γ (some (.int q)) σ) (hK : v = q) (hdg : decode cc pc = .ok (.ireturn, 1)) : V Δ Γ nL pc ll [.int v] σ := by
  subst hK
  exact v_iret C hq rfl rfl hdg
theorem v_zretF (C : Cx Δ Γ own cc nL d (some .boolean)) {q : Int32 × Mem} {v : Int32} (hq : RetQ Δ Γ (some (.int q.1)) q.2) (hK : (v, σ) = q) (hv : narrow .boolean (.int v) = .int v) (hdg : decode cc pc = .ok (.ireturn, 1)) : V Δ Γ nL pc ll [.int v] σ := by
  subst hK
  exact v_zret C hq hv rfl rfl hdg
theorem v_zretP (C : Cx Δ Γ own cc nL d (some .boolean)) {q : Int32} {v : Int32} (hq : RetQ Δ Γ (some (.int q)) σ) (hK : v = q) (hv : narrow .boolean (.int v) = .int v) (hdg : decode cc pc = .ok (.ireturn, 1)) : V Δ Γ nL pc ll [.int v] σ := by
  subst hK
  exact v_zret C hq hv rfl rfl hdg
theorem v_lretF (C : Cx Δ Γ own cc nL d (some .long)) {q : Int64 × Mem} {v : Int64} (hq : RetQ Δ Γ (some (.long q.1)) q.2) (hK : (v, σ) = q) (hdg : decode cc pc = .ok (.lreturn, 1)) : V Δ Γ nL pc ll [.long v] σ := by
  subst hK
  exact v_lret C hq rfl rfl hdg
theorem v_lretP (C : Cx Δ Γ own cc nL d (some .long)) {q : Int64} {v : Int64} (hq : RetQ Δ Γ (some (.long q)) σ) (hK : v = q) (hdg : decode cc pc = .ok (.lreturn, 1)) : V Δ Γ nL pc ll [.long v] σ := by
  subst hK
  exact v_lret C hq rfl rfl hdg
theorem v_vretF (C : Cx Δ Γ own cc nL d none) {q : Mem} (hq : RetQ Δ Γ none q) (hK : σ = q) (hdg : decode cc pc = .ok (.return_, 1)) : V Δ Γ nL pc ll [] σ := by
  subst hK
  exact v_vret C hq rfl rfl hdg
theorem v_aretR {rt : String} (C : Cx Δ Γ own cc nL d (some (.object rt))) {q : Option Nat × Mem} {k : Nat} (hq : RetQ Δ Γ (some (vr Δ q.1)) q.2) (hK : (some k, σ) = q) (hdg : decode cc pc = .ok (.areturn, 1)) : V Δ Γ nL pc ll [rf Δ k] σ := by
  subst hK
  exact v_aret C hq rfl (Or.inr ⟨_, rfl⟩) rfl rfl hdg
theorem v_aretN {rt : String} (C : Cx Δ Γ own cc nL d (some (.object rt))) {q : Option Nat × Mem} (hq : RetQ Δ Γ (some (vr Δ q.1)) q.2) (hK : (none, σ) = q) (hdg : decode cc pc = .ok (.areturn, 1)) : V Δ Γ nL pc ll [.null] σ := by
  subst hK
  exact v_aret C hq rfl (Or.inl rfl) rfl rfl hdg
variable {ci idx n k : Nat} {y : MethodName} {cc' : ByteArray} {nL' : Nat} {ret' : Option FieldType} {σ' : Mem} {st0 : List Value}
theorem v_cVi (C : Cx Δ Γ own cc nL d ret) (mw : MWi ci y cc' nL' ret' n) (lk : LK own idx y) (As : List Value) {r : Int32} (hM : Mt Δ d y cc' nL' ret' (rf Δ k :: As) σ (some (.int r)) σ') (hK : isK ci k = true) (hst : st0 = As.reverse ++ rf Δ k :: st) (hn : As.length = n) (hW : (st.map fun v => v.category).sum ≤ 8) (hdg : decode cc pc = .ok (.invokevirtual idx, 3)) (kk : V Δ Γ nL (pc + 3) ll (.int r :: st) σ') : V Δ Γ nL pc ll st0 σ := v_cV C mw lk As hM hK hst hn hW hdg kk
theorem v_cVl (C : Cx Δ Γ own cc nL d ret) (mw : MWi ci y cc' nL' ret' n) (lk : LK own idx y) (As : List Value) {r : Int64} (hM : Mt Δ d y cc' nL' ret' (rf Δ k :: As) σ (some (.long r)) σ') (hK : isK ci k = true) (hst : st0 = As.reverse ++ rf Δ k :: st) (hn : As.length = n) (hW : (st.map fun v => v.category).sum ≤ 8) (hdg : decode cc pc = .ok (.invokevirtual idx, 3)) (kk : V Δ Γ nL (pc + 3) ll (.long r :: st) σ') : V Δ Γ nL pc ll st0 σ := v_cV C mw lk As hM hK hst hn hW hdg kk
theorem v_cVv (C : Cx Δ Γ own cc nL d ret) (mw : MWi ci y cc' nL' ret' n) (lk : LK own idx y) (As : List Value) (hM : Mt Δ d y cc' nL' ret' (rf Δ k :: As) σ none σ') (hK : isK ci k = true) (hst : st0 = As.reverse ++ rf Δ k :: st) (hn : As.length = n) (hW : (st.map fun v => v.category).sum ≤ 8) (hdg : decode cc pc = .ok (.invokevirtual idx, 3)) (kk : V Δ Γ nL (pc + 3) ll st σ') : V Δ Γ nL pc ll st0 σ := v_cV C mw lk As hM hK hst hn hW hdg kk
theorem v_cVR (C : Cx Δ Γ own cc nL d ret) (mw : MWi ci y cc' nL' ret' n) (lk : LK own idx y) (As : List Value) {r : Nat} (hM : Mt Δ d y cc' nL' ret' (rf Δ k :: As) σ (some (vr Δ (some r))) σ') (hK : isK ci k = true) (hst : st0 = As.reverse ++ rf Δ k :: st) (hn : As.length = n) (hW : (st.map fun v => v.category).sum ≤ 8) (hdg : decode cc pc = .ok (.invokevirtual idx, 3)) (kk : V Δ Γ nL (pc + 3) ll (rf Δ r :: st) σ') : V Δ Γ nL pc ll st0 σ := v_cV C mw lk As hM hK hst hn hW hdg kk
theorem v_cVN (C : Cx Δ Γ own cc nL d ret) (mw : MWi ci y cc' nL' ret' n) (lk : LK own idx y) (As : List Value) (hM : Mt Δ d y cc' nL' ret' (rf Δ k :: As) σ (some (vr Δ none)) σ') (hK : isK ci k = true) (hst : st0 = As.reverse ++ rf Δ k :: st) (hn : As.length = n) (hW : (st.map fun v => v.category).sum ≤ 8) (hdg : decode cc pc = .ok (.invokevirtual idx, 3)) (kk : V Δ Γ nL (pc + 3) ll (.null :: st) σ') : V Δ Γ nL pc ll st0 σ := v_cV C mw lk As hM hK hst hn hW hdg kk
theorem v_cSi (C : Cx Δ Γ own cc nL d ret) (mw : MWs y cc' nL' ret' n) (lk : LK own idx y) (As : List Value) {r : Int32} (hM : Mt Δ d y cc' nL' ret' As σ (some (.int r)) σ') (hst : st0 = As.reverse ++ st) (hn : As.length = n) (hW : (st.map fun v => v.category).sum ≤ 8) (hdg : decode cc pc = .ok (.invokestatic idx, 3)) (kk : V Δ Γ nL (pc + 3) ll (.int r :: st) σ') : V Δ Γ nL pc ll st0 σ := v_cS C mw lk As hM hst hn hW hdg kk
theorem v_cSl (C : Cx Δ Γ own cc nL d ret) (mw : MWs y cc' nL' ret' n) (lk : LK own idx y) (As : List Value) {r : Int64} (hM : Mt Δ d y cc' nL' ret' As σ (some (.long r)) σ') (hst : st0 = As.reverse ++ st) (hn : As.length = n) (hW : (st.map fun v => v.category).sum ≤ 8) (hdg : decode cc pc = .ok (.invokestatic idx, 3)) (kk : V Δ Γ nL (pc + 3) ll (.long r :: st) σ') : V Δ Γ nL pc ll st0 σ := v_cS C mw lk As hM hst hn hW hdg kk
theorem v_cSv (C : Cx Δ Γ own cc nL d ret) (mw : MWs y cc' nL' ret' n) (lk : LK own idx y) (As : List Value) (hM : Mt Δ d y cc' nL' ret' As σ none σ') (hst : st0 = As.reverse ++ st) (hn : As.length = n) (hW : (st.map fun v => v.category).sum ≤ 8) (hdg : decode cc pc = .ok (.invokestatic idx, 3)) (kk : V Δ Γ nL (pc + 3) ll st σ') : V Δ Γ nL pc ll st0 σ := v_cS C mw lk As hM hst hn hW hdg kk
end MROWS
end

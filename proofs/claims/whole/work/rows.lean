section
-- ===== PART A: goes FIRST, ahead of the names: the tables' words, and 'selects' of the private methods out of them =====
/-- a private method of a class that the tables say can be made, by its rows of tables_1 -/
def lw_okq (q : MethodName × Nat) : Prop := (q.1.cls ≠ "java/lang/invoke/MethodHandle" ∧ q.1.cls ≠ "java/lang/invoke/VarHandle") ∧ Cond.instantiable q.1.cls q.2 ∈ tables_1 ∧ Cond.privateMethod q.1 ∈ tables_1 ∧ Cond.instanceMethod q.1 ∈ tables_1
theorem lw_p0 : lw_okq (⟨"BolsterBeds", "makeAnew", "(LBolsterBeds$Shelf;III)I"⟩, 18) := ⟨⟨by decide +kernel, by decide +kernel⟩, List.mem_of_getElem? (i := 16) (by decide +kernel), List.mem_of_getElem? (i := 263) (by decide +kernel), List.mem_of_getElem? (i := 264) (by decide +kernel)⟩
theorem lw_p1 : lw_okq (⟨"BolsterBeds", "refuse", "(I)I"⟩, 18) := ⟨⟨by decide +kernel, by decide +kernel⟩, List.mem_of_getElem? (i := 16) (by decide +kernel), List.mem_of_getElem? (i := 271) (by decide +kernel), List.mem_of_getElem? (i := 272) (by decide +kernel)⟩
theorem lw_p2 : lw_okq (⟨"BolsterBeds", "refusalOfPlace", "(LBolsterBeds$Shelf;II)I"⟩, 18) := ⟨⟨by decide +kernel, by decide +kernel⟩, List.mem_of_getElem? (i := 16) (by decide +kernel), List.mem_of_getElem? (i := 301) (by decide +kernel), List.mem_of_getElem? (i := 302) (by decide +kernel)⟩
theorem lw_p3 : lw_okq (⟨"BolsterBeds", "refusalOfMissing", "(LBolsterBeds$Shelf;I)I"⟩, 18) := ⟨⟨by decide +kernel, by decide +kernel⟩, List.mem_of_getElem? (i := 16) (by decide +kernel), List.mem_of_getElem? (i := 305) (by decide +kernel), List.mem_of_getElem? (i := 306) (by decide +kernel)⟩
theorem lw_p4 : lw_okq (⟨"BolsterBeds", "tell", "(I)I"⟩, 18) := ⟨⟨by decide +kernel, by decide +kernel⟩, List.mem_of_getElem? (i := 16) (by decide +kernel), List.mem_of_getElem? (i := 323) (by decide +kernel), List.mem_of_getElem? (i := 324) (by decide +kernel)⟩
theorem lw_p5 : lw_okq (⟨"BolsterBeds$Reader", "skipBlanks", "()V"⟩, 4) := ⟨⟨by decide +kernel, by decide +kernel⟩, List.mem_of_getElem? (i := 93) (by decide +kernel), List.mem_of_getElem? (i := 381) (by decide +kernel), List.mem_of_getElem? (i := 382) (by decide +kernel)⟩
theorem lw_p6 : lw_okq (⟨"BolsterBeds$Reader", "here", "()I"⟩, 4) := ⟨⟨by decide +kernel, by decide +kernel⟩, List.mem_of_getElem? (i := 93) (by decide +kernel), List.mem_of_getElem? (i := 385) (by decide +kernel), List.mem_of_getElem? (i := 386) (by decide +kernel)⟩
theorem lw_p7 : lw_okq (⟨"BolsterBeds$Reader", "takesHead", "()Z"⟩, 4) := ⟨⟨by decide +kernel, by decide +kernel⟩, List.mem_of_getElem? (i := 93) (by decide +kernel), List.mem_of_getElem? (i := 390) (by decide +kernel), List.mem_of_getElem? (i := 391) (by decide +kernel)⟩
theorem lw_p8 : lw_okq (⟨"BolsterBeds$Reader", "takeFigure", "(I)I"⟩, 4) := ⟨⟨by decide +kernel, by decide +kernel⟩, List.mem_of_getElem? (i := 93) (by decide +kernel), List.mem_of_getElem? (i := 394) (by decide +kernel), List.mem_of_getElem? (i := 395) (by decide +kernel)⟩
theorem lw_p9 : lw_okq (⟨"BolsterBeds$Reader", "takesBed", "()Z"⟩, 4) := ⟨⟨by decide +kernel, by decide +kernel⟩, List.mem_of_getElem? (i := 93) (by decide +kernel), List.mem_of_getElem? (i := 398) (by decide +kernel), List.mem_of_getElem? (i := 399) (by decide +kernel)⟩
theorem lw_p10 : lw_okq (⟨"BolsterBeds$Reader", "kindHere", "()I"⟩, 4) := ⟨⟨by decide +kernel, by decide +kernel⟩, List.mem_of_getElem? (i := 93) (by decide +kernel), List.mem_of_getElem? (i := 402) (by decide +kernel), List.mem_of_getElem? (i := 403) (by decide +kernel)⟩
theorem lw_p11 : lw_okq (⟨"BolsterBeds", "enact", "(III)I"⟩, 18) := ⟨⟨by decide +kernel, by decide +kernel⟩, List.mem_of_getElem? (i := 16) (by decide +kernel), List.mem_of_getElem? (i := 499) (by decide +kernel), List.mem_of_getElem? (i := 500) (by decide +kernel)⟩
theorem lw_p12 : lw_okq (⟨"BolsterBeds$Town", "swapRights", "(II)V"⟩, 10) := ⟨⟨by decide +kernel, by decide +kernel⟩, List.mem_of_getElem? (i := 48) (by decide +kernel), List.mem_of_getElem? (i := 521) (by decide +kernel), List.mem_of_getElem? (i := 522) (by decide +kernel)⟩
theorem lw_p13 : lw_okq (⟨"BolsterBeds$Town", "sleepIn", "(I)I"⟩, 10) := ⟨⟨by decide +kernel, by decide +kernel⟩, List.mem_of_getElem? (i := 48) (by decide +kernel), List.mem_of_getElem? (i := 529) (by decide +kernel), List.mem_of_getElem? (i := 530) (by decide +kernel)⟩
theorem lw_p14 : lw_okq (⟨"BolsterBeds", "redoFromStart", "()V"⟩, 18) := ⟨⟨by decide +kernel, by decide +kernel⟩, List.mem_of_getElem? (i := 16) (by decide +kernel), List.mem_of_getElem? (i := 550) (by decide +kernel), List.mem_of_getElem? (i := 551) (by decide +kernel)⟩
theorem lw_p15 : lw_okq (⟨"BolsterBeds$Rounds", "goOn", "(LBolsterBeds$Town;III)V"⟩, 4) := ⟨⟨by decide +kernel, by decide +kernel⟩, List.mem_of_getElem? (i := 115) (by decide +kernel), List.mem_of_getElem? (i := 598) (by decide +kernel), List.mem_of_getElem? (i := 599) (by decide +kernel)⟩
def lw_privs_1 : List (MethodName × Nat) := [(⟨"BolsterBeds", "makeAnew", "(LBolsterBeds$Shelf;III)I"⟩, 18), (⟨"BolsterBeds", "refuse", "(I)I"⟩, 18), (⟨"BolsterBeds", "refusalOfPlace", "(LBolsterBeds$Shelf;II)I"⟩, 18), (⟨"BolsterBeds", "refusalOfMissing", "(LBolsterBeds$Shelf;I)I"⟩, 18), (⟨"BolsterBeds", "tell", "(I)I"⟩, 18), (⟨"BolsterBeds$Reader", "skipBlanks", "()V"⟩, 4), (⟨"BolsterBeds$Reader", "here", "()I"⟩, 4), (⟨"BolsterBeds$Reader", "takesHead", "()Z"⟩, 4), (⟨"BolsterBeds$Reader", "takeFigure", "(I)I"⟩, 4), (⟨"BolsterBeds$Reader", "takesBed", "()Z"⟩, 4), (⟨"BolsterBeds$Reader", "kindHere", "()I"⟩, 4), (⟨"BolsterBeds", "enact", "(III)I"⟩, 18), (⟨"BolsterBeds$Town", "swapRights", "(II)V"⟩, 10), (⟨"BolsterBeds$Town", "sleepIn", "(I)I"⟩, 10), (⟨"BolsterBeds", "redoFromStart", "()V"⟩, 18), (⟨"BolsterBeds$Rounds", "goOn", "(LBolsterBeds$Town;III)V"⟩, 4)]
theorem lw_r1 : ∀ q ∈ lw_privs_1, lw_okq q := List.forall_mem_cons.mpr ⟨lw_p0, List.forall_mem_cons.mpr ⟨lw_p1, List.forall_mem_cons.mpr ⟨lw_p2, List.forall_mem_cons.mpr ⟨lw_p3, List.forall_mem_cons.mpr ⟨lw_p4, List.forall_mem_cons.mpr ⟨lw_p5, List.forall_mem_cons.mpr ⟨lw_p6, List.forall_mem_cons.mpr ⟨lw_p7, List.forall_mem_cons.mpr ⟨lw_p8, List.forall_mem_cons.mpr ⟨lw_p9, List.forall_mem_cons.mpr ⟨lw_p10, List.forall_mem_cons.mpr ⟨lw_p11, List.forall_mem_cons.mpr ⟨lw_p12, List.forall_mem_cons.mpr ⟨lw_p13, List.forall_mem_cons.mpr ⟨lw_p14, List.forall_mem_cons.mpr ⟨lw_p15, fun _ h => absurd h List.not_mem_nil⟩⟩⟩⟩⟩⟩⟩⟩⟩⟩⟩⟩⟩⟩⟩⟩
theorem lw_p16 : lw_okq (⟨"BolsterBeds$Rounds", "takeIfMore", "(I)V"⟩, 4) := ⟨⟨by decide +kernel, by decide +kernel⟩, List.mem_of_getElem? (i := 115) (by decide +kernel), List.mem_of_getElem? (i := 602) (by decide +kernel), List.mem_of_getElem? (i := 603) (by decide +kernel)⟩
theorem lw_p17 : lw_okq (⟨"BolsterBeds", "isRound", "(I)Z"⟩, 18) := ⟨⟨by decide +kernel, by decide +kernel⟩, List.mem_of_getElem? (i := 16) (by decide +kernel), List.mem_of_getElem? (i := 615) (by decide +kernel), List.mem_of_getElem? (i := 616) (by decide +kernel)⟩
theorem lw_p18 : lw_okq (⟨"BolsterBeds$Marriages", "give", "(LBolsterBeds$Town;III)V"⟩, 3) := ⟨⟨by decide +kernel, by decide +kernel⟩, List.mem_of_getElem? (i := 149) (by decide +kernel), List.mem_of_getElem? (i := 634) (by decide +kernel), List.mem_of_getElem? (i := 635) (by decide +kernel)⟩
theorem lw_p19 : lw_okq (⟨"BolsterBeds", "takePairs", "(II)I"⟩, 18) := ⟨⟨by decide +kernel, by decide +kernel⟩, List.mem_of_getElem? (i := 16) (by decide +kernel), List.mem_of_getElem? (i := 653) (by decide +kernel), List.mem_of_getElem? (i := 654) (by decide +kernel)⟩
theorem lw_p20 : lw_okq (⟨"BolsterBeds$Clues", "fits", "(LBolsterBeds$Town;III)Z"⟩, 6) := ⟨⟨by decide +kernel, by decide +kernel⟩, List.mem_of_getElem? (i := 166) (by decide +kernel), List.mem_of_getElem? (i := 668) (by decide +kernel), List.mem_of_getElem? (i := 669) (by decide +kernel)⟩
theorem lw_p21 : lw_okq (⟨"BolsterBeds$Clues", "greatestPart", "(LBolsterBeds$Town;II)I"⟩, 6) := ⟨⟨by decide +kernel, by decide +kernel⟩, List.mem_of_getElem? (i := 166) (by decide +kernel), List.mem_of_getElem? (i := 692) (by decide +kernel), List.mem_of_getElem? (i := 693) (by decide +kernel)⟩
theorem lw_p22 : lw_okq (⟨"BolsterBeds$Duel", "fewestFrom", "(LBolsterBeds$Town;II)I"⟩, 1) := ⟨⟨by decide +kernel, by decide +kernel⟩, List.mem_of_getElem? (i := 192) (by decide +kernel), List.mem_of_getElem? (i := 706) (by decide +kernel), List.mem_of_getElem? (i := 707) (by decide +kernel)⟩
theorem lw_p23 : lw_okq (⟨"BolsterBeds$Duel", "mostFrom", "(LBolsterBeds$Town;II)I"⟩, 1) := ⟨⟨by decide +kernel, by decide +kernel⟩, List.mem_of_getElem? (i := 192) (by decide +kernel), List.mem_of_getElem? (i := 717) (by decide +kernel), List.mem_of_getElem? (i := 718) (by decide +kernel)⟩
theorem lw_p24 : lw_okq (⟨"BolsterBeds", "tellChance", "(JJ)I"⟩, 18) := ⟨⟨by decide +kernel, by decide +kernel⟩, List.mem_of_getElem? (i := 16) (by decide +kernel), List.mem_of_getElem? (i := 744) (by decide +kernel), List.mem_of_getElem? (i := 745) (by decide +kernel)⟩
theorem lw_p25 : lw_okq (⟨"BolsterBedsModel", "found", "(I)I"⟩, 17) := ⟨⟨by decide +kernel, by decide +kernel⟩, List.mem_of_getElem? (i := 819) (by decide +kernel), List.mem_of_getElem? (i := 888) (by decide +kernel), List.mem_of_getElem? (i := 889) (by decide +kernel)⟩
theorem lw_p26 : lw_okq (⟨"BolsterBedsModel", "anew", "(II)V"⟩, 17) := ⟨⟨by decide +kernel, by decide +kernel⟩, List.mem_of_getElem? (i := 819) (by decide +kernel), List.mem_of_getElem? (i := 892) (by decide +kernel), List.mem_of_getElem? (i := 893) (by decide +kernel)⟩
theorem lw_p27 : lw_okq (⟨"BolsterBedsModel", "tells", "(II)I"⟩, 17) := ⟨⟨by decide +kernel, by decide +kernel⟩, List.mem_of_getElem? (i := 819) (by decide +kernel), List.mem_of_getElem? (i := 904) (by decide +kernel), List.mem_of_getElem? (i := 905) (by decide +kernel)⟩
theorem lw_p28 : lw_okq (⟨"BolsterBedsModel", "faultOf", "(I)I"⟩, 17) := ⟨⟨by decide +kernel, by decide +kernel⟩, List.mem_of_getElem? (i := 819) (by decide +kernel), List.mem_of_getElem? (i := 940) (by decide +kernel), List.mem_of_getElem? (i := 941) (by decide +kernel)⟩
theorem lw_p29 : lw_okq (⟨"BolsterBedsModel", "blanks", "(I)V"⟩, 17) := ⟨⟨by decide +kernel, by decide +kernel⟩, List.mem_of_getElem? (i := 819) (by decide +kernel), List.mem_of_getElem? (i := 944) (by decide +kernel), List.mem_of_getElem? (i := 945) (by decide +kernel)⟩
theorem lw_p30 : lw_okq (⟨"BolsterBedsModel", "byteAt", "(II)I"⟩, 17) := ⟨⟨by decide +kernel, by decide +kernel⟩, List.mem_of_getElem? (i := 819) (by decide +kernel), List.mem_of_getElem? (i := 948) (by decide +kernel), List.mem_of_getElem? (i := 949) (by decide +kernel)⟩
theorem lw_p31 : lw_okq (⟨"BolsterBedsModel", "takesFirst", "(I)Z"⟩, 17) := ⟨⟨by decide +kernel, by decide +kernel⟩, List.mem_of_getElem? (i := 819) (by decide +kernel), List.mem_of_getElem? (i := 952) (by decide +kernel), List.mem_of_getElem? (i := 953) (by decide +kernel)⟩
def lw_privs_2 : List (MethodName × Nat) := [(⟨"BolsterBeds$Rounds", "takeIfMore", "(I)V"⟩, 4), (⟨"BolsterBeds", "isRound", "(I)Z"⟩, 18), (⟨"BolsterBeds$Marriages", "give", "(LBolsterBeds$Town;III)V"⟩, 3), (⟨"BolsterBeds", "takePairs", "(II)I"⟩, 18), (⟨"BolsterBeds$Clues", "fits", "(LBolsterBeds$Town;III)Z"⟩, 6), (⟨"BolsterBeds$Clues", "greatestPart", "(LBolsterBeds$Town;II)I"⟩, 6), (⟨"BolsterBeds$Duel", "fewestFrom", "(LBolsterBeds$Town;II)I"⟩, 1), (⟨"BolsterBeds$Duel", "mostFrom", "(LBolsterBeds$Town;II)I"⟩, 1), (⟨"BolsterBeds", "tellChance", "(JJ)I"⟩, 18), (⟨"BolsterBedsModel", "found", "(I)I"⟩, 17), (⟨"BolsterBedsModel", "anew", "(II)V"⟩, 17), (⟨"BolsterBedsModel", "tells", "(II)I"⟩, 17), (⟨"BolsterBedsModel", "faultOf", "(I)I"⟩, 17), (⟨"BolsterBedsModel", "blanks", "(I)V"⟩, 17), (⟨"BolsterBedsModel", "byteAt", "(II)I"⟩, 17), (⟨"BolsterBedsModel", "takesFirst", "(I)Z"⟩, 17)]
theorem lw_r2 : ∀ q ∈ lw_privs_2, lw_okq q := List.forall_mem_cons.mpr ⟨lw_p16, List.forall_mem_cons.mpr ⟨lw_p17, List.forall_mem_cons.mpr ⟨lw_p18, List.forall_mem_cons.mpr ⟨lw_p19, List.forall_mem_cons.mpr ⟨lw_p20, List.forall_mem_cons.mpr ⟨lw_p21, List.forall_mem_cons.mpr ⟨lw_p22, List.forall_mem_cons.mpr ⟨lw_p23, List.forall_mem_cons.mpr ⟨lw_p24, List.forall_mem_cons.mpr ⟨lw_p25, List.forall_mem_cons.mpr ⟨lw_p26, List.forall_mem_cons.mpr ⟨lw_p27, List.forall_mem_cons.mpr ⟨lw_p28, List.forall_mem_cons.mpr ⟨lw_p29, List.forall_mem_cons.mpr ⟨lw_p30, List.forall_mem_cons.mpr ⟨lw_p31, fun _ h => absurd h List.not_mem_nil⟩⟩⟩⟩⟩⟩⟩⟩⟩⟩⟩⟩⟩⟩⟩⟩
theorem lw_p32 : lw_okq (⟨"BolsterBedsModel", "figures", "(IIIII)Z"⟩, 17) := ⟨⟨by decide +kernel, by decide +kernel⟩, List.mem_of_getElem? (i := 819) (by decide +kernel), List.mem_of_getElem? (i := 956) (by decide +kernel), List.mem_of_getElem? (i := 957) (by decide +kernel)⟩
theorem lw_p33 : lw_okq (⟨"BolsterBedsModel", "takesBed", "(I)Z"⟩, 17) := ⟨⟨by decide +kernel, by decide +kernel⟩, List.mem_of_getElem? (i := 819) (by decide +kernel), List.mem_of_getElem? (i := 961) (by decide +kernel), List.mem_of_getElem? (i := 962) (by decide +kernel)⟩
theorem lw_p34 : lw_okq (⟨"BolsterBedsModel", "copyAll", "(III)V"⟩, 17) := ⟨⟨by decide +kernel, by decide +kernel⟩, List.mem_of_getElem? (i := 819) (by decide +kernel), List.mem_of_getElem? (i := 972) (by decide +kernel), List.mem_of_getElem? (i := 973) (by decide +kernel)⟩
theorem lw_p35 : lw_okq (⟨"BolsterBedsModel", "isBed", "(I)Z"⟩, 17) := ⟨⟨by decide +kernel, by decide +kernel⟩, List.mem_of_getElem? (i := 819) (by decide +kernel), List.mem_of_getElem? (i := 980) (by decide +kernel), List.mem_of_getElem? (i := 981) (by decide +kernel)⟩
theorem lw_p36 : lw_okq (⟨"BolsterBedsModel", "bedTells", "(II)I"⟩, 17) := ⟨⟨by decide +kernel, by decide +kernel⟩, List.mem_of_getElem? (i := 819) (by decide +kernel), List.mem_of_getElem? (i := 985) (by decide +kernel), List.mem_of_getElem? (i := 986) (by decide +kernel)⟩
theorem lw_p37 : lw_okq (⟨"BolsterBedsModel", "crossIn", "(II)I"⟩, 17) := ⟨⟨by decide +kernel, by decide +kernel⟩, List.mem_of_getElem? (i := 819) (by decide +kernel), List.mem_of_getElem? (i := 989) (by decide +kernel), List.mem_of_getElem? (i := 990) (by decide +kernel)⟩
theorem lw_p38 : lw_okq (⟨"BolsterBedsModel", "gapIn", "(II)I"⟩, 17) := ⟨⟨by decide +kernel, by decide +kernel⟩, List.mem_of_getElem? (i := 819) (by decide +kernel), List.mem_of_getElem? (i := 993) (by decide +kernel), List.mem_of_getElem? (i := 994) (by decide +kernel)⟩
theorem lw_p39 : lw_okq (⟨"BolsterBedsModel", "crossBy", "(IIII)I"⟩, 17) := ⟨⟨by decide +kernel, by decide +kernel⟩, List.mem_of_getElem? (i := 819) (by decide +kernel), List.mem_of_getElem? (i := 1000) (by decide +kernel), List.mem_of_getElem? (i := 1001) (by decide +kernel)⟩
theorem lw_p40 : lw_okq (⟨"BolsterBedsModel", "crossAs", "(II)I"⟩, 17) := ⟨⟨by decide +kernel, by decide +kernel⟩, List.mem_of_getElem? (i := 819) (by decide +kernel), List.mem_of_getElem? (i := 1011) (by decide +kernel), List.mem_of_getElem? (i := 1012) (by decide +kernel)⟩
theorem lw_p41 : lw_okq (⟨"BolsterBedsModel", "isTown", "()Z"⟩, 17) := ⟨⟨by decide +kernel, by decide +kernel⟩, List.mem_of_getElem? (i := 819) (by decide +kernel), List.mem_of_getElem? (i := 1024) (by decide +kernel), List.mem_of_getElem? (i := 1025) (by decide +kernel)⟩
theorem lw_p42 : lw_okq (⟨"BolsterBedsModel", "minds", "()V"⟩, 17) := ⟨⟨by decide +kernel, by decide +kernel⟩, List.mem_of_getElem? (i := 819) (by decide +kernel), List.mem_of_getElem? (i := 1028) (by decide +kernel), List.mem_of_getElem? (i := 1029) (by decide +kernel)⟩
theorem lw_p43 : lw_okq (⟨"BolsterBedsModel", "passes", "(I)I"⟩, 17) := ⟨⟨by decide +kernel, by decide +kernel⟩, List.mem_of_getElem? (i := 819) (by decide +kernel), List.mem_of_getElem? (i := 1032) (by decide +kernel), List.mem_of_getElem? (i := 1033) (by decide +kernel)⟩
theorem lw_p44 : lw_okq (⟨"BolsterBedsModel", "inspects", "(II)I"⟩, 17) := ⟨⟨by decide +kernel, by decide +kernel⟩, List.mem_of_getElem? (i := 819) (by decide +kernel), List.mem_of_getElem? (i := 1040) (by decide +kernel), List.mem_of_getElem? (i := 1041) (by decide +kernel)⟩
theorem lw_p45 : lw_okq (⟨"BolsterBedsModel", "isDue", "(II)Z"⟩, 17) := ⟨⟨by decide +kernel, by decide +kernel⟩, List.mem_of_getElem? (i := 819) (by decide +kernel), List.mem_of_getElem? (i := 1044) (by decide +kernel), List.mem_of_getElem? (i := 1045) (by decide +kernel)⟩
theorem lw_p46 : lw_okq (⟨"BolsterBedsModel", "tries", "()V"⟩, 17) := ⟨⟨by decide +kernel, by decide +kernel⟩, List.mem_of_getElem? (i := 819) (by decide +kernel), List.mem_of_getElem? (i := 1077) (by decide +kernel), List.mem_of_getElem? (i := 1078) (by decide +kernel)⟩
theorem lw_p47 : lw_okq (⟨"BolsterBedsModel", "triesNights", "(I)V"⟩, 17) := ⟨⟨by decide +kernel, by decide +kernel⟩, List.mem_of_getElem? (i := 819) (by decide +kernel), List.mem_of_getElem? (i := 1081) (by decide +kernel), List.mem_of_getElem? (i := 1082) (by decide +kernel)⟩
def lw_privs_3 : List (MethodName × Nat) := [(⟨"BolsterBedsModel", "figures", "(IIIII)Z"⟩, 17), (⟨"BolsterBedsModel", "takesBed", "(I)Z"⟩, 17), (⟨"BolsterBedsModel", "copyAll", "(III)V"⟩, 17), (⟨"BolsterBedsModel", "isBed", "(I)Z"⟩, 17), (⟨"BolsterBedsModel", "bedTells", "(II)I"⟩, 17), (⟨"BolsterBedsModel", "crossIn", "(II)I"⟩, 17), (⟨"BolsterBedsModel", "gapIn", "(II)I"⟩, 17), (⟨"BolsterBedsModel", "crossBy", "(IIII)I"⟩, 17), (⟨"BolsterBedsModel", "crossAs", "(II)I"⟩, 17), (⟨"BolsterBedsModel", "isTown", "()Z"⟩, 17), (⟨"BolsterBedsModel", "minds", "()V"⟩, 17), (⟨"BolsterBedsModel", "passes", "(I)I"⟩, 17), (⟨"BolsterBedsModel", "inspects", "(II)I"⟩, 17), (⟨"BolsterBedsModel", "isDue", "(II)Z"⟩, 17), (⟨"BolsterBedsModel", "tries", "()V"⟩, 17), (⟨"BolsterBedsModel", "triesNights", "(I)V"⟩, 17)]
theorem lw_r3 : ∀ q ∈ lw_privs_3, lw_okq q := List.forall_mem_cons.mpr ⟨lw_p32, List.forall_mem_cons.mpr ⟨lw_p33, List.forall_mem_cons.mpr ⟨lw_p34, List.forall_mem_cons.mpr ⟨lw_p35, List.forall_mem_cons.mpr ⟨lw_p36, List.forall_mem_cons.mpr ⟨lw_p37, List.forall_mem_cons.mpr ⟨lw_p38, List.forall_mem_cons.mpr ⟨lw_p39, List.forall_mem_cons.mpr ⟨lw_p40, List.forall_mem_cons.mpr ⟨lw_p41, List.forall_mem_cons.mpr ⟨lw_p42, List.forall_mem_cons.mpr ⟨lw_p43, List.forall_mem_cons.mpr ⟨lw_p44, List.forall_mem_cons.mpr ⟨lw_p45, List.forall_mem_cons.mpr ⟨lw_p46, List.forall_mem_cons.mpr ⟨lw_p47, fun _ h => absurd h List.not_mem_nil⟩⟩⟩⟩⟩⟩⟩⟩⟩⟩⟩⟩⟩⟩⟩⟩
theorem lw_p48 : lw_okq (⟨"BolsterBedsModel", "crossWith", "(II)I"⟩, 17) := ⟨⟨by decide +kernel, by decide +kernel⟩, List.mem_of_getElem? (i := 819) (by decide +kernel), List.mem_of_getElem? (i := 1107) (by decide +kernel), List.mem_of_getElem? (i := 1108) (by decide +kernel)⟩
theorem lw_p49 : lw_okq (⟨"BolsterBedsModel", "wantsRight", "(II)Z"⟩, 17) := ⟨⟨by decide +kernel, by decide +kernel⟩, List.mem_of_getElem? (i := 819) (by decide +kernel), List.mem_of_getElem? (i := 1115) (by decide +kernel), List.mem_of_getElem? (i := 1116) (by decide +kernel)⟩
theorem lw_p50 : lw_okq (⟨"BolsterBedsModel", "against", "(I)I"⟩, 17) := ⟨⟨by decide +kernel, by decide +kernel⟩, List.mem_of_getElem? (i := 819) (by decide +kernel), List.mem_of_getElem? (i := 1123) (by decide +kernel), List.mem_of_getElem? (i := 1124) (by decide +kernel)⟩
theorem lw_p51 : lw_okq (⟨"BolsterBedsModel", "crossedSo", "(IIII)Z"⟩, 17) := ⟨⟨by decide +kernel, by decide +kernel⟩, List.mem_of_getElem? (i := 819) (by decide +kernel), List.mem_of_getElem? (i := 1128) (by decide +kernel), List.mem_of_getElem? (i := 1129) (by decide +kernel)⟩
theorem lw_p52 : lw_okq (⟨"BolsterBedsModel", "dueNow", "()I"⟩, 17) := ⟨⟨by decide +kernel, by decide +kernel⟩, List.mem_of_getElem? (i := 819) (by decide +kernel), List.mem_of_getElem? (i := 1150) (by decide +kernel), List.mem_of_getElem? (i := 1151) (by decide +kernel)⟩
theorem lw_p53 : lw_okq (⟨"BolsterBedsModel", "waysOf", "(III)J"⟩, 17) := ⟨⟨by decide +kernel, by decide +kernel⟩, List.mem_of_getElem? (i := 819) (by decide +kernel), List.mem_of_getElem? (i := 1157) (by decide +kernel), List.mem_of_getElem? (i := 1158) (by decide +kernel)⟩
theorem lw_p54 : lw_okq (⟨"BolsterBedsModel", "allWays", "(I)J"⟩, 17) := ⟨⟨by decide +kernel, by decide +kernel⟩, List.mem_of_getElem? (i := 819) (by decide +kernel), List.mem_of_getElem? (i := 1164) (by decide +kernel), List.mem_of_getElem? (i := 1165) (by decide +kernel)⟩
theorem lw_p55 : lw_okq (⟨"BolsterBedsModel", "tellsParts", "(JJ)I"⟩, 17) := ⟨⟨by decide +kernel, by decide +kernel⟩, List.mem_of_getElem? (i := 819) (by decide +kernel), List.mem_of_getElem? (i := 1168) (by decide +kernel), List.mem_of_getElem? (i := 1169) (by decide +kernel)⟩
theorem lw_p56 : lw_okq (⟨"BolsterBedsModel", "countOf", "(I)I"⟩, 17) := ⟨⟨by decide +kernel, by decide +kernel⟩, List.mem_of_getElem? (i := 819) (by decide +kernel), List.mem_of_getElem? (i := 1202) (by decide +kernel), List.mem_of_getElem? (i := 1203) (by decide +kernel)⟩
theorem lw_p57 : lw_okq (⟨"BolsterBedsModel", "mix", "(J)V"⟩, 17) := ⟨⟨by decide +kernel, by decide +kernel⟩, List.mem_of_getElem? (i := 819) (by decide +kernel), List.mem_of_getElem? (i := 1219) (by decide +kernel), List.mem_of_getElem? (i := 1220) (by decide +kernel)⟩
def lw_privs_4 : List (MethodName × Nat) := [(⟨"BolsterBedsModel", "crossWith", "(II)I"⟩, 17), (⟨"BolsterBedsModel", "wantsRight", "(II)Z"⟩, 17), (⟨"BolsterBedsModel", "against", "(I)I"⟩, 17), (⟨"BolsterBedsModel", "crossedSo", "(IIII)Z"⟩, 17), (⟨"BolsterBedsModel", "dueNow", "()I"⟩, 17), (⟨"BolsterBedsModel", "waysOf", "(III)J"⟩, 17), (⟨"BolsterBedsModel", "allWays", "(I)J"⟩, 17), (⟨"BolsterBedsModel", "tellsParts", "(JJ)I"⟩, 17), (⟨"BolsterBedsModel", "countOf", "(I)I"⟩, 17), (⟨"BolsterBedsModel", "mix", "(J)V"⟩, 17)]
theorem lw_r4 : ∀ q ∈ lw_privs_4, lw_okq q := List.forall_mem_cons.mpr ⟨lw_p48, List.forall_mem_cons.mpr ⟨lw_p49, List.forall_mem_cons.mpr ⟨lw_p50, List.forall_mem_cons.mpr ⟨lw_p51, List.forall_mem_cons.mpr ⟨lw_p52, List.forall_mem_cons.mpr ⟨lw_p53, List.forall_mem_cons.mpr ⟨lw_p54, List.forall_mem_cons.mpr ⟨lw_p55, List.forall_mem_cons.mpr ⟨lw_p56, List.forall_mem_cons.mpr ⟨lw_p57, fun _ h => absurd h List.not_mem_nil⟩⟩⟩⟩⟩⟩⟩⟩⟩⟩
def lw_privs : List (MethodName × Nat) := lw_privs_1 ++ (lw_privs_2 ++ (lw_privs_3 ++ (lw_privs_4)))
def lw_tbl : List Cond := k2_sels lw_privs ++ tables_1
theorem lw_privs_ok : ∀ q ∈ lw_privs, lw_okq q := by
  show ∀ q ∈ lw_privs_1 ++ (lw_privs_2 ++ (lw_privs_3 ++ (lw_privs_4))), lw_okq q
  exact List.forall_mem_append.mpr ⟨lw_r1, List.forall_mem_append.mpr ⟨lw_r2, List.forall_mem_append.mpr ⟨lw_r3, lw_r4⟩⟩⟩
/-- the words that may stand in a contract, and the nest mates' -/
def lw_good : List Cond := lw_tbl.filter goodWord
def lw_isN : Cond → Bool
  | .fieldLinkNest _ _ _ _ _ _ => true
  | .methodLinkNest _ _ _ _ => true
  | _ => false
def lw_nest : List Cond := lw_tbl.filter lw_isN
theorem lw_g {w : Cond} (i : Nat) (h : lw_tbl[i]? = some w) (hg : goodWord w = true) : w ∈ lw_good := List.mem_filter.mpr ⟨List.mem_of_getElem? h, hg⟩
theorem lw_n {w : Cond} (i : Nat) (h : lw_tbl[i]? = some w) (hg : lw_isN w = true) : w ∈ lw_nest := List.mem_filter.mpr ⟨List.mem_of_getElem? h, hg⟩
end
section
def RX0 : String := "BolsterBeds$Clues"
def TX0 : u_T := fun k => match k with
  | 0 => ("BolsterBeds$Clues", "nights", "[I", true)
  | 1 => ("BolsterBeds$Clues", "crossings", "[I", true)
  | 2 => ("BolsterBeds$Clues", "fitting", "[I", true)
  | 3 => ("BolsterBeds$Clues", "parts", "[I", true)
  | 4 => ("BolsterBeds$Clues", "pairs", "I", false)
  | _ => ("BolsterBeds$Clues", "greatest", "I", false)
def tyX0 : Nat → FieldType := fun k => match k with
  | 0 => .array .int
  | 1 => .array .int
  | 2 => .array .int
  | 3 => .array .int
  | 4 => .int
  | _ => .int
theorem nmX0 : ∀ a, a < 6 → ∀ b, b < 6 → a ≠ b → (TX0 a).2.1 ≠ (TX0 b).2.1 := by decide +kernel
theorem tyX0_ok : ∀ k, k < 6 → parseFieldDescriptor (TX0 k).2.2.1 = some (tyX0 k) := by decide +kernel
abbrev cX0_init : ByteArray := prog_2_method_1_code
def yX0_init : MethodName := ⟨RX0, "<init>", "()V"⟩
abbrev cX0_take : ByteArray := prog_2_method_2_code
def yX0_take : MethodName := ⟨RX0, "take", "(LBolsterBeds$Shelf;I)Z"⟩
abbrev cX0_thicksFitting : ByteArray := prog_2_method_3_code
def yX0_thicksFitting : MethodName := ⟨RX0, "thicksFitting", "(LBolsterBeds$Town;II)I"⟩
abbrev cX0_kindsFitting : ByteArray := prog_2_method_4_code
def yX0_kindsFitting : MethodName := ⟨RX0, "kindsFitting", "(LBolsterBeds$Town;II)I"⟩
abbrev cX0_tellingNight : ByteArray := prog_2_method_5_code
def yX0_tellingNight : MethodName := ⟨RX0, "tellingNight", "(LBolsterBeds$Town;I)I"⟩
abbrev cX0_greatestPart : ByteArray := prog_2_method_6_code
def yX0_greatestPart : MethodName := ⟨RX0, "greatestPart", "(LBolsterBeds$Town;II)I"⟩
abbrev cX0_fits : ByteArray := prog_2_method_7_code
def yX0_fits : MethodName := ⟨RX0, "fits", "(LBolsterBeds$Town;III)Z"⟩
def RX1 : String := "BolsterBeds$Duel"
def TX1 : u_T := fun k => match k with
  | _ => ("BolsterBeds$Duel", "levels", "LBolsterBeds$Levels;", true)
def tyX1 : Nat → FieldType := fun k => match k with
  | _ => .object "BolsterBeds$Levels"
theorem nmX1 : ∀ a, a < 1 → ∀ b, b < 1 → a ≠ b → (TX1 a).2.1 ≠ (TX1 b).2.1 := by decide +kernel
theorem tyX1_ok : ∀ k, k < 1 → parseFieldDescriptor (TX1 k).2.2.1 = some (tyX1 k) := by decide +kernel
abbrev cX1_init : ByteArray := prog_3_method_1_code
def yX1_init : MethodName := ⟨RX1, "<init>", "()V"⟩
abbrev cX1_foundFrom : ByteArray := prog_3_method_2_code
def yX1_foundFrom : MethodName := ⟨RX1, "foundFrom", "(LBolsterBeds$Town;II)I"⟩
abbrev cX1_fewestFrom : ByteArray := prog_3_method_3_code
def yX1_fewestFrom : MethodName := ⟨RX1, "fewestFrom", "(LBolsterBeds$Town;II)I"⟩
abbrev cX1_mostFrom : ByteArray := prog_3_method_4_code
def yX1_mostFrom : MethodName := ⟨RX1, "mostFrom", "(LBolsterBeds$Town;II)I"⟩
def RX2 : String := "BolsterBeds$Levels"
def TX2 : u_T := fun k => match k with
  | _ => ("BolsterBeds$Levels", "towns", "[LBolsterBeds$Town;", true)
def tyX2 : Nat → FieldType := fun k => match k with
  | _ => .array (.object "BolsterBeds$Town")
theorem nmX2 : ∀ a, a < 1 → ∀ b, b < 1 → a ≠ b → (TX2 a).2.1 ≠ (TX2 b).2.1 := by decide +kernel
theorem tyX2_ok : ∀ k, k < 1 → parseFieldDescriptor (TX2 k).2.2.1 = some (tyX2 k) := by decide +kernel
abbrev cX2_init : ByteArray := prog_4_method_1_code
def yX2_init : MethodName := ⟨RX2, "<init>", "(I)V"⟩
abbrev cX2_copyAt : ByteArray := prog_4_method_2_code
def yX2_copyAt : MethodName := ⟨RX2, "copyAt", "(ILBolsterBeds$Town;)LBolsterBeds$Town;"⟩
def RX3 : String := "BolsterBeds$Marriages"
def TX3 : u_T := fun k => match k with
  | 0 => ("BolsterBeds$Marriages", "first", "[I", true)
  | 1 => ("BolsterBeds$Marriages", "way", "[I", true)
  | _ => ("BolsterBeds$Marriages", "fewest", "I", false)
def tyX3 : Nat → FieldType := fun k => match k with
  | 0 => .array .int
  | 1 => .array .int
  | _ => .int
theorem nmX3 : ∀ a, a < 3 → ∀ b, b < 3 → a ≠ b → (TX3 a).2.1 ≠ (TX3 b).2.1 := by decide +kernel
theorem tyX3_ok : ∀ k, k < 3 → parseFieldDescriptor (TX3 k).2.2.1 = some (tyX3 k) := by decide +kernel
abbrev cX3_init : ByteArray := prog_5_method_1_code
def yX3_init : MethodName := ⟨RX3, "<init>", "()V"⟩
abbrev cX3_fewestCrossing : ByteArray := prog_5_method_2_code
def yX3_fewestCrossing : MethodName := ⟨RX3, "fewestCrossing", "(LBolsterBeds$Town;)I"⟩
abbrev cX3_give : ByteArray := prog_5_method_3_code
def yX3_give : MethodName := ⟨RX3, "give", "(LBolsterBeds$Town;III)V"⟩
def RX4 : String := "BolsterBeds$Reader"
def TX4 : u_T := fun k => match k with
  | 0 => ("BolsterBeds$Reader", "draft", "LBolsterBeds$Town;", true)
  | 1 => ("BolsterBeds$Reader", "signs", "[I", true)
  | 2 => ("BolsterBeds$Reader", "size", "I", false)
  | _ => ("BolsterBeds$Reader", "place", "I", false)
def tyX4 : Nat → FieldType := fun k => match k with
  | 0 => .object "BolsterBeds$Town"
  | 1 => .array .int
  | 2 => .int
  | _ => .int
theorem nmX4 : ∀ a, a < 4 → ∀ b, b < 4 → a ≠ b → (TX4 a).2.1 ≠ (TX4 b).2.1 := by decide +kernel
theorem tyX4_ok : ∀ k, k < 4 → parseFieldDescriptor (TX4 k).2.2.1 = some (tyX4 k) := by decide +kernel
abbrev cX4_init : ByteArray := prog_6_method_1_code
def yX4_init : MethodName := ⟨RX4, "<init>", "()V"⟩
abbrev cX4_readTown : ByteArray := prog_6_method_2_code
def yX4_readTown : MethodName := ⟨RX4, "readTown", "(LBolsterBeds$Shelf;I)I"⟩
abbrev cX4_takesHead : ByteArray := prog_6_method_3_code
def yX4_takesHead : MethodName := ⟨RX4, "takesHead", "()Z"⟩
abbrev cX4_takesBed : ByteArray := prog_6_method_4_code
def yX4_takesBed : MethodName := ⟨RX4, "takesBed", "()Z"⟩
abbrev cX4_skipBlanks : ByteArray := prog_6_method_5_code
def yX4_skipBlanks : MethodName := ⟨RX4, "skipBlanks", "()V"⟩
abbrev cX4_kindHere : ByteArray := prog_6_method_6_code
def yX4_kindHere : MethodName := ⟨RX4, "kindHere", "()I"⟩
abbrev cX4_takeFigure : ByteArray := prog_6_method_7_code
def yX4_takeFigure : MethodName := ⟨RX4, "takeFigure", "(I)I"⟩
abbrev cX4_here : ByteArray := prog_6_method_8_code
def yX4_here : MethodName := ⟨RX4, "here", "()I"⟩
def RX5 : String := "BolsterBeds$Rounds"
def TX5 : u_T := fun k => match k with
  | 0 => ("BolsterBeds$Rounds", "levels", "LBolsterBeds$Levels;", true)
  | 1 => ("BolsterBeds$Rounds", "first", "[I", true)
  | 2 => ("BolsterBeds$Rounds", "trail", "[I", true)
  | _ => ("BolsterBeds$Rounds", "most", "I", false)
def tyX5 : Nat → FieldType := fun k => match k with
  | 0 => .object "BolsterBeds$Levels"
  | 1 => .array .int
  | 2 => .array .int
  | _ => .int
theorem nmX5 : ∀ a, a < 4 → ∀ b, b < 4 → a ≠ b → (TX5 a).2.1 ≠ (TX5 b).2.1 := by decide +kernel
theorem tyX5_ok : ∀ k, k < 4 → parseFieldDescriptor (TX5 k).2.2.1 = some (tyX5 k) := by decide +kernel
abbrev cX5_init : ByteArray := prog_7_method_1_code
def yX5_init : MethodName := ⟨RX5, "<init>", "()V"⟩
abbrev cX5_mostFound : ByteArray := prog_7_method_2_code
def yX5_mostFound : MethodName := ⟨RX5, "mostFound", "(LBolsterBeds$Town;I)I"⟩
abbrev cX5_goOn : ByteArray := prog_7_method_3_code
def yX5_goOn : MethodName := ⟨RX5, "goOn", "(LBolsterBeds$Town;III)V"⟩
abbrev cX5_takeIfMore : ByteArray := prog_7_method_4_code
def yX5_takeIfMore : MethodName := ⟨RX5, "takeIfMore", "(I)V"⟩
def RX6 : String := "BolsterBeds$Shelf"
def TX6 : u_T := fun k => match k with
  | 0 => ("BolsterBeds$Shelf", "room", "I", true)
  | 1 => ("BolsterBeds$Shelf", "sizes", "[I", true)
  | _ => ("BolsterBeds$Shelf", "places", "[I", true)
def tyX6 : Nat → FieldType := fun k => match k with
  | 0 => .int
  | 1 => .array .int
  | _ => .array .int
theorem nmX6 : ∀ a, a < 3 → ∀ b, b < 3 → a ≠ b → (TX6 a).2.1 ≠ (TX6 b).2.1 := by decide +kernel
theorem tyX6_ok : ∀ k, k < 3 → parseFieldDescriptor (TX6 k).2.2.1 = some (tyX6 k) := by decide +kernel
abbrev cX6_init : ByteArray := prog_8_method_1_code
def yX6_init : MethodName := ⟨RX6, "<init>", "(II)V"⟩
abbrev cX6_isNumber : ByteArray := prog_8_method_2_code
def yX6_isNumber : MethodName := ⟨RX6, "isNumber", "(I)Z"⟩
abbrev cX6_stands : ByteArray := prog_8_method_3_code
def yX6_stands : MethodName := ⟨RX6, "stands", "(I)Z"⟩
abbrev cX6_size : ByteArray := prog_8_method_4_code
def yX6_size : MethodName := ⟨RX6, "size", "(I)I"⟩
abbrev cX6_standing : ByteArray := prog_8_method_5_code
def yX6_standing : MethodName := ⟨RX6, "standing", "()I"⟩
abbrev cX6_holds : ByteArray := prog_8_method_6_code
def yX6_holds : MethodName := ⟨RX6, "holds", "(III)Z"⟩
abbrev cX6_get : ByteArray := prog_8_method_7_code
def yX6_get : MethodName := ⟨RX6, "get", "(II)I"⟩
abbrev cX6_set : ByteArray := prog_8_method_8_code
def yX6_set : MethodName := ⟨RX6, "set", "(III)V"⟩
abbrev cX6_make : ByteArray := prog_8_method_9_code
def yX6_make : MethodName := ⟨RX6, "make", "(III)V"⟩
abbrev cX6_makeOf : ByteArray := prog_8_method_10_code
def yX6_makeOf : MethodName := ⟨RX6, "makeOf", "(II[I)V"⟩
abbrev cX6_remove : ByteArray := prog_8_method_11_code
def yX6_remove : MethodName := ⟨RX6, "remove", "(I)V"⟩
abbrev cX6_removeAll : ByteArray := prog_8_method_12_code
def yX6_removeAll : MethodName := ⟨RX6, "removeAll", "()V"⟩
abbrev cX6_move : ByteArray := prog_8_method_13_code
def yX6_move : MethodName := ⟨RX6, "move", "(IIIII)V"⟩
abbrev cX6_digestOn : ByteArray := prog_8_method_14_code
def yX6_digestOn : MethodName := ⟨RX6, "digestOn", "(J)J"⟩
def RX7 : String := "BolsterBeds$Town"
def TX7 : u_T := fun k => match k with
  | 0 => ("BolsterBeds$Town", "colds", "[I", true)
  | 1 => ("BolsterBeds$Town", "kinds", "[I", true)
  | 2 => ("BolsterBeds$Town", "lefts", "[I", true)
  | 3 => ("BolsterBeds$Town", "rights", "[I", true)
  | 4 => ("BolsterBeds$Town", "thicks", "[I", true)
  | 5 => ("BolsterBeds$Town", "lying", "[I", true)
  | 6 => ("BolsterBeds$Town", "timesFound", "[I", true)
  | 7 => ("BolsterBeds$Town", "thread", "I", false)
  | 8 => ("BolsterBeds$Town", "beds", "I", false)
  | _ => ("BolsterBeds$Town", "night", "I", false)
def tyX7 : Nat → FieldType := fun k => match k with
  | 0 => .array .int
  | 1 => .array .int
  | 2 => .array .int
  | 3 => .array .int
  | 4 => .array .int
  | 5 => .array .int
  | 6 => .array .int
  | 7 => .int
  | 8 => .int
  | _ => .int
theorem nmX7 : ∀ a, a < 10 → ∀ b, b < 10 → a ≠ b → (TX7 a).2.1 ≠ (TX7 b).2.1 := by decide +kernel
theorem tyX7_ok : ∀ k, k < 10 → parseFieldDescriptor (TX7 k).2.2.1 = some (tyX7 k) := by decide +kernel
abbrev cX7_init : ByteArray := prog_9_method_1_code
def yX7_init : MethodName := ⟨RX7, "<init>", "()V"⟩
abbrev cX7_copyFrom : ByteArray := prog_9_method_2_code
def yX7_copyFrom : MethodName := ⟨RX7, "copyFrom", "(LBolsterBeds$Town;)V"⟩
abbrev cX7_has : ByteArray := prog_9_method_3_code
def yX7_has : MethodName := ⟨RX7, "has", "(I)Z"⟩
abbrev cX7_kindOf : ByteArray := prog_9_method_4_code
def yX7_kindOf : MethodName := ⟨RX7, "kindOf", "(I)I"⟩
abbrev cX7_thickOf : ByteArray := prog_9_method_5_code
def yX7_thickOf : MethodName := ⟨RX7, "thickOf", "(I)I"⟩
abbrev cX7_liesIn : ByteArray := prog_9_method_6_code
def yX7_liesIn : MethodName := ⟨RX7, "liesIn", "(I)I"⟩
abbrev cX7_coldOf : ByteArray := prog_9_method_7_code
def yX7_coldOf : MethodName := ⟨RX7, "coldOf", "(I)I"⟩
abbrev cX7_gapWith : ByteArray := prog_9_method_8_code
def yX7_gapWith : MethodName := ⟨RX7, "gapWith", "(II)I"⟩
abbrev cX7_crossesWith : ByteArray := prog_9_method_9_code
def yX7_crossesWith : MethodName := ⟨RX7, "crossesWith", "(II)I"⟩
abbrev cX7_crossesAs : ByteArray := prog_9_method_10_code
def yX7_crossesAs : MethodName := ⟨RX7, "crossesAs", "(IIII)I"⟩
abbrev cX7_crossesIn : ByteArray := prog_9_method_11_code
def yX7_crossesIn : MethodName := ⟨RX7, "crossesIn", "(II)I"⟩
abbrev cX7_about : ByteArray := prog_9_method_12_code
def yX7_about : MethodName := ⟨RX7, "about", "(II)I"⟩
abbrev cX7_wouldBeFound : ByteArray := prog_9_method_13_code
def yX7_wouldBeFound : MethodName := ⟨RX7, "wouldBeFound", "(I)Z"⟩
abbrev cX7_wouldBeFoundBits : ByteArray := prog_9_method_14_code
def yX7_wouldBeFoundBits : MethodName := ⟨RX7, "wouldBeFoundBits", "()I"⟩
abbrev cX7_fines : ByteArray := prog_9_method_15_code
def yX7_fines : MethodName := ⟨RX7, "fines", "()I"⟩
abbrev cX7_liesInAll : ByteArray := prog_9_method_16_code
def yX7_liesInAll : MethodName := ⟨RX7, "liesInAll", "()I"⟩
abbrev cX7_quilts : ByteArray := prog_9_method_17_code
def yX7_quilts : MethodName := ⟨RX7, "quilts", "()I"⟩
abbrev cX7_mostLying : ByteArray := prog_9_method_18_code
def yX7_mostLying : MethodName := ⟨RX7, "mostLying", "(I)I"⟩
abbrev cX7_carryOut : ByteArray := prog_9_method_19_code
def yX7_carryOut : MethodName := ⟨RX7, "carryOut", "(I)I"⟩
abbrev cX7_passNight : ByteArray := prog_9_method_20_code
def yX7_passNight : MethodName := ⟨RX7, "passNight", "()I"⟩
abbrev cX7_passAlone : ByteArray := prog_9_method_21_code
def yX7_passAlone : MethodName := ⟨RX7, "passAlone", "(II)V"⟩
abbrev cX7_sleepIn : ByteArray := prog_9_method_22_code
def yX7_sleepIn : MethodName := ⟨RX7, "sleepIn", "(I)I"⟩
abbrev cX7_inspectBed : ByteArray := prog_9_method_23_code
def yX7_inspectBed : MethodName := ⟨RX7, "inspectBed", "(I)I"⟩
abbrev cX7_thinBed : ByteArray := prog_9_method_24_code
def yX7_thinBed : MethodName := ⟨RX7, "thinBed", "(II)V"⟩
abbrev cX7_swapRights : ByteArray := prog_9_method_25_code
def yX7_swapRights : MethodName := ⟨RX7, "swapRights", "(II)V"⟩
abbrev cX7_clearBeds : ByteArray := prog_9_method_26_code
def yX7_clearBeds : MethodName := ⟨RX7, "clearBeds", "()V"⟩
abbrev cX7_addBed : ByteArray := prog_9_method_27_code
def yX7_addBed : MethodName := ⟨RX7, "addBed", "(IIII)V"⟩
def RX8 : String := "BolsterBeds"
def TX8 : u_T := fun k => match k with
  | 0 => ("BolsterBeds", "rows", "LBolsterBeds$Shelf;", true)
  | 1 => ("BolsterBeds", "texts", "LBolsterBeds$Shelf;", true)
  | 2 => ("BolsterBeds", "kept", "LBolsterBeds$Shelf;", true)
  | 3 => ("BolsterBeds", "start", "LBolsterBeds$Town;", true)
  | 4 => ("BolsterBeds", "now", "LBolsterBeds$Town;", true)
  | 5 => ("BolsterBeds", "aside", "LBolsterBeds$Town;", true)
  | 6 => ("BolsterBeds", "deeds", "[I", true)
  | 7 => ("BolsterBeds", "deedCount", "I", false)
  | 8 => ("BolsterBeds", "reader", "LBolsterBeds$Reader;", true)
  | 9 => ("BolsterBeds", "rounds", "LBolsterBeds$Rounds;", true)
  | 10 => ("BolsterBeds", "marriages", "LBolsterBeds$Marriages;", true)
  | 11 => ("BolsterBeds", "clues", "LBolsterBeds$Clues;", true)
  | 12 => ("BolsterBeds", "turns", "LBolsterBeds$Duel;", true)
  | 13 => ("BolsterBeds", "told", "I", false)
  | 14 => ("BolsterBeds", "high", "J", false)
  | 15 => ("BolsterBeds", "low", "J", false)
  | 16 => ("BolsterBeds", "latestFinding", "I", false)
  | _ => ("BolsterBeds", "findingCounts", "[I", true)
def tyX8 : Nat → FieldType := fun k => match k with
  | 0 => .object "BolsterBeds$Shelf"
  | 1 => .object "BolsterBeds$Shelf"
  | 2 => .object "BolsterBeds$Shelf"
  | 3 => .object "BolsterBeds$Town"
  | 4 => .object "BolsterBeds$Town"
  | 5 => .object "BolsterBeds$Town"
  | 6 => .array .int
  | 7 => .int
  | 8 => .object "BolsterBeds$Reader"
  | 9 => .object "BolsterBeds$Rounds"
  | 10 => .object "BolsterBeds$Marriages"
  | 11 => .object "BolsterBeds$Clues"
  | 12 => .object "BolsterBeds$Duel"
  | 13 => .int
  | 14 => .long
  | 15 => .long
  | 16 => .int
  | _ => .array .int
theorem nmX8 : ∀ a, a < 18 → ∀ b, b < 18 → a ≠ b → (TX8 a).2.1 ≠ (TX8 b).2.1 := by decide +kernel
theorem tyX8_ok : ∀ k, k < 18 → parseFieldDescriptor (TX8 k).2.2.1 = some (tyX8 k) := by decide +kernel
abbrev cX8_init : ByteArray := prog_1_method_1_code
def yX8_init : MethodName := ⟨RX8, "<init>", "()V"⟩
abbrev cX8_row : ByteArray := prog_1_method_2_code
def yX8_row : MethodName := ⟨RX8, "row", "(II)I"⟩
abbrev cX8_lay : ByteArray := prog_1_method_3_code
def yX8_lay : MethodName := ⟨RX8, "lay", "(III)I"⟩
abbrev cX8_at : ByteArray := prog_1_method_4_code
def yX8_at : MethodName := ⟨RX8, "at", "(II)I"⟩
abbrev cX8_tear : ByteArray := prog_1_method_5_code
def yX8_tear : MethodName := ⟨RX8, "tear", "(I)I"⟩
abbrev cX8_copy : ByteArray := prog_1_method_6_code
def yX8_copy : MethodName := ⟨RX8, "copy", "(IIIII)I"⟩
abbrev cX8_mean : ByteArray := prog_1_method_7_code
def yX8_mean : MethodName := ⟨RX8, "mean", "(I)I"⟩
abbrev cX8_text : ByteArray := prog_1_method_8_code
def yX8_text : MethodName := ⟨RX8, "text", "(II)I"⟩
abbrev cX8_put : ByteArray := prog_1_method_9_code
def yX8_put : MethodName := ⟨RX8, "put", "(III)I"⟩
abbrev cX8_fault : ByteArray := prog_1_method_10_code
def yX8_fault : MethodName := ⟨RX8, "fault", "(I)I"⟩
abbrev cX8_town : ByteArray := prog_1_method_11_code
def yX8_town : MethodName := ⟨RX8, "town", "(I)I"⟩
abbrev cX8_bed : ByteArray := prog_1_method_12_code
def yX8_bed : MethodName := ⟨RX8, "bed", "(II)I"⟩
abbrev cX8_mark : ByteArray := prog_1_method_13_code
def yX8_mark : MethodName := ⟨RX8, "mark", "(II)I"⟩
abbrev cX8_cross : ByteArray := prog_1_method_14_code
def yX8_cross : MethodName := ⟨RX8, "cross", "(II)I"⟩
abbrev cX8_night : ByteArray := prog_1_method_15_code
def yX8_night : MethodName := ⟨RX8, "night", "()I"⟩
abbrev cX8_inspect : ByteArray := prog_1_method_16_code
def yX8_inspect : MethodName := ⟨RX8, "inspect", "(I)I"⟩
abbrev cX8_thin : ByteArray := prog_1_method_17_code
def yX8_thin : MethodName := ⟨RX8, "thin", "(I)I"⟩
abbrev cX8_swap : ByteArray := prog_1_method_18_code
def yX8_swap : MethodName := ⟨RX8, "swap", "(II)I"⟩
abbrev cX8_undo : ByteArray := prog_1_method_19_code
def yX8_undo : MethodName := ⟨RX8, "undo", "(I)I"⟩
abbrev cX8_keep : ByteArray := prog_1_method_20_code
def yX8_keep : MethodName := ⟨RX8, "keep", "(I)I"⟩
abbrev cX8_on : ByteArray := prog_1_method_21_code
def yX8_on : MethodName := ⟨RX8, "on", "(I)I"⟩
abbrev cX8_then : ByteArray := prog_1_method_22_code
def yX8_then : MethodName := ⟨RX8, "then", "(II)I"⟩
abbrev cX8_when : ByteArray := prog_1_method_23_code
def yX8_when : MethodName := ⟨RX8, "when", "(I)I"⟩
abbrev cX8_least : ByteArray := prog_1_method_24_code
def yX8_least : MethodName := ⟨RX8, "least", "(II)I"⟩
abbrev cX8_round : ByteArray := prog_1_method_25_code
def yX8_round : MethodName := ⟨RX8, "round", "(II)I"⟩
abbrev cX8_brings : ByteArray := prog_1_method_26_code
def yX8_brings : MethodName := ⟨RX8, "brings", "(I)I"⟩
abbrev cX8_marry : ByteArray := prog_1_method_27_code
def yX8_marry : MethodName := ⟨RX8, "marry", "(I)I"⟩
abbrev cX8_rather : ByteArray := prog_1_method_28_code
def yX8_rather : MethodName := ⟨RX8, "rather", "()I"⟩
abbrev cX8_thicks : ByteArray := prog_1_method_29_code
def yX8_thicks : MethodName := ⟨RX8, "thicks", "(II)I"⟩
abbrev cX8_kinds : ByteArray := prog_1_method_30_code
def yX8_kinds : MethodName := ⟨RX8, "kinds", "(II)I"⟩
abbrev cX8_test : ByteArray := prog_1_method_31_code
def yX8_test : MethodName := ⟨RX8, "test", "(II)I"⟩
abbrev cX8_duel : ByteArray := prog_1_method_32_code
def yX8_duel : MethodName := ⟨RX8, "duel", "(I)I"⟩
abbrev cX8_odds : ByteArray := prog_1_method_33_code
def yX8_odds : MethodName := ⟨RX8, "odds", "(II)I"⟩
abbrev cX8_mid : ByteArray := prog_1_method_34_code
def yX8_mid : MethodName := ⟨RX8, "mid", "(I)I"⟩
abbrev cX8_lots : ByteArray := prog_1_method_35_code
def yX8_lots : MethodName := ⟨RX8, "lots", "(II)I"⟩
abbrev cX8_asked : ByteArray := prog_1_method_36_code
def yX8_asked : MethodName := ⟨RX8, "asked", "()I"⟩
abbrev cX8_upper : ByteArray := prog_1_method_37_code
def yX8_upper : MethodName := ⟨RX8, "upper", "()J"⟩
abbrev cX8_lower : ByteArray := prog_1_method_38_code
def yX8_lower : MethodName := ⟨RX8, "lower", "()J"⟩
abbrev cX8_count : ByteArray := prog_1_method_39_code
def yX8_count : MethodName := ⟨RX8, "count", "(I)I"⟩
abbrev cX8_finding : ByteArray := prog_1_method_40_code
def yX8_finding : MethodName := ⟨RX8, "finding", "()I"⟩
abbrev cX8_findings : ByteArray := prog_1_method_41_code
def yX8_findings : MethodName := ⟨RX8, "findings", "(I)I"⟩
abbrev cX8_digest : ByteArray := prog_1_method_42_code
def yX8_digest : MethodName := ⟨RX8, "digest", "()J"⟩
abbrev cX8_tell : ByteArray := prog_1_method_43_code
def yX8_tell : MethodName := ⟨RX8, "tell", "(I)I"⟩
abbrev cX8_refuse : ByteArray := prog_1_method_44_code
def yX8_refuse : MethodName := ⟨RX8, "refuse", "(I)I"⟩
abbrev cX8_makeAnew : ByteArray := prog_1_method_45_code
def yX8_makeAnew : MethodName := ⟨RX8, "makeAnew", "(LBolsterBeds$Shelf;III)I"⟩
abbrev cX8_refusalOfMissing : ByteArray := prog_1_method_46_code
def yX8_refusalOfMissing : MethodName := ⟨RX8, "refusalOfMissing", "(LBolsterBeds$Shelf;I)I"⟩
abbrev cX8_refusalOfPlace : ByteArray := prog_1_method_47_code
def yX8_refusalOfPlace : MethodName := ⟨RX8, "refusalOfPlace", "(LBolsterBeds$Shelf;II)I"⟩
abbrev cX8_takePairs : ByteArray := prog_1_method_48_code
def yX8_takePairs : MethodName := ⟨RX8, "takePairs", "(II)I"⟩
abbrev cX8_isRound : ByteArray := prog_1_method_49_code
def yX8_isRound : MethodName := ⟨RX8, "isRound", "(I)Z"⟩
abbrev cX8_enact : ByteArray := prog_1_method_50_code
def yX8_enact : MethodName := ⟨RX8, "enact", "(III)I"⟩
abbrev cX8_redoFromStart : ByteArray := prog_1_method_51_code
def yX8_redoFromStart : MethodName := ⟨RX8, "redoFromStart", "()V"⟩
abbrev cX8_tellChance : ByteArray := prog_1_method_52_code
def yX8_tellChance : MethodName := ⟨RX8, "tellChance", "(JJ)I"⟩
abbrev cX8_waysOfReport : ByteArray := prog_1_method_53_code
def yX8_waysOfReport : MethodName := ⟨RX8, "waysOfReport", "(III)J"⟩
abbrev cX8_power : ByteArray := prog_1_method_54_code
def yX8_power : MethodName := ⟨RX8, "power", "(II)J"⟩
abbrev cX8_commonDivisor : ByteArray := prog_1_method_55_code
def yX8_commonDivisor : MethodName := ⟨RX8, "commonDivisor", "(JJ)J"⟩
abbrev cX8_read : ByteArray := prog_1_method_56_code
def yX8_read : MethodName := ⟨RX8, "read", "([II)I"⟩
abbrev cX8_write : ByteArray := prog_1_method_57_code
def yX8_write : MethodName := ⟨RX8, "write", "([III)V"⟩
abbrev cX8_shift : ByteArray := prog_1_method_58_code
def yX8_shift : MethodName := ⟨RX8, "shift", "([IIII)V"⟩
abbrev cX8_copyAll : ByteArray := prog_1_method_59_code
def yX8_copyAll : MethodName := ⟨RX8, "copyAll", "([I[I)V"⟩
abbrev cX8_isOfKind : ByteArray := prog_1_method_60_code
def yX8_isOfKind : MethodName := ⟨RX8, "isOfKind", "(II)Z"⟩
abbrev cX8_barOf : ByteArray := prog_1_method_61_code
def yX8_barOf : MethodName := ⟨RX8, "barOf", "(II)I"⟩
abbrev cX8_crossing : ByteArray := prog_1_method_62_code
def yX8_crossing : MethodName := ⟨RX8, "crossing", "(IIIII)I"⟩
def RX9 : String := "BolsterBedsModel"
def TX9 : u_T := fun k => match k with
  | 0 => ("BolsterBedsModel", "w", "[I", true)
  | 1 => ("BolsterBedsModel", "deeds", "I", false)
  | 2 => ("BolsterBedsModel", "keptDeeds", "[I", true)
  | 3 => ("BolsterBedsModel", "rows", "[I", true)
  | 4 => ("BolsterBedsModel", "rowSize", "[I", true)
  | 5 => ("BolsterBedsModel", "texts", "[I", true)
  | 6 => ("BolsterBedsModel", "textSize", "[I", true)
  | 7 => ("BolsterBedsModel", "held", "[I", true)
  | 8 => ("BolsterBedsModel", "finding", "I", false)
  | 9 => ("BolsterBedsModel", "findings", "[I", true)
  | 10 => ("BolsterBedsModel", "asked", "I", false)
  | 11 => ("BolsterBedsModel", "upper", "J", false)
  | 12 => ("BolsterBedsModel", "lower", "J", false)
  | 13 => ("BolsterBedsModel", "position", "I", false)
  | 14 => ("BolsterBedsModel", "parts", "[I", true)
  | 15 => ("BolsterBedsModel", "values", "[I", true)
  | _ => ("BolsterBedsModel", "h", "J", false)
def tyX9 : Nat → FieldType := fun k => match k with
  | 0 => .array .int
  | 1 => .int
  | 2 => .array .int
  | 3 => .array .int
  | 4 => .array .int
  | 5 => .array .int
  | 6 => .array .int
  | 7 => .array .int
  | 8 => .int
  | 9 => .array .int
  | 10 => .int
  | 11 => .long
  | 12 => .long
  | 13 => .int
  | 14 => .array .int
  | 15 => .array .int
  | _ => .long
theorem nmX9 : ∀ a, a < 17 → ∀ b, b < 17 → a ≠ b → (TX9 a).2.1 ≠ (TX9 b).2.1 := by decide +kernel
theorem tyX9_ok : ∀ k, k < 17 → parseFieldDescriptor (TX9 k).2.2.1 = some (tyX9 k) := by decide +kernel
abbrev cX9_init : ByteArray := prog_11_method_1_code
def yX9_init : MethodName := ⟨RX9, "<init>", "()V"⟩
abbrev cX9_in : ByteArray := prog_11_method_3_code
def yX9_in : MethodName := ⟨RX9, "in", "(JJJ)Z"⟩
abbrev cX9_has : ByteArray := prog_11_method_4_code
def yX9_has : MethodName := ⟨RX9, "has", "(II)Z"⟩
abbrev cX9_ones : ByteArray := prog_11_method_5_code
def yX9_ones : MethodName := ⟨RX9, "ones", "(I)I"⟩
abbrev cX9_off : ByteArray := prog_11_method_6_code
def yX9_off : MethodName := ⟨RX9, "off", "(II)I"⟩
abbrev cX9_found : ByteArray := prog_11_method_7_code
def yX9_found : MethodName := ⟨RX9, "found", "(I)I"⟩
abbrev cX9_tells : ByteArray := prog_11_method_8_code
def yX9_tells : MethodName := ⟨RX9, "tells", "(II)I"⟩
abbrev cX9_copyAll : ByteArray := prog_11_method_9_code
def yX9_copyAll : MethodName := ⟨RX9, "copyAll", "(III)V"⟩
abbrev cX9_isRow : ByteArray := prog_11_method_10_code
def yX9_isRow : MethodName := ⟨RX9, "isRow", "(I)Z"⟩
abbrev cX9_isText : ByteArray := prog_11_method_11_code
def yX9_isText : MethodName := ⟨RX9, "isText", "(I)Z"⟩
abbrev cX9_anew : ByteArray := prog_11_method_12_code
def yX9_anew : MethodName := ⟨RX9, "anew", "(II)V"⟩
abbrev cX9_row : ByteArray := prog_11_method_13_code
def yX9_row : MethodName := ⟨RX9, "row", "(II)I"⟩
abbrev cX9_lay : ByteArray := prog_11_method_14_code
def yX9_lay : MethodName := ⟨RX9, "lay", "(III)I"⟩
abbrev cX9_at : ByteArray := prog_11_method_15_code
def yX9_at : MethodName := ⟨RX9, "at", "(II)I"⟩
abbrev cX9_tear : ByteArray := prog_11_method_16_code
def yX9_tear : MethodName := ⟨RX9, "tear", "(I)I"⟩
abbrev cX9_fits : ByteArray := prog_11_method_17_code
def yX9_fits : MethodName := ⟨RX9, "fits", "(III)Z"⟩
abbrev cX9_copy : ByteArray := prog_11_method_18_code
def yX9_copy : MethodName := ⟨RX9, "copy", "(IIIII)I"⟩
abbrev cX9_mean : ByteArray := prog_11_method_19_code
def yX9_mean : MethodName := ⟨RX9, "mean", "(I)I"⟩
abbrev cX9_text : ByteArray := prog_11_method_20_code
def yX9_text : MethodName := ⟨RX9, "text", "(II)I"⟩
abbrev cX9_put : ByteArray := prog_11_method_21_code
def yX9_put : MethodName := ⟨RX9, "put", "(III)I"⟩
abbrev cX9_kindOf : ByteArray := prog_11_method_22_code
def yX9_kindOf : MethodName := ⟨RX9, "kindOf", "(I)I"⟩
abbrev cX9_byteAt : ByteArray := prog_11_method_23_code
def yX9_byteAt : MethodName := ⟨RX9, "byteAt", "(II)I"⟩
abbrev cX9_blanks : ByteArray := prog_11_method_24_code
def yX9_blanks : MethodName := ⟨RX9, "blanks", "(I)V"⟩
abbrev cX9_figures : ByteArray := prog_11_method_25_code
def yX9_figures : MethodName := ⟨RX9, "figures", "(IIIII)Z"⟩
abbrev cX9_takesFirst : ByteArray := prog_11_method_26_code
def yX9_takesFirst : MethodName := ⟨RX9, "takesFirst", "(I)Z"⟩
abbrev cX9_takesBed : ByteArray := prog_11_method_27_code
def yX9_takesBed : MethodName := ⟨RX9, "takesBed", "(I)Z"⟩
abbrev cX9_faultOf : ByteArray := prog_11_method_28_code
def yX9_faultOf : MethodName := ⟨RX9, "faultOf", "(I)I"⟩
abbrev cX9_fault : ByteArray := prog_11_method_29_code
def yX9_fault : MethodName := ⟨RX9, "fault", "(I)I"⟩
abbrev cX9_town : ByteArray := prog_11_method_30_code
def yX9_town : MethodName := ⟨RX9, "town", "(I)I"⟩
abbrev cX9_isBed : ByteArray := prog_11_method_31_code
def yX9_isBed : MethodName := ⟨RX9, "isBed", "(I)Z"⟩
abbrev cX9_isTown : ByteArray := prog_11_method_32_code
def yX9_isTown : MethodName := ⟨RX9, "isTown", "()Z"⟩
abbrev cX9_barOf : ByteArray := prog_11_method_33_code
def yX9_barOf : MethodName := ⟨RX9, "barOf", "(II)I"⟩
abbrev cX9_crossBy : ByteArray := prog_11_method_34_code
def yX9_crossBy : MethodName := ⟨RX9, "crossBy", "(IIII)I"⟩
abbrev cX9_gapIn : ByteArray := prog_11_method_35_code
def yX9_gapIn : MethodName := ⟨RX9, "gapIn", "(II)I"⟩
abbrev cX9_crossIn : ByteArray := prog_11_method_36_code
def yX9_crossIn : MethodName := ⟨RX9, "crossIn", "(II)I"⟩
abbrev cX9_passes : ByteArray := prog_11_method_37_code
def yX9_passes : MethodName := ⟨RX9, "passes", "(I)I"⟩
abbrev cX9_isDue : ByteArray := prog_11_method_38_code
def yX9_isDue : MethodName := ⟨RX9, "isDue", "(II)Z"⟩
abbrev cX9_inspects : ByteArray := prog_11_method_39_code
def yX9_inspects : MethodName := ⟨RX9, "inspects", "(II)I"⟩
abbrev cX9_bedTells : ByteArray := prog_11_method_40_code
def yX9_bedTells : MethodName := ⟨RX9, "bedTells", "(II)I"⟩
abbrev cX9_bed : ByteArray := prog_11_method_41_code
def yX9_bed : MethodName := ⟨RX9, "bed", "(II)I"⟩
abbrev cX9_crossAs : ByteArray := prog_11_method_42_code
def yX9_crossAs : MethodName := ⟨RX9, "crossAs", "(II)I"⟩
abbrev cX9_mark : ByteArray := prog_11_method_43_code
def yX9_mark : MethodName := ⟨RX9, "mark", "(II)I"⟩
abbrev cX9_cross : ByteArray := prog_11_method_44_code
def yX9_cross : MethodName := ⟨RX9, "cross", "(II)I"⟩
abbrev cX9_minds : ByteArray := prog_11_method_45_code
def yX9_minds : MethodName := ⟨RX9, "minds", "()V"⟩
abbrev cX9_night : ByteArray := prog_11_method_46_code
def yX9_night : MethodName := ⟨RX9, "night", "()I"⟩
abbrev cX9_inspect : ByteArray := prog_11_method_47_code
def yX9_inspect : MethodName := ⟨RX9, "inspect", "(I)I"⟩
abbrev cX9_thin : ByteArray := prog_11_method_48_code
def yX9_thin : MethodName := ⟨RX9, "thin", "(I)I"⟩
abbrev cX9_swap : ByteArray := prog_11_method_49_code
def yX9_swap : MethodName := ⟨RX9, "swap", "(II)I"⟩
abbrev cX9_undo : ByteArray := prog_11_method_50_code
def yX9_undo : MethodName := ⟨RX9, "undo", "(I)I"⟩
abbrev cX9_isKept : ByteArray := prog_11_method_51_code
def yX9_isKept : MethodName := ⟨RX9, "isKept", "(I)Z"⟩
abbrev cX9_keep : ByteArray := prog_11_method_52_code
def yX9_keep : MethodName := ⟨RX9, "keep", "(I)I"⟩
abbrev cX9_on : ByteArray := prog_11_method_53_code
def yX9_on : MethodName := ⟨RX9, "on", "(I)I"⟩
abbrev cX9_tries : ByteArray := prog_11_method_54_code
def yX9_tries : MethodName := ⟨RX9, "tries", "()V"⟩
abbrev cX9_triesNights : ByteArray := prog_11_method_55_code
def yX9_triesNights : MethodName := ⟨RX9, "triesNights", "(I)V"⟩
abbrev cX9_then : ByteArray := prog_11_method_56_code
def yX9_then : MethodName := ⟨RX9, "then", "(II)I"⟩
abbrev cX9_when : ByteArray := prog_11_method_57_code
def yX9_when : MethodName := ⟨RX9, "when", "(I)I"⟩
abbrev cX9_least : ByteArray := prog_11_method_58_code
def yX9_least : MethodName := ⟨RX9, "least", "(II)I"⟩
abbrev cX9_round : ByteArray := prog_11_method_59_code
def yX9_round : MethodName := ⟨RX9, "round", "(II)I"⟩
abbrev cX9_brings : ByteArray := prog_11_method_60_code
def yX9_brings : MethodName := ⟨RX9, "brings", "(I)I"⟩
abbrev cX9_crossWith : ByteArray := prog_11_method_61_code
def yX9_crossWith : MethodName := ⟨RX9, "crossWith", "(II)I"⟩
abbrev cX9_marry : ByteArray := prog_11_method_62_code
def yX9_marry : MethodName := ⟨RX9, "marry", "(I)I"⟩
abbrev cX9_wantsRight : ByteArray := prog_11_method_63_code
def yX9_wantsRight : MethodName := ⟨RX9, "wantsRight", "(II)Z"⟩
abbrev cX9_rather : ByteArray := prog_11_method_64_code
def yX9_rather : MethodName := ⟨RX9, "rather", "()I"⟩
abbrev cX9_against : ByteArray := prog_11_method_65_code
def yX9_against : MethodName := ⟨RX9, "against", "(I)I"⟩
abbrev cX9_crossedSo : ByteArray := prog_11_method_66_code
def yX9_crossedSo : MethodName := ⟨RX9, "crossedSo", "(IIII)Z"⟩
abbrev cX9_thicks : ByteArray := prog_11_method_67_code
def yX9_thicks : MethodName := ⟨RX9, "thicks", "(II)I"⟩
abbrev cX9_kinds : ByteArray := prog_11_method_68_code
def yX9_kinds : MethodName := ⟨RX9, "kinds", "(II)I"⟩
abbrev cX9_test : ByteArray := prog_11_method_69_code
def yX9_test : MethodName := ⟨RX9, "test", "(II)I"⟩
abbrev cX9_duel : ByteArray := prog_11_method_70_code
def yX9_duel : MethodName := ⟨RX9, "duel", "(I)I"⟩
abbrev cX9_tellsParts : ByteArray := prog_11_method_71_code
def yX9_tellsParts : MethodName := ⟨RX9, "tellsParts", "(JJ)I"⟩
abbrev cX9_dueNow : ByteArray := prog_11_method_72_code
def yX9_dueNow : MethodName := ⟨RX9, "dueNow", "()I"⟩
abbrev cX9_waysOf : ByteArray := prog_11_method_73_code
def yX9_waysOf : MethodName := ⟨RX9, "waysOf", "(III)J"⟩
abbrev cX9_allWays : ByteArray := prog_11_method_74_code
def yX9_allWays : MethodName := ⟨RX9, "allWays", "(I)J"⟩
abbrev cX9_odds : ByteArray := prog_11_method_75_code
def yX9_odds : MethodName := ⟨RX9, "odds", "(II)I"⟩
abbrev cX9_mid : ByteArray := prog_11_method_76_code
def yX9_mid : MethodName := ⟨RX9, "mid", "(I)I"⟩
abbrev cX9_lots : ByteArray := prog_11_method_77_code
def yX9_lots : MethodName := ⟨RX9, "lots", "(II)I"⟩
abbrev cX9_asked : ByteArray := prog_11_method_78_code
def yX9_asked : MethodName := ⟨RX9, "asked", "()I"⟩
abbrev cX9_upper : ByteArray := prog_11_method_79_code
def yX9_upper : MethodName := ⟨RX9, "upper", "()J"⟩
abbrev cX9_lower : ByteArray := prog_11_method_80_code
def yX9_lower : MethodName := ⟨RX9, "lower", "()J"⟩
abbrev cX9_countOf : ByteArray := prog_11_method_81_code
def yX9_countOf : MethodName := ⟨RX9, "countOf", "(I)I"⟩
abbrev cX9_count : ByteArray := prog_11_method_82_code
def yX9_count : MethodName := ⟨RX9, "count", "(I)I"⟩
abbrev cX9_finding : ByteArray := prog_11_method_83_code
def yX9_finding : MethodName := ⟨RX9, "finding", "()I"⟩
abbrev cX9_findings : ByteArray := prog_11_method_84_code
def yX9_findings : MethodName := ⟨RX9, "findings", "(I)I"⟩
abbrev cX9_mix : ByteArray := prog_11_method_85_code
def yX9_mix : MethodName := ⟨RX9, "mix", "(J)V"⟩
abbrev cX9_digest : ByteArray := prog_11_method_86_code
def yX9_digest : MethodName := ⟨RX9, "digest", "()J"⟩
def RJ6 : String := "java/lang/Integer"
def TJ6 : u_T := fun k => match k with
  | _ => ("", "", "", false)
def tyJ6 : Nat → FieldType := fun k => match k with
  | _ => .int
theorem nmJ6 : ∀ a, a < 0 → ∀ b, b < 0 → a ≠ b → (TJ6 a).2.1 ≠ (TJ6 b).2.1 := by decide +kernel
theorem tyJ6_ok : ∀ k, k < 0 → parseFieldDescriptor (TJ6 k).2.2.1 = some (tyJ6 k) := by decide +kernel
abbrev cJ6_bitCount_0f7a4 : ByteArray := prog_12_method_49_code
def yJ6_bitCount_0f7a4 : MethodName := ⟨RJ6, "bitCount", "(I)I"⟩
def RJ9 : String := "java/lang/Math"
def TJ9 : u_T := fun k => match k with
  | _ => ("", "", "", false)
def tyJ9 : Nat → FieldType := fun k => match k with
  | _ => .int
theorem nmJ9 : ∀ a, a < 0 → ∀ b, b < 0 → a ≠ b → (TJ9 a).2.1 ≠ (TJ9 b).2.1 := by decide +kernel
theorem tyJ9_ok : ∀ k, k < 0 → parseFieldDescriptor (TJ9 k).2.2.1 = some (tyJ9 k) := by decide +kernel
abbrev cJ9_abs_0f7a4 : ByteArray := prog_13_method_59_code
def yJ9_abs_0f7a4 : MethodName := ⟨RJ9, "abs", "(I)I"⟩
abbrev cJ9_max_7cf53 : ByteArray := prog_13_method_65_code
def yJ9_max_7cf53 : MethodName := ⟨RJ9, "max", "(II)I"⟩
abbrev cJ9_min_7cf53 : ByteArray := prog_13_method_69_code
def yJ9_min_7cf53 : MethodName := ⟨RJ9, "min", "(II)I"⟩
def RJ10 : String := "java/lang/System"
def TJ10 : u_T := fun k => match k with
  | _ => ("", "", "", false)
def tyJ10 : Nat → FieldType := fun k => match k with
  | _ => .int
theorem nmJ10 : ∀ a, a < 0 → ∀ b, b < 0 → a ≠ b → (TJ10 a).2.1 ≠ (TJ10 b).2.1 := by decide +kernel
theorem tyJ10_ok : ∀ k, k < 0 → parseFieldDescriptor (TJ10 k).2.2.1 = some (tyJ10 k) := by decide +kernel
def RJ7 : String := "java/util/Arrays"
def TJ7 : u_T := fun k => match k with
  | _ => ("", "", "", false)
def tyJ7 : Nat → FieldType := fun k => match k with
  | _ => .int
theorem nmJ7 : ∀ a, a < 0 → ∀ b, b < 0 → a ≠ b → (TJ7 a).2.1 ≠ (TJ7 b).2.1 := by decide +kernel
theorem tyJ7_ok : ∀ k, k < 0 → parseFieldDescriptor (TJ7 k).2.2.1 = some (tyJ7 k) := by decide +kernel
abbrev cJ7_fill_53178 : ByteArray := prog_15_method_103_code
def yJ7_fill_53178 : MethodName := ⟨RJ7, "fill", "([II)V"⟩
def RL : String := "BolsterBedsLaw"
abbrev cL_law : ByteArray := code
def yL_law : MethodName := ⟨RL, "law", "([I)Z"⟩
end
section
/-! ===== the world of this claim: one list of cells, by place; numbers as functions of place and index ===== -/
abbrev Mem : Type := (Nat → Nat → Int32) × (Nat → Nat → Int64)
abbrev Shp : Type := (Nat × List (Option (Option Nat))) ⊕ (Nat ⊕ List Nat)
def shpL : List Shp := [
  .inl (8, [some (some 1), some (some 4), some (some 7), some (some 10), some (some 18), some (some 26), some (some 34), none, some (some 35), some (some 45), some (some 90), some (some 93), some (some 98), none, some none, some none, none, some (some 133)]),
  .inl (6, [none, some (some 2), some (some 3)]),
  .inr (.inl 6),
  .inr (.inl 240),
  .inl (6, [none, some (some 5), some (some 6)]),
  .inr (.inl 4),
  .inr (.inl 240),
  .inl (6, [none, some (some 8), some (some 9)]),
  .inr (.inl 3),
  .inr (.inl 120),
  .inl (7, [some (some 11), some (some 12), some (some 13), some (some 14), some (some 15), some (some 16), some (some 17), none, none, none]),
  .inr (.inl 4),
  .inr (.inl 6),
  .inr (.inl 6),
  .inr (.inl 6),
  .inr (.inl 6),
  .inr (.inl 6),
  .inr (.inl 6),
  .inl (7, [some (some 19), some (some 20), some (some 21), some (some 22), some (some 23), some (some 24), some (some 25), none, none, none]),
  .inr (.inl 4),
  .inr (.inl 6),
  .inr (.inl 6),
  .inr (.inl 6),
  .inr (.inl 6),
  .inr (.inl 6),
  .inr (.inl 6),
  .inl (7, [some (some 27), some (some 28), some (some 29), some (some 30), some (some 31), some (some 32), some (some 33), none, none, none]),
  .inr (.inl 4),
  .inr (.inl 6),
  .inr (.inl 6),
  .inr (.inl 6),
  .inr (.inl 6),
  .inr (.inl 6),
  .inr (.inl 6),
  .inr (.inl 40),
  .inl (4, [some (some 36), some (some 44), none, none]),
  .inl (7, [some (some 37), some (some 38), some (some 39), some (some 40), some (some 41), some (some 42), some (some 43), none, none, none]),
  .inr (.inl 4),
  .inr (.inl 6),
  .inr (.inl 6),
  .inr (.inl 6),
  .inr (.inl 6),
  .inr (.inl 6),
  .inr (.inl 6),
  .inr (.inl 60),
  .inl (5, [some (some 46), some (some 88), some (some 89), none]),
  .inl (2, [some (some 47)]),
  .inr (.inr [48, 56, 64, 72, 80]),
  .inl (7, [some (some 49), some (some 50), some (some 51), some (some 52), some (some 53), some (some 54), some (some 55), none, none, none]),
  .inr (.inl 4),
  .inr (.inl 6),
  .inr (.inl 6),
  .inr (.inl 6),
  .inr (.inl 6),
  .inr (.inl 6),
  .inr (.inl 6),
  .inl (7, [some (some 57), some (some 58), some (some 59), some (some 60), some (some 61), some (some 62), some (some 63), none, none, none]),
  .inr (.inl 4),
  .inr (.inl 6),
  .inr (.inl 6),
  .inr (.inl 6),
  .inr (.inl 6),
  .inr (.inl 6),
  .inr (.inl 6),
  .inl (7, [some (some 65), some (some 66), some (some 67), some (some 68), some (some 69), some (some 70), some (some 71), none, none, none]),
  .inr (.inl 4),
  .inr (.inl 6),
  .inr (.inl 6),
  .inr (.inl 6),
  .inr (.inl 6),
  .inr (.inl 6),
  .inr (.inl 6),
  .inl (7, [some (some 73), some (some 74), some (some 75), some (some 76), some (some 77), some (some 78), some (some 79), none, none, none]),
  .inr (.inl 4),
  .inr (.inl 6),
  .inr (.inl 6),
  .inr (.inl 6),
  .inr (.inl 6),
  .inr (.inl 6),
  .inr (.inl 6),
  .inl (7, [some (some 81), some (some 82), some (some 83), some (some 84), some (some 85), some (some 86), some (some 87), none, none, none]),
  .inr (.inl 4),
  .inr (.inl 6),
  .inr (.inl 6),
  .inr (.inl 6),
  .inr (.inl 6),
  .inr (.inl 6),
  .inr (.inl 6),
  .inr (.inl 4),
  .inr (.inl 4),
  .inl (3, [some (some 91), some (some 92), none]),
  .inr (.inl 6),
  .inr (.inl 6),
  .inl (0, [some (some 94), some (some 95), some (some 96), some (some 97), none, none]),
  .inr (.inl 20),
  .inr (.inl 20),
  .inr (.inl 6),
  .inr (.inl 31),
  .inl (1, [some (some 99)]),
  .inl (2, [some (some 100)]),
  .inr (.inr [101, 109, 117, 125]),
  .inl (7, [some (some 102), some (some 103), some (some 104), some (some 105), some (some 106), some (some 107), some (some 108), none, none, none]),
  .inr (.inl 4),
  .inr (.inl 6),
  .inr (.inl 6),
  .inr (.inl 6),
  .inr (.inl 6),
  .inr (.inl 6),
  .inr (.inl 6),
  .inl (7, [some (some 110), some (some 111), some (some 112), some (some 113), some (some 114), some (some 115), some (some 116), none, none, none]),
  .inr (.inl 4),
  .inr (.inl 6),
  .inr (.inl 6),
  .inr (.inl 6),
  .inr (.inl 6),
  .inr (.inl 6),
  .inr (.inl 6),
  .inl (7, [some (some 118), some (some 119), some (some 120), some (some 121), some (some 122), some (some 123), some (some 124), none, none, none]),
  .inr (.inl 4),
  .inr (.inl 6),
  .inr (.inl 6),
  .inr (.inl 6),
  .inr (.inl 6),
  .inr (.inl 6),
  .inr (.inl 6),
  .inl (7, [some (some 126), some (some 127), some (some 128), some (some 129), some (some 130), some (some 131), some (some 132), none, none, none]),
  .inr (.inl 4),
  .inr (.inl 6),
  .inr (.inl 6),
  .inr (.inl 6),
  .inr (.inl 6),
  .inr (.inl 6),
  .inr (.inl 6),
  .inr (.inl 6),
  .inl (9, [some (some 135), none, some (some 136), some (some 137), some (some 138), some (some 139), some (some 140), some (some 141), none, some (some 142), none, some none, some none, none, some (some 143), some (some 144), some none]),
  .inr (.inl 7304),
  .inr (.inl 3),
  .inr (.inl 240),
  .inr (.inl 6),
  .inr (.inl 240),
  .inr (.inl 4),
  .inr (.inl 40),
  .inr (.inl 6),
  .inr (.inl 32),
  .inr (.inl 2401)]
def nW : Nat := 145
theorem shpL_len : shpL.length = nW := by decide +kernel
def shp (k : Nat) : Shp := shpL.getD k (.inr (.inl 0))

abbrev cls9 : List vw_C := [(RX0, TX0, 6), (RX1, TX1, 1), (RX2, TX2, 1), (RX3, TX3, 3), (RX4, TX4, 4), (RX5, TX5, 4), (RX6, TX6, 3), (RX7, TX7, 10), (RX8, TX8, 18), (RX9, TX9, 17)]
def setI (σ : Mem) (k j : Nat) (v : Int32) : Mem := (fun a b => if a = k ∧ b = j then v else σ.1 a b, σ.2)
def setL (σ : Mem) (k j : Nat) (v : Int64) : Mem := (σ.1, fun a b => if a = k ∧ b = j then v else σ.2 a b)
def fvl (ad : Nat → Nat) (σ : Mem) (k j : Nat) : Option (Option Nat) → Value
  | none => .int (σ.1 k j)
  | some none => .long (σ.2 k j)
  | some (some p) => .ref (ad p)
def fvs (ad : Nat → Nat) (σ : Mem) (k : Nat) : Nat → List (Option (Option Nat)) → List Value
  | _, [] => []
  | j, f :: t => fvl ad σ k j f :: fvs ad σ k (j + 1) t
def cel (ad : Nat → Nat) (cI cT : ClassId) (σ : Mem) (k : Nat) : va_E := match shp k with
  | .inl q => .inr (q.1, fvs ad σ k 0 q.2)
  | .inr (.inl n) => .inl (cI, n, .inl (σ.1 k))
  | .inr (.inr l) => .inl (cT, l.length, .inr (.inr (.inr (.inr (fun j => (l[j]?).map ad)))))
def wld (ad : Nat → Nat) (cI cT : ClassId) (σ : Mem) : va_W := (List.range nW).map (fun k => (ad k, cel ad cI cT σ k))
theorem wld_get {ad : Nat → Nat} {cI cT : ClassId} {σ : Mem} {k : Nat} (h : k < nW) : (wld ad cI cT σ)[k]? = some (ad k, cel ad cI cT σ k) := by
  unfold wld
  rw [List.getElem?_map, List.getElem?_range h]
  rfl
theorem wld_some {ad : Nat → Nat} {cI cT : ClassId} {σ : Mem} {k : Nat} {q : Nat × va_E} (h : (wld ad cI cT σ)[k]? = some q) : k < nW ∧ q = (ad k, cel ad cI cT σ k) := by
  have hl : k < nW := by
    have := (List.getElem?_eq_some_iff.mp h).1
    unfold wld at this
    simpa using this
  rw [wld_get hl] at h
  exact ⟨hl, (Option.some.inj h).symm⟩
theorem wld_set {ad : Nat → Nat} {cI cT : ClassId} {σ σ' : Mem} {k : Nat} {e : va_E} (hk : k < nW) (he : e = cel ad cI cT σ' k) (ho : ∀ j, j ≠ k → cel ad cI cT σ' j = cel ad cI cT σ j) : (wld ad cI cT σ).set k (ad k, e) = wld ad cI cT σ' := by
  subst he
  apply List.ext_getElem?
  intro i
  by_cases hi : i = k
  · subst hi
    rw [List.getElem?_set_self (by unfold wld; simpa using hk), wld_get hk]
  · rw [List.getElem?_set_ne (Ne.symm hi)]
    by_cases hl : i < nW
    · rw [wld_get hl, wld_get hl, ho i hi]
    · rw [List.getElem?_eq_none (by unfold wld; simpa using hl), List.getElem?_eq_none (by unfold wld; simpa using hl)]
theorem shp_lt {k : Nat} (h : shp k ≠ .inr (.inl 0)) : k < nW := by
  rcases Nat.lt_or_ge k nW with q | q
  · exact q
  · exact absurd (by unfold shp; rw [List.getD_eq_getElem?_getD, List.getElem?_eq_none (by rw [shpL_len]; exact q)]; rfl) h
theorem fvs_get (ad : Nat → Nat) (σ : Mem) (k : Nat) : ∀ (fl : List (Option (Option Nat))) (j0 j : Nat) (f : Option (Option Nat)), fl[j]? = some f → (fvs ad σ k j0 fl)[j]? = some (fvl ad σ k (j0 + j) f)
  | [], j0, j, f, h => by simp at h
  | g :: t, j0, 0, f, h => by
    have : g = f := by simpa using h
    subst this
    rfl
  | g :: t, j0, j + 1, f, h => by
    have h1 : t[j]? = some f := by simpa using h
    have h2 := fvs_get ad σ k t (j0 + 1) j f h1
    show (fvs ad σ k (j0 + 1) t)[j]? = _
    rw [h2, show j0 + 1 + j = j0 + (j + 1) by omega]
theorem fvs_len (ad : Nat → Nat) (σ : Mem) (k : Nat) : ∀ (fl : List (Option (Option Nat))) (j0 : Nat), (fvs ad σ k j0 fl).length = fl.length
  | [], _ => rfl
  | _ :: t, j0 => by
    show (fvs ad σ k (j0 + 1) t).length + 1 = t.length + 1
    rw [fvs_len ad σ k t (j0 + 1)]
theorem fvl_setI {ad : Nat → Nat} {σ : Mem} {k j : Nat} {v : Int32} {k2 j2 : Nat} {f : Option (Option Nat)} (h : ¬ (k2 = k ∧ j2 = j)) : fvl ad (setI σ k j v) k2 j2 f = fvl ad σ k2 j2 f := by
  cases f with
  | none => simp [fvl, setI, h]
  | some g => cases g <;> rfl
theorem fvl_setL {ad : Nat → Nat} {σ : Mem} {k j : Nat} {v : Int64} {k2 j2 : Nat} {f : Option (Option Nat)} (h : ¬ (k2 = k ∧ j2 = j)) : fvl ad (setL σ k j v) k2 j2 f = fvl ad σ k2 j2 f := by
  cases f with
  | none => rfl
  | some g => cases g with
    | none => simp [fvl, setL, h]
    | some p => rfl
theorem fvs_ext {ad : Nat → Nat} {σ σ' : Mem} {k : Nat} : ∀ (fl : List (Option (Option Nat))) (j0 : Nat), (∀ j f, fl[j]? = some f → fvl ad σ k (j0 + j) f = fvl ad σ' k (j0 + j) f) → fvs ad σ k j0 fl = fvs ad σ' k j0 fl
  | [], _, _ => rfl
  | g :: t, j0, h => by
    have h0 := h 0 g rfl
    have h1 := fvs_ext (ad := ad) (σ := σ) (σ' := σ') (k := k) t (j0 + 1) (fun j f hf => by
      have := h (j + 1) f (by simpa using hf)
      rw [show j0 + 1 + j = j0 + (j + 1) by omega]
      exact this)
    show _ :: _ = _ :: _
    rw [h1]
    rw [show fvl ad σ k j0 g = fvl ad σ' k j0 g from h0]
theorem fvs_setI {ad : Nat → Nat} {σ : Mem} {k j : Nat} {v : Int32} : ∀ (fl : List (Option (Option Nat))) (j0 i : Nat), fl[i]? = some none → j0 + i = j → (fvs ad σ k j0 fl).set i (.int v) = fvs ad (setI σ k j v) k j0 fl
  | [], _, _, h, _ => by simp at h
  | g :: t, j0, 0, h, hj => by
    have : g = none := by simpa using h
    subst this
    subst hj
    show Value.int v :: fvs ad σ k (j0 + 1) t = fvl ad (setI σ k (j0 + 0) v) k j0 none :: fvs ad (setI σ k (j0 + 0) v) k (j0 + 1) t
    rw [fvs_ext (σ' := setI σ k (j0 + 0) v) t (j0 + 1) (fun j f _ => (fvl_setI (by omega)).symm)]
    congr 1
    simp [fvl, setI]
  | g :: t, j0, i + 1, h, hj => by
    have h1 : t[i]? = some none := by simpa using h
    have h2 := fvs_setI (ad := ad) (σ := σ) (k := k) (j := j) (v := v) t (j0 + 1) i h1 (by omega)
    show fvl ad σ k j0 g :: (fvs ad σ k (j0 + 1) t).set i (.int v) = fvl ad (setI σ k j v) k j0 g :: fvs ad (setI σ k j v) k (j0 + 1) t
    rw [h2, fvl_setI (by omega)]
theorem fvs_setL {ad : Nat → Nat} {σ : Mem} {k j : Nat} {v : Int64} : ∀ (fl : List (Option (Option Nat))) (j0 i : Nat), fl[i]? = some (some none) → j0 + i = j → (fvs ad σ k j0 fl).set i (.long v) = fvs ad (setL σ k j v) k j0 fl
  | [], _, _, h, _ => by simp at h
  | g :: t, j0, 0, h, hj => by
    have : g = some none := by simpa using h
    subst this
    subst hj
    show Value.long v :: fvs ad σ k (j0 + 1) t = fvl ad (setL σ k (j0 + 0) v) k j0 (some none) :: fvs ad (setL σ k (j0 + 0) v) k (j0 + 1) t
    rw [fvs_ext (σ' := setL σ k (j0 + 0) v) t (j0 + 1) (fun j f _ => (fvl_setL (by omega)).symm)]
    congr 1
    simp [fvl, setL]
  | g :: t, j0, i + 1, h, hj => by
    have h1 : t[i]? = some (some none) := by simpa using h
    have h2 := fvs_setL (ad := ad) (σ := σ) (k := k) (j := j) (v := v) t (j0 + 1) i h1 (by omega)
    show fvl ad σ k j0 g :: (fvs ad σ k (j0 + 1) t).set i (.long v) = fvl ad (setL σ k j v) k j0 g :: fvs ad (setL σ k j v) k (j0 + 1) t
    rw [h2, fvl_setL (by omega)]
theorem cel_ext {ad : Nat → Nat} {cI cT : ClassId} {σ σ' : Mem} {k : Nat} (h1 : ∀ b, σ'.1 k b = σ.1 k b) (h2 : ∀ b, σ'.2 k b = σ.2 k b) : cel ad cI cT σ' k = cel ad cI cT σ k := by
  unfold cel
  split
  · rw [fvs_ext (σ := σ') (σ' := σ)]
    intro j f _
    cases f with
    | none => show Value.int _ = Value.int _; rw [h1]
    | some g => cases g with
      | none => show Value.long _ = Value.long _; rw [h2]
      | some p => rfl
  · rw [show σ'.1 k = σ.1 k from funext h1]
  · rfl
theorem cel_setI_ne {ad : Nat → Nat} {cI cT : ClassId} {σ : Mem} {k j : Nat} {v : Int32} {i : Nat} (h : i ≠ k) : cel ad cI cT (setI σ k j v) i = cel ad cI cT σ i := cel_ext (fun b => by simp [setI, h]) (fun _ => rfl)
theorem cel_setL_ne {ad : Nat → Nat} {cI cT : ClassId} {σ : Mem} {k j : Nat} {v : Int64} {i : Nat} (h : i ≠ k) : cel ad cI cT (setL σ k j v) i = cel ad cI cT σ i := cel_ext (fun _ => rfl) (fun b => by simp [setL, h])
/-! ===== what a method reads and writes, with what must hold for it ===== -/
def gI (ci j k : Nat) (σ : Mem) : Option Int32 := match shp k with
  | .inl q => if q.1 = ci ∧ q.2[j]? = some none then some (σ.1 k j) else none
  | .inr _ => none
def gL (ci j k : Nat) (σ : Mem) : Option Int64 := match shp k with
  | .inl q => if q.1 = ci ∧ q.2[j]? = some (some none) then some (σ.2 k j) else none
  | .inr _ => none
def gR (ci j k : Nat) : Option Nat := match shp k with
  | .inl q => if q.1 = ci then (match q.2[j]? with
    | some (some (some p)) => some p
    | _ => none) else none
  | .inr _ => none
def pI (ci j k : Nat) (v : Int32) (σ : Mem) : Option Mem := match shp k with
  | .inl q => if q.1 = ci ∧ q.2[j]? = some none then some (setI σ k j v) else none
  | .inr _ => none
def pL (ci j k : Nat) (v : Int64) (σ : Mem) : Option Mem := match shp k with
  | .inl q => if q.1 = ci ∧ q.2[j]? = some (some none) then some (setL σ k j v) else none
  | .inr _ => none
def aI (k : Nat) (i : Int32) (σ : Mem) : Option Int32 := match shp k with
  | .inr (.inl n) => if 0 ≤ i.toInt ∧ i.toInt < n then some (σ.1 k i.toNatClampNeg) else none
  | _ => none
def sI (k : Nat) (i v : Int32) (σ : Mem) : Option Mem := match shp k with
  | .inr (.inl n) => if 0 ≤ i.toInt ∧ i.toInt < n then some (setI σ k i.toNatClampNeg v) else none
  | _ => none
def aR (k : Nat) (i : Int32) : Option Nat := match shp k with
  | .inr (.inr l) => if 0 ≤ i.toInt ∧ i.toInt < l.length then l[i.toNatClampNeg]? else none
  | _ => none
def aN (k : Nat) : Option Int32 := if k < nW then (match shp k with
  | .inr (.inl n) => some (Int32.ofNat n)
  | .inr (.inr l) => some (Int32.ofNat l.length)
  | .inl _ => none) else none
def isK (ci k : Nat) : Bool := match shp k with
  | .inl q => q.1 == ci
  | .inr _ => false
/-- System.arraycopy of numbers -/
def cpI (a : Nat) (sp : Int32) (b : Nat) (dp n : Int32) (σ : Mem) : Option Mem := match shp a, shp b with
  | .inr (.inl n0), .inr (.inl n1) => if 0 ≤ sp.toInt ∧ 0 ≤ dp.toInt ∧ 0 ≤ n.toInt ∧ sp.toInt + n.toInt ≤ n0 ∧ dp.toInt + n.toInt ≤ n1 ∧ a < nW ∧ b < nW then some (fun x y => if x = b then va_cpy (σ.1 a) (σ.1 b) sp.toNatClampNeg dp.toNatClampNeg n.toNatClampNeg y else σ.1 x y, σ.2) else none
  | _, _ => none
/-- the bytes of the kinds' letters -/
def klv (j : Nat) : Int32 := match j with
  | 0 => 98 | 1 => 115 | 2 => 113 | 3 => 99 | 4 => 116 | _ => 119
/-- a loop: the last answer of a step that goes on or ends; nothing if it never ends -/
def lpn {S T : Type} (f : S → Option (S ⊕ T)) : Nat → S → Option T
  | 0, _ => none
  | n + 1, s => match f s with
    | none => none
    | some (.inl s') => lpn f n s'
    | some (.inr t) => some t
noncomputable def lp {S T : Type} (f : S → Option (S ⊕ T)) (s : S) : Option T := @dite _ (∃ t n, lpn f n s = some t) (Classical.propDecidable _) (fun h => some (Classical.choose h)) (fun _ => none)
theorem lpn_mono {S T : Type} {f : S → Option (S ⊕ T)} : ∀ (n : Nat) (s : S) (t : T) (k : Nat), lpn f n s = some t → lpn f (n + k) s = some t
  | 0, _, _, _, h => by cases h
  | n + 1, s, t, k, h => by
    rw [show n + 1 + k = (n + k) + 1 by omega]
    unfold lpn at h ⊢
    cases hf : f s with
    | none => rw [hf] at h; cases h
    | some x => cases x with
      | inl s' => rw [hf] at h; exact lpn_mono n s' t k h
      | inr u => rw [hf] at h; exact h
theorem lpn_det {S T : Type} {f : S → Option (S ⊕ T)} {n m : Nat} {s : S} {t u : T} (h1 : lpn f n s = some t) (h2 : lpn f m s = some u) : t = u := by
  have a := lpn_mono n s t m h1
  have b := lpn_mono m s u n h2
  rw [Nat.add_comm] at b
  rw [a] at b
  exact Option.some.inj b
theorem lp_iff {S T : Type} {f : S → Option (S ⊕ T)} {s : S} {t : T} : lp f s = some t ↔ ∃ n, lpn f n s = some t := by
  unfold lp
  constructor
  · intro h
    by_cases hx : ∃ t n, lpn f n s = some t
    · rw [dif_pos hx] at h
      rw [← Option.some.inj h]
      exact Classical.choose_spec hx
    · rw [dif_neg hx] at h
      cases h
  · intro ⟨n, hn⟩
    have hx : ∃ t n, lpn f n s = some t := ⟨t, n, hn⟩
    rw [dif_pos hx]
    obtain ⟨m, hm⟩ := Classical.choose_spec hx
    rw [lpn_det hm hn]
theorem lp_in {S T : Type} {f : S → Option (S ⊕ T)} {s s' : S} (h : f s = some (.inl s')) : lp f s = lp f s' := by
  cases h1 : lp f s' with
  | some t =>
    obtain ⟨n, hn⟩ := lp_iff.mp h1
    exact lp_iff.mpr ⟨n + 1, by unfold lpn; rw [h]; exact hn⟩
  | none =>
    cases h2 : lp f s with
    | none => rfl
    | some t =>
      obtain ⟨n, hn⟩ := lp_iff.mp h2
      cases n with
      | zero => cases hn
      | succ n =>
        unfold lpn at hn
        rw [h] at hn
        rw [lp_iff.mpr ⟨n, hn⟩] at h1
        cases h1
theorem lp_out {S T : Type} {f : S → Option (S ⊕ T)} {s : S} {t : T} (h : f s = some (.inr t)) : lp f s = some t := lp_iff.mpr ⟨1, by unfold lpn; rw [h]⟩
/-- what follows a loop's start, by what follows each of its steps -/
theorem lp_ind {S T : Type} {f : S → Option (S ⊕ T)} {P : S → T → Prop} (h1 : ∀ s t, f s = some (.inr t) → P s t) (h2 : ∀ s s' t, f s = some (.inl s') → P s' t → P s t) : ∀ s t, lp f s = some t → P s t := by
  intro s t h
  obtain ⟨n, hn⟩ := lp_iff.mp h
  clear h
  induction n generalizing s with
  | zero => cases hn
  | succ n ih =>
    unfold lpn at hn
    cases hf : f s with
    | none => rw [hf] at hn; cases hn
    | some x => cases x with
      | inl s' => rw [hf] at hn; exact h2 s s' t hf (ih s' hn)
      | inr u => rw [hf] at hn; cases hn; exact h1 s _ hf
theorem bnd {α β : Type} {o : Option α} {f : α → Option β} {r : β} (h : o.bind f = some r) : ∃ a, o = some a ∧ f a = some r := Option.bind_eq_some_iff.mp h
theorem ifp {α : Type} {c : Prop} [Decidable c] {a b : α} {r : α} (h : (if c then a else b) = r) (hc : c) : a = r := by rw [if_pos hc] at h; exact h
theorem ifn {α : Type} {c : Prop} [Decidable c] {a b : α} {r : α} (h : (if c then a else b) = r) (hc : ¬ c) : b = r := by rw [if_neg hc] at h; exact h
end
section
/-! ===== the judgement V: W over the world of this claim ===== -/
abbrev DD : Type := Launch × va_G × ClassId × ClassId × (Nat → Nat) × Nat
abbrev GG : Type := Program × Env × Room × State × MethodId × Array Value × List Frame × Method × Code × Nat × Nat × (State → Prop)
def adA (ad : Nat → Nat) : Nat → Prop := fun q => ∃ k, k < nW ∧ q = ad k
def KL (ad : Nat → Nat) (t : Nat) (U : State) (H : Heap) : Prop := va_Z RX8 "KIND_LETTERS" "[I" (.ref t) (adA ad) U H ∧ va_T .int t 6 (fun j => .int (klv j)) (adA ad) U H
abbrev tysA (cI cT : ClassId) : List (ClassId × FieldType) := [(cI, .int), (cT, .object "BolsterBeds$Town")]
/-- what holds of the tables and of the cells that nobody writes -/
def St (D : va_G) (cI cT : ClassId) (ad : Nat → Nat) (tK : Nat) (U : State) (H : Heap) : Prop := va_K D cls9 (tysA cI cT) U ∧ (∀ i j, i < nW → j < nW → ad i = ad j → i = j) ∧ KL ad tK U H ∧ ∀ w ∈ lw_nest, va_Nw w U
def V (Δ : DD) (Γ : GG) (nL pc : Nat) (ll : List (Nat × Value)) (st : List Value) (σ : Mem) : Prop := match Δ, Γ with
  | (l, D, cI, cT, ad, tK), (p, e, R, s, m, args, below, meth, c, kc, ks, Q) => ∀ (H : Heap) (locs : List Loc) (ls : Array Slot), va_P D cls9 (wld ad cI cT σ) H → va_S (adA ad) s.heap H locs → lv_has ls nL ll → W p l e R s m args below meth c H locs kc ks Q (F0 m pc ls st)
def Cx (Δ : DD) (Γ : GG) (own : String) (cc : ByteArray) (nL d : Nat) (ret : Option FieldType) : Prop := match Δ, Γ with
  | (_, D, cI, cT, ad, tK), (p, _, R, s, m, args, _, meth, c, kc, ks, _) => p.tables.exec = Jvm.exec ∧ c.code = cc ∧ c.maxLocals = nL ∧ s.vm.findClass own = some m.cls ∧ (∀ w ∈ lw_good, w.before args s = true) ∧ St D cI cT ad tK s s.heap ∧ meth.sig.returnType = ret ∧ meth.locks = false ∧ d + 1 ≤ R.frames ∧ 64 * (d + 1) ≤ R.locals ∧ kc ≤ R.cells ∧ ks ≤ R.slots
def Pq (Δ : DD) (rv : Option Value) (σ' : Mem) : Array Value → State → Outcome → State → Prop := match Δ with
  | (_, D, cI, cT, ad, _) => fun _ st o t => o = .returned rv ∧ va_P D cls9 (wld ad cI cT σ') t.heap ∧ va_F (adA ad) st t
def Pp (Δ : DD) (av : List Value) (σ : Mem) : Array Value → State → Prop := match Δ with
  | (_, D, cI, cT, ad, tK) => va_Pc av (fun U => va_P D cls9 (wld ad cI cT σ) U.heap ∧ St D cI cT ad tK U U.heap)
def RetQ (Δ : DD) (Γ : GG) (rv : Option Value) (σ' : Mem) : Prop := match Γ with
  | (_, _, _, s, _, args, below, _, _, kc, ks, Q) => Q = MQ below (Pq Δ rv σ') args s kc ks (adA Δ.2.2.2.2.1)
abbrev rm (d : Nat) : Room := { frames := d, cells := 0, slots := 0, locals := 64 * d }
/-- a method's contract: from these arguments and numbers it returns, with this answer and these numbers -/
def Mt (Δ : DD) (d : Nat) (y : MethodName) (cc : ByteArray) (nL : Nat) (ret : Option FieldType) (av : List Value) (σ : Mem) (rv : Option Value) (σ' : Mem) : Prop :=
  Met Δ.1 y (Cond.code y cc nL ret :: lw_good) (rm d) (Pp Δ av σ) (Pq Δ rv σ') 0 0 (adA Δ.2.2.2.2.1)
abbrev rf (Δ : DD) (k : Nat) : Value := .ref (Δ.2.2.2.2.1 k)
abbrev vr (Δ : DD) (o : Option Nat) : Value := match o with
  | some k => rf Δ k
  | none => .null
theorem nest_on {w : Cond} (h : w ∈ lw_nest) : w.onTables = true := by
  have h1 := (List.mem_filter.mp h).2
  cases w <;> first | rfl | (exact absurd h1 (by decide)) | (simp [lw_isN] at h1)
theorem nest_warm {w : Cond} (h : w ∈ lw_nest) {s U : State} (hW : s.WarmedH U.vm) (hz : va_Nw w s) : va_Nw w U := by
  have h1 := (List.mem_filter.mp h).2
  cases w <;> first | exact va_Nw.warmF hW hz | exact va_Nw.warmM hW hz | (simp [lw_isN] at h1)
theorem KL.moved {ad : Nat → Nat} {t : Nat} {u U : State} {H : Heap} (hvm : u.vm.Alike U.vm) (h : KL ad t u H) : KL ad t U H := ⟨h.1.moved hvm, h.2.moved hvm⟩
theorem KL.kept {ad : Nat → Nat} {t : Nat} {U : State} {H H1 : Heap} (hq : ∀ a : Nat, a < H.size → ¬ adA ad a → H1[a]? = H[a]?) (h : KL ad t U H) : KL ad t U H1 := ⟨h.1.kept hq, h.2.kept hq⟩
theorem St.go {D : va_G} {cI cT : ClassId} {ad : Nat → Nat} {tK : Nat} {s U : State} {H : Heap} {locs : List Loc} (h : St D cI cT ad tK s s.heap) (hS : va_S (adA ad) s.heap H locs) (hW : s.WarmedH U.vm) : St D cI cT ad tK U H :=
  ⟨va_K.moved hW.alike h.1, h.2.1, (h.2.2.1.kept (fun a h1 h2 => hS.2.1 a h1 h2)).moved hW.alike, fun w hw => nest_warm hw hW (h.2.2.2 w hw)⟩
theorem St.call {D : va_G} {cI cT : ClassId} {ad : Nat → Nat} {tK : Nat} {U : State} {H : Heap} (a : Array Value) (g : JFrame) (mk : MethodId) (h : St D cI cT ad tK U H) : St D cI cT ad tK (U.calling g mk a) H :=
  ⟨va_K.moved (u := U) (U := U.calling g mk a) (Vm.Alike.refl U.vm) h.1, h.2.1, h.2.2.1.moved (u := U) (U := U.calling g mk a) (Vm.Alike.refl U.vm), fun w hw => va_Nw.same (u := U) (U := U.calling g mk a) (nest_on hw) rfl (h.2.2.2 w hw)⟩
theorem Pp.blind (Δ : DD) (av : List Value) (σ : Mem) : FrameBlind (Pp Δ av σ) := by
  obtain ⟨l, D, cI, cT, ad, tK⟩ := Δ
  intro a U g mk h
  exact ⟨h.1, h.2.1, h.2.2.call a g mk⟩
theorem wld_D {ad : Nat → Nat} {cI cT : ClassId} {σ : Mem} (h : ∀ i j, i < nW → j < nW → ad i = ad j → i = j) : va_D (adA ad) (wld ad cI cT σ) := by
  refine ⟨fun i j p q hp hq e => ?_, fun k q hq => ?_⟩
  · obtain ⟨h1, rfl⟩ := wld_some hp
    obtain ⟨h2, rfl⟩ := wld_some hq
    exact h i j h1 h2 e
  · obtain ⟨h1, rfl⟩ := wld_some hq
    exact ⟨k, h1, rfl⟩
theorem good_all : ∀ w ∈ lw_good, goodWord w = true := fun _ h => (List.mem_filter.mp h).2
/-- from a walk of the body to the contract -/
theorem mt_of {Δ : DD} {d : Nat} {own : String} {y : MethodName} {cc : ByteArray} {nL : Nat} {ret : Option FieldType} {av : List Value} {σ : Mem} {rv : Option Value} {σ' : Mem} (hy : plainName y.cls = true) (hown : y.cls = own) (hlen : (lg_sl av).length ≤ nL)
    (body : ∀ Γ : GG, Cx Δ Γ own cc nL d ret → RetQ Δ Γ rv σ' → V Δ Γ nL 0 (lv_args 0 av) [] σ) : Mt Δ (d + 1) y cc nL ret av σ rv σ' := by
  obtain ⟨l, D, cI, cT, ad, tK⟩ := Δ
  refine Met.ofW (cc := cc) (maxL := nL) (ret := ret) hy rfl ?_
  intro p e s m args below meth c s₁ B hml hv
  obtain ⟨rfl, hP, hSt⟩ := hv
  have hts0 := atoms_spec (ws := Cond.code y cc nL ret :: lw_good) B.pre
  have hl := lv_entry av (n := nL) hlen
  rw [lg_entry_eq]
  refine body (p, e, (headSpec (Cond.code y cc nL ret :: lw_good) (rm (d + 1))).room, s, m, av.toArray, below, meth, c, 0, 0, _) ⟨B.exec, B.bytes, hml, ?_, fun w hw => hts0 w (List.mem_cons_of_mem _ hw), hSt, B.returns, B.notSynchronized, ?_, ?_, Nat.le_refl _, Nat.le_refl _⟩ rfl s.heap [] _ hP va_S.rf hl
  · rw [← hown]; exact findClass_of_methodNamed B.named
  · exact Nat.le_refl _
  · exact Nat.le_refl _
section ROWS
variable {Δ : DD} {Γ : GG} {own : String} {cc : ByteArray} {nL d pc : Nat} {ret : Option FieldType} {ll : List (Nat × Value)} {st : List Value} {σ : Mem}
theorem v_iconst (C : Cx Δ Γ own cc nL d ret) {n : Int} (v : Int32) (hdg : decode cc pc = .ok (.iconst n, 1)) (hv : Int32.ofInt n = v) (k : V Δ Γ nL (pc + 1) ll (.int v :: st) σ) : V Δ Γ nL pc ll st σ := by
  obtain ⟨l, D, cI, cT, ad, tK⟩ := Δ; obtain ⟨p, e, R, s, m, args, below, meth, c, kc, ks, Q⟩ := Γ
  exact fun H locs ls hP hS hl => lv_iconst C.1 C.2.1 hdg hv (k H locs ls hP hS hl)
theorem v_bipush (C : Cx Δ Γ own cc nL d ret) {n : Int} (v : Int32) (hdg : decode cc pc = .ok (.bipush n, 2)) (hv : (Int8.ofInt n).toInt32 = v) (k : V Δ Γ nL (pc + 2) ll (.int v :: st) σ) : V Δ Γ nL pc ll st σ := by
  obtain ⟨l, D, cI, cT, ad, tK⟩ := Δ; obtain ⟨p, e, R, s, m, args, below, meth, c, kc, ks, Q⟩ := Γ
  exact fun H locs ls hP hS hl => lv_bipush C.1 C.2.1 hdg hv (k H locs ls hP hS hl)
theorem v_sipush (C : Cx Δ Γ own cc nL d ret) {n : Int} (v : Int32) (hdg : decode cc pc = .ok (.sipush n, 3)) (hv : (Int16.ofInt n).toInt32 = v) (k : V Δ Γ nL (pc + 3) ll (.int v :: st) σ) : V Δ Γ nL pc ll st σ := by
  obtain ⟨l, D, cI, cT, ad, tK⟩ := Δ; obtain ⟨p, e, R, s, m, args, below, meth, c, kc, ks, Q⟩ := Γ
  exact fun H locs ls hP hS hl => lv_sipush C.1 C.2.1 hdg hv (k H locs ls hP hS hl)
theorem v_lconst (C : Cx Δ Γ own cc nL d ret) {n : Fin 2} (v : Int64) (hdg : decode cc pc = .ok (.lconst n, 1)) (hv : Int64.ofNat (n : Nat) = v) (k : V Δ Γ nL (pc + 1) ll (.long v :: st) σ) : V Δ Γ nL pc ll st σ := by
  obtain ⟨l, D, cI, cT, ad, tK⟩ := Δ; obtain ⟨p, e, R, s, m, args, below, meth, c, kc, ks, Q⟩ := Γ
  exact fun H locs ls hP hS hl => lv_lconst C.1 C.2.1 hdg hv (k H locs ls hP hS hl)
theorem v_ldc (C : Cx Δ Γ own cc nL d ret) {i : Nat} (v : Int32) (hw : Cond.constant own i v ∈ lw_good) (hdg : decode cc pc = .ok (.ldc i, 2)) (k : V Δ Γ nL (pc + 2) ll (.int v :: st) σ) : V Δ Γ nL pc ll st σ := by
  obtain ⟨l, D, cI, cT, ad, tK⟩ := Δ; obtain ⟨p, e, R, s, m, args, below, meth, c, kc, ks, Q⟩ := Γ
  exact fun H locs ls hP hS hl => lv_ldc C.1 C.2.1 C.2.2.2.1 (C.2.2.2.2.1 _ hw) hdg (k H locs ls hP hS hl)
theorem v_ldcw (C : Cx Δ Γ own cc nL d ret) {i : Nat} (v : Int32) (hw : Cond.constant own i v ∈ lw_good) (hdg : decode cc pc = .ok (.ldc_w i, 3)) (k : V Δ Γ nL (pc + 3) ll (.int v :: st) σ) : V Δ Γ nL pc ll st σ := by
  obtain ⟨l, D, cI, cT, ad, tK⟩ := Δ; obtain ⟨p, e, R, s, m, args, below, meth, c, kc, ks, Q⟩ := Γ
  exact fun H locs ls hP hS hl => lv_ldcw C.1 C.2.1 C.2.2.2.1 (C.2.2.2.2.1 _ hw) hdg (k H locs ls hP hS hl)
theorem v_ldc2 (C : Cx Δ Γ own cc nL d ret) {i : Nat} (v : Int64) (hw : Cond.constantLong own i v ∈ lw_good) (hdg : decode cc pc = .ok (.ldc2_w i, 3)) (k : V Δ Γ nL (pc + 3) ll (.long v :: st) σ) : V Δ Γ nL pc ll st σ := by
  obtain ⟨l, D, cI, cT, ad, tK⟩ := Δ; obtain ⟨p, e, R, s, m, args, below, meth, c, kc, ks, Q⟩ := Γ
  exact fun H locs ls hP hS hl => lv_ldc2 C.1 C.2.1 C.2.2.2.1 (C.2.2.2.2.1 _ hw) hdg (k H locs ls hP hS hl)
theorem v_null (C : Cx Δ Γ own cc nL d ret) (hdg : decode cc pc = .ok (.aconst_null, 1)) (k : V Δ Γ nL (pc + 1) ll (.null :: st) σ) : V Δ Γ nL pc ll st σ := by
  obtain ⟨l, D, cI, cT, ad, tK⟩ := Δ; obtain ⟨p, e, R, s, m, args, below, meth, c, kc, ks, Q⟩ := Γ
  exact fun H locs ls hP hS hl => lv_null C.1 C.2.1 hdg (k H locs ls hP hS hl)
theorem v_iload_n (C : Cx Δ Γ own cc nL d ret) {i : Fin 4} {x : Int32} (j q : Nat) (hdg : decode cc pc = .ok (.iload_n i, 1)) (hj : (i : Nat) = j) (hk : ll[q]? = some (j, .int x)) (k : V Δ Γ nL (pc + 1) ll (.int x :: st) σ) : V Δ Γ nL pc ll st σ := by
  obtain ⟨l, D, cI, cT, ad, tK⟩ := Δ; obtain ⟨p, e, R, s, m, args, below, meth, c, kc, ks, Q⟩ := Γ
  exact fun H locs ls hP hS hl => lv_iload_n C.1 C.2.1 hdg hj (lv_at hl q hk) (k H locs ls hP hS hl)
theorem v_iload (C : Cx Δ Γ own cc nL d ret) {x : Int32} (j q : Nat) (hdg : decode cc pc = .ok (.iload j, 2)) (hk : ll[q]? = some (j, .int x)) (k : V Δ Γ nL (pc + 2) ll (.int x :: st) σ) : V Δ Γ nL pc ll st σ := by
  obtain ⟨l, D, cI, cT, ad, tK⟩ := Δ; obtain ⟨p, e, R, s, m, args, below, meth, c, kc, ks, Q⟩ := Γ
  exact fun H locs ls hP hS hl => lv_iload C.1 C.2.1 hdg (lv_at hl q hk) (k H locs ls hP hS hl)
theorem v_lload_n (C : Cx Δ Γ own cc nL d ret) {i : Fin 4} {x : Int64} (j q : Nat) (hdg : decode cc pc = .ok (.lload_n i, 1)) (hj : (i : Nat) = j) (hk : ll[q]? = some (j, .long x)) (k : V Δ Γ nL (pc + 1) ll (.long x :: st) σ) : V Δ Γ nL pc ll st σ := by
  obtain ⟨l, D, cI, cT, ad, tK⟩ := Δ; obtain ⟨p, e, R, s, m, args, below, meth, c, kc, ks, Q⟩ := Γ
  exact fun H locs ls hP hS hl => lv_lload_n C.1 C.2.1 hdg hj (lv_at hl q hk) (k H locs ls hP hS hl)
theorem v_lload (C : Cx Δ Γ own cc nL d ret) {x : Int64} (j q : Nat) (hdg : decode cc pc = .ok (.lload j, 2)) (hk : ll[q]? = some (j, .long x)) (k : V Δ Γ nL (pc + 2) ll (.long x :: st) σ) : V Δ Γ nL pc ll st σ := by
  obtain ⟨l, D, cI, cT, ad, tK⟩ := Δ; obtain ⟨p, e, R, s, m, args, below, meth, c, kc, ks, Q⟩ := Γ
  exact fun H locs ls hP hS hl => lv_lload C.1 C.2.1 hdg (lv_at hl q hk) (k H locs ls hP hS hl)
theorem v_aload_n (C : Cx Δ Γ own cc nL d ret) {i : Fin 4} {x : Nat} (j q : Nat) (hdg : decode cc pc = .ok (.aload_n i, 1)) (hj : (i : Nat) = j) (hk : ll[q]? = some (j, .ref x)) (k : V Δ Γ nL (pc + 1) ll (.ref x :: st) σ) : V Δ Γ nL pc ll st σ := by
  obtain ⟨l, D, cI, cT, ad, tK⟩ := Δ; obtain ⟨p, e, R, s, m, args, below, meth, c, kc, ks, Q⟩ := Γ
  exact fun H locs ls hP hS hl => lv_aload_n C.1 C.2.1 hdg hj (lv_at hl q hk) (k H locs ls hP hS hl)
theorem v_aload (C : Cx Δ Γ own cc nL d ret) {x : Nat} (j q : Nat) (hdg : decode cc pc = .ok (.aload j, 2)) (hk : ll[q]? = some (j, .ref x)) (k : V Δ Γ nL (pc + 2) ll (.ref x :: st) σ) : V Δ Γ nL pc ll st σ := by
  obtain ⟨l, D, cI, cT, ad, tK⟩ := Δ; obtain ⟨p, e, R, s, m, args, below, meth, c, kc, ks, Q⟩ := Γ
  exact fun H locs ls hP hS hl => lv_aload C.1 C.2.1 hdg (lv_at hl q hk) (k H locs ls hP hS hl)
theorem v_aload_nN (C : Cx Δ Γ own cc nL d ret) {i : Fin 4} (j q : Nat) (hdg : decode cc pc = .ok (.aload_n i, 1)) (hj : (i : Nat) = j) (hk : ll[q]? = some (j, .null)) (k : V Δ Γ nL (pc + 1) ll (.null :: st) σ) : V Δ Γ nL pc ll st σ := by
  obtain ⟨l, D, cI, cT, ad, tK⟩ := Δ; obtain ⟨p, e, R, s, m, args, below, meth, c, kc, ks, Q⟩ := Γ
  exact fun H locs ls hP hS hl => lv_aload_nN C.1 C.2.1 hdg hj (lv_at hl q hk) (k H locs ls hP hS hl)
theorem v_aloadN (C : Cx Δ Γ own cc nL d ret) (j q : Nat) (hdg : decode cc pc = .ok (.aload j, 2)) (hk : ll[q]? = some (j, .null)) (k : V Δ Γ nL (pc + 2) ll (.null :: st) σ) : V Δ Γ nL pc ll st σ := by
  obtain ⟨l, D, cI, cT, ad, tK⟩ := Δ; obtain ⟨p, e, R, s, m, args, below, meth, c, kc, ks, Q⟩ := Γ
  exact fun H locs ls hP hS hl => lv_aloadN C.1 C.2.1 hdg (lv_at hl q hk) (k H locs ls hP hS hl)
theorem v_istore_n (C : Cx Δ Γ own cc nL d ret) {z : Fin 4} {x : Int32} (i : Nat) {ll' : List (Nat × Value)} (hdg : decode cc pc = .ok (.istore_n z, 1)) (hz : (z : Nat) = i) (hn : i < nL) (hl : (i, Value.int x) :: ll.filter (fun q => !(q.1 == i) && !(q.1 + 1 == i && q.2.category == 2)) = ll') (k : V Δ Γ nL (pc + 1) ll' st σ) : V Δ Γ nL pc ll (.int x :: st) σ := by
  obtain ⟨l, D, cI, cT, ad, tK⟩ := Δ; obtain ⟨p, e, R, s, m, args, below, meth, c, kc, ks, Q⟩ := Γ
  exact fun H locs ls hP hS h => lv_istore_n C.1 C.2.1 hdg hz h hn hl (fun ls' h' => k H locs ls' hP hS h')
theorem v_istore (C : Cx Δ Γ own cc nL d ret) {x : Int32} (i : Nat) {ll' : List (Nat × Value)} (hdg : decode cc pc = .ok (.istore i, 2)) (hn : i < nL) (hl : (i, Value.int x) :: ll.filter (fun q => !(q.1 == i) && !(q.1 + 1 == i && q.2.category == 2)) = ll') (k : V Δ Γ nL (pc + 2) ll' st σ) : V Δ Γ nL pc ll (.int x :: st) σ := by
  obtain ⟨l, D, cI, cT, ad, tK⟩ := Δ; obtain ⟨p, e, R, s, m, args, below, meth, c, kc, ks, Q⟩ := Γ
  exact fun H locs ls hP hS h => lv_istore C.1 C.2.1 hdg h hn hl (fun ls' h' => k H locs ls' hP hS h')
theorem v_astore_n (C : Cx Δ Γ own cc nL d ret) {z : Fin 4} {x : Nat} (i : Nat) {ll' : List (Nat × Value)} (hdg : decode cc pc = .ok (.astore_n z, 1)) (hz : (z : Nat) = i) (hn : i < nL) (hl : (i, Value.ref x) :: ll.filter (fun q => !(q.1 == i) && !(q.1 + 1 == i && q.2.category == 2)) = ll') (k : V Δ Γ nL (pc + 1) ll' st σ) : V Δ Γ nL pc ll (.ref x :: st) σ := by
  obtain ⟨l, D, cI, cT, ad, tK⟩ := Δ; obtain ⟨p, e, R, s, m, args, below, meth, c, kc, ks, Q⟩ := Γ
  exact fun H locs ls hP hS h => lv_astore_n C.1 C.2.1 hdg hz h hn hl (fun ls' h' => k H locs ls' hP hS h')
theorem v_astore (C : Cx Δ Γ own cc nL d ret) {x : Nat} (i : Nat) {ll' : List (Nat × Value)} (hdg : decode cc pc = .ok (.astore i, 2)) (hn : i < nL) (hl : (i, Value.ref x) :: ll.filter (fun q => !(q.1 == i) && !(q.1 + 1 == i && q.2.category == 2)) = ll') (k : V Δ Γ nL (pc + 2) ll' st σ) : V Δ Γ nL pc ll (.ref x :: st) σ := by
  obtain ⟨l, D, cI, cT, ad, tK⟩ := Δ; obtain ⟨p, e, R, s, m, args, below, meth, c, kc, ks, Q⟩ := Γ
  exact fun H locs ls hP hS h => lv_astore C.1 C.2.1 hdg h hn hl (fun ls' h' => k H locs ls' hP hS h')
theorem v_lstore_n (C : Cx Δ Γ own cc nL d ret) {z : Fin 4} {x : Int64} (i : Nat) {ll' : List (Nat × Value)} (hdg : decode cc pc = .ok (.lstore_n z, 1)) (hz : (z : Nat) = i) (hn : i + 1 < nL) (hl : (i, Value.long x) :: ll.filter (fun q => !(q.1 == i) && (!(q.1 == i + 1) && !(q.1 + 1 == i && q.2.category == 2))) = ll') (k : V Δ Γ nL (pc + 1) ll' st σ) : V Δ Γ nL pc ll (.long x :: st) σ := by
  obtain ⟨l, D, cI, cT, ad, tK⟩ := Δ; obtain ⟨p, e, R, s, m, args, below, meth, c, kc, ks, Q⟩ := Γ
  exact fun H locs ls hP hS h => lv_lstore_n C.1 C.2.1 hdg hz h hn hl (fun ls' h' => k H locs ls' hP hS h')
theorem v_lstore (C : Cx Δ Γ own cc nL d ret) {x : Int64} (i : Nat) {ll' : List (Nat × Value)} (hdg : decode cc pc = .ok (.lstore i, 2)) (hn : i + 1 < nL) (hl : (i, Value.long x) :: ll.filter (fun q => !(q.1 == i) && (!(q.1 == i + 1) && !(q.1 + 1 == i && q.2.category == 2))) = ll') (k : V Δ Γ nL (pc + 2) ll' st σ) : V Δ Γ nL pc ll (.long x :: st) σ := by
  obtain ⟨l, D, cI, cT, ad, tK⟩ := Δ; obtain ⟨p, e, R, s, m, args, below, meth, c, kc, ks, Q⟩ := Γ
  exact fun H locs ls hP hS h => lv_lstore C.1 C.2.1 hdg h hn hl (fun ls' h' => k H locs ls' hP hS h')
theorem v_astore_nN (C : Cx Δ Γ own cc nL d ret) {z : Fin 4} (i : Nat) {ll' : List (Nat × Value)} (hdg : decode cc pc = .ok (.astore_n z, 1)) (hz : (z : Nat) = i) (hn : i < nL) (hl : (i, Value.null) :: ll.filter (fun q => !(q.1 == i) && !(q.1 + 1 == i && q.2.category == 2)) = ll') (k : V Δ Γ nL (pc + 1) ll' st σ) : V Δ Γ nL pc ll (.null :: st) σ := by
  obtain ⟨l, D, cI, cT, ad, tK⟩ := Δ; obtain ⟨p, e, R, s, m, args, below, meth, c, kc, ks, Q⟩ := Γ
  exact fun H locs ls hP hS h => lv_astore_nN C.1 C.2.1 hdg hz h hn hl (fun ls' h' => k H locs ls' hP hS h')
theorem v_astoreN (C : Cx Δ Γ own cc nL d ret) (i : Nat) {ll' : List (Nat × Value)} (hdg : decode cc pc = .ok (.astore i, 2)) (hn : i < nL) (hl : (i, Value.null) :: ll.filter (fun q => !(q.1 == i) && !(q.1 + 1 == i && q.2.category == 2)) = ll') (k : V Δ Γ nL (pc + 2) ll' st σ) : V Δ Γ nL pc ll (.null :: st) σ := by
  obtain ⟨l, D, cI, cT, ad, tK⟩ := Δ; obtain ⟨p, e, R, s, m, args, below, meth, c, kc, ks, Q⟩ := Γ
  exact fun H locs ls hP hS h => lv_astoreN C.1 C.2.1 hdg h hn hl (fun ls' h' => k H locs ls' hP hS h')
theorem v_iinc (C : Cx Δ Γ own cc nL d ret) {i : Nat} {n : Int} {x : Int32} (v : Int32) (q : Nat) {ll' : List (Nat × Value)} (hdg : decode cc pc = .ok (.iinc i n, 3)) (hk : ll[q]? = some (i, .int x)) (hv : x + Int32.ofInt n = v) (hn : i < nL) (hl : (i, Value.int v) :: ll.filter (fun q => !(q.1 == i) && !(q.1 + 1 == i && q.2.category == 2)) = ll') (k : V Δ Γ nL (pc + 3) ll' st σ) : V Δ Γ nL pc ll st σ := by
  obtain ⟨l, D, cI, cT, ad, tK⟩ := Δ; obtain ⟨p, e, R, s, m, args, below, meth, c, kc, ks, Q⟩ := Γ
  exact fun H locs ls hP hS h => lv_iinc C.1 C.2.1 hdg h hk hv hn hl (fun ls' h' => k H locs ls' hP hS h')
theorem v_iadd (C : Cx Δ Γ own cc nL d ret) {x y : Int32} (hdg : decode cc pc = .ok (.iadd, 1)) (k : V Δ Γ nL (pc + 1) ll (.int (x + y) :: st) σ) : V Δ Γ nL pc ll (.int y :: .int x :: st) σ := by
  obtain ⟨l, D, cI, cT, ad, tK⟩ := Δ; obtain ⟨p, e, R, s, m, args, below, meth, c, kc, ks, Q⟩ := Γ
  exact fun H locs ls hP hS hl => lv_iadd C.1 C.2.1 hdg (k H locs ls hP hS hl)
theorem v_isub (C : Cx Δ Γ own cc nL d ret) {x y : Int32} (hdg : decode cc pc = .ok (.isub, 1)) (k : V Δ Γ nL (pc + 1) ll (.int (x - y) :: st) σ) : V Δ Γ nL pc ll (.int y :: .int x :: st) σ := by
  obtain ⟨l, D, cI, cT, ad, tK⟩ := Δ; obtain ⟨p, e, R, s, m, args, below, meth, c, kc, ks, Q⟩ := Γ
  exact fun H locs ls hP hS hl => lv_isub C.1 C.2.1 hdg (k H locs ls hP hS hl)
theorem v_imul (C : Cx Δ Γ own cc nL d ret) {x y : Int32} (hdg : decode cc pc = .ok (.imul, 1)) (k : V Δ Γ nL (pc + 1) ll (.int (x * y) :: st) σ) : V Δ Γ nL pc ll (.int y :: .int x :: st) σ := by
  obtain ⟨l, D, cI, cT, ad, tK⟩ := Δ; obtain ⟨p, e, R, s, m, args, below, meth, c, kc, ks, Q⟩ := Γ
  exact fun H locs ls hP hS hl => lv_imul C.1 C.2.1 hdg (k H locs ls hP hS hl)
theorem v_iand (C : Cx Δ Γ own cc nL d ret) {x y : Int32} (hdg : decode cc pc = .ok (.iand, 1)) (k : V Δ Γ nL (pc + 1) ll (.int (x &&& y) :: st) σ) : V Δ Γ nL pc ll (.int y :: .int x :: st) σ := by
  obtain ⟨l, D, cI, cT, ad, tK⟩ := Δ; obtain ⟨p, e, R, s, m, args, below, meth, c, kc, ks, Q⟩ := Γ
  exact fun H locs ls hP hS hl => lv_iand C.1 C.2.1 hdg (k H locs ls hP hS hl)
theorem v_ior (C : Cx Δ Γ own cc nL d ret) {x y : Int32} (hdg : decode cc pc = .ok (.ior, 1)) (k : V Δ Γ nL (pc + 1) ll (.int (x ||| y) :: st) σ) : V Δ Γ nL pc ll (.int y :: .int x :: st) σ := by
  obtain ⟨l, D, cI, cT, ad, tK⟩ := Δ; obtain ⟨p, e, R, s, m, args, below, meth, c, kc, ks, Q⟩ := Γ
  exact fun H locs ls hP hS hl => lv_ior C.1 C.2.1 hdg (k H locs ls hP hS hl)
theorem v_ixor (C : Cx Δ Γ own cc nL d ret) {x y : Int32} (hdg : decode cc pc = .ok (.ixor, 1)) (k : V Δ Γ nL (pc + 1) ll (.int (x ^^^ y) :: st) σ) : V Δ Γ nL pc ll (.int y :: .int x :: st) σ := by
  obtain ⟨l, D, cI, cT, ad, tK⟩ := Δ; obtain ⟨p, e, R, s, m, args, below, meth, c, kc, ks, Q⟩ := Γ
  exact fun H locs ls hP hS hl => lv_ixor C.1 C.2.1 hdg (k H locs ls hP hS hl)
theorem v_ishl (C : Cx Δ Γ own cc nL d ret) {x y : Int32} (hdg : decode cc pc = .ok (.ishl, 1)) (k : V Δ Γ nL (pc + 1) ll (.int (x <<< (y &&& 31)) :: st) σ) : V Δ Γ nL pc ll (.int y :: .int x :: st) σ := by
  obtain ⟨l, D, cI, cT, ad, tK⟩ := Δ; obtain ⟨p, e, R, s, m, args, below, meth, c, kc, ks, Q⟩ := Γ
  exact fun H locs ls hP hS hl => lv_ishl C.1 C.2.1 hdg (k H locs ls hP hS hl)
theorem v_ishr (C : Cx Δ Γ own cc nL d ret) {x y : Int32} (hdg : decode cc pc = .ok (.ishr, 1)) (k : V Δ Γ nL (pc + 1) ll (.int (x >>> (y &&& 31)) :: st) σ) : V Δ Γ nL pc ll (.int y :: .int x :: st) σ := by
  obtain ⟨l, D, cI, cT, ad, tK⟩ := Δ; obtain ⟨p, e, R, s, m, args, below, meth, c, kc, ks, Q⟩ := Γ
  exact fun H locs ls hP hS hl => lv_ishr C.1 C.2.1 hdg (k H locs ls hP hS hl)
theorem v_idiv (C : Cx Δ Γ own cc nL d ret) {x y : Int32} (hdg : decode cc pc = .ok (.idiv, 1)) (hne : ¬ y = 0) (k : V Δ Γ nL (pc + 1) ll (.int (x / y) :: st) σ) : V Δ Γ nL pc ll (.int y :: .int x :: st) σ := by
  obtain ⟨l, D, cI, cT, ad, tK⟩ := Δ; obtain ⟨p, e, R, s, m, args, below, meth, c, kc, ks, Q⟩ := Γ
  exact fun H locs ls hP hS hl => lv_idiv C.1 C.2.1 hdg hne (k H locs ls hP hS hl)
theorem v_irem (C : Cx Δ Γ own cc nL d ret) {x y : Int32} (hdg : decode cc pc = .ok (.irem, 1)) (hne : ¬ y = 0) (k : V Δ Γ nL (pc + 1) ll (.int (x - x / y * y) :: st) σ) : V Δ Γ nL pc ll (.int y :: .int x :: st) σ := by
  obtain ⟨l, D, cI, cT, ad, tK⟩ := Δ; obtain ⟨p, e, R, s, m, args, below, meth, c, kc, ks, Q⟩ := Γ
  exact fun H locs ls hP hS hl => lv_irem C.1 C.2.1 hdg hne (k H locs ls hP hS hl)
theorem v_ladd (C : Cx Δ Γ own cc nL d ret) {x y : Int64} (hdg : decode cc pc = .ok (.ladd, 1)) (k : V Δ Γ nL (pc + 1) ll (.long (x + y) :: st) σ) : V Δ Γ nL pc ll (.long y :: .long x :: st) σ := by
  obtain ⟨l, D, cI, cT, ad, tK⟩ := Δ; obtain ⟨p, e, R, s, m, args, below, meth, c, kc, ks, Q⟩ := Γ
  exact fun H locs ls hP hS hl => lv_ladd C.1 C.2.1 hdg (k H locs ls hP hS hl)
theorem v_lsub (C : Cx Δ Γ own cc nL d ret) {x y : Int64} (hdg : decode cc pc = .ok (.lsub, 1)) (k : V Δ Γ nL (pc + 1) ll (.long (x - y) :: st) σ) : V Δ Γ nL pc ll (.long y :: .long x :: st) σ := by
  obtain ⟨l, D, cI, cT, ad, tK⟩ := Δ; obtain ⟨p, e, R, s, m, args, below, meth, c, kc, ks, Q⟩ := Γ
  exact fun H locs ls hP hS hl => lv_lsub C.1 C.2.1 hdg (k H locs ls hP hS hl)
theorem v_lmul (C : Cx Δ Γ own cc nL d ret) {x y : Int64} (hdg : decode cc pc = .ok (.lmul, 1)) (k : V Δ Γ nL (pc + 1) ll (.long (x * y) :: st) σ) : V Δ Γ nL pc ll (.long y :: .long x :: st) σ := by
  obtain ⟨l, D, cI, cT, ad, tK⟩ := Δ; obtain ⟨p, e, R, s, m, args, below, meth, c, kc, ks, Q⟩ := Γ
  exact fun H locs ls hP hS hl => lv_lmul C.1 C.2.1 hdg (k H locs ls hP hS hl)
theorem v_ldiv (C : Cx Δ Γ own cc nL d ret) {x y : Int64} (hdg : decode cc pc = .ok (.ldiv, 1)) (hne : ¬ y = 0) (k : V Δ Γ nL (pc + 1) ll (.long (x / y) :: st) σ) : V Δ Γ nL pc ll (.long y :: .long x :: st) σ := by
  obtain ⟨l, D, cI, cT, ad, tK⟩ := Δ; obtain ⟨p, e, R, s, m, args, below, meth, c, kc, ks, Q⟩ := Γ
  exact fun H locs ls hP hS hl => lv_ldiv C.1 C.2.1 hdg hne (k H locs ls hP hS hl)
theorem v_lrem (C : Cx Δ Γ own cc nL d ret) {x y : Int64} (hdg : decode cc pc = .ok (.lrem, 1)) (hne : ¬ y = 0) (k : V Δ Γ nL (pc + 1) ll (.long (x - x / y * y) :: st) σ) : V Δ Γ nL pc ll (.long y :: .long x :: st) σ := by
  obtain ⟨l, D, cI, cT, ad, tK⟩ := Δ; obtain ⟨p, e, R, s, m, args, below, meth, c, kc, ks, Q⟩ := Γ
  exact fun H locs ls hP hS hl => lv_lrem C.1 C.2.1 hdg hne (k H locs ls hP hS hl)
theorem v_iushr (C : Cx Δ Γ own cc nL d ret) {x y : Int32} (hdg : decode cc pc = .ok (.iushr, 1)) (k : V Δ Γ nL (pc + 1) ll (.int (x.toUInt32 >>> (y.toUInt32 &&& Int32.toUInt32 31)).toInt32 :: st) σ) : V Δ Γ nL pc ll (.int y :: .int x :: st) σ := by
  obtain ⟨l, D, cI, cT, ad, tK⟩ := Δ; obtain ⟨p, e, R, s, m, args, below, meth, c, kc, ks, Q⟩ := Γ
  exact fun H locs ls hP hS hl => lv_iushr C.1 C.2.1 hdg rfl (k H locs ls hP hS hl)
theorem v_ineg (C : Cx Δ Γ own cc nL d ret) {x : Int32} (hdg : decode cc pc = .ok (.ineg, 1)) (k : V Δ Γ nL (pc + 1) ll (.int (-x) :: st) σ) : V Δ Γ nL pc ll (.int x :: st) σ := by
  obtain ⟨l, D, cI, cT, ad, tK⟩ := Δ; obtain ⟨p, e, R, s, m, args, below, meth, c, kc, ks, Q⟩ := Γ
  exact fun H locs ls hP hS hl => lv_ineg C.1 C.2.1 hdg (k H locs ls hP hS hl)
theorem v_i2l (C : Cx Δ Γ own cc nL d ret) {x : Int32} (hdg : decode cc pc = .ok (.i2l, 1)) (k : V Δ Γ nL (pc + 1) ll (.long x.toInt64 :: st) σ) : V Δ Γ nL pc ll (.int x :: st) σ := by
  obtain ⟨l, D, cI, cT, ad, tK⟩ := Δ; obtain ⟨p, e, R, s, m, args, below, meth, c, kc, ks, Q⟩ := Γ
  exact fun H locs ls hP hS hl => lv_i2l C.1 C.2.1 hdg rfl (k H locs ls hP hS hl)
theorem v_l2i (C : Cx Δ Γ own cc nL d ret) {x : Int64} (hdg : decode cc pc = .ok (.l2i, 1)) (k : V Δ Γ nL (pc + 1) ll (.int x.toInt32 :: st) σ) : V Δ Γ nL pc ll (.long x :: st) σ := by
  obtain ⟨l, D, cI, cT, ad, tK⟩ := Δ; obtain ⟨p, e, R, s, m, args, below, meth, c, kc, ks, Q⟩ := Γ
  exact fun H locs ls hP hS hl => lv_l2i C.1 C.2.1 hdg rfl (k H locs ls hP hS hl)
theorem v_i2b (C : Cx Δ Γ own cc nL d ret) {x : Int32} (hdg : decode cc pc = .ok (.i2b, 1)) (k : V Δ Γ nL (pc + 1) ll (.int x.toInt8.toInt32 :: st) σ) : V Δ Γ nL pc ll (.int x :: st) σ := by
  obtain ⟨l, D, cI, cT, ad, tK⟩ := Δ; obtain ⟨p, e, R, s, m, args, below, meth, c, kc, ks, Q⟩ := Γ
  exact fun H locs ls hP hS hl => lv_i2b C.1 C.2.1 hdg rfl (k H locs ls hP hS hl)
theorem v_lcmp (C : Cx Δ Γ own cc nL d ret) {x y : Int64} (hdg : decode cc pc = .ok (.lcmp, 1)) (k : V Δ Γ nL (pc + 1) ll (.int (lg_cmp x y) :: st) σ) : V Δ Γ nL pc ll (.long y :: .long x :: st) σ := by
  obtain ⟨l, D, cI, cT, ad, tK⟩ := Δ; obtain ⟨p, e, R, s, m, args, below, meth, c, kc, ks, Q⟩ := Γ
  exact fun H locs ls hP hS hl => W.lcmp C.1 C.2.1 hdg (k H locs ls hP hS hl)
theorem v_dup (C : Cx Δ Γ own cc nL d ret) {x : Value} (hdg : decode cc pc = .ok (.dup, 1)) (hc : x.category = 1) (k : V Δ Γ nL (pc + 1) ll (x :: x :: st) σ) : V Δ Γ nL pc ll (x :: st) σ := by
  obtain ⟨l, D, cI, cT, ad, tK⟩ := Δ; obtain ⟨p, e, R, s, m, args, below, meth, c, kc, ks, Q⟩ := Γ
  exact fun H locs ls hP hS hl => lv_dup C.1 C.2.1 hdg hc (k H locs ls hP hS hl)
theorem v_pop (C : Cx Δ Γ own cc nL d ret) {x : Value} (hdg : decode cc pc = .ok (.pop, 1)) (hc : x.category = 1) (k : V Δ Γ nL (pc + 1) ll st σ) : V Δ Γ nL pc ll (x :: st) σ := by
  obtain ⟨l, D, cI, cT, ad, tK⟩ := Δ; obtain ⟨p, e, R, s, m, args, below, meth, c, kc, ks, Q⟩ := Γ
  exact fun H locs ls hP hS hl => lv_pop C.1 C.2.1 hdg hc (k H locs ls hP hS hl)
theorem v_dup2 (C : Cx Δ Γ own cc nL d ret) {x y : Value} (hdg : decode cc pc = .ok (.dup2, 1)) (hc : x.category = 1) (hc2 : y.category = 1) (k : V Δ Γ nL (pc + 1) ll (x :: y :: x :: y :: st) σ) : V Δ Γ nL pc ll (x :: y :: st) σ := by
  obtain ⟨l, D, cI, cT, ad, tK⟩ := Δ; obtain ⟨p, e, R, s, m, args, below, meth, c, kc, ks, Q⟩ := Γ
  exact fun H locs ls hP hS hl => lv_dup2_11 C.1 C.2.1 hdg hc hc2 (k H locs ls hP hS hl)
theorem v_if_eq (C : Cx Δ Γ own cc nL d ret) {x : Int32} (tgt : Nat) {off : Int} (hdg : decode cc pc = .ok (.ifCond .eq off, 3)) (ht : (pc : Int) + off = (tgt : Int)) (kt : x = 0 → V Δ Γ nL tgt ll st σ) (kf : ¬ x = 0 → V Δ Γ nL (pc + 3) ll st σ) : V Δ Γ nL pc ll (.int x :: st) σ := by
  obtain ⟨l, D, cI, cT, ad, tK⟩ := Δ; obtain ⟨p, e, R, s, m, args, below, meth, c, kc, ks, Q⟩ := Γ
  exact fun H locs ls hP hS hl => lv_if_eq C.1 C.2.1 hdg ht (fun h => kt h H locs ls hP hS hl) (fun h => kf h H locs ls hP hS hl)
theorem v_icmp_eq (C : Cx Δ Γ own cc nL d ret) {x y : Int32} (tgt : Nat) {off : Int} (hdg : decode cc pc = .ok (.if_icmp .eq off, 3)) (ht : (pc : Int) + off = (tgt : Int)) (kt : x = y → V Δ Γ nL tgt ll st σ) (kf : ¬ x = y → V Δ Γ nL (pc + 3) ll st σ) : V Δ Γ nL pc ll (.int y :: .int x :: st) σ := by
  obtain ⟨l, D, cI, cT, ad, tK⟩ := Δ; obtain ⟨p, e, R, s, m, args, below, meth, c, kc, ks, Q⟩ := Γ
  exact fun H locs ls hP hS hl => lv_icmp_eq C.1 C.2.1 hdg ht (fun h => kt h H locs ls hP hS hl) (fun h => kf h H locs ls hP hS hl)
theorem v_if_ne (C : Cx Δ Γ own cc nL d ret) {x : Int32} (tgt : Nat) {off : Int} (hdg : decode cc pc = .ok (.ifCond .ne off, 3)) (ht : (pc : Int) + off = (tgt : Int)) (kt : ¬ x = 0 → V Δ Γ nL tgt ll st σ) (kf : x = 0 → V Δ Γ nL (pc + 3) ll st σ) : V Δ Γ nL pc ll (.int x :: st) σ := by
  obtain ⟨l, D, cI, cT, ad, tK⟩ := Δ; obtain ⟨p, e, R, s, m, args, below, meth, c, kc, ks, Q⟩ := Γ
  exact fun H locs ls hP hS hl => lv_if_ne C.1 C.2.1 hdg ht (fun h => kt h H locs ls hP hS hl) (fun h => kf h H locs ls hP hS hl)
theorem v_icmp_ne (C : Cx Δ Γ own cc nL d ret) {x y : Int32} (tgt : Nat) {off : Int} (hdg : decode cc pc = .ok (.if_icmp .ne off, 3)) (ht : (pc : Int) + off = (tgt : Int)) (kt : ¬ x = y → V Δ Γ nL tgt ll st σ) (kf : x = y → V Δ Γ nL (pc + 3) ll st σ) : V Δ Γ nL pc ll (.int y :: .int x :: st) σ := by
  obtain ⟨l, D, cI, cT, ad, tK⟩ := Δ; obtain ⟨p, e, R, s, m, args, below, meth, c, kc, ks, Q⟩ := Γ
  exact fun H locs ls hP hS hl => lv_icmp_ne C.1 C.2.1 hdg ht (fun h => kt h H locs ls hP hS hl) (fun h => kf h H locs ls hP hS hl)
theorem v_if_lt (C : Cx Δ Γ own cc nL d ret) {x : Int32} (tgt : Nat) {off : Int} (hdg : decode cc pc = .ok (.ifCond .lt off, 3)) (ht : (pc : Int) + off = (tgt : Int)) (kt : x < 0 → V Δ Γ nL tgt ll st σ) (kf : ¬ x < 0 → V Δ Γ nL (pc + 3) ll st σ) : V Δ Γ nL pc ll (.int x :: st) σ := by
  obtain ⟨l, D, cI, cT, ad, tK⟩ := Δ; obtain ⟨p, e, R, s, m, args, below, meth, c, kc, ks, Q⟩ := Γ
  exact fun H locs ls hP hS hl => lv_if_lt C.1 C.2.1 hdg ht (fun h => kt h H locs ls hP hS hl) (fun h => kf h H locs ls hP hS hl)
theorem v_icmp_lt (C : Cx Δ Γ own cc nL d ret) {x y : Int32} (tgt : Nat) {off : Int} (hdg : decode cc pc = .ok (.if_icmp .lt off, 3)) (ht : (pc : Int) + off = (tgt : Int)) (kt : x < y → V Δ Γ nL tgt ll st σ) (kf : ¬ x < y → V Δ Γ nL (pc + 3) ll st σ) : V Δ Γ nL pc ll (.int y :: .int x :: st) σ := by
  obtain ⟨l, D, cI, cT, ad, tK⟩ := Δ; obtain ⟨p, e, R, s, m, args, below, meth, c, kc, ks, Q⟩ := Γ
  exact fun H locs ls hP hS hl => lv_icmp_lt C.1 C.2.1 hdg ht (fun h => kt h H locs ls hP hS hl) (fun h => kf h H locs ls hP hS hl)
theorem v_if_ge (C : Cx Δ Γ own cc nL d ret) {x : Int32} (tgt : Nat) {off : Int} (hdg : decode cc pc = .ok (.ifCond .ge off, 3)) (ht : (pc : Int) + off = (tgt : Int)) (kt : 0 ≤ x → V Δ Γ nL tgt ll st σ) (kf : ¬ 0 ≤ x → V Δ Γ nL (pc + 3) ll st σ) : V Δ Γ nL pc ll (.int x :: st) σ := by
  obtain ⟨l, D, cI, cT, ad, tK⟩ := Δ; obtain ⟨p, e, R, s, m, args, below, meth, c, kc, ks, Q⟩ := Γ
  exact fun H locs ls hP hS hl => lv_if_ge C.1 C.2.1 hdg ht (fun h => kt h H locs ls hP hS hl) (fun h => kf h H locs ls hP hS hl)
theorem v_icmp_ge (C : Cx Δ Γ own cc nL d ret) {x y : Int32} (tgt : Nat) {off : Int} (hdg : decode cc pc = .ok (.if_icmp .ge off, 3)) (ht : (pc : Int) + off = (tgt : Int)) (kt : y ≤ x → V Δ Γ nL tgt ll st σ) (kf : ¬ y ≤ x → V Δ Γ nL (pc + 3) ll st σ) : V Δ Γ nL pc ll (.int y :: .int x :: st) σ := by
  obtain ⟨l, D, cI, cT, ad, tK⟩ := Δ; obtain ⟨p, e, R, s, m, args, below, meth, c, kc, ks, Q⟩ := Γ
  exact fun H locs ls hP hS hl => lv_icmp_ge C.1 C.2.1 hdg ht (fun h => kt h H locs ls hP hS hl) (fun h => kf h H locs ls hP hS hl)
theorem v_if_gt (C : Cx Δ Γ own cc nL d ret) {x : Int32} (tgt : Nat) {off : Int} (hdg : decode cc pc = .ok (.ifCond .gt off, 3)) (ht : (pc : Int) + off = (tgt : Int)) (kt : 0 < x → V Δ Γ nL tgt ll st σ) (kf : ¬ 0 < x → V Δ Γ nL (pc + 3) ll st σ) : V Δ Γ nL pc ll (.int x :: st) σ := by
  obtain ⟨l, D, cI, cT, ad, tK⟩ := Δ; obtain ⟨p, e, R, s, m, args, below, meth, c, kc, ks, Q⟩ := Γ
  exact fun H locs ls hP hS hl => lv_if_gt C.1 C.2.1 hdg ht (fun h => kt h H locs ls hP hS hl) (fun h => kf h H locs ls hP hS hl)
theorem v_icmp_gt (C : Cx Δ Γ own cc nL d ret) {x y : Int32} (tgt : Nat) {off : Int} (hdg : decode cc pc = .ok (.if_icmp .gt off, 3)) (ht : (pc : Int) + off = (tgt : Int)) (kt : y < x → V Δ Γ nL tgt ll st σ) (kf : ¬ y < x → V Δ Γ nL (pc + 3) ll st σ) : V Δ Γ nL pc ll (.int y :: .int x :: st) σ := by
  obtain ⟨l, D, cI, cT, ad, tK⟩ := Δ; obtain ⟨p, e, R, s, m, args, below, meth, c, kc, ks, Q⟩ := Γ
  exact fun H locs ls hP hS hl => lv_icmp_gt C.1 C.2.1 hdg ht (fun h => kt h H locs ls hP hS hl) (fun h => kf h H locs ls hP hS hl)
theorem v_if_le (C : Cx Δ Γ own cc nL d ret) {x : Int32} (tgt : Nat) {off : Int} (hdg : decode cc pc = .ok (.ifCond .le off, 3)) (ht : (pc : Int) + off = (tgt : Int)) (kt : x ≤ 0 → V Δ Γ nL tgt ll st σ) (kf : ¬ x ≤ 0 → V Δ Γ nL (pc + 3) ll st σ) : V Δ Γ nL pc ll (.int x :: st) σ := by
  obtain ⟨l, D, cI, cT, ad, tK⟩ := Δ; obtain ⟨p, e, R, s, m, args, below, meth, c, kc, ks, Q⟩ := Γ
  exact fun H locs ls hP hS hl => lv_if_le C.1 C.2.1 hdg ht (fun h => kt h H locs ls hP hS hl) (fun h => kf h H locs ls hP hS hl)
theorem v_icmp_le (C : Cx Δ Γ own cc nL d ret) {x y : Int32} (tgt : Nat) {off : Int} (hdg : decode cc pc = .ok (.if_icmp .le off, 3)) (ht : (pc : Int) + off = (tgt : Int)) (kt : x ≤ y → V Δ Γ nL tgt ll st σ) (kf : ¬ x ≤ y → V Δ Γ nL (pc + 3) ll st σ) : V Δ Γ nL pc ll (.int y :: .int x :: st) σ := by
  obtain ⟨l, D, cI, cT, ad, tK⟩ := Δ; obtain ⟨p, e, R, s, m, args, below, meth, c, kc, ks, Q⟩ := Γ
  exact fun H locs ls hP hS hl => lv_icmp_le C.1 C.2.1 hdg ht (fun h => kt h H locs ls hP hS hl) (fun h => kf h H locs ls hP hS hl)
theorem v_goto (C : Cx Δ Γ own cc nL d ret) (tgt : Nat) {off : Int} (hdg : decode cc pc = .ok (.goto off, 3)) (ht : (pc : Int) + off = (tgt : Int)) (k : V Δ Γ nL tgt ll st σ) : V Δ Γ nL pc ll st σ := by
  obtain ⟨l, D, cI, cT, ad, tK⟩ := Δ; obtain ⟨p, e, R, s, m, args, below, meth, c, kc, ks, Q⟩ := Γ
  exact fun H locs ls hP hS hl => lv_goto C.1 C.2.1 hdg ht (k H locs ls hP hS hl)
theorem v_ifnonnull (C : Cx Δ Γ own cc nL d ret) (tgt : Nat) {x : Nat} {off : Int} (hdg : decode cc pc = .ok (.ifnonnull off, 3)) (ht : (pc : Int) + off = (tgt : Int)) (k : V Δ Γ nL tgt ll st σ) : V Δ Γ nL pc ll (rf Δ x :: st) σ := by
  obtain ⟨l, D, cI, cT, ad, tK⟩ := Δ; obtain ⟨p, e, R, s, m, args, below, meth, c, kc, ks, Q⟩ := Γ
  exact fun H locs ls hP hS hl => lv_ifnonnull C.1 C.2.1 hdg ht (k H locs ls hP hS hl)
theorem v_ifnull (C : Cx Δ Γ own cc nL d ret) {x : Nat} {off : Int} (hdg : decode cc pc = .ok (.ifnull off, 3)) (k : V Δ Γ nL (pc + 3) ll st σ) : V Δ Γ nL pc ll (rf Δ x :: st) σ := by
  obtain ⟨l, D, cI, cT, ad, tK⟩ := Δ; obtain ⟨p, e, R, s, m, args, below, meth, c, kc, ks, Q⟩ := Γ
  exact fun H locs ls hP hS hl => lv_ifnull C.1 C.2.1 hdg (k H locs ls hP hS hl)
theorem v_ifnonnullN (C : Cx Δ Γ own cc nL d ret) {off : Int} (hdg : decode cc pc = .ok (.ifnonnull off, 3)) (k : V Δ Γ nL (pc + 3) ll st σ) : V Δ Γ nL pc ll (.null :: st) σ := by
  obtain ⟨l, D, cI, cT, ad, tK⟩ := Δ; obtain ⟨p, e, R, s, m, args, below, meth, c, kc, ks, Q⟩ := Γ
  exact fun H locs ls hP hS hl => lv_ifnonnullN C.1 C.2.1 hdg (k H locs ls hP hS hl)
theorem v_ifnullN (C : Cx Δ Γ own cc nL d ret) (tgt : Nat) {off : Int} (hdg : decode cc pc = .ok (.ifnull off, 3)) (ht : (pc : Int) + off = (tgt : Int)) (k : V Δ Γ nL tgt ll st σ) : V Δ Γ nL pc ll (.null :: st) σ := by
  obtain ⟨l, D, cI, cT, ad, tK⟩ := Δ; obtain ⟨p, e, R, s, m, args, below, meth, c, kc, ks, Q⟩ := Γ
  exact fun H locs ls hP hS hl => lv_ifnullN C.1 C.2.1 hdg ht (k H locs ls hP hS hl)
theorem v_tableIn (C : Cx Δ Γ own cc nL d ret) (tgt : Nat) {dflt lo hi : Int} {offs : Array Int} {len : Nat} {x : Int32} (off : Int) (hdg : decode cc pc = .ok (.tableswitch dflt lo hi offs, len)) (h1 : ¬ x.toInt < lo) (h2 : ¬ hi < x.toInt) (ho : offs[(x.toInt - lo).toNat]? = some off) (ht : (pc : Int) + off = (tgt : Int)) (k : V Δ Γ nL tgt ll st σ) : V Δ Γ nL pc ll (.int x :: st) σ := by
  obtain ⟨l, D, cI, cT, ad, tK⟩ := Δ; obtain ⟨p, e, R, s, m, args, below, meth, c, kc, ks, Q⟩ := Γ
  exact fun H locs ls hP hS hl => lv_tableIn C.1 C.2.1 hdg h1 h2 ho ht (k H locs ls hP hS hl)
/-- a switch over numbers in a row: one goal for a number, one for the rest -/
theorem v_tableEq (C : Cx Δ Γ own cc nL d ret) (tgt : Nat) (v : Int32) {dflt lo hi : Int} {offs : Array Int} {len : Nat} {x : Int32} (off : Int) (hdg : decode cc pc = .ok (.tableswitch dflt lo hi offs, len)) (hx : x = v) (h1 : ¬ v.toInt < lo) (h2 : ¬ hi < v.toInt) (ho : offs[(v.toInt - lo).toNat]? = some off) (ht : (pc : Int) + off = (tgt : Int)) (k : V Δ Γ nL tgt ll st σ) : V Δ Γ nL pc ll (.int x :: st) σ := by
  subst hx
  exact v_tableIn C tgt off hdg h1 h2 ho ht k
theorem v_tableOut (C : Cx Δ Γ own cc nL d ret) (tgt : Nat) {dflt lo hi : Int} {offs : Array Int} {len : Nat} {x : Int32} (hdg : decode cc pc = .ok (.tableswitch dflt lo hi offs, len)) (h : x.toInt < lo ∨ hi < x.toInt) (ht : (pc : Int) + dflt = (tgt : Int)) (k : V Δ Γ nL tgt ll st σ) : V Δ Γ nL pc ll (.int x :: st) σ := by
  obtain ⟨l, D, cI, cT, ad, tK⟩ := Δ; obtain ⟨p, e, R, s, m, args, below, meth, c, kc, ks, Q⟩ := Γ
  exact fun H locs ls hP hS hl => lv_tableOut C.1 C.2.1 hdg h ht (k H locs ls hP hS hl)
theorem v_lookup (C : Cx Δ Γ own cc nL d ret) (tgt : Nat) {dflt : Int} {ps : Array (Int × Int)} {len : Nat} {x : Int32} (off : Int) (hdg : decode cc pc = .ok (.lookupswitch dflt ps, len)) (hp : (ps.toList.zip (ps.toList.drop 1)).all (fun (a, next) => a.1 < next.1) = true) (ho : Op.lookupswitch.offset ps.toList dflt x.toInt = off) (ht : (pc : Int) + off = (tgt : Int)) (k : V Δ Γ nL tgt ll st σ) : V Δ Γ nL pc ll (.int x :: st) σ := by
  obtain ⟨l, D, cI, cT, ad, tK⟩ := Δ; obtain ⟨p, e, R, s, m, args, below, meth, c, kc, ks, Q⟩ := Γ
  exact fun H locs ls hP hS hl => lv_lookup C.1 C.2.1 hdg hp ho ht (k H locs ls hP hS hl)
/-! ends -/
theorem v_iret (C : Cx Δ Γ own cc nL d (some .int)) {rv : Option Value} {σ' : Mem} (hq : RetQ Δ Γ rv σ') {v : Int32} (hr : rv = some (.int v)) (hs : σ' = σ) (hdg : decode cc pc = .ok (.ireturn, 1)) : V Δ Γ nL pc ll [.int v] σ := by
  obtain ⟨l, D, cI, cT, ad, tK⟩ := Δ; obtain ⟨p, e, R, s, m, args, below, meth, c, kc, ks, Q⟩ := Γ
  subst hr; subst hs
  obtain rfl := hq
  exact fun H locs ls hP hS hl => W.iret (Qc := Pq (l, D, cI, cT, ad, tK) (some (.int v)) σ') C.1 C.2.1 C.2.2.2.2.2.2.1 (fun t ht _ => ⟨rfl, by rw [ht]; exact hP, hS.F ht⟩) hS.2.2 hdg C.2.2.2.2.2.2.2.1
theorem v_zret (C : Cx Δ Γ own cc nL d (some .boolean)) {rv : Option Value} {σ' : Mem} (hq : RetQ Δ Γ rv σ') {v : Int32} (hv : narrow .boolean (.int v) = .int v) (hr : rv = some (.int v)) (hs : σ' = σ) (hdg : decode cc pc = .ok (.ireturn, 1)) : V Δ Γ nL pc ll [.int v] σ := by
  obtain ⟨l, D, cI, cT, ad, tK⟩ := Δ; obtain ⟨p, e, R, s, m, args, below, meth, c, kc, ks, Q⟩ := Γ
  subst hr; subst hs
  obtain rfl := hq
  exact fun H locs ls hP hS hl => W.zret (Qc := Pq (l, D, cI, cT, ad, tK) (some (.int v)) σ') C.1 C.2.1 C.2.2.2.2.2.2.1 hv (fun t ht _ => ⟨rfl, by rw [ht]; exact hP, hS.F ht⟩) hS.2.2 hdg C.2.2.2.2.2.2.2.1
theorem v_lret (C : Cx Δ Γ own cc nL d (some .long)) {rv : Option Value} {σ' : Mem} (hq : RetQ Δ Γ rv σ') {v : Int64} (hr : rv = some (.long v)) (hs : σ' = σ) (hdg : decode cc pc = .ok (.lreturn, 1)) : V Δ Γ nL pc ll [.long v] σ := by
  obtain ⟨l, D, cI, cT, ad, tK⟩ := Δ; obtain ⟨p, e, R, s, m, args, below, meth, c, kc, ks, Q⟩ := Γ
  subst hr; subst hs
  obtain rfl := hq
  exact fun H locs ls hP hS hl => W.lret (Qc := Pq (l, D, cI, cT, ad, tK) (some (.long v)) σ') C.1 C.2.1 C.2.2.2.2.2.2.1 (fun t ht _ => ⟨rfl, by rw [ht]; exact hP, hS.F ht⟩) hS.2.2 hdg C.2.2.2.2.2.2.2.1
theorem v_aret (C : Cx Δ Γ own cc nL d ret) {rv : Option Value} {σ' : Mem} (hq : RetQ Δ Γ rv σ') {v : Value} {rt : String} (hret : ret = some (.object rt)) (hv : v = .null ∨ ∃ a, v = .ref a) (hr : rv = some v) (hs : σ' = σ) (hdg : decode cc pc = .ok (.areturn, 1)) : V Δ Γ nL pc ll [v] σ := by
  obtain ⟨l, D, cI, cT, ad, tK⟩ := Δ; obtain ⟨p, e, R, s, m, args, below, meth, c, kc, ks, Q⟩ := Γ
  subst hr; subst hs; subst hret
  obtain rfl := hq
  exact fun H locs ls hP hS hl => W.aret (Qc := Pq (l, D, cI, cT, ad, tK) (some v) σ') C.1 C.2.1 C.2.2.2.2.2.2.1 (Or.inl ⟨_, rfl⟩) hv (fun t ht _ => ⟨rfl, by rw [ht]; exact hP, hS.F ht⟩) hS.2.2 hdg C.2.2.2.2.2.2.2.1
theorem v_vret (C : Cx Δ Γ own cc nL d none) {rv : Option Value} {σ' : Mem} (hq : RetQ Δ Γ rv σ') (hr : rv = none) (hs : σ' = σ) (hdg : decode cc pc = .ok (.return_, 1)) : V Δ Γ nL pc ll [] σ := by
  obtain ⟨l, D, cI, cT, ad, tK⟩ := Δ; obtain ⟨p, e, R, s, m, args, below, meth, c, kc, ks, Q⟩ := Γ
  subst hr; subst hs
  obtain rfl := hq
  exact fun H locs ls hP hS hl => W.vret (Qc := Pq (l, D, cI, cT, ad, tK) none σ') C.1 C.2.1 C.2.2.2.2.2.2.1 (fun t ht _ => ⟨rfl, by rw [ht]; exact hP, hS.F ht⟩) hS.2.2 hdg C.2.2.2.2.2.2.2.1
end ROWS
end
section
/-! ===== fields, arrays, calls, over V ===== -/
def CW (ci : Nat) (C : String) (T : u_T) (N : Nat) (ty : Nat → FieldType) : Prop := cls9[ci]? = some (C, T, N) ∧ (∀ w ∈ u_ws C T N, w ∈ lw_good) ∧ (∀ k, k < N → parseFieldDescriptor (T k).2.2.1 = some (ty k)) ∧ ∀ a, a < N → ∀ b, b < N → a ≠ b → (T a).2.1 ≠ (T b).2.1
/-- a field as a class links it: by its own words (FU), by the nest's (FN); one that may be written (.. fty) -/
def FU (own : String) (idx ci j : Nat) : Prop := ∃ (C : String) (T : u_T) (N : Nat) (ty : Nat → FieldType), CW ci C T N ty ∧ j < N ∧ (T j).1 = C ∧ ((Cond.fieldLink own idx C (T j).2.1 (T j).2.2.1 ∈ lw_good) ∨ ∃ host, Cond.fieldLinkNest own idx C (T j).2.1 (T j).2.2.1 host ∈ lw_nest)
def FP (own : String) (idx ci j : Nat) (fty : FieldType) : Prop := ∃ (C : String) (T : u_T) (N : Nat) (ty : Nat → FieldType), CW ci C T N ty ∧ j < N ∧ (T j).1 = C ∧ ((Cond.fieldLink own idx C (T j).2.1 (T j).2.2.1 ∈ lw_good) ∨ ∃ host, Cond.fieldLinkNest own idx C (T j).2.1 (T j).2.2.1 host ∈ lw_nest) ∧ (T j).2.2.2 = false ∧ parseFieldDescriptor (T j).2.2.1 = some fty
theorem cel_obj {ad : Nat → Nat} {cI cT : ClassId} {σ : Mem} {k : Nat} {q : Nat × List (Option (Option Nat))} (h : shp k = .inl q) : cel ad cI cT σ k = .inr (q.1, fvs ad σ k 0 q.2) := by unfold cel; rw [h]
theorem cel_arr {ad : Nat → Nat} {cI cT : ClassId} {σ : Mem} {k n : Nat} (h : shp k = .inr (.inl n)) : cel ad cI cT σ k = .inl (cI, n, .inl (σ.1 k)) := by unfold cel; rw [h]
theorem cel_ref {ad : Nat → Nat} {cI cT : ClassId} {σ : Mem} {k : Nat} {l : List Nat} (h : shp k = .inr (.inr l)) : cel ad cI cT σ k = .inl (cT, l.length, .inr (.inr (.inr (.inr (fun j => (l[j]?).map ad))))) := by unfold cel; rw [h]
theorem in_of {i : Int32} {n : Nat} (h : 0 ≤ i.toInt ∧ i.toInt < n) : vp_in i n := vp_in_iff.mpr h
section HROWS
variable {Δ : DD} {Γ : GG} {own : String} {cc : ByteArray} {nL d pc : Nat} {ret : Option FieldType} {ll : List (Nat × Value)} {st : List Value} {σ : Mem}
theorem v_getf (C : Cx Δ Γ own cc nL d ret) {idx ci j k : Nat} {q : Nat × List (Option (Option Nat))} {f : Option (Option Nat)} (fu : FU own idx ci j) (hs : shp k = .inl q) (hc : q.1 = ci) (hf : q.2[j]? = some f) (hdg : decode cc pc = .ok (.getfield idx, 3)) (kk : V Δ Γ nL (pc + 3) ll (fvl Δ.2.2.2.2.1 σ k j f :: st) σ) : V Δ Γ nL pc ll (rf Δ k :: st) σ := by
  obtain ⟨l, D, cI, cT, ad, tK⟩ := Δ; obtain ⟨p, e, R, s, m, args, below, meth, c, kc, ks, Q⟩ := Γ
  intro H locs ls hP hS hl
  obtain ⟨Cn, T, N, ty, cw, hj, hT, hw⟩ := fu
  have hk : k < nW := shp_lt (by rw [hs]; exact fun h => by cases h)
  have he : (wld ad cI cT σ)[k]? = some (ad k, .inr (q.1, fvs ad σ k 0 q.2)) := by rw [wld_get hk, cel_obj hs]
  have hv : (fvs ad σ k 0 q.2)[j]? = some (fvl ad σ k j f) := by
    have := fvs_get ad σ k q.2 0 j f hf
    rwa [Nat.zero_add] at this
  subst hc
  rcases hw with hw | ⟨host, hw⟩
  · exact va_get C.1 C.2.1 C.2.2.2.2.1 cw.2.1 C.2.2.2.1 C.2.2.2.2.2.1.1 hP k he cw.1 j hj (C.2.2.2.2.1 _ hw) (fun x h => by rw [hT] at h; exact h) hv hdg (kk H locs ls hP hS hl)
  · exact va_getN C.1 C.2.1 C.2.2.2.2.1 cw.2.1 C.2.2.2.1 C.2.2.2.2.2.1.1 hP k he cw.1 j hj (va_Nw.use (nest_on hw) (C.2.2.2.2.2.1.2.2.2 _ hw)) (fun x h => by rw [hT] at h; exact h) hv hdg (kk H locs ls hP hS hl)
theorem v_gI (C : Cx Δ Γ own cc nL d ret) {idx ci j k : Nat} {v : Int32} (fu : FU own idx ci j) (hg : gI ci j k σ = some v) (hdg : decode cc pc = .ok (.getfield idx, 3)) (kk : V Δ Γ nL (pc + 3) ll (.int v :: st) σ) : V Δ Γ nL pc ll (rf Δ k :: st) σ := by
  unfold gI at hg
  split at hg
  · next q hs =>
    split at hg
    · next hc =>
      cases hg
      exact v_getf C fu hs hc.1 hc.2 hdg kk
    · cases hg
  · cases hg
theorem v_gL (C : Cx Δ Γ own cc nL d ret) {idx ci j k : Nat} {v : Int64} (fu : FU own idx ci j) (hg : gL ci j k σ = some v) (hdg : decode cc pc = .ok (.getfield idx, 3)) (kk : V Δ Γ nL (pc + 3) ll (.long v :: st) σ) : V Δ Γ nL pc ll (rf Δ k :: st) σ := by
  unfold gL at hg
  split at hg
  · next q hs =>
    split at hg
    · next hc =>
      cases hg
      exact v_getf C fu hs hc.1 hc.2 hdg kk
    · cases hg
  · cases hg
theorem v_gR (C : Cx Δ Γ own cc nL d ret) {idx ci j k a : Nat} (fu : FU own idx ci j) (hg : gR ci j k = some a) (hdg : decode cc pc = .ok (.getfield idx, 3)) (kk : V Δ Γ nL (pc + 3) ll (rf Δ a :: st) σ) : V Δ Γ nL pc ll (rf Δ k :: st) σ := by
  unfold gR at hg
  split at hg
  · next q hs =>
    split at hg
    · next hc =>
      split at hg
      · next p hf =>
        cases hg
        exact v_getf C fu hs hc hf hdg kk
      · cases hg
    · cases hg
  · cases hg
theorem v_putf (C : Cx Δ Γ own cc nL d ret) {idx ci j k : Nat} {q : Nat × List (Option (Option Nat))} {fty : FieldType} {v : Value} {σ' : Mem} (fu : FP own idx ci j fty) (hs : shp k = .inl q) (hc : q.1 = ci) (hj2 : j < q.2.length) (hn : narrow fty v = v) (hfit : fits fty v = true)
    (hset : (fvs Δ.2.2.2.2.1 σ k 0 q.2).set j v = fvs Δ.2.2.2.2.1 σ' k 0 q.2) (ho : ∀ i, i ≠ k → cel Δ.2.2.2.2.1 Δ.2.2.1 Δ.2.2.2.1 σ' i = cel Δ.2.2.2.2.1 Δ.2.2.1 Δ.2.2.2.1 σ i)
    (hdg : decode cc pc = .ok (.putfield idx, 3)) (kk : V Δ Γ nL (pc + 3) ll st σ') : V Δ Γ nL pc ll (v :: rf Δ k :: st) σ := by
  obtain ⟨l, D, cI, cT, ad, tK⟩ := Δ; obtain ⟨p, e, R, s, m, args, below, meth, c, kc, ks, Q⟩ := Γ
  intro H locs ls hP hS hl
  obtain ⟨Cn, T, N, ty, cw, hj, hT, hw, hfin, hd⟩ := fu
  have hk : k < nW := shp_lt (by rw [hs]; exact fun h => by cases h)
  have he : (wld ad cI cT σ)[k]? = some (ad k, .inr (q.1, fvs ad σ k 0 q.2)) := by rw [wld_get hk, cel_obj hs]
  have hD := wld_D (cI := cI) (cT := cT) (σ := σ) C.2.2.2.2.2.1.2.1
  have hws : (wld ad cI cT σ).set k (ad k, .inr (q.1, (fvs ad σ k 0 q.2).set j v)) = wld ad cI cT σ' := wld_set hk (by rw [cel_obj hs]; dsimp only at hset; rw [hset]) ho
  subst hc
  have hlen : j < (fvs ad σ k 0 q.2).length := by rw [fvs_len]; exact hj2
  rcases hw with hw | ⟨host, hw⟩
  · exact va_put C.1 C.2.1 C.2.2.2.2.1 cw.2.1 ty cw.2.2.1 cw.2.2.2 C.2.2.2.1 C.2.2.2.2.2.1.1 hP hD hS k he cw.1 j hj (C.2.2.2.2.1 _ hw) (fun x h => by rw [hT] at h; exact h) hfin hd hn hfit hlen hdg (fun H1 locs1 hP1 _ hS1 => kk H1 locs1 ls (by rw [← hws]; exact hP1) hS1 hl)
  · exact va_putN C.1 C.2.1 C.2.2.2.2.1 cw.2.1 ty cw.2.2.1 cw.2.2.2 C.2.2.2.1 C.2.2.2.2.2.1.1 hP hD hS k he cw.1 j hj (va_Nw.use (nest_on hw) (C.2.2.2.2.2.1.2.2.2 _ hw)) (fun x h => by rw [hT] at h; exact h) hfin hd hn hfit hlen hdg (fun H1 locs1 hP1 _ hS1 => kk H1 locs1 ls (by rw [← hws]; exact hP1) hS1 hl)
theorem v_pI (C : Cx Δ Γ own cc nL d ret) {idx ci j k : Nat} {v : Int32} {σ' : Mem} (fu : FP own idx ci j .int) (hg : pI ci j k v σ = some σ') (hdg : decode cc pc = .ok (.putfield idx, 3)) (kk : V Δ Γ nL (pc + 3) ll st σ') : V Δ Γ nL pc ll (.int v :: rf Δ k :: st) σ := by
  unfold pI at hg
  split at hg
  · next q hs =>
    split at hg
    · next hc =>
      cases hg
      exact v_putf C fu hs hc.1 (List.getElem?_eq_some_iff.mp hc.2).1 rfl rfl (fvs_setI q.2 0 j hc.2 (Nat.zero_add j)) (fun i hi => cel_setI_ne hi) hdg kk
    · cases hg
  · cases hg
theorem v_pL (C : Cx Δ Γ own cc nL d ret) {idx ci j k : Nat} {v : Int64} {σ' : Mem} (fu : FP own idx ci j .long) (hg : pL ci j k v σ = some σ') (hdg : decode cc pc = .ok (.putfield idx, 3)) (kk : V Δ Γ nL (pc + 3) ll st σ') : V Δ Γ nL pc ll (.long v :: rf Δ k :: st) σ := by
  unfold pL at hg
  split at hg
  · next q hs =>
    split at hg
    · next hc =>
      cases hg
      exact v_putf C fu hs hc.1 (List.getElem?_eq_some_iff.mp hc.2).1 rfl rfl (fvs_setL q.2 0 j hc.2 (Nat.zero_add j)) (fun i hi => cel_setL_ne hi) hdg kk
    · cases hg
  · cases hg
theorem v_aI (C : Cx Δ Γ own cc nL d ret) {k : Nat} {i v : Int32} (hg : aI k i σ = some v) (hdg : decode cc pc = .ok (.iaload, 1)) (kk : V Δ Γ nL (pc + 1) ll (.int v :: st) σ) : V Δ Γ nL pc ll (.int i :: rf Δ k :: st) σ := by
  unfold aI at hg
  split at hg
  · next n hs =>
    split at hg
    · next hc =>
      cases hg
      obtain ⟨l, D, cI, cT, ad, tK⟩ := Δ; obtain ⟨p, e, R, s, m, args, below, meth, c, kc, ks, Q⟩ := Γ
      intro H locs ls hP hS hl
      have hk : k < nW := shp_lt (by rw [hs]; intro h; cases h; exact absurd (Int.lt_of_le_of_lt hc.1 hc.2) (by decide))
      exact va_iald C.1 C.2.1 C.2.2.2.2.2.1.1 hP k 0 (by rw [wld_get hk, cel_arr hs]) rfl (in_of hc) hdg (kk H locs ls hP hS hl)
    · cases hg
  · cases hg
theorem v_sI (C : Cx Δ Γ own cc nL d ret) {k : Nat} {i v : Int32} {σ' : Mem} (hg : sI k i v σ = some σ') (hdg : decode cc pc = .ok (.iastore, 1)) (kk : V Δ Γ nL (pc + 1) ll st σ') : V Δ Γ nL pc ll (.int v :: .int i :: rf Δ k :: st) σ := by
  unfold sI at hg
  split at hg
  · next n hs =>
    split at hg
    · next hc =>
      cases hg
      obtain ⟨l, D, cI, cT, ad, tK⟩ := Δ; obtain ⟨p, e, R, s, m, args, below, meth, c, kc, ks, Q⟩ := Γ
      intro H locs ls hP hS hl
      have hk : k < nW := shp_lt (by rw [hs]; intro h; cases h; exact absurd (Int.lt_of_le_of_lt hc.1 hc.2) (by decide))
      have hD := wld_D (cI := cI) (cT := cT) (σ := σ) C.2.2.2.2.2.1.2.1
      have hws : (wld ad cI cT σ).set k (ad k, .inl (cI, n, .inl (upd (σ.1 k) i.toNatClampNeg v))) = wld ad cI cT (setI σ k i.toNatClampNeg v) := by
        refine wld_set hk ?_ (fun i hi => cel_setI_ne hi)
        rw [cel_arr hs]
        congr 3
        congr 1
        funext y
        simp [upd, setI]
      exact va_iast C.1 C.2.1 C.2.2.2.2.2.1.1 hP hD hS k 0 (by rw [wld_get hk, cel_arr hs]) rfl (in_of hc) hdg (fun H1 locs1 hP1 _ hS1 => kk H1 locs1 ls (by rw [← hws]; exact hP1) hS1 hl)
    · cases hg
  · cases hg
theorem v_aR (C : Cx Δ Γ own cc nL d ret) {k a : Nat} {i : Int32} (hg : aR k i = some a) (hdg : decode cc pc = .ok (.aaload, 1)) (kk : V Δ Γ nL (pc + 1) ll (rf Δ a :: st) σ) : V Δ Γ nL pc ll (.int i :: rf Δ k :: st) σ := by
  unfold aR at hg
  split at hg
  · next lst hs =>
    split at hg
    · next hc =>
      obtain ⟨l, D, cI, cT, ad, tK⟩ := Δ; obtain ⟨p, e, R, s, m, args, below, meth, c, kc, ks, Q⟩ := Γ
      intro H locs ls hP hS hl
      have hk : k < nW := shp_lt (by rw [hs]; intro h; cases h)
      refine va_aldq C.1 C.2.1 C.2.2.2.2.2.1.1 hP k 1 (by rw [wld_get hk, cel_ref hs]) rfl (in_of hc) hdg ?_
      rw [hg]
      exact kk H locs ls hP hS hl
    · cases hg
  · cases hg
theorem v_aN (C : Cx Δ Γ own cc nL d ret) {k : Nat} {v : Int32} (hg : aN k = some v) (hdg : decode cc pc = .ok (.arraylength, 1)) (kk : V Δ Γ nL (pc + 1) ll (.int v :: st) σ) : V Δ Γ nL pc ll (rf Δ k :: st) σ := by
  unfold aN at hg
  split at hg
  · next hk =>
    obtain ⟨l, D, cI, cT, ad, tK⟩ := Δ; obtain ⟨p, e, R, s, m, args, below, meth, c, kc, ks, Q⟩ := Γ
    intro H locs ls hP hS hl
    split at hg
    · next n hs =>
      cases hg
      exact va_alen C.1 C.2.1 C.2.2.2.2.2.1.1 hP k 0 (by rw [wld_get hk, cel_arr hs]) rfl rfl hdg (kk H locs ls hP hS hl)
    · next n hs =>
      cases hg
      exact va_alen C.1 C.2.1 C.2.2.2.2.2.1.1 hP k 1 (by rw [wld_get hk, cel_ref hs]) rfl rfl hdg (kk H locs ls hP hS hl)
    · cases hg
  · cases hg
/-- the letters of the kinds -/
def aK (i : Int32) : Option Int32 := if 0 ≤ i.toInt ∧ i.toInt < 6 then some (klv i.toNatClampNeg) else none
theorem v_gK (C : Cx Δ Γ own cc nL d ret) {idx : Nat} {host : String} (hw : Cond.fieldLinkNest own idx "BolsterBeds" "KIND_LETTERS" "[I" host ∈ lw_nest) (hdg : decode cc pc = .ok (.getstatic idx, 3)) (kk : V Δ Γ nL (pc + 3) ll (.ref Δ.2.2.2.2.2 :: st) σ) : V Δ Γ nL pc ll st σ := by
  obtain ⟨l, D, cI, cT, ad, tK⟩ := Δ; obtain ⟨p, e, R, s, m, args, below, meth, c, kc, ks, Q⟩ := Γ
  intro H locs ls hP hS hl
  exact va_getsN C.1 C.2.1 C.2.2.2.2.2.1.2.2.1.1 hS C.2.2.2.1 (va_Nw.use (nest_on hw) (C.2.2.2.2.2.1.2.2.2 _ hw)) (fun x h => h) hdg (kk H locs ls hP hS hl)
theorem v_aK (C : Cx Δ Γ own cc nL d ret) {i v : Int32} (hg : aK i = some v) (hdg : decode cc pc = .ok (.iaload, 1)) (kk : V Δ Γ nL (pc + 1) ll (.int v :: st) σ) : V Δ Γ nL pc ll (.int i :: .ref Δ.2.2.2.2.2 :: st) σ := by
  unfold aK at hg
  split at hg
  · next hc =>
    cases hg
    obtain ⟨l, D, cI, cT, ad, tK⟩ := Δ; obtain ⟨p, e, R, s, m, args, below, meth, c, kc, ks, Q⟩ := Γ
    intro H locs ls hP hS hl
    exact va_ti C.1 C.2.1 C.2.2.2.2.2.1.2.2.1.2 hS (in_of hc) rfl hdg (kk H locs ls hP hS hl)
  · cases hg
theorem v_nK (C : Cx Δ Γ own cc nL d ret) (hdg : decode cc pc = .ok (.arraylength, 1)) (kk : V Δ Γ nL (pc + 1) ll (.int 6 :: st) σ) : V Δ Γ nL pc ll (.ref Δ.2.2.2.2.2 :: st) σ := by
  obtain ⟨l, D, cI, cT, ad, tK⟩ := Δ; obtain ⟨p, e, R, s, m, args, below, meth, c, kc, ks, Q⟩ := Γ
  intro H locs ls hP hS hl
  exact va_tlen C.1 C.2.1 C.2.2.2.2.2.1.2.2.1.2 hS rfl hdg (kk H locs ls hP hS hl)
end HROWS
end
section
/-! ===== calls over V, and what the library does ===== -/
theorem tnn {z : Int32} (h : 0 ≤ z.toInt) : z.toInt = (z.toNatClampNeg : Int) ∧ ¬ z < 0 := by
  refine ⟨?_, ?_⟩
  · have : z.toNatClampNeg = z.toInt.toNat := rfl
    omega
  · rw [Int32.lt_iff_toInt_lt]
    have : (0 : Int32).toInt = 0 := rfl
    omega
/-- a method that an object of its class is asked for; a static one -/
def MWi (ci : Nat) (y : MethodName) (cc : ByteArray) (nL : Nat) (ret : Option FieldType) (n : Nat) : Prop := Cond.instanceMethod y ∈ lw_good ∧ Cond.selects y.cls y y ∈ lw_good ∧ Cond.code y cc nL ret ∈ lw_good ∧ Cond.initialized y.cls ∈ lw_good ∧ (y.cls ≠ "java/lang/invoke/MethodHandle" ∧ y.cls ≠ "java/lang/invoke/VarHandle" ∧ (parseMethodDescriptor y.desc).map (fun d => d.parameters.length) = some n) ∧ nL ≤ 45 ∧ ∃ q : vw_C, cls9[ci]? = some q ∧ q.1 = y.cls
def MWs (y : MethodName) (cc : ByteArray) (nL : Nat) (ret : Option FieldType) (n : Nat) : Prop := Cond.static y ∈ lw_good ∧ Cond.code y cc nL ret ∈ lw_good ∧ Cond.initialized y.cls ∈ lw_good ∧ (y.cls ≠ "java/lang/invoke/MethodHandle" ∧ y.cls ≠ "java/lang/invoke/VarHandle" ∧ (parseMethodDescriptor y.desc).map (fun d => d.parameters.length) = some n) ∧ nL ≤ 45
def LK (own : String) (idx : Nat) (y : MethodName) : Prop := Cond.methodLink own idx y ∈ lw_good ∨ ∃ host, Cond.methodLinkNest own idx y host ∈ lw_nest
theorem good_in {y : MethodName} {cc : ByteArray} {nL : Nat} {ret : Option FieldType} (h : Cond.code y cc nL ret ∈ lw_good) : GoodIn lw_good (Cond.code y cc nL ret :: lw_good) := by
  intro w hw
  have hm : w ∈ lw_good := by
    rcases List.mem_cons.mp hw with e | e
    · rw [e]; exact h
    · exact e
  exact ⟨hm, good_of_word (good_all w hm)⟩
section CROWS
variable {Δ : DD} {Γ : GG} {own : String} {cc : ByteArray} {nL d pc : Nat} {ret : Option FieldType} {ll : List (Nat × Value)} {st : List Value} {σ : Mem}
/-- behind a call: the callee's answer on the stack, its numbers -/
theorem v_back {l : Launch} {D : va_G} {cI cT : ClassId} {ad : Nat → Nat} {tK : Nat} {p : Program} {e : Env} {R : Room} {s : State} {m : MethodId} {args : Array Value} {below : List Frame} {meth : Method} {c : Code} {kc ks : Nat} {Q : State → Prop} {H : Heap} {locs : List Loc} {ls : Array Slot} {st0 : List Value} {a : Array Value} {rv : Option Value} {σ' : Mem}
    (hr : va_Run p l e R s m args below meth c H locs kc ks 0 0 (F0 m pc ls st0) st (Pq (l, D, cI, cT, ad, tK) rv σ' a) (adA ad)) (hS : va_S (adA ad) s.heap H locs) (hl : lv_has ls nL ll)
    (kk : V (l, D, cI, cT, ad, tK) (p, e, R, s, m, args, below, meth, c, kc, ks, Q) nL (pc + 3) ll (rv.toList ++ st) σ') : W p l e R s m args below meth c H locs kc ks Q (F0 m pc ls st0) := by
  intro T hT X
  obtain ⟨v, st₀, t, T', L, h0, X', hL, e1, e2, ⟨hv, hP', hz, hk⟩, hst⟩ := hr T hT X
  have hv2 : v = rv := by cases hv; rfl
  subst hv2
  rw [h0] at hz hk
  obtain ⟨t2, a1, b1⟩ := kk T'.heap (locs ++ L) ls (by rw [e1]; exact hP') ⟨Nat.le_trans hS.1 (by rw [e1]; exact hz), fun q h1 h2 => by rw [e1, hk q (Nat.lt_of_lt_of_le h1 hS.1) h2]; exact hS.2.1 q h1 h2, fun q hq => by
      rcases List.mem_append.mp hq with h | h
      · exact hS.2.2 q h
      · exact hL q h⟩ hl T' rfl X'
  exact ⟨t2, hst t2 a1, b1⟩
theorem v_cV (C : Cx Δ Γ own cc nL d ret) {ci idx n k : Nat} {y : MethodName} {cc' : ByteArray} {nL' : Nat} {ret' : Option FieldType} (mw : MWi ci y cc' nL' ret' n) (lk : LK own idx y) (As : List Value) {rv : Option Value} {σ' : Mem} (hM : Mt Δ d y cc' nL' ret' (rf Δ k :: As) σ rv σ') (hK : isK ci k = true) {st0 : List Value} (hst : st0 = As.reverse ++ rf Δ k :: st) (hn : As.length = n) (hW : (st.map fun v => v.category).sum ≤ 8) (hdg : decode cc pc = .ok (.invokevirtual idx, 3)) (kk : V Δ Γ nL (pc + 3) ll (rv.toList ++ st) σ') : V Δ Γ nL pc ll st0 σ := by
  have hbl := Pp.blind Δ (rf Δ k :: As) σ
  obtain ⟨l, D, cI, cT, ad, tK⟩ := Δ; obtain ⟨p, e, R, s, m, args, below, meth, c, kc, ks, Q⟩ := Γ
  intro H locs ls hP hS hl
  obtain ⟨m1, m2, m3, m4, m5, m6, q, hq, hqc⟩ := mw
  obtain ⟨hx, hb, hml, hown, hts, hSt, -, -, hR1, hR2, hR3, hR4⟩ := C
  unfold isK at hK
  split at hK
  · next qk hs =>
    have hk : k < nW := shp_lt (by rw [hs]; exact fun h => by cases h)
    have hci : qk.1 = ci := by simpa using hK
    have hrecv := va_recv hSt.1 hP (ci := ci) (q0 := k) (a := ad k) hq (by rw [wld_get hk, cel_obj hs, hci])
    rw [hqc] at hrecv
    have hpre : PreV s H y.cls (ad k) (Pp (l, D, cI, cT, ad, tK) (.ref (ad k) :: As) σ) As := ⟨hbl, hrecv, fun U hU hW => ⟨rfl, by rw [hU]; exact hP, by rw [hU]; exact hSt.go hS hW⟩⟩
    have hbase := callB_of (R := R) (own := own) (index := idx) (mc := 0) (ms := 0) (rm := rm d) n hts (good_in m3) rfl rfl rfl (hts _ m4)
    rcases lk with hw | ⟨host, hw⟩
    · have cw : CallW R s args own y.cls idx y cc' nL' ret' (Cond.code y cc' nL' ret' :: lw_good) (rm d) 0 0 n := ⟨hbase (hts _ hw) m5 ⟨hR1, by show 8 + (nL' + 11) + 64 * d ≤ R.locals; omega⟩, hts _ m1, hts _ m2⟩
      exact v_back (va_runV (As := As) (rest := st) (b := ad k) ⟨hx, hb, hml, hown, hts⟩ hM cw hpre rfl hn hl.1 hst (lv_room (m := m) (pc := pc) (ls := ls) (rest := st0) hW) hdg ⟨hR3, hR4⟩) hS hl kk
    · have cw := va_cnB (R := R) (own := own) (host := host) (index := idx) (mc := 0) (ms := 0) (rm := rm d) n hts (good_in m3) rfl rfl rfl (hSt.2.2.2 _ hw) (hts _ m4) m5 ⟨hR1, by show 8 + (nL' + 11) + 64 * d ≤ R.locals; omega⟩
      exact v_back (va_runVN (As := As) (rest := st) (b := ad k) ⟨hx, hb, hml, hown, hts⟩ hM ⟨cw, hts _ m1, hts _ m2⟩ hpre rfl hn hl.1 hst (lv_room (m := m) (pc := pc) (ls := ls) (rest := st0) hW) hdg ⟨hR3, hR4⟩) hS hl kk
  · cases hK
theorem v_cS (C : Cx Δ Γ own cc nL d ret) {idx n : Nat} {y : MethodName} {cc' : ByteArray} {nL' : Nat} {ret' : Option FieldType} (mw : MWs y cc' nL' ret' n) (lk : LK own idx y) (As : List Value) {rv : Option Value} {σ' : Mem} (hM : Mt Δ d y cc' nL' ret' As σ rv σ') {st0 : List Value} (hst : st0 = As.reverse ++ st) (hn : As.length = n) (hW : (st.map fun v => v.category).sum ≤ 8) (hdg : decode cc pc = .ok (.invokestatic idx, 3)) (kk : V Δ Γ nL (pc + 3) ll (rv.toList ++ st) σ') : V Δ Γ nL pc ll st0 σ := by
  have hbl := Pp.blind Δ As σ
  obtain ⟨l, D, cI, cT, ad, tK⟩ := Δ; obtain ⟨p, e, R, s, m, args, below, meth, c, kc, ks, Q⟩ := Γ
  intro H locs ls hP hS hl
  obtain ⟨m1, m3, m4, m5, m6⟩ := mw
  obtain ⟨hx, hb, hml, hown, hts, hSt, -, -, hR1, hR2, hR3, hR4⟩ := C
  have hpre : PreS s H (Pp (l, D, cI, cT, ad, tK) As σ) As := ⟨hbl, fun U hU hW => ⟨rfl, by rw [hU]; exact hP, by rw [hU]; exact hSt.go hS hW⟩⟩
  rcases lk with hw | ⟨host, hw⟩
  · have cw := callB_of (R := R) (own := own) (index := idx) (mc := 0) (ms := 0) (rm := rm d) n hts (good_in m3) rfl rfl rfl (hts _ m4) (hts _ hw) m5 ⟨hR1, by show 8 + (nL' + 11) + 64 * d ≤ R.locals; omega⟩
    exact v_back (va_runS (As := As) (rest := st) ⟨hx, hb, hml, hown, hts⟩ hM ⟨cw, hts _ m1⟩ hpre rfl hn hl.1 hst (lv_room (m := m) (pc := pc) (ls := ls) (rest := st0) hW) hdg ⟨hR3, hR4⟩) hS hl kk
  · have cw := va_cnB (R := R) (own := own) (host := host) (index := idx) (mc := 0) (ms := 0) (rm := rm d) n hts (good_in m3) rfl rfl rfl (hSt.2.2.2 _ hw) (hts _ m4) m5 ⟨hR1, by show 8 + (nL' + 11) + 64 * d ≤ R.locals; omega⟩
    exact v_back (va_runSN (As := As) (rest := st) ⟨hx, hb, hml, hown, hts⟩ hM ⟨cw, hts _ m1, trivial⟩ hpre rfl hn hl.1 hst (lv_room (m := m) (pc := pc) (ls := ls) (rest := st0) hW) hdg ⟨hR3, hR4⟩) hS hl kk
/-! Math.max, min, abs; System.arraycopy -/
theorem v_max (C : Cx Δ Γ own cc nL d ret) {idx : Nat} {x y : Int32} (hw : Cond.methodLink own idx Lib.Math.max.name ∈ lw_good) (hw2 : Cond.static Lib.Math.max.name ∈ lw_good) (hw3 : Cond.initialized "java/lang/Math" ∈ lw_good) (hw4 : Cond.code Lib.Math.max.name Lib.Math.max.code 2 (some .int) ∈ lw_good) (hW : (st.map fun v => v.category).sum ≤ 8) (hdg : decode cc pc = .ok (.invokestatic idx, 3)) (kk : V Δ Γ nL (pc + 3) ll (.int (if x < y then y else x) :: st) σ) : V Δ Γ nL pc ll (.int y :: .int x :: st) σ := by
  obtain ⟨l, D, cI, cT, ad, tK⟩ := Δ; obtain ⟨p, e, R, s, m, args, below, meth, c, kc, ks, Q⟩ := Γ
  obtain ⟨hx, hb, hml, hown, hts, hSt, -, -, hR1, hR2, hR3, hR4⟩ := C
  exact fun H locs ls hP hS hl => va_mmax hx hb (hml.trans hl.1.symm) hown (hts _ hw) (hts _ hw2) (hts _ hw3) (hts _ hw4) (by omega) (by omega) hR3 hR4 hdg (kk H locs ls hP hS hl)
theorem v_min (C : Cx Δ Γ own cc nL d ret) {idx : Nat} {x y : Int32} (hw : Cond.methodLink own idx Lib.Math.min.name ∈ lw_good) (hw2 : Cond.static Lib.Math.min.name ∈ lw_good) (hw3 : Cond.initialized "java/lang/Math" ∈ lw_good) (hw4 : Cond.code Lib.Math.min.name Lib.Math.min.code 2 (some .int) ∈ lw_good) (hW : (st.map fun v => v.category).sum ≤ 8) (hdg : decode cc pc = .ok (.invokestatic idx, 3)) (kk : V Δ Γ nL (pc + 3) ll (.int (if y < x then y else x) :: st) σ) : V Δ Γ nL pc ll (.int y :: .int x :: st) σ := by
  obtain ⟨l, D, cI, cT, ad, tK⟩ := Δ; obtain ⟨p, e, R, s, m, args, below, meth, c, kc, ks, Q⟩ := Γ
  obtain ⟨hx, hb, hml, hown, hts, hSt, -, -, hR1, hR2, hR3, hR4⟩ := C
  exact fun H locs ls hP hS hl => va_mmin hx hb (hml.trans hl.1.symm) hown (hts _ hw) (hts _ hw2) (hts _ hw3) (hts _ hw4) (by omega) (by omega) hR3 hR4 hdg (kk H locs ls hP hS hl)
theorem v_abs (C : Cx Δ Γ own cc nL d ret) {idx : Nat} {x : Int32} (hw : Cond.methodLink own idx Lib.Math.abs.name ∈ lw_good) (hw2 : Cond.static Lib.Math.abs.name ∈ lw_good) (hw3 : Cond.initialized "java/lang/Math" ∈ lw_good) (hw4 : Cond.code Lib.Math.abs.name Lib.Math.abs.code 1 (some .int) ∈ lw_good) (hW : (st.map fun v => v.category).sum ≤ 8) (hdg : decode cc pc = .ok (.invokestatic idx, 3)) (kk : V Δ Γ nL (pc + 3) ll (.int (if 0 ≤ x then x else 0 - x) :: st) σ) : V Δ Γ nL pc ll (.int x :: st) σ := by
  obtain ⟨l, D, cI, cT, ad, tK⟩ := Δ; obtain ⟨p, e, R, s, m, args, below, meth, c, kc, ks, Q⟩ := Γ
  obtain ⟨hx, hb, hml, hown, hts, hSt, -, -, hR1, hR2, hR3, hR4⟩ := C
  exact fun H locs ls hP hS hl => va_mabs hx hb (hml.trans hl.1.symm) hown (hts _ hw) (hts _ hw2) (hts _ hw3) (hts _ hw4) (by omega) (by omega) hR3 hR4 hdg (kk H locs ls hP hS hl)
theorem v_copy (C : Cx Δ Γ own cc nL d ret) {idx a b : Nat} {sp dp n : Int32} {σ' : Mem} (hw : Cond.methodLink own idx arraycopyName ∈ lw_good) (hw1 : Cond.native arraycopyName ∈ lw_good) (hw2 : Cond.static arraycopyName ∈ lw_good) (hw3 : Cond.initialized "java/lang/System" ∈ lw_good) (hg : cpI a sp b dp n σ = some σ') (hW : (st.map fun v => v.category).sum ≤ 8) (hdg : decode cc pc = .ok (.invokestatic idx, 3)) (kk : V Δ Γ nL (pc + 3) ll st σ') : V Δ Γ nL pc ll (.int n :: .int dp :: rf Δ b :: .int sp :: rf Δ a :: st) σ := by
  unfold cpI at hg
  split at hg
  · next n0 n1 hs0 hs1 =>
    split at hg
    · next hc =>
      obtain ⟨h1, h2, h3, h4, h5, ha, hb'⟩ := hc
      have e1 := tnn h1
      have e2 := tnn h2
      have e3 := tnn h3
      cases hg
      obtain ⟨l, D, cI, cT, ad, tK⟩ := Δ; obtain ⟨p, e, R, s, m, args, below, meth, c, kc, ks, Q⟩ := Γ
      obtain ⟨hx, hb, hml, hown, hts, hSt, -, -, hR1, hR2, hR3, hR4⟩ := C
      intro H locs ls hP hS hl
      have hD := wld_D (cI := cI) (cT := cT) (σ := σ) hSt.2.1
      have hws : (wld ad cI cT σ).set b (ad b, .inl (cI, n1, .inl (va_cpy (σ.1 a) (σ.1 b) sp.toNatClampNeg dp.toNatClampNeg n.toNatClampNeg))) = wld ad cI cT (fun x y => if x = b then va_cpy (σ.1 a) (σ.1 b) sp.toNatClampNeg dp.toNatClampNeg n.toNatClampNeg y else σ.1 x y, σ.2) := by
        refine wld_set hb' ?_ (fun i hi => cel_ext (fun y => by simp [hi]) (fun _ => rfl))
        rw [cel_arr hs1]
        congr 3
        congr 1
        funext y
        simp
      exact va_copyi hx hb (hml.trans hl.1.symm) hown (hts _ hw) (hts _ hw1) (hts _ hw2) (hts _ hw3) hSt.1 hP hD hS a b 0 0 (by rw [wld_get ha, cel_arr hs0]) (by rw [wld_get hb', cel_arr hs1]) rfl rfl rfl e1.2 e2.2 e3.2 (by omega) (by omega) (fun i _ => rfl) (by omega) (by
        have : nativeFrameWords "java/lang/System" "arraycopy" 5 ≤ 40 := by decide +kernel
        omega) hdg (fun H1 locs1 hP1 _ hS1 => kk H1 locs1 ls (by rw [← hws]; exact hP1) hS1 hl)
    · cases hg
  · cases hg
end CROWS
end
section
/-! ===== rows in the forms that the printed walks use ===== -/
def chk (ci k : Nat) : Option Unit := if isK ci k = true then some () else none
theorem chk_k {ci k : Nat} {u : Unit} (h : chk ci k = some u) : isK ci k = true := by
  unfold chk at h
  split at h
  · assumption
  · cases h
def nz (y : Int32) : Option Unit := if y = 0 then none else some ()
def nzL (y : Int64) : Option Unit := if y = 0 then none else some ()
theorem nz_ne {y : Int32} {u : Unit} (h : nz y = some u) : ¬ y = 0 := by
  intro e
  unfold nz at h
  rw [if_pos e] at h
  cases h
theorem nzL_ne {y : Int64} {u : Unit} (h : nzL y = some u) : ¬ y = 0 := by
  intro e
  unfold nzL at h
  rw [if_pos e] at h
  cases h
/-- a truth value that is handed on: 0 or 1 -/
def bz (v : Int32) : Option Unit := if v &&& 1 = v then some () else none
theorem bz_nr {v : Int32} {u : Unit} (h : bz v = some u) : narrow .boolean (.int v) = .int v := by
  unfold bz at h
  split at h
  · next e => show Value.int (v &&& 1) = .int v; rw [e]
  · cases h
theorem mapd {α β : Type} {o : Option α} {f : α → β} {y : β} (h : o.map f = some y) : ∃ z, o = some z ∧ f z = y := by
  cases o with
  | none => cases h
  | some z => exact ⟨z, rfl, Option.some.inj h⟩
theorem ifc {α : Type} {c : Prop} [Decidable c] {a b : α} {r : α} (h : (if c then a else b) = r) : (c ∧ a = r) ∨ (¬ c ∧ b = r) := by
  by_cases hc : c
  · exact Or.inl ⟨hc, ifp h hc⟩
  · exact Or.inr ⟨hc, ifn h hc⟩
theorem inc_eq {x a b : Int32} (h : a = b) : x + a = x + b := by rw [h]
theorem lp_V {S T : Type} {f : S → Option (S ⊕ T)} {W : S → Prop} {K : T → Prop} {K' : S ⊕ T → Prop} (h1 : ∀ s, W s → K' (.inl s)) (h2 : ∀ t, K t → K' (.inr t)) (main : ∀ s y, f s = some y → K' y → W s) : ∀ s t, lp f s = some t → K t → W s :=
  fun s t h => lp_ind (P := fun s t => K t → W s) (fun s t hf hk => main s (.inr t) hf (h2 t hk)) (fun s s' t hf hp hk => main s (.inl s') hf (h1 s' (hp hk))) s t h
section MROWS
variable {Δ : DD} {Γ : GG} {own : String} {cc : ByteArray} {nL d pc : Nat} {ret : Option FieldType} {ll : List (Nat × Value)} {st : List Value} {σ : Mem}
theorem v_sub (kz : List Nat) {ll' : List (Nat × Value)} (h : lv_pick ll kz = ll') (k : V Δ Γ nL pc ll' st σ) : V Δ Γ nL pc ll st σ := by
  obtain ⟨l, D, cI, cT, ad, tK⟩ := Δ; obtain ⟨p, e, R, s, m, args, below, meth, c, kc, ks, Q⟩ := Γ
  exact fun H locs ls hP hS hl => k H locs ls hP hS (lv_sub hl kz h)
theorem v_iretF (C : Cx Δ Γ own cc nL d (some .int)) {q : Int32 × Mem} {v : Int32} (hq : RetQ Δ Γ (some (.int q.1)) q.2) (hK : (v, σ) = q) (hdg : decode cc pc = .ok (.ireturn, 1)) : V Δ Γ nL pc ll [.int v] σ := by
  subst hK
  exact v_iret C hq rfl rfl hdg
theorem v_iretP (C : Cx Δ Γ own cc nL d (some .int)) {q : Int32} {v : Int32} (hq : RetQ Δ Γ (some (.int q)) σ) (hK : v = q) (hdg : decode cc pc = .ok (.ireturn, 1)) : V Δ Γ nL pc ll [.int v] σ := by
  subst hK
  exact v_iret C hq rfl rfl hdg
theorem v_zretF (C : Cx Δ Γ own cc nL d (some .boolean)) {q : Int32 × Mem} {v : Int32} (hq : RetQ Δ Γ (some (.int q.1)) q.2) (hK : (v, σ) = q) (hv : narrow .boolean (.int v) = .int v) (hdg : decode cc pc = .ok (.ireturn, 1)) : V Δ Γ nL pc ll [.int v] σ := by
  subst hK
  exact v_zret C hq hv rfl rfl hdg
theorem v_zretP (C : Cx Δ Γ own cc nL d (some .boolean)) {q : Int32} {v : Int32} (hq : RetQ Δ Γ (some (.int q)) σ) (hK : v = q) (hv : narrow .boolean (.int v) = .int v) (hdg : decode cc pc = .ok (.ireturn, 1)) : V Δ Γ nL pc ll [.int v] σ := by
  subst hK
  exact v_zret C hq hv rfl rfl hdg
theorem v_lretF (C : Cx Δ Γ own cc nL d (some .long)) {q : Int64 × Mem} {v : Int64} (hq : RetQ Δ Γ (some (.long q.1)) q.2) (hK : (v, σ) = q) (hdg : decode cc pc = .ok (.lreturn, 1)) : V Δ Γ nL pc ll [.long v] σ := by
  subst hK
  exact v_lret C hq rfl rfl hdg
theorem v_lretP (C : Cx Δ Γ own cc nL d (some .long)) {q : Int64} {v : Int64} (hq : RetQ Δ Γ (some (.long q)) σ) (hK : v = q) (hdg : decode cc pc = .ok (.lreturn, 1)) : V Δ Γ nL pc ll [.long v] σ := by
  subst hK
  exact v_lret C hq rfl rfl hdg
theorem v_vretF (C : Cx Δ Γ own cc nL d none) {q : Mem} (hq : RetQ Δ Γ none q) (hK : σ = q) (hdg : decode cc pc = .ok (.return_, 1)) : V Δ Γ nL pc ll [] σ := by
  subst hK
  exact v_vret C hq rfl rfl hdg
theorem v_aretR {rt : String} (C : Cx Δ Γ own cc nL d (some (.object rt))) {q : Option Nat × Mem} {k : Nat} (hq : RetQ Δ Γ (some (vr Δ q.1)) q.2) (hK : (some k, σ) = q) (hdg : decode cc pc = .ok (.areturn, 1)) : V Δ Γ nL pc ll [rf Δ k] σ := by
  subst hK
  exact v_aret C hq rfl (Or.inr ⟨_, rfl⟩) rfl rfl hdg
theorem v_aretN {rt : String} (C : Cx Δ Γ own cc nL d (some (.object rt))) {q : Option Nat × Mem} (hq : RetQ Δ Γ (some (vr Δ q.1)) q.2) (hK : (none, σ) = q) (hdg : decode cc pc = .ok (.areturn, 1)) : V Δ Γ nL pc ll [.null] σ := by
  subst hK
  exact v_aret C hq rfl (Or.inl rfl) rfl rfl hdg
variable {ci idx n k : Nat} {y : MethodName} {cc' : ByteArray} {nL' : Nat} {ret' : Option FieldType} {σ' : Mem} {st0 : List Value}
theorem v_cVi (C : Cx Δ Γ own cc nL d ret) (mw : MWi ci y cc' nL' ret' n) (lk : LK own idx y) (As : List Value) {r : Int32} (hM : Mt Δ d y cc' nL' ret' (rf Δ k :: As) σ (some (.int r)) σ') (hK : isK ci k = true) (hst : st0 = As.reverse ++ rf Δ k :: st) (hn : As.length = n) (hW : (st.map fun v => v.category).sum ≤ 8) (hdg : decode cc pc = .ok (.invokevirtual idx, 3)) (kk : V Δ Γ nL (pc + 3) ll (.int r :: st) σ') : V Δ Γ nL pc ll st0 σ := v_cV C mw lk As hM hK hst hn hW hdg kk
theorem v_cVl (C : Cx Δ Γ own cc nL d ret) (mw : MWi ci y cc' nL' ret' n) (lk : LK own idx y) (As : List Value) {r : Int64} (hM : Mt Δ d y cc' nL' ret' (rf Δ k :: As) σ (some (.long r)) σ') (hK : isK ci k = true) (hst : st0 = As.reverse ++ rf Δ k :: st) (hn : As.length = n) (hW : (st.map fun v => v.category).sum ≤ 8) (hdg : decode cc pc = .ok (.invokevirtual idx, 3)) (kk : V Δ Γ nL (pc + 3) ll (.long r :: st) σ') : V Δ Γ nL pc ll st0 σ := v_cV C mw lk As hM hK hst hn hW hdg kk
theorem v_cVv (C : Cx Δ Γ own cc nL d ret) (mw : MWi ci y cc' nL' ret' n) (lk : LK own idx y) (As : List Value) (hM : Mt Δ d y cc' nL' ret' (rf Δ k :: As) σ none σ') (hK : isK ci k = true) (hst : st0 = As.reverse ++ rf Δ k :: st) (hn : As.length = n) (hW : (st.map fun v => v.category).sum ≤ 8) (hdg : decode cc pc = .ok (.invokevirtual idx, 3)) (kk : V Δ Γ nL (pc + 3) ll st σ') : V Δ Γ nL pc ll st0 σ := v_cV C mw lk As hM hK hst hn hW hdg kk
theorem v_cVR (C : Cx Δ Γ own cc nL d ret) (mw : MWi ci y cc' nL' ret' n) (lk : LK own idx y) (As : List Value) {r : Nat} (hM : Mt Δ d y cc' nL' ret' (rf Δ k :: As) σ (some (vr Δ (some r))) σ') (hK : isK ci k = true) (hst : st0 = As.reverse ++ rf Δ k :: st) (hn : As.length = n) (hW : (st.map fun v => v.category).sum ≤ 8) (hdg : decode cc pc = .ok (.invokevirtual idx, 3)) (kk : V Δ Γ nL (pc + 3) ll (rf Δ r :: st) σ') : V Δ Γ nL pc ll st0 σ := v_cV C mw lk As hM hK hst hn hW hdg kk
theorem v_cVN (C : Cx Δ Γ own cc nL d ret) (mw : MWi ci y cc' nL' ret' n) (lk : LK own idx y) (As : List Value) (hM : Mt Δ d y cc' nL' ret' (rf Δ k :: As) σ (some (vr Δ none)) σ') (hK : isK ci k = true) (hst : st0 = As.reverse ++ rf Δ k :: st) (hn : As.length = n) (hW : (st.map fun v => v.category).sum ≤ 8) (hdg : decode cc pc = .ok (.invokevirtual idx, 3)) (kk : V Δ Γ nL (pc + 3) ll (.null :: st) σ') : V Δ Γ nL pc ll st0 σ := v_cV C mw lk As hM hK hst hn hW hdg kk
theorem v_cSi (C : Cx Δ Γ own cc nL d ret) (mw : MWs y cc' nL' ret' n) (lk : LK own idx y) (As : List Value) {r : Int32} (hM : Mt Δ d y cc' nL' ret' As σ (some (.int r)) σ') (hst : st0 = As.reverse ++ st) (hn : As.length = n) (hW : (st.map fun v => v.category).sum ≤ 8) (hdg : decode cc pc = .ok (.invokestatic idx, 3)) (kk : V Δ Γ nL (pc + 3) ll (.int r :: st) σ') : V Δ Γ nL pc ll st0 σ := v_cS C mw lk As hM hst hn hW hdg kk
theorem v_cSl (C : Cx Δ Γ own cc nL d ret) (mw : MWs y cc' nL' ret' n) (lk : LK own idx y) (As : List Value) {r : Int64} (hM : Mt Δ d y cc' nL' ret' As σ (some (.long r)) σ') (hst : st0 = As.reverse ++ st) (hn : As.length = n) (hW : (st.map fun v => v.category).sum ≤ 8) (hdg : decode cc pc = .ok (.invokestatic idx, 3)) (kk : V Δ Γ nL (pc + 3) ll (.long r :: st) σ') : V Δ Γ nL pc ll st0 σ := v_cS C mw lk As hM hst hn hW hdg kk
theorem v_cSv (C : Cx Δ Γ own cc nL d ret) (mw : MWs y cc' nL' ret' n) (lk : LK own idx y) (As : List Value) (hM : Mt Δ d y cc' nL' ret' As σ none σ') (hst : st0 = As.reverse ++ st) (hn : As.length = n) (hW : (st.map fun v => v.category).sum ≤ 8) (hdg : decode cc pc = .ok (.invokestatic idx, 3)) (kk : V Δ Γ nL (pc + 3) ll st σ') : V Δ Γ nL pc ll st0 σ := v_cS C mw lk As hM hst hn hW hdg kk
end MROWS
end
section
/-! ===== each method as a function of its arguments and of the numbers (printed from the bytecode by wip/whole/gen) ===== -/
noncomputable def F_X6_size (x0 : Nat) (x1 : Int32) (σ : Mem) : Option Int32 :=
  if x1 < 0 then
  some (-1 : Int32)
  else
  (gR 6 1 x0).bind fun p3 =>
  (aN p3).bind fun v4 =>
  if v4 ≤ x1 then
  some (-1 : Int32)
  else
  (gR 6 1 x0).bind fun p8 =>
  (aI p8 x1 σ).bind fun v9 =>
  some v9
noncomputable def F_X8_read (x0 : Nat) (x1 : Int32) (σ : Mem) : Option Int32 :=
  if x1 < 0 then
  some (0 : Int32)
  else
  (aN x0).bind fun v2 =>
  if v2 ≤ x1 then
  some (0 : Int32)
  else
  (aI x0 x1 σ).bind fun v5 =>
  some v5
noncomputable def F_X8_readK (x1 : Int32) (σ : Mem) : Option Int32 :=
  if x1 < 0 then
  some (0 : Int32)
  else
  if (6 : Int32) ≤ x1 then
  some (0 : Int32)
  else
  (aK x1).bind fun v3 =>
  some v3
noncomputable def F_X6_get (x0 : Nat) (x1 : Int32) (x2 : Int32) (σ : Mem) : Option Int32 :=
  if x2 < 0 then
  some (0 : Int32)
  else
  (F_X6_size x0 x1 σ).bind fun q2 =>
  if q2 ≤ x2 then
  some (0 : Int32)
  else
  (gR 6 2 x0).bind fun p6 =>
  (gI 6 0 x0 σ).bind fun v8 =>
  (F_X8_read p6 ((x1 * v8) + x2) σ).bind fun q9 =>
  some q9
noncomputable def F_X8_write (x0 : Nat) (x1 : Int32) (x2 : Int32) (σ : Mem) : Option Mem :=
  if x1 < 0 then
  some σ
  else
  (aN x0).bind fun v2 =>
  if v2 ≤ x1 then
  some σ
  else
  (sI x0 x1 x2 σ).bind fun m5 =>
  some m5
noncomputable def F_X0_take_13 (x0 : Nat) (x1 : Nat) (x2 : Int32) : Int32 × Mem → Option (Int32 × Mem) := lp fun s =>
  (gI 0 4 x0 s.2).bind fun v2 =>
  if v2 ≤ s.1 then
  some (.inr (((1 : Int32), s.2)))
  else
  (chk 6 x1).bind fun _ =>
  (F_X6_get x1 x2 ((2 : Int32) * s.1) s.2).bind fun q5 =>
  (chk 6 x1).bind fun _ =>
  (F_X6_get x1 x2 (((2 : Int32) * s.1) + (1 : Int32)) s.2).bind fun q8 =>
  (gR 0 0 x0).bind fun p11 =>
  (F_X8_write p11 s.1 q5 s.2).bind fun q12 =>
  (gR 0 1 x0).bind fun p15 =>
  (F_X8_write p15 s.1 q8 q12).bind fun q16 =>
  if q5 < 0 then
  some (.inr (((0 : Int32), q16)))
  else
  if (99 : Int32) < q5 then
  some (.inr (((0 : Int32), q16)))
  else
  if q8 < 0 then
  some (.inr (((0 : Int32), q16)))
  else
  if q8 ≤ (30 : Int32) then
  some (.inl ((s.1 + (1 : Int32)), q16))
  else
  some (.inr (((0 : Int32), q16)))
noncomputable def F_X0_take (x0 : Nat) (x1 : Nat) (x2 : Int32) (σ : Mem) : Option (Int32 × Mem) :=
  (chk 6 x1).bind fun _ =>
  (F_X6_size x1 x2 σ).bind fun q23 =>
  (pI 0 4 x0 (q23 / (2 : Int32)) σ).bind fun m26 =>
  F_X0_take_13 (x0) (x1) (x2)  ((0 : Int32), m26)
noncomputable def F_X7_gapWith (x0 : Nat) (x1 : Int32) (x2 : Int32) (σ : Mem) : Option Int32 :=
  (gR 7 2 x0).bind fun p2 =>
  (F_X8_read p2 x1 σ).bind fun q3 =>
  (gR 7 3 x0).bind fun p6 =>
  (F_X8_read p6 x2 σ).bind fun q7 =>
  some (if 0 ≤ (q3 - q7) then (q3 - q7) else 0 - (q3 - q7))
noncomputable def F_X7_coldOf (x0 : Nat) (x1 : Int32) (σ : Mem) : Option Int32 :=
  (gR 7 0 x0).bind fun p2 =>
  (F_X8_read p2 (x1 - x1 / (4 : Int32) * (4 : Int32)) σ).bind fun q3 =>
  some q3
noncomputable def F_X8_barOf (x0 : Int32) (x1 : Int32) (σ : Mem) : Option Int32 :=
  if x0 = (1 : Int32) then
  some (x1 + (2 : Int32))
  else
  if x0 = (2 : Int32) then
  some (x1 / (2 : Int32))
  else
  if x0 = (3 : Int32) then
  some x1
  else
  if x0 = (4 : Int32) then
  some (x1 / (2 : Int32))
  else
  if x0 = (5 : Int32) then
  some (x1 + (2 : Int32))
  else
  some x1
noncomputable def F_X8_crossing (x0 : Int32) (x1 : Int32) (x2 : Int32) (x3 : Int32) (x4 : Int32) (σ : Mem) : Option Int32 :=
  (F_X8_barOf x0 x2 σ).bind fun q1 =>
  let w3 := (if (0 : Int32) < ((x1 + x4) - q1) then ((x1 + x4) - q1) else (0 : Int32))
  if x0 = (3 : Int32) then
  if (x3 - x3 / (2 : Int32) * (2 : Int32)) = 0 then
  some w3
  else
  some (0 : Int32)
  else
  if x0 = (4 : Int32) then
  if w3 ≤ 0 then
  some (0 : Int32)
  else
  some (w3 + (1 : Int32))
  else
  if x0 = (5 : Int32) then
  some (w3 / (2 : Int32))
  else
  some w3
noncomputable def F_X7_crossesAs (x0 : Nat) (x1 : Int32) (x2 : Int32) (x3 : Int32) (x4 : Int32) (σ : Mem) : Option Int32 :=
  (F_X7_gapWith x0 x1 x1 σ).bind fun q1 =>
  (F_X7_coldOf x0 x4 σ).bind fun q3 =>
  (F_X8_crossing x2 q1 x3 x4 q3 σ).bind fun q5 =>
  some q5
noncomputable def F_X0_fits_3 (x0 : Nat) (x1 : Nat) (x2 : Int32) (x3 : Int32) (x4 : Int32) (σ : Mem) : Int32 → Option Int32 := lp fun s =>
  (gI 0 4 x0 σ).bind fun v2 =>
  if v2 ≤ s then
  some (.inr ((1 : Int32)))
  else
  (gR 0 0 x0).bind fun p5 =>
  (F_X8_read p5 s σ).bind fun q6 =>
  (chk 7 x1).bind fun _ =>
  (F_X7_crossesAs x1 x2 x3 x4 q6 σ).bind fun q9 =>
  (gR 0 1 x0).bind fun p12 =>
  (F_X8_read p12 s σ).bind fun q13 =>
  if q9 = q13 then
  some (.inl ((s + (1 : Int32))))
  else
  some (.inr ((0 : Int32)))
noncomputable def F_X0_fits (x0 : Nat) (x1 : Nat) (x2 : Int32) (x3 : Int32) (x4 : Int32) (σ : Mem) : Option Int32 :=
  F_X0_fits_3 (x0) (x1) (x2) (x3) (x4) σ ((0 : Int32))
noncomputable def F_X0_thicksFitting_35 (x0 : Nat) (x1 : Nat) (x2 : Int32) (x3 : Int32) (x5 : Int32) (y0 : Int32) (y1 : Int32) (σ : Mem) : Option ((Int32 × Int32) ⊕ Int32) :=
  some (.inl ((y1 ||| y0), (x5 + (1 : Int32))))
noncomputable def F_X0_thicksFitting_6 (x0 : Nat) (x1 : Nat) (x2 : Int32) (x3 : Int32) (σ : Mem) : Int32 × Int32 → Option Int32 := lp fun s =>
  if (9 : Int32) < s.2 then
  some (.inr (s.1))
  else
  (F_X0_fits x0 x1 x2 x3 s.2 σ).bind fun q2 =>
  if q2 = 0 then
  F_X0_thicksFitting_35 (x0) (x1) (x2) (x3) (s.2) ((0 : Int32)) (s.1) σ
  else
  F_X0_thicksFitting_35 (x0) (x1) (x2) (x3) (s.2) (((1 : Int32) <<< (s.2 &&& 31))) (s.1) σ
noncomputable def F_X0_thicksFitting (x0 : Nat) (x1 : Nat) (x2 : Int32) (x3 : Int32) (σ : Mem) : Option Int32 :=
  F_X0_thicksFitting_6 (x0) (x1) (x2) (x3) σ ((0 : Int32), (0 : Int32))
noncomputable def F_X0_kindsFitting_35 (x0 : Nat) (x1 : Nat) (x2 : Int32) (x3 : Int32) (x5 : Int32) (y0 : Int32) (y1 : Int32) (σ : Mem) : Option ((Int32 × Int32) ⊕ Int32) :=
  some (.inl ((y1 ||| y0), (x5 + (1 : Int32))))
noncomputable def F_X0_kindsFitting_6 (x0 : Nat) (x1 : Nat) (x2 : Int32) (x3 : Int32) (σ : Mem) : Int32 × Int32 → Option Int32 := lp fun s =>
  if (6 : Int32) ≤ s.2 then
  some (.inr (s.1))
  else
  (F_X0_fits x0 x1 x2 s.2 x3 σ).bind fun q2 =>
  if q2 = 0 then
  F_X0_kindsFitting_35 (x0) (x1) (x2) (x3) (s.2) ((0 : Int32)) (s.1) σ
  else
  F_X0_kindsFitting_35 (x0) (x1) (x2) (x3) (s.2) (((1 : Int32) <<< (s.2 &&& 31))) (s.1) σ
noncomputable def F_X0_kindsFitting (x0 : Nat) (x1 : Nat) (x2 : Int32) (x3 : Int32) (σ : Mem) : Option Int32 :=
  F_X0_kindsFitting_6 (x0) (x1) (x2) (x3) σ ((0 : Int32), (0 : Int32))
noncomputable def F_J7_fill_53178_5 (x0 : Nat) (x1 : Int32) (x3 : Int32) : Int32 × Mem → Option Mem := lp fun s =>
  if x3 ≤ s.1 then
  some (.inr (s.2))
  else
  (sI x0 s.1 x1 s.2).bind fun m2 =>
  some (.inl ((s.1 + (1 : Int32)), m2))
noncomputable def F_J7_fill_53178 (x0 : Nat) (x1 : Int32) (σ : Mem) : Option Mem :=
  (aN x0).bind fun v4 =>
  F_J7_fill_53178_5 (x0) (x1) (v4)  ((0 : Int32), σ)
noncomputable def F_X0_greatestPart_24 (x0 : Nat) (x1 : Nat) (x2 : Int32) (x3 : Int32) (x5 : Int32) : Int32 × Int32 × Mem → Option ((Int32 × Int32 × Mem) ⊕ (Int32 × Mem)) := lp fun s =>
  if (9 : Int32) < s.2.1 then
  some (.inr (.inl (s.1, (x5 + (1 : Int32)), s.2.2)))
  else
  (gR 0 2 x0).bind fun p4 =>
  (F_X8_read p4 x5 s.2.2).bind fun q5 =>
  if ((q5 >>> (s.2.1 &&& 31)) &&& (1 : Int32)) = (1 : Int32) then
  (chk 7 x1).bind fun _ =>
  (F_X7_crossesAs x1 x2 x5 s.2.1 x3 s.2.2).bind fun q9 =>
  (gR 0 3 x0).bind fun p12 =>
  (gR 0 3 x0).bind fun p14 =>
  (F_X8_read p14 q9 s.2.2).bind fun q15 =>
  (F_X8_write p12 q9 (q15 + (1 : Int32)) s.2.2).bind fun q17 =>
  (gR 0 3 x0).bind fun p20 =>
  (F_X8_read p20 q9 q17).bind fun q21 =>
  some (.inl ((if s.1 < q21 then q21 else s.1), (s.2.1 + (1 : Int32)), q17))
  else
  some (.inl (s.1, (s.2.1 + (1 : Int32)), s.2.2))
noncomputable def F_X0_greatestPart_14 (x0 : Nat) (x1 : Nat) (x2 : Int32) (x3 : Int32) : Int32 × Int32 × Mem → Option (Int32 × Mem) := lp fun s =>
  if (6 : Int32) ≤ s.2.1 then
  some (.inr ((s.1, s.2.2)))
  else
  F_X0_greatestPart_24 (x0) (x1) (x2) (x3) (s.2.1)  (s.1, (0 : Int32), s.2.2)
noncomputable def F_X0_greatestPart (x0 : Nat) (x1 : Nat) (x2 : Int32) (x3 : Int32) (σ : Mem) : Option (Int32 × Mem) :=
  (gR 0 3 x0).bind fun p24 =>
  (F_J7_fill_53178 p24 (0 : Int32) σ).bind fun q25 =>
  F_X0_greatestPart_14 (x0) (x1) (x2) (x3)  ((0 : Int32), (0 : Int32), q25)
noncomputable def F_X0_tellingNight_63 (x0 : Nat) (x1 : Nat) (x2 : Int32) : Int32 × Int32 × Mem → Option (Int32 × Mem) := lp fun s =>
  if (8 : Int32) ≤ s.2.1 then
  some (.inr ((s.1, s.2.2)))
  else
  (F_X0_greatestPart x0 x1 x2 s.2.1 s.2.2).bind fun q12 =>
  (gI 0 5 x0 q12.2).bind fun v15 =>
  if v15 ≤ q12.1 then
  some (.inl (s.1, (s.2.1 + (1 : Int32)), q12.2))
  else
  (pI 0 5 x0 q12.1 q12.2).bind fun m18 =>
  some (.inl (s.2.1, (s.2.1 + (1 : Int32)), m18))
noncomputable def F_X0_tellingNight_5 (x0 : Nat) (x1 : Nat) (x2 : Int32) : Int32 × Int32 × Mem → Option (Int32 × Mem) := lp fun s =>
  if (6 : Int32) ≤ s.2.1 then
  if s.1 = 0 then
  some (.inr (((-9 : Int32), s.2.2)))
  else
  (pI 0 5 x0 (1000000 : Int32) s.2.2).bind fun m4 =>
  (F_X0_tellingNight_63 (x0) (x1) (x2)  ((0 : Int32), (0 : Int32), m4)).map fun z => .inr (z)
  else
  (F_X0_thicksFitting x0 x1 x2 s.2.1 s.2.2).bind fun q5 =>
  (gR 0 2 x0).bind fun p8 =>
  (F_X8_write p8 s.2.1 q5 s.2.2).bind fun q9 =>
  some (.inl ((s.1 ||| q5), (s.2.1 + (1 : Int32)), q9))
noncomputable def F_X0_tellingNight (x0 : Nat) (x1 : Nat) (x2 : Int32) (σ : Mem) : Option (Int32 × Mem) :=
  F_X0_tellingNight_5 (x0) (x1) (x2)  ((0 : Int32), (0 : Int32), σ)
noncomputable def F_X7_thickOf (x0 : Nat) (x1 : Int32) (σ : Mem) : Option Int32 :=
  (gR 7 4 x0).bind fun p2 =>
  (F_X8_read p2 x1 σ).bind fun q3 =>
  some q3
noncomputable def F_X8_copyAll (x0 : Nat) (x1 : Nat) (σ : Mem) : Option Mem :=
  (aN x0).bind fun v1 =>
  (aN x1).bind fun v3 =>
  (cpI x0 (0 : Int32) x1 (0 : Int32) (if v3 < v1 then v3 else v1) σ).bind fun m5 =>
  some m5
noncomputable def F_X7_copyFrom (x0 : Nat) (x1 : Nat) (σ : Mem) : Option Mem :=
  (gR 7 0 x1).bind fun p2 =>
  (gR 7 0 x0).bind fun p4 =>
  (F_X8_copyAll p2 p4 σ).bind fun q5 =>
  (gR 7 1 x1).bind fun p8 =>
  (gR 7 1 x0).bind fun p10 =>
  (F_X8_copyAll p8 p10 q5).bind fun q11 =>
  (gR 7 2 x1).bind fun p14 =>
  (gR 7 2 x0).bind fun p16 =>
  (F_X8_copyAll p14 p16 q11).bind fun q17 =>
  (gR 7 3 x1).bind fun p20 =>
  (gR 7 3 x0).bind fun p22 =>
  (F_X8_copyAll p20 p22 q17).bind fun q23 =>
  (gR 7 4 x1).bind fun p26 =>
  (gR 7 4 x0).bind fun p28 =>
  (F_X8_copyAll p26 p28 q23).bind fun q29 =>
  (gR 7 5 x1).bind fun p32 =>
  (gR 7 5 x0).bind fun p34 =>
  (F_X8_copyAll p32 p34 q29).bind fun q35 =>
  (gR 7 6 x1).bind fun p38 =>
  (gR 7 6 x0).bind fun p40 =>
  (F_X8_copyAll p38 p40 q35).bind fun q41 =>
  (gI 7 7 x1 q41).bind fun v44 =>
  (pI 7 7 x0 v44 q41).bind fun m46 =>
  (gI 7 8 x1 m46).bind fun v48 =>
  (pI 7 8 x0 v48 m46).bind fun m50 =>
  (gI 7 9 x1 m50).bind fun v52 =>
  (pI 7 9 x0 v52 m50).bind fun m54 =>
  some m54
noncomputable def F_X2_copyAt (x0 : Nat) (x1 : Int32) (x2 : Nat) (σ : Mem) : Option (Option Nat × Mem) :=
  if x1 < 0 then
  some (none, σ)
  else
  (gR 2 0 x0).bind fun p3 =>
  (aN p3).bind fun v4 =>
  if v4 ≤ x1 then
  some (none, σ)
  else
  (gR 2 0 x0).bind fun p8 =>
  (aR p8 x1).bind fun p9 =>
  (chk 7 p9).bind fun _ =>
  (F_X7_copyFrom p9 x2 σ).bind fun q12 =>
  some ((some p9), q12)
noncomputable def F_X7_thinBed (x0 : Nat) (x1 : Int32) (x2 : Int32) (σ : Mem) : Option Mem :=
  (gR 7 4 x0).bind fun p2 =>
  (gR 7 4 x0).bind fun p4 =>
  (F_X8_read p4 x1 σ).bind fun q5 =>
  (F_X8_write p2 x1 (if (0 : Int32) < (q5 - x2) then (q5 - x2) else (0 : Int32)) σ).bind fun q7 =>
  some q7
noncomputable def F_X7_kindOf (x0 : Nat) (x1 : Int32) (σ : Mem) : Option Int32 :=
  (gR 7 1 x0).bind fun p2 =>
  (F_X8_read p2 x1 σ).bind fun q3 =>
  some q3
noncomputable def F_X7_liesIn (x0 : Nat) (x1 : Int32) (σ : Mem) : Option Int32 :=
  (gR 7 5 x0).bind fun p2 =>
  (F_X8_read p2 x1 σ).bind fun q3 =>
  some q3
noncomputable def F_X7_sleepIn (x0 : Nat) (x1 : Int32) (σ : Mem) : Option (Int32 × Mem) :=
  (F_X7_kindOf x0 x1 σ).bind fun q1 =>
  (F_X7_gapWith x0 x1 x1 σ).bind fun q3 =>
  (F_X7_thickOf x0 x1 σ).bind fun q5 =>
  (gI 7 9 x0 σ).bind fun v8 =>
  (gI 7 9 x0 σ).bind fun v10 =>
  (F_X7_coldOf x0 v10 σ).bind fun q11 =>
  (F_X8_crossing q1 q3 q5 v8 q11 σ).bind fun q13 =>
  (gR 7 5 x0).bind fun p16 =>
  (F_X7_liesIn x0 x1 σ).bind fun q17 =>
  (F_X8_write p16 x1 (if (q17 + q13) < (99 : Int32) then (q17 + q13) else (99 : Int32)) σ).bind fun q19 =>
  if q13 < (3 : Int32) then
  some (q13, q19)
  else
  (F_X7_thinBed x0 x1 (1 : Int32) q19).bind fun q22 =>
  some (q13, q22)
noncomputable def F_X7_passNight_4 (x0 : Nat) : Int32 × Int32 × Mem → Option (Int32 × Mem) := lp fun s =>
  (gI 7 8 x0 s.2.2).bind fun v2 =>
  if v2 ≤ s.2.1 then
  (gI 7 9 x0 s.2.2).bind fun v5 =>
  (pI 7 9 x0 (v5 + (1 : Int32)) s.2.2).bind fun m7 =>
  some (.inr ((s.1, m7)))
  else
  (F_X7_sleepIn x0 s.2.1 s.2.2).bind fun q8 =>
  some (.inl ((s.1 + q8.1), (s.2.1 + (1 : Int32)), q8.2))
noncomputable def F_X7_passNight (x0 : Nat) (σ : Mem) : Option (Int32 × Mem) :=
  F_X7_passNight_4 (x0)  ((0 : Int32), (0 : Int32), σ)
noncomputable def F_X1_fewestFrom_30 (rec : Nat → Nat → Int32 → Int32 → Mem → Option (Int32 × Mem)) (x0 : Nat) (x1 : Nat) (x2 : Int32) (x3 : Int32) (x4 : Int32) (x5 : Int32)  (σ : Mem) : Option ((Int32 × Int32 × Mem) ⊕ (Int32 × Mem)) :=
  (gR 1 0 x0).bind fun p10 =>
  (chk 2 p10).bind fun _ =>
  (F_X2_copyAt p10 x2 x1 σ).bind fun q12 =>
  match q12 with
  | (none, m15) =>
  some (.inl (x4, (x5 + (1 : Int32)), m15))
  | (some p16, m15) =>
  (chk 7 p16).bind fun _ =>
  (F_X7_thinBed p16 x5 (1 : Int32) m15).bind fun q18 =>
  (chk 7 p16).bind fun _ =>
  (F_X7_passNight p16 q18).bind fun q21 =>
  (rec x0 p16 (x2 + (1 : Int32)) x3 q21.2).bind fun q23 =>
  some (.inl ((if q23.1 < x4 then q23.1 else x4), (x5 + (1 : Int32)), q23.2))
noncomputable def F_X1_fewestFrom_7 (rec : Nat → Nat → Int32 → Int32 → Mem → Option (Int32 × Mem)) (x0 : Nat) (x1 : Nat) (x2 : Int32) (x3 : Int32) : Int32 × Int32 × Mem → Option (Int32 × Mem) := lp fun s =>
  (gI 7 8 x1 s.2.2).bind fun v2 =>
  if v2 ≤ s.2.1 then
  some (.inr ((s.1, s.2.2)))
  else
  if s.2.1 < 0 then
  F_X1_fewestFrom_30 rec (x0) (x1) (x2) (x3) (s.1) (s.2.1) s.2.2
  else
  (chk 7 x1).bind fun _ =>
  (F_X7_thickOf x1 s.2.1 s.2.2).bind fun q6 =>
  if q6 ≤ 0 then
  some (.inl (s.1, (s.2.1 + (1 : Int32)), s.2.2))
  else
  F_X1_fewestFrom_30 rec (x0) (x1) (x2) (x3) (s.1) (s.2.1) s.2.2
noncomputable def F_X1_fewestFrom (rec : Nat → Nat → Int32 → Int32 → Mem → Option (Int32 × Mem)) (x0 : Nat) (x1 : Nat) (x2 : Int32) (x3 : Int32) (σ : Mem) : Option (Int32 × Mem) :=
  F_X1_fewestFrom_7 rec (x0) (x1) (x2) (x3)  ((1000000 : Int32), (-1 : Int32), σ)
noncomputable def F_X7_has (x0 : Nat) (x1 : Int32) (σ : Mem) : Option Int32 :=
  if x1 < 0 then
  some (0 : Int32)
  else
  (gI 7 8 x0 σ).bind fun v3 =>
  if v3 ≤ x1 then
  some (0 : Int32)
  else
  some (1 : Int32)
noncomputable def F_X7_wouldBeFound (x0 : Nat) (x1 : Int32) (σ : Mem) : Option Int32 :=
  (F_X7_has x0 x1 σ).bind fun q1 =>
  if q1 = 0 then
  some (0 : Int32)
  else
  (F_X7_liesIn x0 x1 σ).bind fun q4 =>
  (gI 7 7 x0 σ).bind fun v7 =>
  if q4 < v7 then
  some (0 : Int32)
  else
  some (1 : Int32)
noncomputable def F_X7_inspectBed (x0 : Nat) (x1 : Int32) (σ : Mem) : Option (Int32 × Mem) :=
  (F_X7_wouldBeFound x0 x1 σ).bind fun q1 =>
  if q1 = 0 then
  some ((0 : Int32), σ)
  else
  (F_X7_liesIn x0 x1 σ).bind fun q4 =>
  (gR 7 5 x0).bind fun p7 =>
  (F_X8_write p7 x1 (0 : Int32) σ).bind fun q8 =>
  (gR 7 4 x0).bind fun p11 =>
  (F_X8_write p11 x1 (9 : Int32) q8).bind fun q12 =>
  (gR 7 6 x0).bind fun p15 =>
  (gR 7 6 x0).bind fun p17 =>
  (F_X8_read p17 x1 q12).bind fun q18 =>
  (F_X8_write p15 x1 (q18 + (1 : Int32)) q12).bind fun q20 =>
  some (q4, q20)
noncomputable def F_X1_mostFrom_29 (rec : Nat → Nat → Int32 → Int32 → Mem → Option (Int32 × Mem)) (x0 : Nat) (x1 : Nat) (x2 : Int32) (x3 : Int32) (x4 : Int32) (x5 : Int32)  (σ : Mem) : Option ((Int32 × Int32 × Mem) ⊕ (Int32 × Mem)) :=
  (gR 1 0 x0).bind fun p10 =>
  (chk 2 p10).bind fun _ =>
  (F_X2_copyAt p10 x2 x1 σ).bind fun q12 =>
  match q12 with
  | (none, m15) =>
  some (.inl (x4, (x5 + (1 : Int32)), m15))
  | (some p16, m15) =>
  (chk 7 p16).bind fun _ =>
  (F_X7_inspectBed p16 x5 m15).bind fun q18 =>
  (rec x0 p16 (x2 + (1 : Int32)) x3 q18.2).bind fun q20 =>
  let w22 := (if x4 < (q18.1 + q20.1) then (q18.1 + q20.1) else x4)
  some (.inl (w22, (x5 + (1 : Int32)), q20.2))
noncomputable def F_X1_mostFrom_6 (rec : Nat → Nat → Int32 → Int32 → Mem → Option (Int32 × Mem)) (x0 : Nat) (x1 : Nat) (x2 : Int32) (x3 : Int32) : Int32 × Int32 × Mem → Option (Int32 × Mem) := lp fun s =>
  (gI 7 8 x1 s.2.2).bind fun v2 =>
  if v2 ≤ s.2.1 then
  some (.inr ((s.1, s.2.2)))
  else
  if s.2.1 < 0 then
  F_X1_mostFrom_29 rec (x0) (x1) (x2) (x3) (s.1) (s.2.1) s.2.2
  else
  (chk 7 x1).bind fun _ =>
  (F_X7_wouldBeFound x1 s.2.1 s.2.2).bind fun q6 =>
  if q6 = 0 then
  some (.inl (s.1, (s.2.1 + (1 : Int32)), s.2.2))
  else
  F_X1_mostFrom_29 rec (x0) (x1) (x2) (x3) (s.1) (s.2.1) s.2.2
noncomputable def F_X1_mostFrom (rec : Nat → Nat → Int32 → Int32 → Mem → Option (Int32 × Mem)) (x0 : Nat) (x1 : Nat) (x2 : Int32) (x3 : Int32) (σ : Mem) : Option (Int32 × Mem) :=
  F_X1_mostFrom_6 rec (x0) (x1) (x2) (x3)  ((0 : Int32), (-1 : Int32), σ)
noncomputable def B_X1_foundFrom (rec : Nat → Nat → Int32 → Int32 → Mem → Option (Int32 × Mem)) (x0 : Nat) (x1 : Nat) (x2 : Int32) (x3 : Int32) (σ : Mem) : Option (Int32 × Mem) :=
  if x2 < x3 then
  if (x2 - x2 / (2 : Int32) * (2 : Int32)) = 0 then
  (F_X1_fewestFrom rec x0 x1 x2 x3 σ).bind fun q5 =>
  some (q5.1, q5.2)
  else
  (F_X1_mostFrom rec x0 x1 x2 x3 σ).bind fun q3 =>
  some (q3.1, q3.2)
  else
  some ((0 : Int32), σ)
noncomputable def F_X1_foundFrom : Nat → Nat → Nat → Int32 → Int32 → Mem → Option (Int32 × Mem)
  | 0, _, _, _, _, _ => none
  | n + 1, x0, x1, x2, x3, σ => B_X1_foundFrom (F_X1_foundFrom n) x0 x1 x2 x3 σ
noncomputable def F_X7_crossesWith (x0 : Nat) (x1 : Int32) (x2 : Int32) (σ : Mem) : Option Int32 :=
  (F_X7_kindOf x0 x1 σ).bind fun q1 =>
  (F_X7_gapWith x0 x1 x2 σ).bind fun q3 =>
  (F_X7_thickOf x0 x1 σ).bind fun q5 =>
  (gI 7 9 x0 σ).bind fun v8 =>
  (gI 7 9 x0 σ).bind fun v10 =>
  (F_X7_coldOf x0 v10 σ).bind fun q11 =>
  (F_X8_crossing q1 q3 q5 v8 q11 σ).bind fun q13 =>
  some q13
noncomputable def F_X3_give_39 (rec : Nat → Nat → Int32 → Int32 → Int32 → Mem → Option Mem) (x0 : Nat) (x1 : Nat) (x2 : Int32) (x3 : Int32) (x4 : Int32) : Int32 × Mem → Option Mem := lp fun s =>
  (gI 7 8 x1 s.2).bind fun v2 =>
  if v2 ≤ s.1 then
  some (.inr (s.2))
  else
  if ((x3 >>> (s.1 &&& 31)) &&& (1 : Int32)) = 0 then
  (gR 3 1 x0).bind fun p6 =>
  (F_X8_write p6 x2 s.1 s.2).bind fun q7 =>
  (chk 7 x1).bind fun _ =>
  (F_X7_crossesWith x1 x2 s.1 q7).bind fun q10 =>
  (rec x0 x1 (x2 + (1 : Int32)) (x3 ||| ((1 : Int32) <<< (s.1 &&& 31))) (x4 + q10) q7).bind fun q12 =>
  some (.inl ((s.1 + (1 : Int32)), q12))
  else
  some (.inl ((s.1 + (1 : Int32)), s.2))
noncomputable def B_X3_give (rec : Nat → Nat → Int32 → Int32 → Int32 → Mem → Option Mem) (x0 : Nat) (x1 : Nat) (x2 : Int32) (x3 : Int32) (x4 : Int32) (σ : Mem) : Option Mem :=
  (gI 3 2 x0 σ).bind fun v15 =>
  if x4 < v15 then
  (gI 7 8 x1 σ).bind fun v18 =>
  if x2 < v18 then
  F_X3_give_39 rec (x0) (x1) (x2) (x3) (x4)  ((0 : Int32), σ)
  else
  (pI 3 2 x0 x4 σ).bind fun m21 =>
  (gR 3 1 x0).bind fun p23 =>
  (gR 3 0 x0).bind fun p25 =>
  (F_X8_copyAll p23 p25 m21).bind fun q26 =>
  some q26
  else
  some σ
noncomputable def F_X3_give : Nat → Nat → Nat → Int32 → Int32 → Int32 → Mem → Option Mem
  | 0, _, _, _, _, _, _ => none
  | n + 1, x0, x1, x2, x3, x4, σ => B_X3_give (F_X3_give n) x0 x1 x2 x3 x4 σ
noncomputable def F_X3_fewestCrossing (x0 : Nat) (x1 : Nat) (σ : Mem) : Option (Int32 × Mem) :=
  (pI 3 2 x0 (1000000 : Int32) σ).bind fun m2 =>
  (F_X3_give 8 x0 x1 (0 : Int32) (0 : Int32) (0 : Int32) m2).bind fun q3 =>
  (gI 3 2 x0 q3).bind fun v6 =>
  some (v6, q3)
noncomputable def F_X7_clearBeds (x0 : Nat) (σ : Mem) : Option Mem :=
  (pI 7 8 x0 (0 : Int32) σ).bind fun m2 =>
  some m2
noncomputable def F_X4_here (x0 : Nat) (σ : Mem) : Option Int32 :=
  (gI 4 3 x0 σ).bind fun v2 =>
  (gI 4 2 x0 σ).bind fun v4 =>
  if v4 ≤ v2 then
  some (0 : Int32)
  else
  (gR 4 1 x0).bind fun p7 =>
  (gI 4 3 x0 σ).bind fun v9 =>
  (F_X8_read p7 v9 σ).bind fun q10 =>
  some q10
noncomputable def F_X4_skipBlanks_0 (x0 : Nat) : Mem → Option Mem := lp fun s =>
  (gI 4 3 x0 s).bind fun v2 =>
  (gI 4 2 x0 s).bind fun v4 =>
  if v4 ≤ v2 then
  some (.inr (s))
  else
  (F_X4_here x0 s).bind fun q6 =>
  if q6 = (32 : Int32) then
  (gI 4 3 x0 s).bind fun v10 =>
  (pI 4 3 x0 (v10 + (1 : Int32)) s).bind fun m12 =>
  some (.inl (m12))
  else
  some (.inr (s))
noncomputable def F_X4_skipBlanks (x0 : Nat) (σ : Mem) : Option Mem :=
  F_X4_skipBlanks_0 (x0)  (σ)
noncomputable def F_X4_takeFigure (x0 : Nat) (x1 : Int32) (σ : Mem) : Option (Int32 × Mem) :=
  (F_X4_here x0 σ).bind fun q1 =>
  if (q1 - (48 : Int32)) < x1 then
  some ((-1 : Int32), σ)
  else
  if (q1 - (48 : Int32)) ≤ (9 : Int32) then
  (gI 4 3 x0 σ).bind fun v6 =>
  (pI 4 3 x0 (v6 + (1 : Int32)) σ).bind fun m8 =>
  some ((q1 - (48 : Int32)), m8)
  else
  some ((-1 : Int32), σ)
noncomputable def F_X4_takesHead_23 (x0 : Nat) : Int32 × Mem → Option (Int32 × Mem) := lp fun s =>
  if (4 : Int32) ≤ s.1 then
  (F_X4_takeFigure x0 (1 : Int32) s.2).bind fun q2 =>
  (gR 4 0 x0).bind fun p5 =>
  (pI 7 7 p5 q2.1 q2.2).bind fun m7 =>
  if q2.1 = (-1 : Int32) then
  some (.inr (((0 : Int32), m7)))
  else
  some (.inr (((1 : Int32), m7)))
  else
  (F_X4_takeFigure x0 (0 : Int32) s.2).bind fun q9 =>
  if q9.1 = (-1 : Int32) then
  some (.inr (((0 : Int32), q9.2)))
  else
  (gR 4 0 x0).bind fun p13 =>
  (gR 7 0 p13).bind fun p15 =>
  (F_X8_write p15 s.1 q9.1 q9.2).bind fun q16 =>
  some (.inl ((s.1 + (1 : Int32)), q16))
noncomputable def F_X4_takesHead (x0 : Nat) (σ : Mem) : Option (Int32 × Mem) :=
  (F_X4_here x0 σ).bind fun q18 =>
  if q18 = (110 : Int32) then
  (gI 4 3 x0 σ).bind fun v22 =>
  (pI 4 3 x0 (v22 + (1 : Int32)) σ).bind fun m24 =>
  F_X4_takesHead_23 (x0)  ((0 : Int32), m24)
  else
  some ((0 : Int32), σ)
noncomputable def F_X4_kindHere_2 (x0 : Nat) (σ : Mem) : Int32 → Option Int32 := lp fun s =>
  if (6 : Int32) ≤ s then
  some (.inr ((-1 : Int32)))
  else
  (F_X4_here x0 σ).bind fun q2 =>
  (F_X8_readK s σ).bind fun q4 =>
  if q2 = q4 then
  some (.inr (s))
  else
  some (.inl ((s + (1 : Int32))))
noncomputable def F_X4_kindHere (x0 : Nat) (σ : Mem) : Option Int32 :=
  F_X4_kindHere_2 (x0) σ ((0 : Int32))
noncomputable def F_X7_addBed (x0 : Nat) (x1 : Int32) (x2 : Int32) (x3 : Int32) (x4 : Int32) (σ : Mem) : Option Mem :=
  (gR 7 1 x0).bind fun p2 =>
  (gI 7 8 x0 σ).bind fun v4 =>
  (F_X8_write p2 v4 x1 σ).bind fun q5 =>
  (gR 7 2 x0).bind fun p8 =>
  (gI 7 8 x0 q5).bind fun v10 =>
  (F_X8_write p8 v10 x2 q5).bind fun q11 =>
  (gR 7 3 x0).bind fun p14 =>
  (gI 7 8 x0 q11).bind fun v16 =>
  (F_X8_write p14 v16 x3 q11).bind fun q17 =>
  (gR 7 4 x0).bind fun p20 =>
  (gI 7 8 x0 q17).bind fun v22 =>
  (F_X8_write p20 v22 x4 q17).bind fun q23 =>
  (gI 7 8 x0 q23).bind fun v26 =>
  (pI 7 8 x0 (v26 + (1 : Int32)) q23).bind fun m28 =>
  some m28
noncomputable def F_X4_takesBed_69 (x0 : Nat) (x1 : Int32) (x2 : Int32) (x3 : Int32) (y0 : Int32) (σ : Mem) : Option (Int32 × Mem) :=
  if y0 = (-1 : Int32) then
  some ((0 : Int32), σ)
  else
  (gR 4 0 x0).bind fun p6 =>
  (chk 7 p6).bind fun _ =>
  (F_X7_addBed p6 x1 x2 x3 y0 σ).bind fun q8 =>
  some ((1 : Int32), q8)
noncomputable def F_X4_takesBed_54 (x0 : Nat) (x1 : Int32) (x2 : Int32) (y0 : Int32) (σ : Mem) : Option (Int32 × Mem) :=
  if y0 = (-1 : Int32) then
  F_X4_takesBed_69 (x0) (x1) (x2) (y0) ((-1 : Int32)) σ
  else
  (F_X4_takeFigure x0 (0 : Int32) σ).bind fun q2 =>
  F_X4_takesBed_69 (x0) (x1) (x2) (y0) (q2.1) q2.2
noncomputable def F_X4_takesBed (x0 : Nat) (σ : Mem) : Option (Int32 × Mem) :=
  (F_X4_kindHere x0 σ).bind fun q10 =>
  if q10 = (-1 : Int32) then
  some ((0 : Int32), σ)
  else
  (gR 4 0 x0).bind fun p14 =>
  (gI 7 8 p14 σ).bind fun v16 =>
  if v16 < (6 : Int32) then
  (gI 4 3 x0 σ).bind fun v19 =>
  (pI 4 3 x0 (v19 + (1 : Int32)) σ).bind fun m21 =>
  (F_X4_takeFigure x0 (0 : Int32) m21).bind fun q22 =>
  if q22.1 = (-1 : Int32) then
  F_X4_takesBed_54 (x0) (q10) (q22.1) ((-1 : Int32)) q22.2
  else
  (F_X4_takeFigure x0 (0 : Int32) q22.2).bind fun q25 =>
  F_X4_takesBed_54 (x0) (q10) (q22.1) (q25.1) q25.2
  else
  some ((0 : Int32), σ)
noncomputable def F_X4_readTown_69 (x0 : Nat) : Int32 × Mem → Option (Int32 × Mem) := lp fun s =>
  if (6 : Int32) < s.1 then
  (gI 4 3 x0 s.2).bind fun v27 =>
  some (.inr ((v27, s.2)))
  else
  (F_X4_skipBlanks x0 s.2).bind fun q28 =>
  (gI 4 3 x0 q28).bind fun v31 =>
  (gI 4 2 x0 q28).bind fun v33 =>
  if v31 < v33 then
  (F_X4_takesBed x0 q28).bind fun q35 =>
  if q35.1 = 0 then
  (gI 4 3 x0 q35.2).bind fun v39 =>
  some (.inr ((v39, q35.2)))
  else
  some (.inl ((s.1 + (1 : Int32)), q35.2))
  else
  (gR 4 0 x0).bind fun p41 =>
  (gI 7 8 p41 q28).bind fun v43 =>
  if v43 ≤ 0 then
  (gI 4 3 x0 q28).bind fun v46 =>
  some (.inr ((v46, q28)))
  else
  some (.inr (((-9 : Int32), q28)))
noncomputable def F_X4_readTown_11 (x0 : Nat) (x1 : Nat) (x2 : Int32) : Int32 × Mem → Option (Int32 × Mem) := lp fun s =>
  (gI 4 2 x0 s.2).bind fun v2 =>
  if v2 ≤ s.1 then
  (pI 4 3 x0 (0 : Int32) s.2).bind fun m5 =>
  (gR 4 0 x0).bind fun p7 =>
  (chk 7 p7).bind fun _ =>
  (F_X7_clearBeds p7 m5).bind fun q9 =>
  (F_X4_skipBlanks x0 q9).bind fun q11 =>
  (F_X4_takesHead x0 q11).bind fun q13 =>
  if q13.1 = 0 then
  (gI 4 3 x0 q13.2).bind fun v17 =>
  some (.inr ((v17, q13.2)))
  else
  (F_X4_readTown_69 (x0)  ((0 : Int32), q13.2)).map fun z => .inr (z)
  else
  (gR 4 1 x0).bind fun p19 =>
  (chk 6 x1).bind fun _ =>
  (F_X6_get x1 x2 s.1 s.2).bind fun q21 =>
  (F_X8_write p19 s.1 q21 s.2).bind fun q23 =>
  some (.inl ((s.1 + (1 : Int32)), q23))
noncomputable def F_X4_readTown (x0 : Nat) (x1 : Nat) (x2 : Int32) (σ : Mem) : Option (Int32 × Mem) :=
  (chk 6 x1).bind fun _ =>
  (F_X6_size x1 x2 σ).bind fun q48 =>
  (pI 4 2 x0 q48 σ).bind fun m51 =>
  F_X4_readTown_11 (x0) (x1) (x2)  ((0 : Int32), m51)
noncomputable def F_X5_takeIfMore (x0 : Nat) (x1 : Int32) (σ : Mem) : Option Mem :=
  (gI 5 3 x0 σ).bind fun v2 =>
  if x1 ≤ v2 then
  some σ
  else
  (pI 5 3 x0 x1 σ).bind fun m5 =>
  (gR 5 2 x0).bind fun p7 =>
  (gR 5 1 x0).bind fun p9 =>
  (F_X8_copyAll p7 p9 m5).bind fun q10 =>
  some q10
noncomputable def F_X5_goOn_9 (rec : Nat → Option Nat → Int32 → Int32 → Int32 → Mem → Option Mem) (x0 : Nat) (x4 : Int32)  (σ : Mem) : Option Mem :=
  (F_X5_takeIfMore x0 x4 σ).bind fun q1 =>
  some q1
noncomputable def F_X5_goOn_47 (rec : Nat → Option Nat → Int32 → Int32 → Int32 → Mem → Option Mem) (x0 : Nat) (x1 : Nat) (x2 : Int32) (x3 : Int32) (x4 : Int32) (x5 : Int32)  (σ : Mem) : Option ((Int32 × Mem) ⊕ Mem) :=
  (gR 5 0 x0).bind fun p12 =>
  (chk 2 p12).bind fun _ =>
  (F_X2_copyAt p12 (x2 + (1 : Int32)) x1 σ).bind fun q14 =>
  match q14 with
  | (none, m17) =>
  (gR 5 2 x0).bind fun p19 =>
  if 0 ≤ x5 then
  (F_X8_write p19 x2 x5 m17).bind fun q21 =>
  (rec x0 none (x2 + (1 : Int32)) x3 (x4 + (0 : Int32)) q21).bind fun q23 =>
  some (.inl ((x5 + (1 : Int32)), q23))
  else
  (F_X8_write p19 x2 (-9 : Int32) m17).bind fun q25 =>
  (rec x0 none (x2 + (1 : Int32)) x3 (x4 + (0 : Int32)) q25).bind fun q27 =>
  some (.inl ((x5 + (1 : Int32)), q27))
  | (some p29, m17) =>
  (gR 5 2 x0).bind fun p31 =>
  if 0 ≤ x5 then
  (F_X8_write p31 x2 x5 m17).bind fun q33 =>
  (chk 7 p29).bind fun _ =>
  (F_X7_inspectBed p29 x5 q33).bind fun q36 =>
  (rec x0 (some p29) (x2 + (1 : Int32)) x3 (x4 + q36.1) q36.2).bind fun q38 =>
  some (.inl ((x5 + (1 : Int32)), q38))
  else
  (F_X8_write p31 x2 (-9 : Int32) m17).bind fun q40 =>
  (chk 7 p29).bind fun _ =>
  (F_X7_inspectBed p29 x5 q40).bind fun q43 =>
  (rec x0 (some p29) (x2 + (1 : Int32)) x3 (x4 + q43.1) q43.2).bind fun q45 =>
  some (.inl ((x5 + (1 : Int32)), q45))
noncomputable def F_X5_goOn_24 (rec : Nat → Option Nat → Int32 → Int32 → Int32 → Mem → Option Mem) (x0 : Nat) (x1 : Nat) (x2 : Int32) (x3 : Int32) (x4 : Int32) : Int32 × Mem → Option Mem := lp fun s =>
  (gI 7 8 x1 s.2).bind fun v4 =>
  if v4 ≤ s.1 then
  some (.inr (s.2))
  else
  if s.1 < 0 then
  F_X5_goOn_47 rec (x0) (x1) (x2) (x3) (x4) (s.1) s.2
  else
  (chk 7 x1).bind fun _ =>
  (F_X7_wouldBeFound x1 s.1 s.2).bind fun q8 =>
  if q8 = 0 then
  some (.inl ((s.1 + (1 : Int32)), s.2))
  else
  F_X5_goOn_47 rec (x0) (x1) (x2) (x3) (x4) (s.1) s.2
noncomputable def B_X5_goOn (rec : Nat → Option Nat → Int32 → Int32 → Int32 → Mem → Option Mem) (x0 : Nat) (x1 : Option Nat) (x2 : Int32) (x3 : Int32) (x4 : Int32) (σ : Mem) : Option Mem :=
  match x1 with
  | none =>
  if x3 ≤ x2 then
  F_X5_goOn_9 rec (x0) (x4) σ
  else
  F_X5_goOn_9 rec (x0) (x4) σ
  | some p0 =>
  if x3 ≤ x2 then
  F_X5_goOn_9 rec (x0) (x4) σ
  else
  (chk 7 p0).bind fun _ =>
  (F_X7_passNight p0 σ).bind fun q50 =>
  F_X5_goOn_24 rec (x0) (p0) (x2) (x3) (x4)  ((-1 : Int32), q50.2)
noncomputable def F_X5_goOn : Nat → Nat → Option Nat → Int32 → Int32 → Int32 → Mem → Option Mem
  | 0, _, _, _, _, _, _ => none
  | n + 1, x0, x1, x2, x3, x4, σ => B_X5_goOn (F_X5_goOn n) x0 x1 x2 x3 x4 σ
noncomputable def F_X5_mostFound (x0 : Nat) (x1 : Nat) (x2 : Int32) (σ : Mem) : Option (Int32 × Mem) :=
  (pI 5 3 x0 (-1 : Int32) σ).bind fun m2 =>
  (gR 5 0 x0).bind fun p4 =>
  (chk 2 p4).bind fun _ =>
  (F_X2_copyAt p4 (0 : Int32) x1 m2).bind fun q6 =>
  match q6 with
  | (none, m9) =>
  (F_X5_goOn 8 x0 none (0 : Int32) x2 (0 : Int32) m9).bind fun q10 =>
  (gI 5 3 x0 q10).bind fun v13 =>
  some (v13, q10)
  | (some p14, m9) =>
  (F_X5_goOn 8 x0 (some p14) (0 : Int32) x2 (0 : Int32) m9).bind fun q15 =>
  (gI 5 3 x0 q15).bind fun v18 =>
  some (v18, q15)
noncomputable def F_X6_isNumber (x0 : Nat) (x1 : Int32) (σ : Mem) : Option Int32 :=
  if x1 < 0 then
  some (0 : Int32)
  else
  (gR 6 1 x0).bind fun p3 =>
  (aN p3).bind fun v4 =>
  if v4 ≤ x1 then
  some (0 : Int32)
  else
  some (1 : Int32)
noncomputable def F_X6_stands (x0 : Nat) (x1 : Int32) (σ : Mem) : Option Int32 :=
  (F_X6_size x0 x1 σ).bind fun q1 =>
  if q1 < 0 then
  some (0 : Int32)
  else
  some (1 : Int32)
noncomputable def F_X6_standing_36 (x2 : Nat) (x3 : Int32) (x4 : Int32) (y0 : Int32) (y1 : Int32) (σ : Mem) : Option ((Int32 × Int32) ⊕ Int32) :=
  some (.inl ((y1 + y0), (x4 + (1 : Int32))))
noncomputable def F_X6_standing_13 (x2 : Nat) (x3 : Int32) (σ : Mem) : Int32 × Int32 → Option Int32 := lp fun s =>
  if x3 ≤ s.2 then
  some (.inr (s.1))
  else
  (aI x2 s.2 σ).bind fun v2 =>
  if v2 < 0 then
  F_X6_standing_36 (x2) (x3) (s.2) ((0 : Int32)) (s.1) σ
  else
  F_X6_standing_36 (x2) (x3) (s.2) ((1 : Int32)) (s.1) σ
noncomputable def F_X6_standing (x0 : Nat) (σ : Mem) : Option Int32 :=
  (gR 6 1 x0).bind fun p6 =>
  (aN p6).bind fun v7 =>
  F_X6_standing_13 (p6) (v7) σ ((0 : Int32), (0 : Int32))
noncomputable def F_X6_holds (x0 : Nat) (x1 : Int32) (x2 : Int32) (x3 : Int32) (σ : Mem) : Option Int32 :=
  if x2 < 0 then
  some (0 : Int32)
  else
  if x3 < 0 then
  some (0 : Int32)
  else
  (F_X6_size x0 x1 σ).bind fun q3 =>
  if (q3 - x3) < x2 then
  some (0 : Int32)
  else
  some (1 : Int32)
noncomputable def F_X6_set (x0 : Nat) (x1 : Int32) (x2 : Int32) (x3 : Int32) (σ : Mem) : Option Mem :=
  if x2 < 0 then
  some σ
  else
  (F_X6_size x0 x1 σ).bind fun q2 =>
  if q2 ≤ x2 then
  some σ
  else
  (gR 6 2 x0).bind fun p6 =>
  (gI 6 0 x0 σ).bind fun v8 =>
  (F_X8_write p6 ((x1 * v8) + x2) x3 σ).bind fun q9 =>
  some q9
noncomputable def F_X6_make_19 (x0 : Nat) (x1 : Int32) (x2 : Int32) (x3 : Int32) : Int32 × Mem → Option Mem := lp fun s =>
  if x2 ≤ s.1 then
  some (.inr (s.2))
  else
  (gI 6 0 x0 s.2).bind fun v3 =>
  if v3 ≤ s.1 then
  some (.inr (s.2))
  else
  (F_X6_set x0 x1 s.1 x3 s.2).bind fun q5 =>
  some (.inl ((s.1 + (1 : Int32)), q5))
noncomputable def F_X6_make (x0 : Nat) (x1 : Int32) (x2 : Int32) (x3 : Int32) (σ : Mem) : Option Mem :=
  (gR 6 1 x0).bind fun p8 =>
  (gI 6 0 x0 σ).bind fun v10 =>
  (F_X8_write p8 x1 (if v10 < x2 then v10 else x2) σ).bind fun q11 =>
  F_X6_make_19 (x0) (x1) (x2) (x3)  ((0 : Int32), q11)
noncomputable def F_X6_makeOf_19 (x0 : Nat) (x1 : Int32) (x2 : Int32) (x3 : Nat) : Int32 × Mem → Option Mem := lp fun s =>
  if x2 ≤ s.1 then
  some (.inr (s.2))
  else
  (gI 6 0 x0 s.2).bind fun v3 =>
  if v3 ≤ s.1 then
  some (.inr (s.2))
  else
  (F_X8_read x3 s.1 s.2).bind fun q5 =>
  (F_X6_set x0 x1 s.1 q5 s.2).bind fun q7 =>
  some (.inl ((s.1 + (1 : Int32)), q7))
noncomputable def F_X6_makeOf (x0 : Nat) (x1 : Int32) (x2 : Int32) (x3 : Nat) (σ : Mem) : Option Mem :=
  (gR 6 1 x0).bind fun p10 =>
  (gI 6 0 x0 σ).bind fun v12 =>
  (F_X8_write p10 x1 (if v12 < x2 then v12 else x2) σ).bind fun q13 =>
  F_X6_makeOf_19 (x0) (x1) (x2) (x3)  ((0 : Int32), q13)
noncomputable def F_X6_remove (x0 : Nat) (x1 : Int32) (σ : Mem) : Option Mem :=
  (gR 6 1 x0).bind fun p2 =>
  (F_X8_write p2 x1 (-1 : Int32) σ).bind fun q3 =>
  some q3
noncomputable def F_X6_removeAll (x0 : Nat) (σ : Mem) : Option Mem :=
  (gR 6 1 x0).bind fun p2 =>
  (F_J7_fill_53178 p2 (-1 : Int32) σ).bind fun q3 =>
  some q3
noncomputable def F_X8_shift (x0 : Nat) (x1 : Int32) (x2 : Int32) (x3 : Int32) (σ : Mem) : Option Mem :=
  (aN x0).bind fun v1 =>
  if x3 < 0 then
  some σ
  else
  if x1 < 0 then
  some σ
  else
  if (v1 - x3) < x1 then
  some σ
  else
  if x2 < 0 then
  some σ
  else
  if (v1 - x3) < x2 then
  some σ
  else
  (cpI x0 x1 x0 x2 x3 σ).bind fun m8 =>
  some m8
noncomputable def F_X6_move (x0 : Nat) (x1 : Int32) (x2 : Int32) (x3 : Int32) (x4 : Int32) (x5 : Int32) (σ : Mem) : Option Mem :=
  (gR 6 2 x0).bind fun p2 =>
  (gI 6 0 x0 σ).bind fun v4 =>
  (gI 6 0 x0 σ).bind fun v6 =>
  (F_X8_shift p2 ((x1 * v4) + x2) ((x3 * v6) + x4) x5 σ).bind fun q7 =>
  some q7
noncomputable def F_X6_digestOn_27 (x0 : Nat) (x3 : Int32) (σ : Mem) : Int64 × Int32 → Option ((Int64 × Int32) ⊕ Int64) := lp fun s =>
  (F_X6_size x0 x3 σ).bind fun q8 =>
  if q8 ≤ s.2 then
  some (.inr (.inl (s.1, (x3 + (1 : Int32)))))
  else
  (F_X6_get x0 x3 s.2 σ).bind fun q11 =>
  some (.inl ((((31 : Int64) * s.1) + q11.toInt64), (s.2 + (1 : Int32))))
noncomputable def F_X6_digestOn_2 (x0 : Nat) (σ : Mem) : Int64 × Int32 → Option Int64 := lp fun s =>
  (gR 6 1 x0).bind fun p2 =>
  (aN p2).bind fun v3 =>
  if v3 ≤ s.2 then
  some (.inr (s.1))
  else
  (F_X6_size x0 s.2 σ).bind fun q6 =>
  F_X6_digestOn_27 (x0) (s.2) σ ((((31 : Int64) * s.1) + q6.toInt64), (0 : Int32))
noncomputable def F_X6_digestOn (x0 : Nat) (x1 : Int64) (σ : Mem) : Option Int64 :=
  F_X6_digestOn_2 (x0) σ (x1, (0 : Int32))
noncomputable def F_X7_crossesIn (x0 : Nat) (x1 : Int32) (x2 : Int32) (σ : Mem) : Option Int32 :=
  (F_X7_kindOf x0 x1 σ).bind fun q1 =>
  (F_X7_gapWith x0 x1 x1 σ).bind fun q3 =>
  (F_X7_thickOf x0 x1 σ).bind fun q5 =>
  (F_X7_coldOf x0 x2 σ).bind fun q7 =>
  (F_X8_crossing q1 q3 q5 x2 q7 σ).bind fun q9 =>
  some q9
noncomputable def F_X7_about (x0 : Nat) (x1 : Int32) (x2 : Int32) (σ : Mem) : Option Int32 :=
  if x2 = (0 : Int32) then
  (F_X7_kindOf x0 x1 σ).bind fun q2 =>
  some q2
  else
  if x2 = (1 : Int32) then
  (gR 7 2 x0).bind fun p6 =>
  (F_X8_read p6 x1 σ).bind fun q7 =>
  some q7
  else
  if x2 = (2 : Int32) then
  (gR 7 3 x0).bind fun p11 =>
  (F_X8_read p11 x1 σ).bind fun q12 =>
  some q12
  else
  if x2 = (3 : Int32) then
  (F_X7_thickOf x0 x1 σ).bind fun q15 =>
  some q15
  else
  if x2 = (4 : Int32) then
  (F_X7_liesIn x0 x1 σ).bind fun q18 =>
  some q18
  else
  if x2 = (5 : Int32) then
  (gI 7 9 x0 σ).bind fun v22 =>
  (F_X7_crossesIn x0 x1 v22 σ).bind fun q23 =>
  some q23
  else
  if x2 = (6 : Int32) then
  (F_X7_kindOf x0 x1 σ).bind fun q26 =>
  (F_X7_thickOf x0 x1 σ).bind fun q28 =>
  (F_X8_barOf q26 q28 σ).bind fun q30 =>
  some q30
  else
  (gR 7 6 x0).bind fun p33 =>
  (F_X8_read p33 x1 σ).bind fun q34 =>
  some q34
noncomputable def F_X7_wouldBeFoundBits_28 (x0 : Nat) (x2 : Int32) (y0 : Int32) (y1 : Int32) (σ : Mem) : Option ((Int32 × Int32) ⊕ Int32) :=
  some (.inl ((y1 ||| y0), (x2 + (1 : Int32))))
noncomputable def F_X7_wouldBeFoundBits_4 (x0 : Nat) (σ : Mem) : Int32 × Int32 → Option Int32 := lp fun s =>
  (gI 7 8 x0 σ).bind fun v2 =>
  if v2 ≤ s.2 then
  some (.inr (s.1))
  else
  (F_X7_wouldBeFound x0 s.2 σ).bind fun q4 =>
  if q4 = 0 then
  F_X7_wouldBeFoundBits_28 (x0) (s.2) ((0 : Int32)) (s.1) σ
  else
  F_X7_wouldBeFoundBits_28 (x0) (s.2) (((1 : Int32) <<< (s.2 &&& 31))) (s.1) σ
noncomputable def F_X7_wouldBeFoundBits (x0 : Nat) (σ : Mem) : Option Int32 :=
  F_X7_wouldBeFoundBits_4 (x0) σ ((0 : Int32), (0 : Int32))
noncomputable def F_X7_fines_4 (x0 : Nat) (σ : Mem) : Int32 × Int32 → Option Int32 := lp fun s =>
  (gI 7 8 x0 σ).bind fun v2 =>
  if v2 ≤ s.2 then
  some (.inr (s.1))
  else
  (gR 7 6 x0).bind fun p5 =>
  (F_X8_read p5 s.2 σ).bind fun q6 =>
  some (.inl ((s.1 + q6), (s.2 + (1 : Int32))))
noncomputable def F_X7_fines (x0 : Nat) (σ : Mem) : Option Int32 :=
  F_X7_fines_4 (x0) σ ((0 : Int32), (0 : Int32))
noncomputable def F_X7_liesInAll_4 (x0 : Nat) (σ : Mem) : Int32 × Int32 → Option Int32 := lp fun s =>
  (gI 7 8 x0 σ).bind fun v2 =>
  if v2 ≤ s.2 then
  some (.inr (s.1))
  else
  (F_X7_liesIn x0 s.2 σ).bind fun q4 =>
  some (.inl ((s.1 + q4), (s.2 + (1 : Int32))))
noncomputable def F_X7_liesInAll (x0 : Nat) (σ : Mem) : Option Int32 :=
  F_X7_liesInAll_4 (x0) σ ((0 : Int32), (0 : Int32))
noncomputable def F_X8_isOfKind_29   (σ : Mem) : Option Int32 :=
  some (1 : Int32)
noncomputable def F_X8_isOfKind_19 (x0 : Int32) (x1 : Int32)  (σ : Mem) : Option Int32 :=
  if x0 = (5 : Int32) then
  if x1 = (1 : Int32) then
  F_X8_isOfKind_29  σ
  else
  some (0 : Int32)
  else
  some (0 : Int32)
noncomputable def F_X8_isOfKind (x0 : Int32) (x1 : Int32) (σ : Mem) : Option Int32 :=
  if x0 = x1 then
  F_X8_isOfKind_29  σ
  else
  if x1 = 0 then
  F_X8_isOfKind_29  σ
  else
  if x0 = (4 : Int32) then
  if x1 = (2 : Int32) then
  F_X8_isOfKind_29  σ
  else
  F_X8_isOfKind_19 (x0) (x1) σ
  else
  F_X8_isOfKind_19 (x0) (x1) σ
noncomputable def F_X7_quilts_30 (x0 : Nat) (x2 : Int32) (y0 : Int32) (y1 : Int32) (σ : Mem) : Option ((Int32 × Int32) ⊕ Int32) :=
  some (.inl ((y1 + y0), (x2 + (1 : Int32))))
noncomputable def F_X7_quilts_4 (x0 : Nat) (σ : Mem) : Int32 × Int32 → Option Int32 := lp fun s =>
  (gI 7 8 x0 σ).bind fun v2 =>
  if v2 ≤ s.2 then
  some (.inr (s.1))
  else
  (F_X7_kindOf x0 s.2 σ).bind fun q4 =>
  (F_X8_isOfKind q4 (2 : Int32) σ).bind fun q6 =>
  if q6 = 0 then
  F_X7_quilts_30 (x0) (s.2) ((0 : Int32)) (s.1) σ
  else
  F_X7_quilts_30 (x0) (s.2) ((1 : Int32)) (s.1) σ
noncomputable def F_X7_quilts (x0 : Nat) (σ : Mem) : Option Int32 :=
  F_X7_quilts_4 (x0) σ ((0 : Int32), (0 : Int32))
noncomputable def F_X7_mostLying_4 (x0 : Nat) (x1 : Int32) (σ : Mem) : Int32 × Int32 → Option Int32 := lp fun s =>
  (gI 7 8 x0 σ).bind fun v2 =>
  if v2 ≤ s.2 then
  some (.inr (s.1))
  else
  if ((x1 >>> (s.2 &&& 31)) &&& (1 : Int32)) = (1 : Int32) then
  (F_X7_liesIn x0 s.2 σ).bind fun q5 =>
  some (.inl ((if s.1 < q5 then q5 else s.1), (s.2 + (1 : Int32))))
  else
  some (.inl (s.1, (s.2 + (1 : Int32))))
noncomputable def F_X7_mostLying (x0 : Nat) (x1 : Int32) (σ : Mem) : Option Int32 :=
  F_X7_mostLying_4 (x0) (x1) σ ((0 : Int32), (0 : Int32))
noncomputable def F_X7_swapRights (x0 : Nat) (x1 : Int32) (x2 : Int32) (σ : Mem) : Option Mem :=
  (gR 7 3 x0).bind fun p2 =>
  (F_X8_read p2 x1 σ).bind fun q3 =>
  (gR 7 3 x0).bind fun p6 =>
  (gR 7 3 x0).bind fun p8 =>
  (F_X8_read p8 x2 σ).bind fun q9 =>
  (F_X8_write p6 x1 q9 σ).bind fun q11 =>
  (gR 7 3 x0).bind fun p14 =>
  (F_X8_write p14 x2 q3 q11).bind fun q15 =>
  some q15
noncomputable def F_X7_carryOut (x0 : Nat) (x1 : Int32) (σ : Mem) : Option (Int32 × Mem) :=
  let w1 := ((x1 / (10 : Int32)) - (x1 / (10 : Int32)) / (10 : Int32) * (10 : Int32))
  if (x1 / (100 : Int32)) = (1 : Int32) then
  (F_X7_inspectBed x0 w1 σ).bind fun q3 =>
  some (q3.1, q3.2)
  else
  if (x1 / (100 : Int32)) = (2 : Int32) then
  (F_X7_thinBed x0 w1 (1 : Int32) σ).bind fun q6 =>
  (F_X7_thickOf x0 w1 q6).bind fun q8 =>
  some (q8, q6)
  else
  if (x1 / (100 : Int32)) = (3 : Int32) then
  (F_X7_swapRights x0 w1 (x1 - x1 / (10 : Int32) * (10 : Int32)) σ).bind fun q11 =>
  (F_X7_gapWith x0 w1 w1 q11).bind fun q13 =>
  some (q13, q11)
  else
  (F_X7_passNight x0 σ).bind fun q15 =>
  some (q15.1, q15.2)
noncomputable def F_X7_passAlone_2 (x0 : Nat) (x1 : Int32) (x2 : Int32) : Int32 × Mem → Option Mem := lp fun s =>
  if x2 ≤ s.1 then
  some (.inr (s.2))
  else
  (F_X7_sleepIn x0 x1 s.2).bind fun q2 =>
  (gI 7 9 x0 q2.2).bind fun v5 =>
  (pI 7 9 x0 (v5 + (1 : Int32)) q2.2).bind fun m7 =>
  some (.inl ((s.1 + (1 : Int32)), m7))
noncomputable def F_X7_passAlone (x0 : Nat) (x1 : Int32) (x2 : Int32) (σ : Mem) : Option Mem :=
  F_X7_passAlone_2 (x0) (x1) (x2)  ((0 : Int32), σ)
noncomputable def F_X8_refuse (x0 : Nat) (x1 : Int32) (σ : Mem) : Option (Int32 × Mem) :=
  (pI 8 16 x0 x1 σ).bind fun m2 =>
  (gR 8 17 x0).bind fun p4 =>
  (gR 8 17 x0).bind fun p6 =>
  (F_X8_read p6 x1 m2).bind fun q7 =>
  (F_X8_write p4 x1 (q7 + (1 : Int32)) m2).bind fun q9 =>
  some ((-3 : Int32), q9)
noncomputable def F_X8_makeAnew (x0 : Nat) (x1 : Nat) (x2 : Int32) (x3 : Int32) (x4 : Int32) (σ : Mem) : Option (Int32 × Mem) :=
  (chk 6 x1).bind fun _ =>
  (F_X6_isNumber x1 x2 σ).bind fun q2 =>
  if q2 = 0 then
  some ((-1 : Int32), σ)
  else
  (gI 6 0 x1 σ).bind fun v6 =>
  if x3 ≤ v6 then
  if 0 ≤ x3 then
  (chk 6 x1).bind fun _ =>
  (F_X6_make x1 x2 x3 x4 σ).bind fun q10 =>
  some (x3, q10)
  else
  (F_X8_refuse x0 (5 : Int32) σ).bind fun q12 =>
  some (q12.1, q12.2)
  else
  some ((-1 : Int32), σ)
noncomputable def F_X8_row (x0 : Nat) (x1 : Int32) (x2 : Int32) (σ : Mem) : Option (Int32 × Mem) :=
  (gR 8 0 x0).bind fun p2 =>
  (F_X8_makeAnew x0 p2 x1 x2 (0 : Int32) σ).bind fun q3 =>
  some (q3.1, q3.2)
noncomputable def F_X8_refusalOfMissing (x0 : Nat) (x1 : Nat) (x2 : Int32) (σ : Mem) : Option (Int32 × Mem) :=
  (chk 6 x1).bind fun _ =>
  (F_X6_isNumber x1 x2 σ).bind fun q2 =>
  if q2 = 0 then
  some ((-1 : Int32), σ)
  else
  (chk 6 x1).bind fun _ =>
  (F_X6_stands x1 x2 σ).bind fun q6 =>
  if q6 = 0 then
  (F_X8_refuse x0 (1 : Int32) σ).bind fun q9 =>
  some (q9.1, q9.2)
  else
  some ((0 : Int32), σ)
noncomputable def F_X8_refusalOfPlace (x0 : Nat) (x1 : Nat) (x2 : Int32) (x3 : Int32) (σ : Mem) : Option (Int32 × Mem) :=
  (F_X8_refusalOfMissing x0 x1 x2 σ).bind fun q1 =>
  if q1.1 = 0 then
  (chk 6 x1).bind fun _ =>
  (F_X6_holds x1 x2 x3 (1 : Int32) q1.2).bind fun q5 =>
  if q5 = 0 then
  (F_X8_refuse x0 (2 : Int32) q1.2).bind fun q8 =>
  some (q8.1, q8.2)
  else
  some ((0 : Int32), q1.2)
  else
  some (q1.1, q1.2)
noncomputable def F_X8_tell (x0 : Nat) (x1 : Int32) (σ : Mem) : Option (Int32 × Mem) :=
  (pI 8 13 x0 x1 σ).bind fun m2 =>
  some ((1 : Int32), m2)
noncomputable def F_X8_lay (x0 : Nat) (x1 : Int32) (x2 : Int32) (x3 : Int32) (σ : Mem) : Option (Int32 × Mem) :=
  (gR 8 0 x0).bind fun p2 =>
  (F_X8_refusalOfPlace x0 p2 x1 x2 σ).bind fun q3 =>
  if q3.1 = 0 then
  (gR 8 0 x0).bind fun p7 =>
  (chk 6 p7).bind fun _ =>
  (F_X6_get p7 x1 x2 q3.2).bind fun q9 =>
  (gR 8 0 x0).bind fun p12 =>
  (chk 6 p12).bind fun _ =>
  (F_X6_set p12 x1 x2 x3 q3.2).bind fun q14 =>
  (F_X8_tell x0 q9 q14).bind fun q16 =>
  some (q16.1, q16.2)
  else
  some (q3.1, q3.2)
noncomputable def F_X8_at (x0 : Nat) (x1 : Int32) (x2 : Int32) (σ : Mem) : Option (Int32 × Mem) :=
  (gR 8 0 x0).bind fun p2 =>
  (F_X8_refusalOfPlace x0 p2 x1 x2 σ).bind fun q3 =>
  if q3.1 = 0 then
  (gR 8 0 x0).bind fun p7 =>
  (chk 6 p7).bind fun _ =>
  (F_X6_get p7 x1 x2 q3.2).bind fun q9 =>
  (F_X8_tell x0 q9 q3.2).bind fun q11 =>
  some (q11.1, q11.2)
  else
  some (q3.1, q3.2)
noncomputable def F_X8_tear (x0 : Nat) (x1 : Int32) (σ : Mem) : Option (Int32 × Mem) :=
  (gR 8 0 x0).bind fun p2 =>
  (F_X8_refusalOfMissing x0 p2 x1 σ).bind fun q3 =>
  if q3.1 = 0 then
  (gR 8 0 x0).bind fun p7 =>
  (chk 6 p7).bind fun _ =>
  (F_X6_remove p7 x1 q3.2).bind fun q9 =>
  some ((1 : Int32), q9)
  else
  some (q3.1, q3.2)
noncomputable def F_X8_copy_57 (x0 : Nat)  (σ : Mem) : Option (Int32 × Mem) :=
  (F_X8_refuse x0 (1 : Int32) σ).bind fun q1 =>
  some (q1.1, q1.2)
noncomputable def F_X8_copy_92 (x0 : Nat)  (σ : Mem) : Option (Int32 × Mem) :=
  (F_X8_refuse x0 (2 : Int32) σ).bind fun q3 =>
  some (q3.1, q3.2)
noncomputable def F_X8_copy (x0 : Nat) (x1 : Int32) (x2 : Int32) (x3 : Int32) (x4 : Int32) (x5 : Int32) (σ : Mem) : Option (Int32 × Mem) :=
  (gR 8 0 x0).bind fun p6 =>
  (chk 6 p6).bind fun _ =>
  (F_X6_isNumber p6 x1 σ).bind fun q8 =>
  if q8 = 0 then
  some ((-1 : Int32), σ)
  else
  (gR 8 0 x0).bind fun p12 =>
  (chk 6 p12).bind fun _ =>
  (F_X6_isNumber p12 x3 σ).bind fun q14 =>
  if q14 = 0 then
  some ((-1 : Int32), σ)
  else
  if 0 ≤ x5 then
  (gR 8 0 x0).bind fun p19 =>
  (chk 6 p19).bind fun _ =>
  (F_X6_stands p19 x1 σ).bind fun q21 =>
  if q21 = 0 then
  F_X8_copy_57 (x0) σ
  else
  (gR 8 0 x0).bind fun p25 =>
  (chk 6 p25).bind fun _ =>
  (F_X6_stands p25 x3 σ).bind fun q27 =>
  if q27 = 0 then
  F_X8_copy_57 (x0) σ
  else
  (gR 8 0 x0).bind fun p31 =>
  (chk 6 p31).bind fun _ =>
  (F_X6_holds p31 x1 x2 x5 σ).bind fun q33 =>
  if q33 = 0 then
  F_X8_copy_92 (x0) σ
  else
  (gR 8 0 x0).bind fun p37 =>
  (chk 6 p37).bind fun _ =>
  (F_X6_holds p37 x3 x4 x5 σ).bind fun q39 =>
  if q39 = 0 then
  F_X8_copy_92 (x0) σ
  else
  (gR 8 0 x0).bind fun p43 =>
  (chk 6 p43).bind fun _ =>
  (F_X6_move p43 x1 x2 x3 x4 x5 σ).bind fun q45 =>
  some ((1 : Int32), q45)
  else
  (F_X8_refuse x0 (5 : Int32) σ).bind fun q47 =>
  some (q47.1, q47.2)
noncomputable def F_X8_mean_41 (x0 : Nat) (x1 : Int32) (x3 : Int32) (σ : Mem) : Int64 × Int32 → Option (Int32 × Mem) := lp fun s =>
  if x3 ≤ s.2 then
  (nzL x3.toInt64).bind fun _ =>
  (F_X8_tell x0 (s.1 / x3.toInt64).toInt32 σ).bind fun q3 =>
  some (.inr ((q3.1, q3.2)))
  else
  (gR 8 0 x0).bind fun p6 =>
  (chk 6 p6).bind fun _ =>
  (F_X6_get p6 x1 s.2 σ).bind fun q8 =>
  some (.inl ((s.1 + q8.toInt64), (s.2 + (1 : Int32))))
noncomputable def F_X8_mean (x0 : Nat) (x1 : Int32) (σ : Mem) : Option (Int32 × Mem) :=
  (gR 8 0 x0).bind fun p11 =>
  (F_X8_refusalOfMissing x0 p11 x1 σ).bind fun q12 =>
  if q12.1 = 0 then
  (gR 8 0 x0).bind fun p16 =>
  (chk 6 p16).bind fun _ =>
  (F_X6_size p16 x1 q12.2).bind fun q18 =>
  if 0 < q18 then
  F_X8_mean_41 (x0) (x1) (q18) q12.2 ((0 : Int64), (0 : Int32))
  else
  (F_X8_refuse x0 (4 : Int32) q12.2).bind fun q21 =>
  some (q21.1, q21.2)
  else
  some (q12.1, q12.2)
noncomputable def F_X8_text (x0 : Nat) (x1 : Int32) (x2 : Int32) (σ : Mem) : Option (Int32 × Mem) :=
  (gR 8 1 x0).bind fun p2 =>
  (F_X8_makeAnew x0 p2 x1 x2 (32 : Int32) σ).bind fun q3 =>
  some (q3.1, q3.2)
noncomputable def F_X8_put (x0 : Nat) (x1 : Int32) (x2 : Int32) (x3 : Int32) (σ : Mem) : Option (Int32 × Mem) :=
  (gR 8 1 x0).bind fun p2 =>
  (F_X8_refusalOfPlace x0 p2 x1 x2 σ).bind fun q3 =>
  if q3.1 = 0 then
  (gR 8 1 x0).bind fun p7 =>
  (chk 6 p7).bind fun _ =>
  (F_X6_get p7 x1 x2 q3.2).bind fun q9 =>
  (gR 8 1 x0).bind fun p12 =>
  (chk 6 p12).bind fun _ =>
  (F_X6_set p12 x1 x2 x3.toInt8.toInt32 q3.2).bind fun q14 =>
  some ((q9 + (1000 : Int32)), q14)
  else
  some (q3.1, q3.2)
noncomputable def F_X8_fault (x0 : Nat) (x1 : Int32) (σ : Mem) : Option (Int32 × Mem) :=
  (gR 8 1 x0).bind fun p2 =>
  (F_X8_refusalOfMissing x0 p2 x1 σ).bind fun q3 =>
  if q3.1 = 0 then
  (gR 8 8 x0).bind fun p7 =>
  (gR 8 1 x0).bind fun p9 =>
  (chk 4 p7).bind fun _ =>
  (F_X4_readTown p7 p9 x1 q3.2).bind fun q11 =>
  some (q11.1, q11.2)
  else
  some (q3.1, q3.2)
noncomputable def F_X8_town (x0 : Nat) (x1 : Int32) (σ : Mem) : Option (Int32 × Mem) :=
  (gR 8 1 x0).bind fun p2 =>
  (F_X8_refusalOfMissing x0 p2 x1 σ).bind fun q3 =>
  if q3.1 = 0 then
  (gR 8 8 x0).bind fun p7 =>
  (gR 8 1 x0).bind fun p9 =>
  (chk 4 p7).bind fun _ =>
  (F_X4_readTown p7 p9 x1 q3.2).bind fun q11 =>
  if q11.1 = (-9 : Int32) then
  (gR 8 3 x0).bind fun p15 =>
  (gR 8 8 x0).bind fun p17 =>
  (gR 4 0 p17).bind fun p19 =>
  (chk 7 p15).bind fun _ =>
  (F_X7_copyFrom p15 p19 q11.2).bind fun q21 =>
  (gR 8 4 x0).bind fun p24 =>
  (gR 8 3 x0).bind fun p26 =>
  (chk 7 p24).bind fun _ =>
  (F_X7_copyFrom p24 p26 q21).bind fun q28 =>
  (pI 8 7 x0 (0 : Int32) q28).bind fun m31 =>
  (gR 8 2 x0).bind fun p33 =>
  (chk 6 p33).bind fun _ =>
  (F_X6_removeAll p33 m31).bind fun q35 =>
  (gR 8 4 x0).bind fun p38 =>
  (gI 7 8 p38 q35).bind fun v40 =>
  some (v40, q35)
  else
  some ((-4 : Int32), q11.2)
  else
  some (q3.1, q3.2)
noncomputable def F_X8_bed (x0 : Nat) (x1 : Int32) (x2 : Int32) (σ : Mem) : Option (Int32 × Mem) :=
  (gR 8 4 x0).bind fun p2 =>
  (chk 7 p2).bind fun _ =>
  (F_X7_has p2 x1 σ).bind fun q4 =>
  if q4 = 0 then
  some ((-1 : Int32), σ)
  else
  if x2 < 0 then
  some ((-1 : Int32), σ)
  else
  if x2 < (8 : Int32) then
  (gR 8 4 x0).bind fun p10 =>
  (chk 7 p10).bind fun _ =>
  (F_X7_about p10 x1 x2 σ).bind fun q12 =>
  (F_X8_tell x0 q12 σ).bind fun q14 =>
  some (q14.1, q14.2)
  else
  some ((-1 : Int32), σ)
noncomputable def F_X8_mark (x0 : Nat) (x1 : Int32) (x2 : Int32) (σ : Mem) : Option (Int32 × Mem) :=
  (gR 8 4 x0).bind fun p2 =>
  (chk 7 p2).bind fun _ =>
  (F_X7_has p2 x1 σ).bind fun q4 =>
  if q4 = 0 then
  some ((-1 : Int32), σ)
  else
  if x2 ≤ 0 then
  some ((-1 : Int32), σ)
  else
  if x2 < (6 : Int32) then
  (gR 8 4 x0).bind fun p10 =>
  (chk 7 p10).bind fun _ =>
  (F_X7_kindOf p10 x1 σ).bind fun q12 =>
  (F_X8_isOfKind q12 x2 σ).bind fun q14 =>
  if q14 = 0 then
  (F_X8_refuse x0 (3 : Int32) σ).bind fun q68 =>
  some (q68.1, q68.2)
  else
  (gR 8 4 x0).bind fun p18 =>
  (chk 7 p18).bind fun _ =>
  (F_X7_thickOf p18 x1 σ).bind fun q20 =>
  (gR 8 4 x0).bind fun p23 =>
  (gR 8 4 x0).bind fun p25 =>
  (gI 7 9 p25 σ).bind fun v27 =>
  (chk 7 p23).bind fun _ =>
  (F_X7_crossesIn p23 x1 v27 σ).bind fun q29 =>
  if x2 = (1 : Int32) then
  (gR 8 4 x0).bind fun p33 =>
  (gR 8 4 x0).bind fun p35 =>
  (gI 7 9 p35 σ).bind fun v37 =>
  (chk 7 p33).bind fun _ =>
  (F_X7_crossesAs p33 x1 (0 : Int32) q20 v37 σ).bind fun q39 =>
  some ((q39 - q29), σ)
  else
  if x2 = (2 : Int32) then
  (F_X8_barOf (2 : Int32) q20 σ).bind fun q42 =>
  some ((q20 - q42), σ)
  else
  if x2 = (3 : Int32) then
  (gR 8 4 x0).bind fun p46 =>
  (gI 7 9 p46 σ).bind fun v48 =>
  some ((v48 - v48 / (2 : Int32) * (2 : Int32)), σ)
  else
  if x2 = (4 : Int32) then
  (gR 8 4 x0).bind fun p51 =>
  (gR 8 4 x0).bind fun p53 =>
  (gI 7 9 p53 σ).bind fun v55 =>
  (chk 7 p51).bind fun _ =>
  (F_X7_crossesAs p51 x1 (2 : Int32) q20 v55 σ).bind fun q57 =>
  some ((q29 - q57), σ)
  else
  (gR 8 4 x0).bind fun p60 =>
  (gR 8 4 x0).bind fun p62 =>
  (gI 7 9 p62 σ).bind fun v64 =>
  (chk 7 p60).bind fun _ =>
  (F_X7_crossesAs p60 x1 (1 : Int32) q20 v64 σ).bind fun q66 =>
  some ((q66 - q29), σ)
  else
  some ((-1 : Int32), σ)
noncomputable def F_X8_cross (x0 : Nat) (x1 : Int32) (x2 : Int32) (σ : Mem) : Option Int32 :=
  (gR 8 4 x0).bind fun p2 =>
  (chk 7 p2).bind fun _ =>
  (F_X7_has p2 x1 σ).bind fun q4 =>
  if q4 = 0 then
  some (-1 : Int32)
  else
  if x2 < 0 then
  some (-1 : Int32)
  else
  if x2 ≤ (99 : Int32) then
  (gR 8 4 x0).bind fun p10 =>
  (chk 7 p10).bind fun _ =>
  (F_X7_crossesIn p10 x1 x2 σ).bind fun q12 =>
  some q12
  else
  some (-1 : Int32)
noncomputable def F_X8_enact (x0 : Nat) (x1 : Int32) (x2 : Int32) (x3 : Int32) (σ : Mem) : Option (Int32 × Mem) :=
  let w1 := ((((100 : Int32) * x1) + ((10 : Int32) * x2)) + x3)
  (gR 8 6 x0).bind fun p3 =>
  (gI 8 7 x0 σ).bind fun v5 =>
  (F_X8_write p3 v5 w1 σ).bind fun q6 =>
  (gI 8 7 x0 q6).bind fun v9 =>
  (pI 8 7 x0 (v9 + (1 : Int32)) q6).bind fun m11 =>
  (gR 8 4 x0).bind fun p13 =>
  (chk 7 p13).bind fun _ =>
  (F_X7_carryOut p13 w1 m11).bind fun q15 =>
  some (q15.1, q15.2)
noncomputable def F_X8_night (x0 : Nat) (σ : Mem) : Option (Int32 × Mem) :=
  (gR 8 4 x0).bind fun p2 =>
  (gI 7 8 p2 σ).bind fun v4 =>
  if v4 = 0 then
  some ((-4 : Int32), σ)
  else
  (gI 8 7 x0 σ).bind fun v7 =>
  if v7 < (40 : Int32) then
  (F_X8_enact x0 (0 : Int32) (0 : Int32) (0 : Int32) σ).bind fun q9 =>
  some (q9.1, q9.2)
  else
  some ((-2 : Int32), σ)
noncomputable def F_X8_inspect (x0 : Nat) (x1 : Int32) (σ : Mem) : Option (Int32 × Mem) :=
  (gR 8 4 x0).bind fun p2 =>
  (chk 7 p2).bind fun _ =>
  (F_X7_has p2 x1 σ).bind fun q4 =>
  if q4 = 0 then
  some ((-1 : Int32), σ)
  else
  (gI 8 7 x0 σ).bind fun v8 =>
  if v8 < (40 : Int32) then
  (F_X8_enact x0 (1 : Int32) x1 (0 : Int32) σ).bind fun q10 =>
  some (q10.1, q10.2)
  else
  some ((-2 : Int32), σ)
noncomputable def F_X8_thin (x0 : Nat) (x1 : Int32) (σ : Mem) : Option (Int32 × Mem) :=
  (gR 8 4 x0).bind fun p2 =>
  (chk 7 p2).bind fun _ =>
  (F_X7_has p2 x1 σ).bind fun q4 =>
  if q4 = 0 then
  some ((-1 : Int32), σ)
  else
  (gR 8 4 x0).bind fun p8 =>
  (chk 7 p8).bind fun _ =>
  (F_X7_thickOf p8 x1 σ).bind fun q10 =>
  if q10 = 0 then
  some ((-4 : Int32), σ)
  else
  (gI 8 7 x0 σ).bind fun v14 =>
  if v14 < (40 : Int32) then
  (F_X8_enact x0 (2 : Int32) x1 (0 : Int32) σ).bind fun q16 =>
  some (q16.1, q16.2)
  else
  some ((-2 : Int32), σ)
noncomputable def F_X8_swap (x0 : Nat) (x1 : Int32) (x2 : Int32) (σ : Mem) : Option (Int32 × Mem) :=
  (gR 8 4 x0).bind fun p2 =>
  (chk 7 p2).bind fun _ =>
  (F_X7_has p2 x1 σ).bind fun q4 =>
  if q4 = 0 then
  some ((-1 : Int32), σ)
  else
  (gR 8 4 x0).bind fun p8 =>
  (chk 7 p8).bind fun _ =>
  (F_X7_has p8 x2 σ).bind fun q10 =>
  if q10 = 0 then
  some ((-1 : Int32), σ)
  else
  if x1 = x2 then
  some ((-1 : Int32), σ)
  else
  (gI 8 7 x0 σ).bind fun v15 =>
  if v15 < (40 : Int32) then
  (F_X8_enact x0 (3 : Int32) x1 x2 σ).bind fun q17 =>
  some (q17.1, q17.2)
  else
  some ((-2 : Int32), σ)
noncomputable def F_X8_redoFromStart_13 (x0 : Nat) : Int32 × Mem → Option Mem := lp fun s =>
  (gI 8 7 x0 s.2).bind fun v2 =>
  if v2 ≤ s.1 then
  some (.inr (s.2))
  else
  (gR 8 4 x0).bind fun p5 =>
  (gR 8 6 x0).bind fun p7 =>
  (F_X8_read p7 s.1 s.2).bind fun q8 =>
  (chk 7 p5).bind fun _ =>
  (F_X7_carryOut p5 q8 s.2).bind fun q11 =>
  some (.inl ((s.1 + (1 : Int32)), q11.2))
noncomputable def F_X8_redoFromStart (x0 : Nat) (σ : Mem) : Option Mem :=
  (gR 8 4 x0).bind fun p14 =>
  (gR 8 3 x0).bind fun p16 =>
  (chk 7 p14).bind fun _ =>
  (F_X7_copyFrom p14 p16 σ).bind fun q18 =>
  F_X8_redoFromStart_13 (x0)  ((0 : Int32), q18)
noncomputable def F_X8_undo (x0 : Nat) (x1 : Int32) (σ : Mem) : Option (Int32 × Mem) :=
  if x1 < 0 then
  some ((-1 : Int32), σ)
  else
  (gI 8 7 x0 σ).bind fun v3 =>
  if x1 ≤ v3 then
  (gI 8 7 x0 σ).bind fun v6 =>
  (pI 8 7 x0 x1 σ).bind fun m8 =>
  (F_X8_redoFromStart x0 m8).bind fun q9 =>
  some ((v6 - x1), q9)
  else
  some ((-1 : Int32), σ)
noncomputable def F_X8_keep (x0 : Nat) (x1 : Int32) (σ : Mem) : Option (Int32 × Mem) :=
  (gR 8 2 x0).bind fun p2 =>
  (chk 6 p2).bind fun _ =>
  (F_X6_isNumber p2 x1 σ).bind fun q4 =>
  if q4 = 0 then
  some ((-1 : Int32), σ)
  else
  (gR 8 4 x0).bind fun p8 =>
  (gI 7 8 p8 σ).bind fun v10 =>
  if v10 = 0 then
  some ((-4 : Int32), σ)
  else
  (gR 8 2 x0).bind fun p13 =>
  (gI 8 7 x0 σ).bind fun v15 =>
  (gR 8 6 x0).bind fun p17 =>
  (chk 6 p13).bind fun _ =>
  (F_X6_makeOf p13 x1 v15 p17 σ).bind fun q19 =>
  (gI 8 7 x0 q19).bind fun v22 =>
  some (v22, q19)
noncomputable def F_X8_on_30 (x0 : Nat) (x1 : Int32) : Int32 × Mem → Option (Int32 × Mem) := lp fun s =>
  (gI 8 7 x0 s.2).bind fun v2 =>
  if v2 ≤ s.1 then
  (F_X8_redoFromStart x0 s.2).bind fun q4 =>
  (gI 8 7 x0 q4).bind fun v7 =>
  some (.inr ((v7, q4)))
  else
  (gR 8 6 x0).bind fun p9 =>
  (gR 8 2 x0).bind fun p11 =>
  (chk 6 p11).bind fun _ =>
  (F_X6_get p11 x1 s.1 s.2).bind fun q13 =>
  (F_X8_write p9 s.1 q13 s.2).bind fun q15 =>
  some (.inl ((s.1 + (1 : Int32)), q15))
noncomputable def F_X8_on (x0 : Nat) (x1 : Int32) (σ : Mem) : Option (Int32 × Mem) :=
  (gR 8 2 x0).bind fun p18 =>
  (F_X8_refusalOfMissing x0 p18 x1 σ).bind fun q19 =>
  if q19.1 = 0 then
  (gR 8 2 x0).bind fun p23 =>
  (chk 6 p23).bind fun _ =>
  (F_X6_size p23 x1 q19.2).bind fun q25 =>
  (pI 8 7 x0 q25 q19.2).bind fun m28 =>
  F_X8_on_30 (x0) (x1)  ((0 : Int32), m28)
  else
  some (q19.1, q19.2)
noncomputable def F_X8_then (x0 : Nat) (x1 : Int32) (x2 : Int32) (σ : Mem) : Option (Int32 × Mem) :=
  (gR 8 4 x0).bind fun p2 =>
  (chk 7 p2).bind fun _ =>
  (F_X7_has p2 x1 σ).bind fun q4 =>
  if q4 = 0 then
  some ((-1 : Int32), σ)
  else
  if x2 < 0 then
  some ((-1 : Int32), σ)
  else
  if x2 ≤ (40 : Int32) then
  (gR 8 5 x0).bind fun p10 =>
  (gR 8 4 x0).bind fun p12 =>
  (chk 7 p10).bind fun _ =>
  (F_X7_copyFrom p10 p12 σ).bind fun q14 =>
  (gR 8 5 x0).bind fun p17 =>
  (chk 7 p17).bind fun _ =>
  (F_X7_passAlone p17 x1 x2 q14).bind fun q19 =>
  (gR 8 5 x0).bind fun p22 =>
  (chk 7 p22).bind fun _ =>
  (F_X7_thickOf p22 x1 q19).bind fun q24 =>
  (pI 8 13 x0 q24 q19).bind fun m27 =>
  (gR 8 5 x0).bind fun p29 =>
  (chk 7 p29).bind fun _ =>
  (F_X7_liesIn p29 x1 m27).bind fun q31 =>
  some (q31, m27)
  else
  some ((-1 : Int32), σ)
noncomputable def F_X8_when_26 (x0 : Nat) (x1 : Int32) : Int32 × Mem → Option (Int32 × Mem) := lp fun s =>
  if (40 : Int32) < s.1 then
  some (.inr (((-9 : Int32), s.2)))
  else
  (gR 8 5 x0).bind fun p3 =>
  (chk 7 p3).bind fun _ =>
  (F_X7_wouldBeFound p3 x1 s.2).bind fun q5 =>
  if q5 = 0 then
  (gR 8 5 x0).bind fun p9 =>
  (chk 7 p9).bind fun _ =>
  (F_X7_passAlone p9 x1 (1 : Int32) s.2).bind fun q11 =>
  some (.inl ((s.1 + (1 : Int32)), q11))
  else
  some (.inr ((s.1, s.2)))
noncomputable def F_X8_when (x0 : Nat) (x1 : Int32) (σ : Mem) : Option (Int32 × Mem) :=
  (gR 8 4 x0).bind fun p14 =>
  (chk 7 p14).bind fun _ =>
  (F_X7_has p14 x1 σ).bind fun q16 =>
  if q16 = 0 then
  some ((-1 : Int32), σ)
  else
  (gR 8 5 x0).bind fun p20 =>
  (gR 8 4 x0).bind fun p22 =>
  (chk 7 p20).bind fun _ =>
  (F_X7_copyFrom p20 p22 σ).bind fun q24 =>
  F_X8_when_26 (x0) (x1)  ((0 : Int32), q24)
noncomputable def F_X8_least_35 (x0 : Nat) (x1 : Int32) (x2 : Int32) (x3 : Int32) : Int32 × Mem → Option (Int32 × Mem) := lp fun s =>
  if x3 < s.1 then
  some (.inr (((-9 : Int32), s.2)))
  else
  (gR 8 5 x0).bind fun p3 =>
  (gR 8 4 x0).bind fun p5 =>
  (chk 7 p3).bind fun _ =>
  (F_X7_copyFrom p3 p5 s.2).bind fun q7 =>
  (gR 8 5 x0).bind fun p10 =>
  (chk 7 p10).bind fun _ =>
  (F_X7_thinBed p10 x1 s.1 q7).bind fun q12 =>
  (gR 8 5 x0).bind fun p15 =>
  (chk 7 p15).bind fun _ =>
  (F_X7_passAlone p15 x1 x2 q12).bind fun q17 =>
  (gR 8 5 x0).bind fun p20 =>
  (chk 7 p20).bind fun _ =>
  (F_X7_wouldBeFound p20 x1 q17).bind fun q22 =>
  if q22 = 0 then
  some (.inl ((s.1 + (1 : Int32)), q17))
  else
  some (.inr ((s.1, q17)))
noncomputable def F_X8_least (x0 : Nat) (x1 : Int32) (x2 : Int32) (σ : Mem) : Option (Int32 × Mem) :=
  (gR 8 4 x0).bind fun p26 =>
  (chk 7 p26).bind fun _ =>
  (F_X7_has p26 x1 σ).bind fun q28 =>
  if q28 = 0 then
  some ((-1 : Int32), σ)
  else
  if x2 < 0 then
  some ((-1 : Int32), σ)
  else
  if x2 ≤ (40 : Int32) then
  (gR 8 4 x0).bind fun p34 =>
  (chk 7 p34).bind fun _ =>
  (F_X7_thickOf p34 x1 σ).bind fun q36 =>
  F_X8_least_35 (x0) (x1) (x2) (q36)  ((0 : Int32), σ)
  else
  some ((-1 : Int32), σ)
noncomputable def F_X8_round (x0 : Nat) (x1 : Int32) (x2 : Int32) (σ : Mem) : Option (Int32 × Mem) :=
  if x1 < 0 then
  some ((-1 : Int32), σ)
  else
  if (4 : Int32) < x1 then
  some ((-1 : Int32), σ)
  else
  (gR 8 0 x0).bind fun p4 =>
  (chk 6 p4).bind fun _ =>
  (F_X6_isNumber p4 x2 σ).bind fun q6 =>
  if q6 = 0 then
  some ((-1 : Int32), σ)
  else
  (gR 8 4 x0).bind fun p10 =>
  (gI 7 8 p10 σ).bind fun v12 =>
  if v12 = 0 then
  some ((-4 : Int32), σ)
  else
  (gR 8 9 x0).bind fun p15 =>
  (gR 8 4 x0).bind fun p17 =>
  (chk 5 p15).bind fun _ =>
  (F_X5_mostFound p15 p17 x1 σ).bind fun q19 =>
  (gR 8 0 x0).bind fun p22 =>
  (gR 8 9 x0).bind fun p24 =>
  (gR 5 1 p24).bind fun p26 =>
  (chk 6 p22).bind fun _ =>
  (F_X6_makeOf p22 x2 x1 p26 q19.2).bind fun q28 =>
  some (q19.1, q28)
noncomputable def F_X8_isRound_2 (x0 : Nat) (x1 : Int32) (σ : Mem) : Int32 → Option Int32 := lp fun s =>
  (gR 8 0 x0).bind fun p2 =>
  (chk 6 p2).bind fun _ =>
  (F_X6_size p2 x1 σ).bind fun q4 =>
  if q4 ≤ s then
  some (.inr ((1 : Int32)))
  else
  (gR 8 0 x0).bind fun p8 =>
  (chk 6 p8).bind fun _ =>
  (F_X6_get p8 x1 s σ).bind fun q10 =>
  if q10 = (-9 : Int32) then
  some (.inl ((s + (1 : Int32))))
  else
  (gR 8 4 x0).bind fun p14 =>
  (chk 7 p14).bind fun _ =>
  (F_X7_has p14 q10 σ).bind fun q16 =>
  if q16 = 0 then
  some (.inr ((0 : Int32)))
  else
  some (.inl ((s + (1 : Int32))))
noncomputable def F_X8_isRound (x0 : Nat) (x1 : Int32) (σ : Mem) : Option Int32 :=
  F_X8_isRound_2 (x0) (x1) σ ((0 : Int32))
noncomputable def F_X8_brings_91 (x0 : Nat) (x1 : Int32) : Int32 × Int32 × Mem → Option (Int32 × Mem) := lp fun s =>
  (gR 8 0 x0).bind fun p2 =>
  (chk 6 p2).bind fun _ =>
  (F_X6_size p2 x1 s.2.2).bind fun q4 =>
  if q4 ≤ s.2.1 then
  (gR 8 5 x0).bind fun p8 =>
  (chk 7 p8).bind fun _ =>
  (F_X7_fines p8 s.2.2).bind fun q10 =>
  (gR 8 4 x0).bind fun p13 =>
  (chk 7 p13).bind fun _ =>
  (F_X7_fines p13 s.2.2).bind fun q15 =>
  (pI 8 13 x0 (q10 - q15) s.2.2).bind fun m18 =>
  some (.inr ((s.1, m18)))
  else
  (gR 8 5 x0).bind fun p20 =>
  (chk 7 p20).bind fun _ =>
  (F_X7_passNight p20 s.2.2).bind fun q22 =>
  (gR 8 5 x0).bind fun p25 =>
  (gR 8 0 x0).bind fun p27 =>
  (chk 6 p27).bind fun _ =>
  (F_X6_get p27 x1 s.2.1 q22.2).bind fun q29 =>
  (chk 7 p25).bind fun _ =>
  (F_X7_inspectBed p25 q29 q22.2).bind fun q32 =>
  some (.inl ((s.1 + q32.1), (s.2.1 + (1 : Int32)), q32.2))
noncomputable def F_X8_brings (x0 : Nat) (x1 : Int32) (σ : Mem) : Option (Int32 × Mem) :=
  (gR 8 0 x0).bind fun p35 =>
  (chk 6 p35).bind fun _ =>
  (F_X6_isNumber p35 x1 σ).bind fun q37 =>
  if q37 = 0 then
  some ((-1 : Int32), σ)
  else
  (gR 8 4 x0).bind fun p41 =>
  (gI 7 8 p41 σ).bind fun v43 =>
  if v43 = 0 then
  some ((-4 : Int32), σ)
  else
  (gR 8 0 x0).bind fun p46 =>
  (chk 6 p46).bind fun _ =>
  (F_X6_stands p46 x1 σ).bind fun q48 =>
  if q48 = 0 then
  (F_X8_refuse x0 (1 : Int32) σ).bind fun q71 =>
  some (q71.1, q71.2)
  else
  (gR 8 0 x0).bind fun p52 =>
  (chk 6 p52).bind fun _ =>
  (F_X6_size p52 x1 σ).bind fun q54 =>
  if q54 ≤ (10 : Int32) then
  (F_X8_isRound x0 x1 σ).bind fun q57 =>
  if q57 = 0 then
  (F_X8_refuse x0 (3 : Int32) σ).bind fun q67 =>
  some (q67.1, q67.2)
  else
  (gR 8 5 x0).bind fun p61 =>
  (gR 8 4 x0).bind fun p63 =>
  (chk 7 p61).bind fun _ =>
  (F_X7_copyFrom p61 p63 σ).bind fun q65 =>
  F_X8_brings_91 (x0) (x1)  ((0 : Int32), (0 : Int32), q65)
  else
  (F_X8_refuse x0 (5 : Int32) σ).bind fun q69 =>
  some (q69.1, q69.2)
noncomputable def F_X8_marry (x0 : Nat) (x1 : Int32) (σ : Mem) : Option (Int32 × Mem) :=
  (gR 8 0 x0).bind fun p2 =>
  (chk 6 p2).bind fun _ =>
  (F_X6_isNumber p2 x1 σ).bind fun q4 =>
  if q4 = 0 then
  some ((-1 : Int32), σ)
  else
  (gR 8 4 x0).bind fun p8 =>
  (gI 7 8 p8 σ).bind fun v10 =>
  if v10 = 0 then
  some ((-4 : Int32), σ)
  else
  (gR 8 10 x0).bind fun p13 =>
  (gR 8 4 x0).bind fun p15 =>
  (chk 3 p13).bind fun _ =>
  (F_X3_fewestCrossing p13 p15 σ).bind fun q17 =>
  (gR 8 0 x0).bind fun p20 =>
  (gR 8 4 x0).bind fun p22 =>
  (gI 7 8 p22 q17.2).bind fun v24 =>
  (gR 8 10 x0).bind fun p26 =>
  (gR 3 0 p26).bind fun p28 =>
  (chk 6 p20).bind fun _ =>
  (F_X6_makeOf p20 x1 v24 p28 q17.2).bind fun q30 =>
  some (q17.1, q30)
noncomputable def F_X8_rather_109 (x0 : Nat) (x1 : Int32) (x3 : Int32) (x4 : Int32) (y0 : Int32) (σ : Mem) : Option ((Int32 × Int32 × Int32) ⊕ ((Int32 × Int32 × Int32) ⊕ (Int32 × Mem))) :=
  some (.inl ((x1 + (1 : Int32)), y0, (x4 + (1 : Int32))))
noncomputable def F_X8_rather_36 (x0 : Nat) (x3 : Int32) (σ : Mem) : Int32 × Int32 × Int32 → Option ((Int32 × Int32 × Int32) ⊕ (Int32 × Mem)) := lp fun s =>
  (gR 8 4 x0).bind fun p9 =>
  (gI 7 8 p9 σ).bind fun v11 =>
  if v11 ≤ s.2.2 then
  some (.inr (.inl (s.1, s.2.1, (x3 + (1 : Int32)))))
  else
  (gR 8 4 x0).bind fun p14 =>
  (chk 7 p14).bind fun _ =>
  (F_X7_gapWith p14 x3 s.2.2 σ).bind fun q16 =>
  (gR 8 4 x0).bind fun p19 =>
  (chk 7 p19).bind fun _ =>
  (F_X7_gapWith p19 x3 x3 σ).bind fun q21 =>
  if q21 ≤ q16 then
  some (.inl (s.1, s.2.1, (s.2.2 + (1 : Int32))))
  else
  (gR 8 4 x0).bind fun p25 =>
  (chk 7 p25).bind fun _ =>
  (F_X7_gapWith p25 s.2.2 x3 σ).bind fun q27 =>
  (gR 8 4 x0).bind fun p30 =>
  (chk 7 p30).bind fun _ =>
  (F_X7_gapWith p30 s.2.2 s.2.2 σ).bind fun q32 =>
  if q32 ≤ q27 then
  some (.inl (s.1, s.2.1, (s.2.2 + (1 : Int32))))
  else
  if s.1 = 0 then
  F_X8_rather_109 (x0) (s.1) (x3) (s.2.2) ((((10 : Int32) * x3) + s.2.2)) σ
  else
  F_X8_rather_109 (x0) (s.1) (x3) (s.2.2) (s.2.1) σ
noncomputable def F_X8_rather_20 (x0 : Nat) (σ : Mem) : Int32 × Int32 × Int32 → Option (Int32 × Mem) := lp fun s =>
  (gR 8 4 x0).bind fun p2 =>
  (gI 7 8 p2 σ).bind fun v4 =>
  if v4 ≤ s.2.2 then
  (pI 8 13 x0 s.2.1 σ).bind fun m7 =>
  some (.inr ((s.1, m7)))
  else
  F_X8_rather_36 (x0) (s.2.2) σ (s.1, s.2.1, (s.2.2 + (1 : Int32)))
noncomputable def F_X8_rather (x0 : Nat) (σ : Mem) : Option (Int32 × Mem) :=
  (gR 8 4 x0).bind fun p37 =>
  (gI 7 8 p37 σ).bind fun v39 =>
  if v39 = 0 then
  some ((-4 : Int32), σ)
  else
  F_X8_rather_20 (x0) σ ((0 : Int32), (-9 : Int32), (0 : Int32))
noncomputable def F_X8_takePairs (x0 : Nat) (x1 : Int32) (x2 : Int32) (σ : Mem) : Option (Int32 × Mem) :=
  (gR 8 4 x0).bind fun p2 =>
  (chk 7 p2).bind fun _ =>
  (F_X7_has p2 x1 σ).bind fun q4 =>
  if q4 = 0 then
  some ((-1 : Int32), σ)
  else
  (gR 8 0 x0).bind fun p8 =>
  (F_X8_refusalOfMissing x0 p8 x2 σ).bind fun q9 =>
  if q9.1 = 0 then
  (gR 8 0 x0).bind fun p13 =>
  (chk 6 p13).bind fun _ =>
  (F_X6_size p13 x2 q9.2).bind fun q15 =>
  if (q15 - q15 / (2 : Int32) * (2 : Int32)) = 0 then
  (gR 8 11 x0).bind fun p19 =>
  (gR 8 0 x0).bind fun p21 =>
  (chk 0 p19).bind fun _ =>
  (F_X0_take p19 p21 x2 q9.2).bind fun q23 =>
  if q23.1 = 0 then
  (F_X8_refuse x0 (3 : Int32) q23.2).bind fun q26 =>
  some (q26.1, q26.2)
  else
  some ((0 : Int32), q23.2)
  else
  (F_X8_refuse x0 (5 : Int32) q9.2).bind fun q28 =>
  some (q28.1, q28.2)
  else
  some (q9.1, q9.2)
noncomputable def F_X8_thicks (x0 : Nat) (x1 : Int32) (x2 : Int32) (σ : Mem) : Option (Int32 × Mem) :=
  (F_X8_takePairs x0 x1 x2 σ).bind fun q1 =>
  if q1.1 = 0 then
  (gR 8 11 x0).bind fun p5 =>
  (gR 8 4 x0).bind fun p7 =>
  (gR 8 4 x0).bind fun p9 =>
  (chk 7 p9).bind fun _ =>
  (F_X7_kindOf p9 x1 q1.2).bind fun q11 =>
  (chk 0 p5).bind fun _ =>
  (F_X0_thicksFitting p5 p7 x1 q11 q1.2).bind fun q14 =>
  some (q14, q1.2)
  else
  some (q1.1, q1.2)
noncomputable def F_X8_kinds (x0 : Nat) (x1 : Int32) (x2 : Int32) (σ : Mem) : Option (Int32 × Mem) :=
  (F_X8_takePairs x0 x1 x2 σ).bind fun q1 =>
  if q1.1 = 0 then
  (gR 8 11 x0).bind fun p5 =>
  (gR 8 4 x0).bind fun p7 =>
  (gR 8 4 x0).bind fun p9 =>
  (chk 7 p9).bind fun _ =>
  (F_X7_thickOf p9 x1 q1.2).bind fun q11 =>
  (chk 0 p5).bind fun _ =>
  (F_X0_kindsFitting p5 p7 x1 q11 q1.2).bind fun q14 =>
  some (q14, q1.2)
  else
  some (q1.1, q1.2)
noncomputable def F_X8_test (x0 : Nat) (x1 : Int32) (x2 : Int32) (σ : Mem) : Option (Int32 × Mem) :=
  (F_X8_takePairs x0 x1 x2 σ).bind fun q1 =>
  if q1.1 = 0 then
  (gR 8 11 x0).bind fun p5 =>
  (gR 8 4 x0).bind fun p7 =>
  (chk 0 p5).bind fun _ =>
  (F_X0_tellingNight p5 p7 x1 q1.2).bind fun q9 =>
  if q9.1 = (-9 : Int32) then
  some (q9.1, q9.2)
  else
  (gR 8 11 x0).bind fun p13 =>
  (gI 0 5 p13 q9.2).bind fun v15 =>
  (pI 8 13 x0 v15 q9.2).bind fun m17 =>
  some (q9.1, m17)
  else
  some (q1.1, q1.2)
noncomputable def F_X8_duel (x0 : Nat) (x1 : Int32) (σ : Mem) : Option (Int32 × Mem) :=
  if x1 < 0 then
  some ((-1 : Int32), σ)
  else
  if x1 ≤ (4 : Int32) then
  (gR 8 4 x0).bind fun p4 =>
  (gI 7 8 p4 σ).bind fun v6 =>
  if v6 = 0 then
  some ((-4 : Int32), σ)
  else
  (gR 8 12 x0).bind fun p9 =>
  (gR 8 4 x0).bind fun p11 =>
  (chk 1 p9).bind fun _ =>
  (F_X1_foundFrom 8 p9 p11 (0 : Int32) x1 σ).bind fun q13 =>
  some (q13.1, q13.2)
  else
  some ((-1 : Int32), σ)
noncomputable def F_J6_bitCount_0f7a4 (x0 : Int32) (σ : Mem) : Option Int32 :=
  let w1 := (x0 - ((x0.toUInt32 >>> ((1 : Int32).toUInt32 &&& Int32.toUInt32 31)).toInt32 &&& (1431655765 : Int32)))
  let w2 := ((w1 &&& (858993459 : Int32)) + ((w1.toUInt32 >>> ((2 : Int32).toUInt32 &&& Int32.toUInt32 31)).toInt32 &&& (858993459 : Int32)))
  let w3 := ((w2 + (w2.toUInt32 >>> ((4 : Int32).toUInt32 &&& Int32.toUInt32 31)).toInt32) &&& (252645135 : Int32))
  let w4 := (w3 + (w3.toUInt32 >>> ((8 : Int32).toUInt32 &&& Int32.toUInt32 31)).toInt32)
  let w5 := (w4 + (w4.toUInt32 >>> ((16 : Int32).toUInt32 &&& Int32.toUInt32 31)).toInt32)
  some (w5 &&& (63 : Int32))
noncomputable def F_X8_power_5 (x0 : Int32) (x1 : Int32) (σ : Mem) : Int64 × Int32 → Option Int64 := lp fun s =>
  if x1 ≤ s.2 then
  some (.inr (s.1))
  else
  some (.inl ((s.1 * x0.toInt64), (s.2 + (1 : Int32))))
noncomputable def F_X8_power (x0 : Int32) (x1 : Int32) (σ : Mem) : Option Int64 :=
  F_X8_power_5 (x0) (x1) σ ((1 : Int64), (0 : Int32))
noncomputable def F_X8_waysOfReport (x0 : Int32) (x1 : Int32) (x2 : Int32) (σ : Mem) : Option Int64 :=
  (F_J6_bitCount_0f7a4 x0 σ).bind fun q1 =>
  (F_X8_power x2 q1 σ).bind fun q3 =>
  (F_J6_bitCount_0f7a4 (x1 &&& (x0 ^^^ (-1 : Int32))) σ).bind fun q5 =>
  (F_X8_power ((12 : Int32) - x2) q5 σ).bind fun q7 =>
  some (q3 * q7)
noncomputable def F_X8_commonDivisor_3  (σ : Mem) : Int64 × Int64 × Int32 → Option Int64 := lp fun s =>
  if (1000 : Int32) ≤ s.2.2 then
  some (.inr (s.1))
  else
  if (lg_cmp s.2.1 (0 : Int64)) = 0 then
  some (.inr (s.1))
  else
  (nzL s.2.1).bind fun _ =>
  some (.inl (s.2.1, (s.1 - s.1 / s.2.1 * s.2.1), (s.2.2 + (1 : Int32))))
noncomputable def F_X8_commonDivisor (x0 : Int64) (x2 : Int64) (σ : Mem) : Option Int64 :=
  F_X8_commonDivisor_3  σ (x0, x2, (0 : Int32))
noncomputable def F_X8_tellChance (x0 : Nat) (x1 : Int64) (x3 : Int64) (σ : Mem) : Option (Int32 × Mem) :=
  (F_X8_commonDivisor x1 x3 σ).bind fun q1 =>
  if (lg_cmp q1 (0 : Int64)) ≤ 0 then
  some ((1 : Int32), σ)
  else
  (nzL q1).bind fun _ =>
  (pL 8 14 x0 (x1 / q1) σ).bind fun m6 =>
  (nzL q1).bind fun _ =>
  (pL 8 15 x0 (x3 / q1) m6).bind fun m9 =>
  some ((1 : Int32), m9)
noncomputable def F_X8_odds_49 (x0 : Nat) (x1 : Int32) (x2 : Int32) (x3 : Int32) (σ : Mem) : Int64 × Int32 → Option (Int32 × Mem) := lp fun s =>
  if (64 : Int32) ≤ s.2 then
  (F_J6_bitCount_0f7a4 x3 σ).bind fun q2 =>
  (F_X8_power (12 : Int32) q2 σ).bind fun q4 =>
  (F_X8_tellChance x0 s.1 q4 σ).bind fun q6 =>
  some (.inr ((q6.1, q6.2)))
  else
  if (s.2 &&& (x3 ^^^ (-1 : Int32))) = 0 then
  (F_J6_bitCount_0f7a4 s.2 σ).bind fun q9 =>
  if q9 < x1 then
  some (.inl (s.1, (s.2 + (1 : Int32))))
  else
  (F_X8_waysOfReport s.2 x3 x2 σ).bind fun q12 =>
  some (.inl ((s.1 + q12), (s.2 + (1 : Int32))))
  else
  some (.inl (s.1, (s.2 + (1 : Int32))))
noncomputable def F_X8_odds (x0 : Nat) (x1 : Int32) (x2 : Int32) (σ : Mem) : Option (Int32 × Mem) :=
  if x1 < 0 then
  some ((-1 : Int32), σ)
  else
  if (6 : Int32) < x1 then
  some ((-1 : Int32), σ)
  else
  if x2 < 0 then
  some ((-1 : Int32), σ)
  else
  if x2 ≤ (12 : Int32) then
  (gR 8 4 x0).bind fun p19 =>
  (gI 7 8 p19 σ).bind fun v21 =>
  if v21 = 0 then
  some ((-4 : Int32), σ)
  else
  (gR 8 4 x0).bind fun p24 =>
  (chk 7 p24).bind fun _ =>
  (F_X7_wouldBeFoundBits p24 σ).bind fun q26 =>
  F_X8_odds_49 (x0) (x1) (x2) (q26) σ ((0 : Int64), (0 : Int32))
  else
  some ((-1 : Int32), σ)
noncomputable def F_X8_mid_38 (x0 : Nat) (x1 : Int32) (x2 : Int32) (σ : Mem) : Int64 × Int32 → Option (Int32 × Mem) := lp fun s =>
  if (64 : Int32) ≤ s.2 then
  (F_J6_bitCount_0f7a4 x2 σ).bind fun q2 =>
  (F_X8_power (12 : Int32) q2 σ).bind fun q4 =>
  (F_X8_tellChance x0 s.1 q4 σ).bind fun q6 =>
  some (.inr ((q6.1, q6.2)))
  else
  if (s.2 &&& (x2 ^^^ (-1 : Int32))) = 0 then
  (gR 8 4 x0).bind fun p10 =>
  (chk 7 p10).bind fun _ =>
  (F_X7_mostLying p10 s.2 σ).bind fun q12 =>
  (F_X8_waysOfReport s.2 x2 x1 σ).bind fun q14 =>
  some (.inl ((s.1 + (q12.toInt64 * q14)), (s.2 + (1 : Int32))))
  else
  some (.inl (s.1, (s.2 + (1 : Int32))))
noncomputable def F_X8_mid (x0 : Nat) (x1 : Int32) (σ : Mem) : Option (Int32 × Mem) :=
  if x1 < 0 then
  some ((-1 : Int32), σ)
  else
  if x1 ≤ (12 : Int32) then
  (gR 8 4 x0).bind fun p19 =>
  (gI 7 8 p19 σ).bind fun v21 =>
  if v21 = 0 then
  some ((-4 : Int32), σ)
  else
  (gR 8 4 x0).bind fun p24 =>
  (chk 7 p24).bind fun _ =>
  (F_X7_wouldBeFoundBits p24 σ).bind fun q26 =>
  F_X8_mid_38 (x0) (x1) (q26) σ ((0 : Int64), (0 : Int32))
  else
  some ((-1 : Int32), σ)
noncomputable def F_X8_lots_64 (x0 : Nat) (x1 : Int32) (x3 : Int32) : Int32 × Int64 × Int32 × Mem → Option (Int32 × Mem) := lp fun s =>
  if x1 ≤ s.2.2.1 then
  some (.inr ((s.1, s.2.2.2)))
  else
  let w2 := ((s.2.1 * (48271 : Int64)) - (s.2.1 * (48271 : Int64)) / (2147483647 : Int64) * (2147483647 : Int64))
  (nzL x3.toInt64).bind fun _ =>
  let w4 := ((w2 / (8 : Int64)) - (w2 / (8 : Int64)) / x3.toInt64 * x3.toInt64).toInt32
  if (w2 - w2 / (4 : Int64) * (4 : Int64)).toInt32 = (2 : Int32) then
  (F_X8_enact x0 (1 : Int32) w4 (0 : Int32) s.2.2.2).bind fun q6 =>
  some (.inl ((s.1 + q6.1), w2, (s.2.2.1 + (1 : Int32)), q6.2))
  else
  if (w2 - w2 / (4 : Int64) * (4 : Int64)).toInt32 = (3 : Int32) then
  (F_X8_enact x0 (2 : Int32) w4 (0 : Int32) s.2.2.2).bind fun q9 =>
  some (.inl (s.1, w2, (s.2.2.1 + (1 : Int32)), q9.2))
  else
  (F_X8_enact x0 (0 : Int32) (0 : Int32) (0 : Int32) s.2.2.2).bind fun q11 =>
  some (.inl (s.1, w2, (s.2.2.1 + (1 : Int32)), q11.2))
noncomputable def F_X8_lots (x0 : Nat) (x1 : Int32) (x2 : Int32) (σ : Mem) : Option (Int32 × Mem) :=
  if x1 < (1 : Int32) then
  some ((-1 : Int32), σ)
  else
  if (20 : Int32) < x1 then
  some ((-1 : Int32), σ)
  else
  if x2 < (1 : Int32) then
  some ((-1 : Int32), σ)
  else
  if x2 ≤ (2147483646 : Int32) then
  (gR 8 4 x0).bind fun p18 =>
  (gI 7 8 p18 σ).bind fun v20 =>
  if 0 < v20 then
  (gI 8 7 x0 σ).bind fun v23 =>
  if (v23 + x1) ≤ (40 : Int32) then
  F_X8_lots_64 (x0) (x1) (v20)  ((0 : Int32), x2.toInt64, (0 : Int32), σ)
  else
  some ((-2 : Int32), σ)
  else
  some ((-4 : Int32), σ)
  else
  some ((-1 : Int32), σ)
noncomputable def F_X8_asked (x0 : Nat) (σ : Mem) : Option Int32 :=
  (gI 8 13 x0 σ).bind fun v2 =>
  some v2
noncomputable def F_X8_upper (x0 : Nat) (σ : Mem) : Option Int64 :=
  (gL 8 14 x0 σ).bind fun v2 =>
  some v2
noncomputable def F_X8_lower (x0 : Nat) (σ : Mem) : Option Int64 :=
  (gL 8 15 x0 σ).bind fun v2 =>
  some v2
noncomputable def F_X8_count (x0 : Nat) (x1 : Int32) (σ : Mem) : Option Int32 :=
  if x1 = (0 : Int32) then
  (gR 8 4 x0).bind fun p3 =>
  (gI 7 8 p3 σ).bind fun v5 =>
  some v5
  else
  if x1 = (1 : Int32) then
  (gR 8 4 x0).bind fun p8 =>
  (gI 7 9 p8 σ).bind fun v10 =>
  some v10
  else
  if x1 = (2 : Int32) then
  (gI 8 7 x0 σ).bind fun v13 =>
  some v13
  else
  if x1 = (3 : Int32) then
  (gR 8 4 x0).bind fun p16 =>
  (chk 7 p16).bind fun _ =>
  (F_X7_fines p16 σ).bind fun q18 =>
  some q18
  else
  if x1 = (4 : Int32) then
  (gR 8 4 x0).bind fun p22 =>
  (chk 7 p22).bind fun _ =>
  (F_X7_liesInAll p22 σ).bind fun q24 =>
  some q24
  else
  if x1 = (5 : Int32) then
  (gR 8 4 x0).bind fun p28 =>
  (chk 7 p28).bind fun _ =>
  (F_X7_wouldBeFoundBits p28 σ).bind fun q30 =>
  some q30
  else
  if x1 = (6 : Int32) then
  (gR 8 4 x0).bind fun p34 =>
  (gR 8 4 x0).bind fun p36 =>
  (gI 7 9 p36 σ).bind fun v38 =>
  (chk 7 p34).bind fun _ =>
  (F_X7_coldOf p34 v38 σ).bind fun q40 =>
  some q40
  else
  if x1 = (7 : Int32) then
  (gR 8 4 x0).bind fun p44 =>
  (chk 7 p44).bind fun _ =>
  (F_X7_quilts p44 σ).bind fun q46 =>
  some q46
  else
  if x1 = (8 : Int32) then
  (gR 8 0 x0).bind fun p50 =>
  (chk 6 p50).bind fun _ =>
  (F_X6_standing p50 σ).bind fun q52 =>
  some q52
  else
  if x1 = (9 : Int32) then
  (gR 8 1 x0).bind fun p56 =>
  (chk 6 p56).bind fun _ =>
  (F_X6_standing p56 σ).bind fun q58 =>
  some q58
  else
  if x1 = (10 : Int32) then
  (gR 8 2 x0).bind fun p62 =>
  (chk 6 p62).bind fun _ =>
  (F_X6_standing p62 σ).bind fun q64 =>
  some q64
  else
  some (-1 : Int32)
noncomputable def F_X8_finding (x0 : Nat) (σ : Mem) : Option Int32 :=
  (gI 8 16 x0 σ).bind fun v2 =>
  some v2
noncomputable def F_X8_findings_10   (σ : Mem) : Option Int32 :=
  some (-1 : Int32)
noncomputable def F_X8_findings (x0 : Nat) (x1 : Int32) (σ : Mem) : Option Int32 :=
  if x1 < (1 : Int32) then
  F_X8_findings_10  σ
  else
  if x1 ≤ (5 : Int32) then
  (gR 8 17 x0).bind fun p4 =>
  (F_X8_read p4 x1 σ).bind fun q5 =>
  some q5
  else
  F_X8_findings_10  σ
noncomputable def F_X8_digest_47 (x0 : Nat) (x3 : Int32) (σ : Mem) : Int64 × Int32 → Option ((Int64 × Int32) ⊕ Int64) := lp fun s =>
  if (8 : Int32) ≤ s.2 then
  some (.inr (.inl (s.1, (x3 + (1 : Int32)))))
  else
  (gR 8 4 x0).bind fun p11 =>
  (chk 7 p11).bind fun _ =>
  (F_X7_about p11 x3 s.2 σ).bind fun q13 =>
  some (.inl ((((31 : Int64) * s.1) + q13.toInt64), (s.2 + (1 : Int32))))
noncomputable def F_X8_digest_86 (x0 : Nat) (σ : Mem) : Int64 × Int32 → Option Int64 := lp fun s =>
  if (3 : Int32) ≤ s.2 then
  (gR 8 1 x0).bind fun p17 =>
  (gR 8 0 x0).bind fun p19 =>
  (chk 6 p19).bind fun _ =>
  (F_X6_digestOn p19 s.1 σ).bind fun q21 =>
  (chk 6 p17).bind fun _ =>
  (F_X6_digestOn p17 q21 σ).bind fun q24 =>
  some (.inr (q24))
  else
  (gR 8 2 x0).bind fun p27 =>
  (chk 6 p27).bind fun _ =>
  (F_X6_size p27 s.2 σ).bind fun q29 =>
  some (.inl ((((31 : Int64) * s.1) + q29.toInt64), (s.2 + (1 : Int32))))
noncomputable def F_X8_digest_33 (x0 : Nat) (σ : Mem) : Int64 × Int32 → Option Int64 := lp fun s =>
  (gR 8 4 x0).bind fun p5 =>
  (gI 7 8 p5 σ).bind fun v7 =>
  if v7 ≤ s.2 then
  (F_X8_digest_86 (x0) σ (s.1, (0 : Int32))).map fun z => .inr (z)
  else
  F_X8_digest_47 (x0) (s.2) σ (s.1, (0 : Int32))
noncomputable def F_X8_digest_6 (x0 : Nat) (σ : Mem) : Int64 × Int32 → Option Int64 := lp fun s =>
  if (11 : Int32) ≤ s.2 then
  (F_X8_digest_33 (x0) σ (s.1, (0 : Int32))).map fun z => .inr (z)
  else
  (F_X8_count x0 s.2 σ).bind fun q2 =>
  some (.inl ((((31 : Int64) * s.1) + q2.toInt64), (s.2 + (1 : Int32))))
noncomputable def F_X8_digest (x0 : Nat) (σ : Mem) : Option Int64 :=
  F_X8_digest_6 (x0) σ ((17 : Int64), (0 : Int32))
noncomputable def F_X9_in (x0 : Int64) (x2 : Int64) (x4 : Int64) (σ : Mem) : Option Int32 :=
  if (lg_cmp x0 x2) < 0 then
  some (0 : Int32)
  else
  if 0 < (lg_cmp x0 x4) then
  some (0 : Int32)
  else
  some (1 : Int32)
noncomputable def F_X9_has (x0 : Int32) (x1 : Int32) (σ : Mem) : Option Int32 :=
  if ((x0 >>> (x1 &&& 31)) &&& (1 : Int32)) = (1 : Int32) then
  some (1 : Int32)
  else
  some (0 : Int32)
noncomputable def F_X9_ones_4 (x0 : Int32) (σ : Mem) : Int32 × Int32 → Option Int32 := lp fun s =>
  if (6 : Int32) ≤ s.2 then
  some (.inr (s.1))
  else
  some (.inl ((s.1 + ((x0 >>> (s.2 &&& 31)) &&& (1 : Int32))), (s.2 + (1 : Int32))))
noncomputable def F_X9_ones (x0 : Int32) (σ : Mem) : Option Int32 :=
  F_X9_ones_4 (x0) σ ((0 : Int32), (0 : Int32))
noncomputable def F_X9_off (x0 : Int32) (x1 : Int32) (σ : Mem) : Option Int32 :=
  if x1 ≤ x0 then
  some (x0 - x1)
  else
  some (x1 - x0)
noncomputable def F_X9_found (x0 : Nat) (x1 : Int32) (σ : Mem) : Option (Int32 × Mem) :=
  (pI 9 8 x0 x1 σ).bind fun m2 =>
  (gR 9 9 x0).bind fun p4 =>
  (aI p4 x1 m2).bind fun v5 =>
  (sI p4 x1 (v5 + (1 : Int32)) m2).bind fun m7 =>
  some ((-3 : Int32), m7)
noncomputable def F_X9_tells (x0 : Nat) (x1 : Int32) (x2 : Int32) (σ : Mem) : Option (Int32 × Mem) :=
  (pI 9 10 x0 x1 σ).bind fun m2 =>
  some (x2, m2)
noncomputable def F_X9_copyAll_3 (x0 : Nat) (x1 : Int32) (x2 : Int32) (x3 : Int32) : Int32 × Mem → Option Mem := lp fun s =>
  if x3 ≤ s.1 then
  some (.inr (s.2))
  else
  (gR 9 0 x0).bind fun p3 =>
  (gR 9 0 x0).bind fun p5 =>
  (aI p5 (x1 + s.1) s.2).bind fun v6 =>
  (sI p3 (x2 + s.1) v6 s.2).bind fun m8 =>
  some (.inl ((s.1 + (1 : Int32)), m8))
noncomputable def F_X9_copyAll (x0 : Nat) (x1 : Int32) (x2 : Int32) (x3 : Int32) (σ : Mem) : Option Mem :=
  F_X9_copyAll_3 (x0) (x1) (x2) (x3)  ((0 : Int32), σ)
noncomputable def F_X9_isRow (x0 : Int32) (σ : Mem) : Option Int32 :=
  (F_X9_in x0.toInt64 (0 : Int64) (5 : Int64) σ).bind fun q1 =>
  (bz q1).bind fun _ =>
  some q1
noncomputable def F_X9_isText (x0 : Int32) (σ : Mem) : Option Int32 :=
  (F_X9_in x0.toInt64 (0 : Int64) (3 : Int64) σ).bind fun q1 =>
  (bz q1).bind fun _ =>
  some q1
noncomputable def F_X9_anew_9 (x0 : Nat) (x1 : Int32) : Int32 × Mem → Option Mem := lp fun s =>
  if (40 : Int32) ≤ s.1 then
  some (.inr (s.2))
  else
  (gR 9 3 x0).bind fun p3 =>
  (sI p3 (((40 : Int32) * x1) + s.1) (0 : Int32) s.2).bind fun m4 =>
  some (.inl ((s.1 + (1 : Int32)), m4))
noncomputable def F_X9_anew (x0 : Nat) (x1 : Int32) (x2 : Int32) (σ : Mem) : Option Mem :=
  (gR 9 4 x0).bind fun p7 =>
  (sI p7 x1 x2 σ).bind fun m8 =>
  F_X9_anew_9 (x0) (x1)  ((0 : Int32), m8)
noncomputable def F_X9_row (x0 : Nat) (x1 : Int32) (x2 : Int32) (σ : Mem) : Option (Int32 × Mem) :=
  (F_X9_isRow x1 σ).bind fun q1 =>
  if q1 = 0 then
  some ((-1 : Int32), σ)
  else
  if x2 ≤ (40 : Int32) then
  if 0 ≤ x2 then
  (F_X9_anew x0 x1 x2 σ).bind fun q6 =>
  some (x2, q6)
  else
  (F_X9_found x0 (5 : Int32) σ).bind fun q8 =>
  some (q8.1, q8.2)
  else
  some ((-1 : Int32), σ)
noncomputable def F_X9_at (x0 : Nat) (x1 : Int32) (x2 : Int32) (σ : Mem) : Option (Int32 × Mem) :=
  (F_X9_isRow x1 σ).bind fun q1 =>
  if q1 = 0 then
  some ((-1 : Int32), σ)
  else
  (gR 9 4 x0).bind fun p5 =>
  (aI p5 x1 σ).bind fun v6 =>
  if 0 ≤ v6 then
  (gR 9 4 x0).bind fun p10 =>
  (aI p10 x1 σ).bind fun v11 =>
  (F_X9_in x2.toInt64 (0 : Int64) (v11 - (1 : Int32)).toInt64 σ).bind fun q13 =>
  if q13 = 0 then
  (F_X9_found x0 (2 : Int32) σ).bind fun q16 =>
  some (q16.1, q16.2)
  else
  (gR 9 3 x0).bind fun p19 =>
  (aI p19 (((40 : Int32) * x1) + x2) σ).bind fun v20 =>
  (F_X9_tells x0 v20 (1 : Int32) σ).bind fun q22 =>
  some (q22.1, q22.2)
  else
  (F_X9_found x0 (1 : Int32) σ).bind fun q24 =>
  some (q24.1, q24.2)
noncomputable def F_X9_lay (x0 : Nat) (x1 : Int32) (x2 : Int32) (x3 : Int32) (σ : Mem) : Option (Int32 × Mem) :=
  (F_X9_at x0 x1 x2 σ).bind fun q1 =>
  if q1.1 = (1 : Int32) then
  (gR 9 3 x0).bind fun p5 =>
  (sI p5 (((40 : Int32) * x1) + x2) x3 q1.2).bind fun m6 =>
  some (q1.1, m6)
  else
  some (q1.1, q1.2)
noncomputable def F_X9_tear (x0 : Nat) (x1 : Int32) (σ : Mem) : Option (Int32 × Mem) :=
  (F_X9_isRow x1 σ).bind fun q1 =>
  if q1 = 0 then
  some ((-1 : Int32), σ)
  else
  (gR 9 4 x0).bind fun p5 =>
  (aI p5 x1 σ).bind fun v6 =>
  if 0 ≤ v6 then
  (gR 9 4 x0).bind fun p10 =>
  (sI p10 x1 (-1 : Int32) σ).bind fun m11 =>
  some ((1 : Int32), m11)
  else
  (F_X9_found x0 (1 : Int32) σ).bind fun q13 =>
  some (q13.1, q13.2)
noncomputable def F_X9_fits (x0 : Int32) (x1 : Int32) (x2 : Int32) (σ : Mem) : Option Int32 :=
  if x0 < 0 then
  some (0 : Int32)
  else
  if 0 < (lg_cmp (x0.toInt64 + x1.toInt64) x2.toInt64) then
  some (0 : Int32)
  else
  some (1 : Int32)
noncomputable def F_X9_copy_45 (x0 : Nat)  (σ : Mem) : Option (Int32 × Mem) :=
  (F_X9_found x0 (1 : Int32) σ).bind fun q1 =>
  some (q1.1, q1.2)
noncomputable def F_X9_copy_82 (x0 : Nat)  (σ : Mem) : Option (Int32 × Mem) :=
  (F_X9_found x0 (2 : Int32) σ).bind fun q3 =>
  some (q3.1, q3.2)
noncomputable def F_X9_copy_128 (x0 : Nat) (x3 : Int32) (x4 : Int32) (x5 : Int32) : Int32 × Mem → Option (Int32 × Mem) := lp fun s =>
  if x5 ≤ s.1 then
  some (.inr (((1 : Int32), s.2)))
  else
  (gR 9 3 x0).bind fun p16 =>
  (gR 9 7 x0).bind fun p18 =>
  (aI p18 s.1 s.2).bind fun v19 =>
  (sI p16 ((((40 : Int32) * x3) + x4) + s.1) v19 s.2).bind fun m21 =>
  some (.inl ((s.1 + (1 : Int32)), m21))
noncomputable def F_X9_copy_91 (x0 : Nat) (x1 : Int32) (x2 : Int32) (x3 : Int32) (x4 : Int32) (x5 : Int32) : Int32 × Mem → Option (Int32 × Mem) := lp fun s =>
  if x5 ≤ s.1 then
  (F_X9_copy_128 (x0) (x3) (x4) (x5)  ((0 : Int32), s.2)).map fun z => .inr (z)
  else
  (gR 9 7 x0).bind fun p7 =>
  (gR 9 3 x0).bind fun p9 =>
  (aI p9 ((((40 : Int32) * x1) + x2) + s.1) s.2).bind fun v10 =>
  (sI p7 s.1 v10 s.2).bind fun m12 =>
  some (.inl ((s.1 + (1 : Int32)), m12))
noncomputable def F_X9_copy (x0 : Nat) (x1 : Int32) (x2 : Int32) (x3 : Int32) (x4 : Int32) (x5 : Int32) (σ : Mem) : Option (Int32 × Mem) :=
  (F_X9_isRow x1 σ).bind fun q23 =>
  if q23 = 0 then
  some ((-1 : Int32), σ)
  else
  (F_X9_isRow x3 σ).bind fun q26 =>
  if q26 = 0 then
  some ((-1 : Int32), σ)
  else
  if 0 ≤ x5 then
  (gR 9 4 x0).bind fun p31 =>
  (aI p31 x1 σ).bind fun v32 =>
  if v32 < 0 then
  F_X9_copy_45 (x0) σ
  else
  (gR 9 4 x0).bind fun p36 =>
  (aI p36 x3 σ).bind fun v37 =>
  if 0 ≤ v37 then
  (gR 9 4 x0).bind fun p41 =>
  (aI p41 x1 σ).bind fun v42 =>
  (F_X9_fits x2 x5 v42 σ).bind fun q44 =>
  if q44 = 0 then
  F_X9_copy_82 (x0) σ
  else
  (gR 9 4 x0).bind fun p48 =>
  (aI p48 x3 σ).bind fun v49 =>
  (F_X9_fits x4 x5 v49 σ).bind fun q51 =>
  if q51 = 0 then
  F_X9_copy_82 (x0) σ
  else
  F_X9_copy_91 (x0) (x1) (x2) (x3) (x4) (x5)  ((0 : Int32), σ)
  else
  F_X9_copy_45 (x0) σ
  else
  (F_X9_found x0 (5 : Int32) σ).bind fun q54 =>
  some (q54.1, q54.2)
noncomputable def F_X9_mean_44 (x0 : Nat) (x1 : Int32) (σ : Mem) : Int64 × Int32 → Option (Int32 × Mem) := lp fun s =>
  (gR 9 4 x0).bind fun p2 =>
  (aI p2 x1 σ).bind fun v3 =>
  if v3 ≤ s.2 then
  (gR 9 4 x0).bind fun p7 =>
  (aI p7 x1 σ).bind fun v8 =>
  (nzL v8.toInt64).bind fun _ =>
  (F_X9_tells x0 (s.1 / v8.toInt64).toInt32 (1 : Int32) σ).bind fun q11 =>
  some (.inr ((q11.1, q11.2)))
  else
  (gR 9 3 x0).bind fun p14 =>
  (aI p14 (((40 : Int32) * x1) + s.2) σ).bind fun v15 =>
  some (.inl ((s.1 + v15.toInt64), (s.2 + (1 : Int32))))
noncomputable def F_X9_mean (x0 : Nat) (x1 : Int32) (σ : Mem) : Option (Int32 × Mem) :=
  (F_X9_isRow x1 σ).bind fun q17 =>
  if q17 = 0 then
  some ((-1 : Int32), σ)
  else
  (gR 9 4 x0).bind fun p21 =>
  (aI p21 x1 σ).bind fun v22 =>
  if 0 ≤ v22 then
  (gR 9 4 x0).bind fun p26 =>
  (aI p26 x1 σ).bind fun v27 =>
  if v27 = 0 then
  (F_X9_found x0 (4 : Int32) σ).bind fun q30 =>
  some (q30.1, q30.2)
  else
  F_X9_mean_44 (x0) (x1) σ ((0 : Int64), (0 : Int32))
  else
  (F_X9_found x0 (1 : Int32) σ).bind fun q32 =>
  some (q32.1, q32.2)
noncomputable def F_X9_text_34 (x0 : Nat) (x1 : Int32) (x2 : Int32) : Int32 × Mem → Option (Int32 × Mem) := lp fun s =>
  if (60 : Int32) ≤ s.1 then
  some (.inr ((x2, s.2)))
  else
  (gR 9 5 x0).bind fun p3 =>
  (sI p3 (((60 : Int32) * x1) + s.1) (32 : Int32) s.2).bind fun m4 =>
  some (.inl ((s.1 + (1 : Int32)), m4))
noncomputable def F_X9_text (x0 : Nat) (x1 : Int32) (x2 : Int32) (σ : Mem) : Option (Int32 × Mem) :=
  (F_X9_isText x1 σ).bind fun q6 =>
  if q6 = 0 then
  some ((-1 : Int32), σ)
  else
  if x2 ≤ (60 : Int32) then
  if 0 ≤ x2 then
  (gR 9 6 x0).bind fun p12 =>
  (sI p12 x1 x2 σ).bind fun m13 =>
  F_X9_text_34 (x0) (x1) (x2)  ((0 : Int32), m13)
  else
  (F_X9_found x0 (5 : Int32) σ).bind fun q15 =>
  some (q15.1, q15.2)
  else
  some ((-1 : Int32), σ)
noncomputable def F_X9_put (x0 : Nat) (x1 : Int32) (x2 : Int32) (x3 : Int32) (σ : Mem) : Option (Int32 × Mem) :=
  (F_X9_isText x1 σ).bind fun q1 =>
  if q1 = 0 then
  some ((-1 : Int32), σ)
  else
  (gR 9 6 x0).bind fun p5 =>
  (aI p5 x1 σ).bind fun v6 =>
  if 0 ≤ v6 then
  (gR 9 6 x0).bind fun p10 =>
  (aI p10 x1 σ).bind fun v11 =>
  (F_X9_in x2.toInt64 (0 : Int64) (v11 - (1 : Int32)).toInt64 σ).bind fun q13 =>
  if q13 = 0 then
  (F_X9_found x0 (2 : Int32) σ).bind fun q24 =>
  some (q24.1, q24.2)
  else
  (gR 9 5 x0).bind fun p17 =>
  (aI p17 (((60 : Int32) * x1) + x2) σ).bind fun v18 =>
  (gR 9 5 x0).bind fun p21 =>
  (sI p21 (((60 : Int32) * x1) + x2) x3.toInt8.toInt32 σ).bind fun m22 =>
  some ((v18 + (1000 : Int32)), m22)
  else
  (F_X9_found x0 (1 : Int32) σ).bind fun q26 =>
  some (q26.1, q26.2)
noncomputable def F_X9_kindOf (x0 : Int32) (σ : Mem) : Option Int32 :=
  if x0 = (98 : Int32) then
  some (0 : Int32)
  else
  if x0 = (115 : Int32) then
  some (1 : Int32)
  else
  if x0 = (113 : Int32) then
  some (2 : Int32)
  else
  if x0 = (99 : Int32) then
  some (3 : Int32)
  else
  if x0 = (116 : Int32) then
  some (4 : Int32)
  else
  if x0 = (119 : Int32) then
  some (5 : Int32)
  else
  some (-1 : Int32)
noncomputable def F_X9_byteAt (x0 : Nat) (x1 : Int32) (x2 : Int32) (σ : Mem) : Option Int32 :=
  (gR 9 6 x0).bind fun p2 =>
  (aI p2 x1 σ).bind fun v3 =>
  if v3 ≤ x2 then
  some (-1000 : Int32)
  else
  (gR 9 5 x0).bind fun p7 =>
  (aI p7 (((60 : Int32) * x1) + x2) σ).bind fun v8 =>
  some v8
noncomputable def F_X9_blanks_0 (x0 : Nat) (x1 : Int32) : Mem → Option Mem := lp fun s =>
  (gI 9 13 x0 s).bind fun v2 =>
  (F_X9_byteAt x0 x1 v2 s).bind fun q3 =>
  if q3 = (32 : Int32) then
  (gI 9 13 x0 s).bind fun v7 =>
  (pI 9 13 x0 (v7 + (1 : Int32)) s).bind fun m9 =>
  some (.inl (m9))
  else
  some (.inr (s))
noncomputable def F_X9_blanks (x0 : Nat) (x1 : Int32) (σ : Mem) : Option Mem :=
  F_X9_blanks_0 (x0) (x1)  (σ)
noncomputable def F_X9_figures_3 (x0 : Nat) (x1 : Int32) (x2 : Int32) (x3 : Int32) (x4 : Int32) (x5 : Int32) : Int32 × Mem → Option (Int32 × Mem) := lp fun s =>
  if x2 ≤ s.1 then
  some (.inr (((1 : Int32), s.2)))
  else
  (gI 9 13 x0 s.2).bind fun v3 =>
  (F_X9_byteAt x0 x1 v3 s.2).bind fun q4 =>
  (F_X9_in (q4 - (48 : Int32)).toInt64 x3.toInt64 (9 : Int64) s.2).bind fun q6 =>
  if q6 = 0 then
  some (.inr (((0 : Int32), s.2)))
  else
  (gR 9 0 x0).bind fun p10 =>
  (sI p10 (x4 + (x5 * s.1)) (q4 - (48 : Int32)) s.2).bind fun m11 =>
  (gI 9 13 x0 m11).bind fun v14 =>
  (pI 9 13 x0 (v14 + (1 : Int32)) m11).bind fun m16 =>
  some (.inl ((s.1 + (1 : Int32)), m16))
noncomputable def F_X9_figures (x0 : Nat) (x1 : Int32) (x2 : Int32) (x3 : Int32) (x4 : Int32) (x5 : Int32) (σ : Mem) : Option (Int32 × Mem) :=
  F_X9_figures_3 (x0) (x1) (x2) (x3) (x4) (x5)  ((0 : Int32), σ)
noncomputable def F_X9_takesFirst (x0 : Nat) (x1 : Int32) (σ : Mem) : Option (Int32 × Mem) :=
  (gI 9 13 x0 σ).bind fun v2 =>
  (F_X9_byteAt x0 x1 v2 σ).bind fun q3 =>
  if q3 = (110 : Int32) then
  (gI 9 13 x0 σ).bind fun v7 =>
  (pI 9 13 x0 (v7 + (1 : Int32)) σ).bind fun m9 =>
  (F_X9_figures x0 x1 (4 : Int32) (0 : Int32) (7255 : Int32) (1 : Int32) m9).bind fun q10 =>
  if q10.1 = 0 then
  some ((0 : Int32), q10.2)
  else
  (F_X9_figures x0 x1 (1 : Int32) (1 : Int32) (7259 : Int32) (1 : Int32) q10.2).bind fun q13 =>
  if q13.1 = 0 then
  some ((0 : Int32), q13.2)
  else
  some ((1 : Int32), q13.2)
  else
  some ((0 : Int32), σ)
noncomputable def F_X9_takesBed (x0 : Nat) (x1 : Int32) (σ : Mem) : Option (Int32 × Mem) :=
  (gI 9 13 x0 σ).bind fun v2 =>
  (F_X9_byteAt x0 x1 v2 σ).bind fun q3 =>
  (F_X9_kindOf q3 σ).bind fun q5 =>
  (gR 9 0 x0).bind fun p8 =>
  (aI p8 (7216 : Int32) σ).bind fun v9 =>
  if q5 < 0 then
  some ((0 : Int32), σ)
  else
  if v9 = (6 : Int32) then
  some ((0 : Int32), σ)
  else
  (gI 9 13 x0 σ).bind fun v14 =>
  (pI 9 13 x0 (v14 + (1 : Int32)) σ).bind fun m16 =>
  (gR 9 0 x0).bind fun p18 =>
  (sI p18 ((7219 : Int32) + v9) q5 m16).bind fun m19 =>
  (F_X9_figures x0 x1 (3 : Int32) (0 : Int32) ((7225 : Int32) + v9) (6 : Int32) m19).bind fun q21 =>
  if q21.1 = 0 then
  some ((0 : Int32), q21.2)
  else
  (gR 9 0 x0).bind fun p25 =>
  (aI p25 (7216 : Int32) q21.2).bind fun v26 =>
  (sI p25 (7216 : Int32) (v26 + (1 : Int32)) q21.2).bind fun m28 =>
  some ((1 : Int32), m28)
noncomputable def F_X9_faultOf_77 (x0 : Nat) (x1 : Int32)  (σ : Mem) : Option ((Mem) ⊕ (Int32 × Mem)) :=
  (F_X9_takesBed x0 x1 σ).bind fun q29 =>
  if q29.1 = 0 then
  (gI 9 13 x0 q29.2).bind fun v35 =>
  some (.inr ((v35, q29.2)))
  else
  (F_X9_blanks x0 x1 q29.2).bind fun q32 =>
  some (.inl (q32))
noncomputable def F_X9_faultOf_53 (x0 : Nat) (x1 : Int32) : Mem → Option (Int32 × Mem) := lp fun s =>
  (gI 9 13 x0 s).bind fun v18 =>
  (gR 9 6 x0).bind fun p20 =>
  (aI p20 x1 s).bind fun v21 =>
  if v18 < v21 then
  F_X9_faultOf_77 (x0) (x1) s
  else
  (gR 9 0 x0).bind fun p25 =>
  (aI p25 (7216 : Int32) s).bind fun v26 =>
  if v26 = 0 then
  F_X9_faultOf_77 (x0) (x1) s
  else
  some (.inr (((-9 : Int32), s)))
noncomputable def F_X9_faultOf_2 (x0 : Nat) (x1 : Int32) : Int32 × Mem → Option (Int32 × Mem) := lp fun s =>
  if (44 : Int32) ≤ s.1 then
  (pI 9 13 x0 (0 : Int32) s.2).bind fun m3 =>
  (F_X9_blanks x0 x1 m3).bind fun q4 =>
  (F_X9_takesFirst x0 x1 q4).bind fun q6 =>
  if q6.1 = 0 then
  (gI 9 13 x0 q6.2).bind fun v12 =>
  some (.inr ((v12, q6.2)))
  else
  (F_X9_blanks x0 x1 q6.2).bind fun q9 =>
  (F_X9_faultOf_53 (x0) (x1)  (q9)).map fun z => .inr (z)
  else
  (gR 9 0 x0).bind fun p14 =>
  (sI p14 ((7216 : Int32) + s.1) (0 : Int32) s.2).bind fun m15 =>
  some (.inl ((s.1 + (1 : Int32)), m15))
noncomputable def F_X9_faultOf (x0 : Nat) (x1 : Int32) (σ : Mem) : Option (Int32 × Mem) :=
  F_X9_faultOf_2 (x0) (x1)  ((0 : Int32), σ)
noncomputable def F_X9_fault (x0 : Nat) (x1 : Int32) (σ : Mem) : Option (Int32 × Mem) :=
  (F_X9_isText x1 σ).bind fun q1 =>
  if q1 = 0 then
  some ((-1 : Int32), σ)
  else
  (gR 9 6 x0).bind fun p5 =>
  (aI p5 x1 σ).bind fun v6 =>
  if 0 ≤ v6 then
  (F_X9_faultOf x0 x1 σ).bind fun q9 =>
  some (q9.1, q9.2)
  else
  (F_X9_found x0 (1 : Int32) σ).bind fun q11 =>
  some (q11.1, q11.2)
noncomputable def F_X9_town_54 (x0 : Nat) : Int32 × Mem → Option (Int32 × Mem) := lp fun s =>
  if (3 : Int32) ≤ s.1 then
  (gR 9 0 x0).bind fun p3 =>
  (aI p3 (0 : Int32) s.2).bind fun v4 =>
  some (.inr ((v4, s.2)))
  else
  (gR 9 2 x0).bind fun p7 =>
  (sI p7 s.1 (-1 : Int32) s.2).bind fun m8 =>
  some (.inl ((s.1 + (1 : Int32)), m8))
noncomputable def F_X9_town (x0 : Nat) (x1 : Int32) (σ : Mem) : Option (Int32 × Mem) :=
  (F_X9_isText x1 σ).bind fun q10 =>
  if q10 = 0 then
  some ((-1 : Int32), σ)
  else
  (gR 9 6 x0).bind fun p14 =>
  (aI p14 x1 σ).bind fun v15 =>
  if 0 ≤ v15 then
  (F_X9_faultOf x0 x1 σ).bind fun q18 =>
  if q18.1 = (-9 : Int32) then
  (F_X9_copyAll x0 (7216 : Int32) (0 : Int32) (44 : Int32) q18.2).bind fun q21 =>
  (pI 9 1 x0 (0 : Int32) q21).bind fun m24 =>
  F_X9_town_54 (x0)  ((0 : Int32), m24)
  else
  some ((-4 : Int32), q18.2)
  else
  (F_X9_found x0 (1 : Int32) σ).bind fun q25 =>
  some (q25.1, q25.2)
noncomputable def F_X9_isBed (x0 : Nat) (x1 : Int32) (σ : Mem) : Option Int32 :=
  (gR 9 0 x0).bind fun p2 =>
  (aI p2 (0 : Int32) σ).bind fun v3 =>
  (F_X9_in x1.toInt64 (0 : Int64) (v3 - (1 : Int32)).toInt64 σ).bind fun q5 =>
  (bz q5).bind fun _ =>
  some q5
noncomputable def F_X9_isTown (x0 : Nat) (σ : Mem) : Option Int32 :=
  (gR 9 0 x0).bind fun p2 =>
  (aI p2 (0 : Int32) σ).bind fun v3 =>
  if v3 ≤ 0 then
  some (0 : Int32)
  else
  some (1 : Int32)
noncomputable def F_X9_barOf_10 (x1 : Int32)  (σ : Mem) : Option Int32 :=
  some (x1 + (2 : Int32))
noncomputable def F_X9_barOf_26 (x1 : Int32)  (σ : Mem) : Option Int32 :=
  some (x1 / (2 : Int32))
noncomputable def F_X9_barOf (x0 : Int32) (x1 : Int32) (σ : Mem) : Option Int32 :=
  if x0 = (1 : Int32) then
  F_X9_barOf_10 (x1) σ
  else
  if x0 = (5 : Int32) then
  F_X9_barOf_10 (x1) σ
  else
  if x0 = (2 : Int32) then
  F_X9_barOf_26 (x1) σ
  else
  if x0 = (4 : Int32) then
  F_X9_barOf_26 (x1) σ
  else
  some x1
noncomputable def F_X9_crossBy_33 (x1 : Int32) (x4 : Int32) (y0 : Int32) (σ : Mem) : Option Int32 :=
  if x1 = (3 : Int32) then
  if (x4 - x4 / (2 : Int32) * (2 : Int32)) = (1 : Int32) then
  some (0 : Int32)
  else
  some y0
  else
  if x1 = (4 : Int32) then
  if y0 ≤ 0 then
  some (0 : Int32)
  else
  some (y0 + (1 : Int32))
  else
  if x1 = (5 : Int32) then
  some (y0 / (2 : Int32))
  else
  some y0
noncomputable def F_X9_crossBy (x0 : Nat) (x1 : Int32) (x2 : Int32) (x3 : Int32) (x4 : Int32) (σ : Mem) : Option Int32 :=
  (gR 9 0 x0).bind fun p7 =>
  (aI p7 ((39 : Int32) + (x4 - x4 / (4 : Int32) * (4 : Int32))) σ).bind fun v8 =>
  (F_X9_barOf x1 x2 σ).bind fun q10 =>
  if 0 ≤ ((x3 + v8) - q10) then
  F_X9_crossBy_33 (x1) (x4) (((x3 + v8) - q10)) σ
  else
  F_X9_crossBy_33 (x1) (x4) ((0 : Int32)) σ
noncomputable def F_X9_gapIn (x0 : Nat) (x1 : Int32) (x2 : Int32) (σ : Mem) : Option Int32 :=
  (gR 9 0 x0).bind fun p2 =>
  (aI p2 ((x1 + (9 : Int32)) + x2) σ).bind fun v3 =>
  (gR 9 0 x0).bind fun p6 =>
  (aI p6 ((x1 + (15 : Int32)) + x2) σ).bind fun v7 =>
  (F_X9_off v3 v7 σ).bind fun q9 =>
  some q9
noncomputable def F_X9_crossIn (x0 : Nat) (x1 : Int32) (x2 : Int32) (σ : Mem) : Option Int32 :=
  (gR 9 0 x0).bind fun p2 =>
  (aI p2 ((x1 + (3 : Int32)) + x2) σ).bind fun v3 =>
  (gR 9 0 x0).bind fun p6 =>
  (aI p6 ((x1 + (21 : Int32)) + x2) σ).bind fun v7 =>
  (F_X9_gapIn x0 x1 x2 σ).bind fun q9 =>
  (gR 9 0 x0).bind fun p12 =>
  (aI p12 (x1 + (1 : Int32)) σ).bind fun v13 =>
  (F_X9_crossBy x0 v3 v7 q9 v13 σ).bind fun q15 =>
  some q15
noncomputable def F_X9_passes_102 (x0 : Nat) (x1 : Int32) (x2 : Int32) (x3 : Int32) (x4 : Int32) (y0 : Int32) (y1 : Int32) (y2 : Int32) (y3 : Nat) (σ : Mem) : Option ((Int32 × Int32 × Mem) ⊕ (Int32 × Mem)) :=
  (sI y3 y2 (y1 - y0) σ).bind fun m33 =>
  some (.inl ((x2 + x4), (x3 + (1 : Int32)), m33))
noncomputable def F_X9_passes_101 (x0 : Nat) (x1 : Int32) (x2 : Int32) (x3 : Int32) (x4 : Int32) (y0 : Int32) (y1 : Int32) (y2 : Nat) (σ : Mem) : Option ((Int32 × Int32 × Mem) ⊕ (Int32 × Mem)) :=
  F_X9_passes_102 (x0) (x1) (x2) (x3) (x4) ((0 : Int32)) (y0) (y1) (y2) σ
noncomputable def F_X9_passes_64 (x0 : Nat) (x1 : Int32) (x2 : Int32) (x3 : Int32) (x4 : Int32) (y0 : Int32) (y1 : Int32) (y2 : Nat) (σ : Mem) : Option ((Int32 × Int32 × Mem) ⊕ (Int32 × Mem)) :=
  (sI y2 y1 y0 σ).bind fun m21 =>
  (gR 9 0 x0).bind fun p24 =>
  (aI p24 ((x1 + (21 : Int32)) + x3) m21).bind fun v25 =>
  if x4 < (3 : Int32) then
  F_X9_passes_101 (x0) (x1) (x2) (x3) (x4) (v25) (((x1 + (21 : Int32)) + x3)) (p24) m21
  else
  (gR 9 0 x0).bind fun p29 =>
  (aI p29 ((x1 + (21 : Int32)) + x3) m21).bind fun v30 =>
  if v30 ≤ 0 then
  F_X9_passes_101 (x0) (x1) (x2) (x3) (x4) (v25) (((x1 + (21 : Int32)) + x3)) (p24) m21
  else
  F_X9_passes_102 (x0) (x1) (x2) (x3) (x4) ((1 : Int32)) (v25) (((x1 + (21 : Int32)) + x3)) (p24) m21
noncomputable def F_X9_passes_4 (x0 : Nat) (x1 : Int32) : Int32 × Int32 × Mem → Option (Int32 × Mem) := lp fun s =>
  (gR 9 0 x0).bind fun p2 =>
  (aI p2 (x1 + (0 : Int32)) s.2.2).bind fun v3 =>
  if v3 ≤ s.2.1 then
  (gR 9 0 x0).bind fun p7 =>
  (aI p7 (x1 + (1 : Int32)) s.2.2).bind fun v8 =>
  (sI p7 (x1 + (1 : Int32)) (v8 + (1 : Int32)) s.2.2).bind fun m10 =>
  some (.inr ((s.1, m10)))
  else
  (F_X9_crossIn x0 x1 s.2.1 s.2.2).bind fun q12 =>
  (gR 9 0 x0).bind fun p15 =>
  (aI p15 ((x1 + (27 : Int32)) + s.2.1) s.2.2).bind fun v16 =>
  (gR 9 0 x0).bind fun p19 =>
  if (v16 + q12) ≤ (99 : Int32) then
  F_X9_passes_64 (x0) (x1) (s.1) (s.2.1) (q12) ((v16 + q12)) (((x1 + (27 : Int32)) + s.2.1)) (p19) s.2.2
  else
  F_X9_passes_64 (x0) (x1) (s.1) (s.2.1) (q12) ((99 : Int32)) (((x1 + (27 : Int32)) + s.2.1)) (p19) s.2.2
noncomputable def F_X9_passes (x0 : Nat) (x1 : Int32) (σ : Mem) : Option (Int32 × Mem) :=
  F_X9_passes_4 (x0) (x1)  ((0 : Int32), (0 : Int32), σ)
noncomputable def F_X9_isDue (x0 : Nat) (x1 : Int32) (x2 : Int32) (σ : Mem) : Option Int32 :=
  (gR 9 0 x0).bind fun p2 =>
  (aI p2 ((x1 + (27 : Int32)) + x2) σ).bind fun v3 =>
  (gR 9 0 x0).bind fun p6 =>
  (aI p6 (x1 + (43 : Int32)) σ).bind fun v7 =>
  if v3 < v7 then
  some (0 : Int32)
  else
  some (1 : Int32)
noncomputable def F_X9_inspects (x0 : Nat) (x1 : Int32) (x2 : Int32) (σ : Mem) : Option (Int32 × Mem) :=
  (F_X9_isDue x0 x1 x2 σ).bind fun q1 =>
  if q1 = 0 then
  some ((0 : Int32), σ)
  else
  (gR 9 0 x0).bind fun p5 =>
  (aI p5 ((x1 + (27 : Int32)) + x2) σ).bind fun v6 =>
  (gR 9 0 x0).bind fun p9 =>
  (sI p9 ((x1 + (27 : Int32)) + x2) (0 : Int32) σ).bind fun m10 =>
  (gR 9 0 x0).bind fun p13 =>
  (sI p13 ((x1 + (21 : Int32)) + x2) (9 : Int32) m10).bind fun m14 =>
  (gR 9 0 x0).bind fun p17 =>
  (aI p17 ((x1 + (33 : Int32)) + x2) m14).bind fun v18 =>
  (sI p17 ((x1 + (33 : Int32)) + x2) (v18 + (1 : Int32)) m14).bind fun m20 =>
  (gR 9 0 x0).bind fun p23 =>
  (aI p23 (x1 + (2 : Int32)) m20).bind fun v24 =>
  (sI p23 (x1 + (2 : Int32)) (v24 + (1 : Int32)) m20).bind fun m26 =>
  some (v6, m26)
noncomputable def F_X9_bedTells (x0 : Nat) (x1 : Int32) (x2 : Int32) (σ : Mem) : Option Int32 :=
  if x2 = (0 : Int32) then
  (gR 9 0 x0).bind fun p3 =>
  (aI p3 ((3 : Int32) + x1) σ).bind fun v4 =>
  some v4
  else
  if x2 = (1 : Int32) then
  (gR 9 0 x0).bind fun p8 =>
  (aI p8 ((9 : Int32) + x1) σ).bind fun v9 =>
  some v9
  else
  if x2 = (2 : Int32) then
  (gR 9 0 x0).bind fun p13 =>
  (aI p13 ((15 : Int32) + x1) σ).bind fun v14 =>
  some v14
  else
  if x2 = (3 : Int32) then
  (gR 9 0 x0).bind fun p18 =>
  (aI p18 ((21 : Int32) + x1) σ).bind fun v19 =>
  some v19
  else
  if x2 = (4 : Int32) then
  (gR 9 0 x0).bind fun p23 =>
  (aI p23 ((27 : Int32) + x1) σ).bind fun v24 =>
  some v24
  else
  if x2 = (5 : Int32) then
  (F_X9_crossIn x0 (0 : Int32) x1 σ).bind fun q27 =>
  some q27
  else
  if x2 = (6 : Int32) then
  (gR 9 0 x0).bind fun p31 =>
  (aI p31 ((3 : Int32) + x1) σ).bind fun v32 =>
  (gR 9 0 x0).bind fun p35 =>
  (aI p35 ((21 : Int32) + x1) σ).bind fun v36 =>
  (F_X9_barOf v32 v36 σ).bind fun q38 =>
  some q38
  else
  (gR 9 0 x0).bind fun p41 =>
  (aI p41 ((33 : Int32) + x1) σ).bind fun v42 =>
  some v42
noncomputable def F_X9_bed (x0 : Nat) (x1 : Int32) (x2 : Int32) (σ : Mem) : Option (Int32 × Mem) :=
  (F_X9_isBed x0 x1 σ).bind fun q1 =>
  if q1 = 0 then
  some ((-1 : Int32), σ)
  else
  (F_X9_in x2.toInt64 (0 : Int64) (7 : Int64) σ).bind fun q4 =>
  if q4 = 0 then
  some ((-1 : Int32), σ)
  else
  (F_X9_bedTells x0 x1 x2 σ).bind fun q7 =>
  (F_X9_tells x0 q7 (1 : Int32) σ).bind fun q9 =>
  some (q9.1, q9.2)
noncomputable def F_X9_crossAs (x0 : Nat) (x1 : Int32) (x2 : Int32) (σ : Mem) : Option Int32 :=
  (gR 9 0 x0).bind fun p2 =>
  (aI p2 ((21 : Int32) + x1) σ).bind fun v3 =>
  (F_X9_gapIn x0 (0 : Int32) x1 σ).bind fun q5 =>
  (gR 9 0 x0).bind fun p8 =>
  (aI p8 (1 : Int32) σ).bind fun v9 =>
  (F_X9_crossBy x0 x2 v3 q5 v9 σ).bind fun q11 =>
  some q11
noncomputable def F_X9_mark_61 (x0 : Nat) (x1 : Int32) (x2 : Int32) (x3 : Int32) (y0 : Int32) (σ : Mem) : Option (Int32 × Mem) :=
  if y0 = 0 then
  (F_X9_found x0 (3 : Int32) σ).bind fun q34 =>
  some (q34.1, q34.2)
  else
  if x2 = (1 : Int32) then
  (F_X9_crossAs x0 x1 (0 : Int32) σ).bind fun q5 =>
  (F_X9_crossIn x0 (0 : Int32) x1 σ).bind fun q7 =>
  some ((q5 - q7), σ)
  else
  if x2 = (2 : Int32) then
  (gR 9 0 x0).bind fun p11 =>
  (aI p11 ((21 : Int32) + x1) σ).bind fun v12 =>
  (gR 9 0 x0).bind fun p15 =>
  (aI p15 ((21 : Int32) + x1) σ).bind fun v16 =>
  (F_X9_barOf x3 v16 σ).bind fun q18 =>
  some ((v12 - q18), σ)
  else
  if x2 = (3 : Int32) then
  (gR 9 0 x0).bind fun p22 =>
  (aI p22 (1 : Int32) σ).bind fun v23 =>
  some ((v23 - v23 / (2 : Int32) * (2 : Int32)), σ)
  else
  if x2 = (4 : Int32) then
  (F_X9_crossIn x0 (0 : Int32) x1 σ).bind fun q26 =>
  (F_X9_crossAs x0 x1 (2 : Int32) σ).bind fun q28 =>
  some ((q26 - q28), σ)
  else
  (F_X9_crossAs x0 x1 (1 : Int32) σ).bind fun q30 =>
  (F_X9_crossIn x0 (0 : Int32) x1 σ).bind fun q32 =>
  some ((q30 - q32), σ)
noncomputable def F_X9_mark_56 (x0 : Nat) (x1 : Int32) (x2 : Int32) (x3 : Int32)  (σ : Mem) : Option (Int32 × Mem) :=
  F_X9_mark_61 (x0) (x1) (x2) (x3) ((1 : Int32)) σ
noncomputable def F_X9_mark_60 (x0 : Nat) (x1 : Int32) (x2 : Int32) (x3 : Int32)  (σ : Mem) : Option (Int32 × Mem) :=
  F_X9_mark_61 (x0) (x1) (x2) (x3) ((0 : Int32)) σ
noncomputable def F_X9_mark_46 (x0 : Nat) (x1 : Int32) (x2 : Int32) (x3 : Int32)  (σ : Mem) : Option (Int32 × Mem) :=
  if x2 = (2 : Int32) then
  if x3 = (4 : Int32) then
  F_X9_mark_56 (x0) (x1) (x2) (x3) σ
  else
  F_X9_mark_60 (x0) (x1) (x2) (x3) σ
  else
  F_X9_mark_60 (x0) (x1) (x2) (x3) σ
noncomputable def F_X9_mark (x0 : Nat) (x1 : Int32) (x2 : Int32) (σ : Mem) : Option (Int32 × Mem) :=
  (F_X9_isBed x0 x1 σ).bind fun q36 =>
  if q36 = 0 then
  some ((-1 : Int32), σ)
  else
  (F_X9_in x2.toInt64 (1 : Int64) (5 : Int64) σ).bind fun q39 =>
  if q39 = 0 then
  some ((-1 : Int32), σ)
  else
  (gR 9 0 x0).bind fun p43 =>
  (aI p43 ((3 : Int32) + x1) σ).bind fun v44 =>
  if x2 = v44 then
  F_X9_mark_56 (x0) (x1) (x2) (v44) σ
  else
  if x2 = (1 : Int32) then
  if v44 = (5 : Int32) then
  F_X9_mark_56 (x0) (x1) (x2) (v44) σ
  else
  F_X9_mark_46 (x0) (x1) (x2) (v44) σ
  else
  F_X9_mark_46 (x0) (x1) (x2) (v44) σ
noncomputable def F_X9_cross (x0 : Nat) (x1 : Int32) (x2 : Int32) (σ : Mem) : Option Int32 :=
  (F_X9_isBed x0 x1 σ).bind fun q1 =>
  if q1 = 0 then
  some (-1 : Int32)
  else
  (F_X9_in x2.toInt64 (0 : Int64) (99 : Int64) σ).bind fun q4 =>
  if q4 = 0 then
  some (-1 : Int32)
  else
  (gR 9 0 x0).bind fun p8 =>
  (aI p8 ((3 : Int32) + x1) σ).bind fun v9 =>
  (gR 9 0 x0).bind fun p12 =>
  (aI p12 ((21 : Int32) + x1) σ).bind fun v13 =>
  (F_X9_gapIn x0 (0 : Int32) x1 σ).bind fun q15 =>
  (F_X9_crossBy x0 v9 v13 q15 x2 σ).bind fun q17 =>
  some q17
noncomputable def F_X9_minds (x0 : Nat) (σ : Mem) : Option Mem :=
  (gI 9 1 x0 σ).bind fun v2 =>
  (F_X9_copyAll x0 (0 : Int32) ((44 : Int32) * ((1 : Int32) + v2)) (44 : Int32) σ).bind fun q3 =>
  (gI 9 1 x0 q3).bind fun v6 =>
  (pI 9 1 x0 (v6 + (1 : Int32)) q3).bind fun m8 =>
  some m8
noncomputable def F_X9_night (x0 : Nat) (σ : Mem) : Option (Int32 × Mem) :=
  (F_X9_isTown x0 σ).bind fun q1 =>
  if q1 = 0 then
  some ((-4 : Int32), σ)
  else
  (gI 9 1 x0 σ).bind fun v5 =>
  if v5 = (40 : Int32) then
  some ((-2 : Int32), σ)
  else
  (F_X9_minds x0 σ).bind fun q7 =>
  (F_X9_passes x0 (0 : Int32) q7).bind fun q9 =>
  some (q9.1, q9.2)
noncomputable def F_X9_inspect (x0 : Nat) (x1 : Int32) (σ : Mem) : Option (Int32 × Mem) :=
  (F_X9_isBed x0 x1 σ).bind fun q1 =>
  if q1 = 0 then
  some ((-1 : Int32), σ)
  else
  (gI 9 1 x0 σ).bind fun v5 =>
  if v5 = (40 : Int32) then
  some ((-2 : Int32), σ)
  else
  (F_X9_minds x0 σ).bind fun q7 =>
  (F_X9_inspects x0 (0 : Int32) x1 q7).bind fun q9 =>
  some (q9.1, q9.2)
noncomputable def F_X9_thin (x0 : Nat) (x1 : Int32) (σ : Mem) : Option (Int32 × Mem) :=
  (F_X9_isBed x0 x1 σ).bind fun q1 =>
  if q1 = 0 then
  some ((-1 : Int32), σ)
  else
  (gR 9 0 x0).bind fun p5 =>
  (aI p5 ((21 : Int32) + x1) σ).bind fun v6 =>
  if v6 = 0 then
  some ((-4 : Int32), σ)
  else
  (gI 9 1 x0 σ).bind fun v10 =>
  if v10 = (40 : Int32) then
  some ((-2 : Int32), σ)
  else
  (F_X9_minds x0 σ).bind fun q12 =>
  (gR 9 0 x0).bind fun p15 =>
  (aI p15 ((21 : Int32) + x1) q12).bind fun v16 =>
  (sI p15 ((21 : Int32) + x1) (v16 - (1 : Int32)) q12).bind fun m18 =>
  (gR 9 0 x0).bind fun p21 =>
  (aI p21 ((21 : Int32) + x1) m18).bind fun v22 =>
  some (v22, m18)
noncomputable def F_X9_swap (x0 : Nat) (x1 : Int32) (x2 : Int32) (σ : Mem) : Option (Int32 × Mem) :=
  (F_X9_isBed x0 x1 σ).bind fun q1 =>
  if q1 = 0 then
  some ((-1 : Int32), σ)
  else
  (F_X9_isBed x0 x2 σ).bind fun q4 =>
  if q4 = 0 then
  some ((-1 : Int32), σ)
  else
  if x1 = x2 then
  some ((-1 : Int32), σ)
  else
  (gI 9 1 x0 σ).bind fun v9 =>
  if v9 = (40 : Int32) then
  some ((-2 : Int32), σ)
  else
  (F_X9_minds x0 σ).bind fun q11 =>
  (gR 9 0 x0).bind fun p14 =>
  (aI p14 ((15 : Int32) + x1) q11).bind fun v15 =>
  (gR 9 0 x0).bind fun p18 =>
  (gR 9 0 x0).bind fun p20 =>
  (aI p20 ((15 : Int32) + x2) q11).bind fun v21 =>
  (sI p18 ((15 : Int32) + x1) v21 q11).bind fun m23 =>
  (gR 9 0 x0).bind fun p26 =>
  (sI p26 ((15 : Int32) + x2) v15 m23).bind fun m27 =>
  (F_X9_gapIn x0 (0 : Int32) x1 m27).bind fun q29 =>
  some (q29, m27)
noncomputable def F_X9_undo (x0 : Nat) (x1 : Int32) (σ : Mem) : Option (Int32 × Mem) :=
  (gI 9 1 x0 σ).bind fun v2 =>
  (F_X9_in x1.toInt64 (0 : Int64) v2.toInt64 σ).bind fun q3 =>
  if q3 = 0 then
  some ((-1 : Int32), σ)
  else
  (gI 9 1 x0 σ).bind fun v7 =>
  if (v7 - x1) ≤ 0 then
  some ((v7 - x1), σ)
  else
  (F_X9_copyAll x0 ((44 : Int32) * ((1 : Int32) + x1)) (0 : Int32) (44 : Int32) σ).bind fun q9 =>
  (pI 9 1 x0 x1 q9).bind fun m12 =>
  some ((v7 - x1), m12)
noncomputable def F_X9_isKept (x0 : Int32) (σ : Mem) : Option Int32 :=
  (F_X9_in x0.toInt64 (0 : Int64) (2 : Int64) σ).bind fun q1 =>
  (bz q1).bind fun _ =>
  some q1
noncomputable def F_X9_keep (x0 : Nat) (x1 : Int32) (σ : Mem) : Option (Int32 × Mem) :=
  (F_X9_isKept x1 σ).bind fun q1 =>
  if q1 = 0 then
  some ((-1 : Int32), σ)
  else
  (F_X9_isTown x0 σ).bind fun q4 =>
  if q4 = 0 then
  some ((-4 : Int32), σ)
  else
  (F_X9_copyAll x0 (0 : Int32) ((1804 : Int32) * ((1 : Int32) + x1)) (1804 : Int32) σ).bind fun q7 =>
  (gR 9 2 x0).bind fun p10 =>
  (gI 9 1 x0 q7).bind fun v12 =>
  (sI p10 x1 v12 q7).bind fun m13 =>
  (gI 9 1 x0 m13).bind fun v16 =>
  some (v16, m13)
noncomputable def F_X9_on (x0 : Nat) (x1 : Int32) (σ : Mem) : Option (Int32 × Mem) :=
  (F_X9_isKept x1 σ).bind fun q1 =>
  if q1 = 0 then
  some ((-1 : Int32), σ)
  else
  (gR 9 2 x0).bind fun p5 =>
  (aI p5 x1 σ).bind fun v6 =>
  if 0 ≤ v6 then
  (F_X9_copyAll x0 ((1804 : Int32) * ((1 : Int32) + x1)) (0 : Int32) (1804 : Int32) σ).bind fun q9 =>
  (gR 9 2 x0).bind fun p12 =>
  (aI p12 x1 q9).bind fun v13 =>
  (pI 9 1 x0 v13 q9).bind fun m16 =>
  (gI 9 1 x0 m16).bind fun v18 =>
  some (v18, m16)
  else
  (F_X9_found x0 (1 : Int32) σ).bind fun q19 =>
  some (q19.1, q19.2)
noncomputable def F_X9_tries (x0 : Nat) (σ : Mem) : Option Mem :=
  (F_X9_copyAll x0 (0 : Int32) (7260 : Int32) (44 : Int32) σ).bind fun q1 =>
  some q1
noncomputable def F_X9_triesNights_2 (x0 : Nat) (x1 : Int32) : Int32 × Mem → Option Mem := lp fun s =>
  if x1 ≤ s.1 then
  some (.inr (s.2))
  else
  (F_X9_passes x0 (7260 : Int32) s.2).bind fun q2 =>
  some (.inl ((s.1 + (1 : Int32)), q2.2))
noncomputable def F_X9_triesNights (x0 : Nat) (x1 : Int32) (σ : Mem) : Option Mem :=
  F_X9_triesNights_2 (x0) (x1)  ((0 : Int32), σ)
noncomputable def F_X9_then (x0 : Nat) (x1 : Int32) (x2 : Int32) (σ : Mem) : Option (Int32 × Mem) :=
  (F_X9_isBed x0 x1 σ).bind fun q1 =>
  if q1 = 0 then
  some ((-1 : Int32), σ)
  else
  (F_X9_in x2.toInt64 (0 : Int64) (40 : Int64) σ).bind fun q4 =>
  if q4 = 0 then
  some ((-1 : Int32), σ)
  else
  (F_X9_tries x0 σ).bind fun q7 =>
  (F_X9_triesNights x0 x2 q7).bind fun q9 =>
  (gR 9 0 x0).bind fun p12 =>
  (aI p12 ((7281 : Int32) + x1) q9).bind fun v13 =>
  (gR 9 0 x0).bind fun p16 =>
  (aI p16 ((7287 : Int32) + x1) q9).bind fun v17 =>
  (F_X9_tells x0 v13 v17 q9).bind fun q19 =>
  some (q19.1, q19.2)
noncomputable def F_X9_when_16 (x0 : Nat) (x1 : Int32) : Int32 × Mem → Option (Int32 × Mem) := lp fun s =>
  if (40 : Int32) < s.1 then
  some (.inr (((-9 : Int32), s.2)))
  else
  (F_X9_isDue x0 (7260 : Int32) x1 s.2).bind fun q2 =>
  if q2 = 0 then
  (F_X9_passes x0 (7260 : Int32) s.2).bind fun q5 =>
  some (.inl ((s.1 + (1 : Int32)), q5.2))
  else
  some (.inr ((s.1, s.2)))
noncomputable def F_X9_when (x0 : Nat) (x1 : Int32) (σ : Mem) : Option (Int32 × Mem) :=
  (F_X9_isBed x0 x1 σ).bind fun q7 =>
  if q7 = 0 then
  some ((-1 : Int32), σ)
  else
  (F_X9_tries x0 σ).bind fun q10 =>
  F_X9_when_16 (x0) (x1)  ((0 : Int32), q10)
noncomputable def F_X9_least_24 (x0 : Nat) (x1 : Int32) (x2 : Int32) : Int32 × Mem → Option (Int32 × Mem) := lp fun s =>
  (gR 9 0 x0).bind fun p2 =>
  (aI p2 ((21 : Int32) + x1) s.2).bind fun v3 =>
  if v3 < s.1 then
  some (.inr (((-9 : Int32), s.2)))
  else
  (F_X9_tries x0 s.2).bind fun q6 =>
  (gR 9 0 x0).bind fun p9 =>
  (aI p9 ((7281 : Int32) + x1) q6).bind fun v10 =>
  (sI p9 ((7281 : Int32) + x1) (v10 - s.1) q6).bind fun m12 =>
  (F_X9_triesNights x0 x2 m12).bind fun q14 =>
  (F_X9_isDue x0 (7260 : Int32) x1 q14).bind fun q16 =>
  if q16 = 0 then
  some (.inl ((s.1 + (1 : Int32)), q14))
  else
  some (.inr ((s.1, q14)))
noncomputable def F_X9_least (x0 : Nat) (x1 : Int32) (x2 : Int32) (σ : Mem) : Option (Int32 × Mem) :=
  (F_X9_isBed x0 x1 σ).bind fun q19 =>
  if q19 = 0 then
  some ((-1 : Int32), σ)
  else
  (F_X9_in x2.toInt64 (0 : Int64) (40 : Int64) σ).bind fun q22 =>
  if q22 = 0 then
  some ((-1 : Int32), σ)
  else
  F_X9_least_24 (x0) (x1) (x2)  ((0 : Int32), σ)
noncomputable def F_X9_round_152 (x0 : Nat) (x1 : Int32) (x2 : Int32) (x3 : Int32) (x4 : Int32) (x5 : Int32) (x6 : Int32) (x8 : Int32) (x9 : Int32) (y0 : Int32) (y1 : Int32) (σ : Mem) : Option ((Int32 × Int32 × Int32 × Mem) ⊕ ((Int32 × Int32 × Int32 × Mem) ⊕ (Int32 × Mem))) :=
  some (.inl ((y1 + y0), x8, (x9 + (1 : Int32)), σ))
noncomputable def F_X9_round_175 (x0 : Nat) (x1 : Int32) (x2 : Int32) (x3 : Int32) (x5 : Int32) (x6 : Int32) (x7 : Int32) (y0 : Int32) (σ : Mem) : Option ((Int32 × Int32 × Int32 × Mem) ⊕ (Int32 × Mem)) :=
  if x7 ≤ x5 then
  some (.inl (y0, x5, (x6 + (1 : Int32)), σ))
  else
  some (.inl (y0, x7, (x6 + (1 : Int32)), σ))
noncomputable def F_X9_round_87 (x0 : Nat) (x1 : Int32) (x2 : Int32) (x3 : Int32) (x4 : Int32) (x5 : Int32) (x6 : Int32) : Int32 × Int32 × Int32 × Mem → Option ((Int32 × Int32 × Int32 × Mem) ⊕ (Int32 × Mem)) := lp fun s =>
  if x1 ≤ s.2.2.1 then
  if s.1 ≤ x5 then
  (F_X9_round_175 (x0) (x1) (x2) (x3) (x5) (x6) (s.1) (x4) s.2.2.2).map fun z => .inr (z)
  else
  (F_X9_round_175 (x0) (x1) (x2) (x3) (x5) (x6) (s.1) (x6) s.2.2.2).map fun z => .inr (z)
  else
  (gR 9 0 x0).bind fun p14 =>
  (aI p14 (0 : Int32) s.2.2.2).bind fun v15 =>
  (nz (v15 + (1 : Int32))).bind fun _ =>
  (nz (s.2.1 / (v15 + (1 : Int32)))).bind fun _ =>
  (gR 9 0 x0).bind fun p20 =>
  (aI p20 (0 : Int32) s.2.2.2).bind fun v21 =>
  (nz (v21 + (1 : Int32))).bind fun _ =>
  let w24 := (((x6 / (s.2.1 / (v15 + (1 : Int32)))) - (x6 / (s.2.1 / (v15 + (1 : Int32)))) / (v21 + (1 : Int32)) * (v21 + (1 : Int32))) - (1 : Int32))
  (F_X9_passes x0 (7260 : Int32) s.2.2.2).bind fun q25 =>
  if 0 ≤ w24 then
  (F_X9_inspects x0 (7260 : Int32) w24 q25.2).bind fun q28 =>
  F_X9_round_152 (x0) (x1) (x2) (x3) (x4) (x5) (x6) ((s.2.1 / (v15 + (1 : Int32)))) (s.2.2.1) (q28.1) (s.1) q28.2
  else
  F_X9_round_152 (x0) (x1) (x2) (x3) (x4) (x5) (x6) ((s.2.1 / (v15 + (1 : Int32)))) (s.2.2.1) ((0 : Int32)) (s.1) q25.2
noncomputable def F_X9_round_257 (x0 : Nat) (x2 : Int32) (x5 : Int32) (x6 : Int32) (x7 : Int32) (y0 : Int32) (y1 : Int32) (y2 : Nat) (σ : Mem) : Option ((Int32 × Int32 × Mem) ⊕ (Int32 × Mem)) :=
  (sI y2 y1 y0 σ).bind fun m41 =>
  (gR 9 0 x0).bind fun p44 =>
  (aI p44 (0 : Int32) m41).bind fun v45 =>
  (nz (v45 + (1 : Int32))).bind fun _ =>
  some (.inl ((x6 / (v45 + (1 : Int32))), (x7 + (-1 : Int32)), m41))
noncomputable def F_X9_round_214 (x0 : Nat) (x2 : Int32) (x5 : Int32) : Int32 × Int32 × Mem → Option (Int32 × Mem) := lp fun s =>
  if s.2.1 < 0 then
  some (.inr ((x5, s.2.2)))
  else
  (gR 9 0 x0).bind fun p33 =>
  (aI p33 (0 : Int32) s.2.2).bind fun v34 =>
  (nz (v34 + (1 : Int32))).bind fun _ =>
  let w37 := ((s.1 - s.1 / (v34 + (1 : Int32)) * (v34 + (1 : Int32))) - (1 : Int32))
  (gR 9 3 x0).bind fun p39 =>
  if 0 ≤ w37 then
  F_X9_round_257 (x0) (x2) (x5) (s.1) (s.2.1) (w37) ((((40 : Int32) * x2) + s.2.1)) (p39) s.2.2
  else
  F_X9_round_257 (x0) (x2) (x5) (s.1) (s.2.1) ((-9 : Int32)) ((((40 : Int32) * x2) + s.2.1)) (p39) s.2.2
noncomputable def F_X9_round_68 (x0 : Nat) (x1 : Int32) (x2 : Int32) (x3 : Int32) : Int32 × Int32 × Int32 × Mem → Option (Int32 × Mem) := lp fun s =>
  if x3 ≤ s.2.2.1 then
  (F_X9_anew x0 x2 x1 s.2.2.2).bind fun q7 =>
  (F_X9_round_214 (x0) (x2) (s.2.1)  (s.1, (x1 - (1 : Int32)), q7)).map fun z => .inr (z)
  else
  (F_X9_tries x0 s.2.2.2).bind fun q9 =>
  F_X9_round_87 (x0) (x1) (x2) (x3) (s.1) (s.2.1) (s.2.2.1)  ((0 : Int32), x3, (0 : Int32), q9)
noncomputable def F_X9_round_36 (x0 : Nat) (x1 : Int32) (x2 : Int32) (σ : Mem) : Int32 × Int32 → Option (Int32 × Mem) := lp fun s =>
  if x1 ≤ s.2 then
  (F_X9_round_68 (x0) (x1) (x2) (s.1)  ((0 : Int32), (-1 : Int32), (0 : Int32), σ)).map fun z => .inr (z)
  else
  (gR 9 0 x0).bind fun p3 =>
  (aI p3 (0 : Int32) σ).bind fun v4 =>
  some (.inl ((s.1 * (v4 + (1 : Int32))), (s.2 + (1 : Int32))))
noncomputable def F_X9_round (x0 : Nat) (x1 : Int32) (x2 : Int32) (σ : Mem) : Option (Int32 × Mem) :=
  (F_X9_in x1.toInt64 (0 : Int64) (4 : Int64) σ).bind fun q48 =>
  if q48 = 0 then
  some ((-1 : Int32), σ)
  else
  (F_X9_isRow x2 σ).bind fun q51 =>
  if q51 = 0 then
  some ((-1 : Int32), σ)
  else
  (F_X9_isTown x0 σ).bind fun q54 =>
  if q54 = 0 then
  some ((-4 : Int32), σ)
  else
  F_X9_round_36 (x0) (x1) (x2) σ ((1 : Int32), (0 : Int32))
noncomputable def F_X9_brings_174 (x0 : Nat) (x1 : Int32) (x3 : Int32) (y0 : Int32) (y1 : Int32) (σ : Mem) : Option ((Int32 × Int32 × Mem) ⊕ (Int32 × Mem)) :=
  some (.inl ((y1 + y0), (x3 + (1 : Int32)), σ))
noncomputable def F_X9_brings_117 (x0 : Nat) (x1 : Int32) : Int32 × Int32 × Mem → Option (Int32 × Mem) := lp fun s =>
  (gR 9 4 x0).bind fun p23 =>
  (aI p23 x1 s.2.2).bind fun v24 =>
  if v24 ≤ s.2.1 then
  (gR 9 0 x0).bind fun p28 =>
  (aI p28 (7262 : Int32) s.2.2).bind fun v29 =>
  (gR 9 0 x0).bind fun p32 =>
  (aI p32 (2 : Int32) s.2.2).bind fun v33 =>
  (F_X9_tells x0 (v29 - v33) s.1 s.2.2).bind fun q35 =>
  some (.inr ((q35.1, q35.2)))
  else
  (F_X9_passes x0 (7260 : Int32) s.2.2).bind fun q37 =>
  (gR 9 3 x0).bind fun p40 =>
  (aI p40 (((40 : Int32) * x1) + s.2.1) q37.2).bind fun v41 =>
  if v41 = (-9 : Int32) then
  F_X9_brings_174 (x0) (x1) (s.2.1) ((0 : Int32)) (s.1) q37.2
  else
  (gR 9 3 x0).bind fun p45 =>
  (aI p45 (((40 : Int32) * x1) + s.2.1) q37.2).bind fun v46 =>
  (F_X9_inspects x0 (7260 : Int32) v46 q37.2).bind fun q48 =>
  F_X9_brings_174 (x0) (x1) (s.2.1) (q48.1) (s.1) q48.2
noncomputable def F_X9_brings_53 (x0 : Nat) (x1 : Int32) (σ : Mem) : Int32 → Option (Int32 × Mem) := lp fun s =>
  (gR 9 4 x0).bind fun p2 =>
  (aI p2 x1 σ).bind fun v3 =>
  if v3 ≤ s then
  (F_X9_tries x0 σ).bind fun q6 =>
  (F_X9_brings_117 (x0) (x1)  ((0 : Int32), (0 : Int32), q6)).map fun z => .inr (z)
  else
  (gR 9 3 x0).bind fun p9 =>
  (aI p9 (((40 : Int32) * x1) + s) σ).bind fun v10 =>
  if v10 = (-9 : Int32) then
  some (.inl ((s + (1 : Int32))))
  else
  (gR 9 3 x0).bind fun p14 =>
  (aI p14 (((40 : Int32) * x1) + s) σ).bind fun v15 =>
  (F_X9_isBed x0 v15 σ).bind fun q17 =>
  if q17 = 0 then
  (F_X9_found x0 (3 : Int32) σ).bind fun q20 =>
  some (.inr ((q20.1, q20.2)))
  else
  some (.inl ((s + (1 : Int32))))
noncomputable def F_X9_brings (x0 : Nat) (x1 : Int32) (σ : Mem) : Option (Int32 × Mem) :=
  (F_X9_isRow x1 σ).bind fun q50 =>
  if q50 = 0 then
  some ((-1 : Int32), σ)
  else
  (F_X9_isTown x0 σ).bind fun q53 =>
  if q53 = 0 then
  some ((-4 : Int32), σ)
  else
  (gR 9 4 x0).bind fun p57 =>
  (aI p57 x1 σ).bind fun v58 =>
  if 0 ≤ v58 then
  (gR 9 4 x0).bind fun p62 =>
  (aI p62 x1 σ).bind fun v63 =>
  if v63 ≤ (10 : Int32) then
  F_X9_brings_53 (x0) (x1) σ ((0 : Int32))
  else
  (F_X9_found x0 (5 : Int32) σ).bind fun q66 =>
  some (q66.1, q66.2)
  else
  (F_X9_found x0 (1 : Int32) σ).bind fun q68 =>
  some (q68.1, q68.2)
noncomputable def F_X9_crossWith (x0 : Nat) (x1 : Int32) (x2 : Int32) (σ : Mem) : Option Int32 :=
  (gR 9 0 x0).bind fun p2 =>
  (aI p2 ((3 : Int32) + x1) σ).bind fun v3 =>
  (gR 9 0 x0).bind fun p6 =>
  (aI p6 ((21 : Int32) + x1) σ).bind fun v7 =>
  (gR 9 0 x0).bind fun p10 =>
  (aI p10 ((9 : Int32) + x1) σ).bind fun v11 =>
  (gR 9 0 x0).bind fun p14 =>
  (aI p14 ((15 : Int32) + x2) σ).bind fun v15 =>
  (F_X9_off v11 v15 σ).bind fun q17 =>
  (gR 9 0 x0).bind fun p20 =>
  (aI p20 (1 : Int32) σ).bind fun v21 =>
  (F_X9_crossBy x0 v3 v7 q17 v21 σ).bind fun q23 =>
  some q23
noncomputable def F_X9_marry_181 (x0 : Nat) (x1 : Int32) (x2 : Int32) (x4 : Int32) (x5 : Int32) (x8 : Int32) (x9 : Int32) (y0 : Int32) (σ : Mem) : Option ((Int32 × Int32 × Int32) ⊕ (Int32 × Mem)) :=
  if x9 = 0 then
  some (.inl (y0, x4, (x5 + (1 : Int32))))
  else
  some (.inl (y0, x8, (x5 + (1 : Int32))))
noncomputable def F_X9_marry_168 (x0 : Nat) (x1 : Int32) (x2 : Int32) (x3 : Int32) (x4 : Int32) (x5 : Int32) (x8 : Int32) (y0 : Int32) (σ : Mem) : Option ((Int32 × Int32 × Int32) ⊕ (Int32 × Mem)) :=
  if y0 = 0 then
  F_X9_marry_181 (x0) (x1) (x2) (x4) (x5) (x8) (y0) (x3) σ
  else
  F_X9_marry_181 (x0) (x1) (x2) (x4) (x5) (x8) (y0) (x5) σ
noncomputable def F_X9_marry_167 (x0 : Nat) (x1 : Int32) (x2 : Int32) (x3 : Int32) (x4 : Int32) (x5 : Int32) (x8 : Int32)  (σ : Mem) : Option ((Int32 × Int32 × Int32) ⊕ (Int32 × Mem)) :=
  F_X9_marry_168 (x0) (x1) (x2) (x3) (x4) (x5) (x8) ((0 : Int32)) σ
noncomputable def F_X9_marry_83 (x0 : Nat) (x1 : Int32) (x2 : Int32) (x3 : Int32) (x4 : Int32) (x5 : Int32) (σ : Mem) : Int32 × Int32 × Int32 × Int32 → Option ((Int32 × Int32 × Int32) ⊕ (Int32 × Mem)) := lp fun s =>
  if s.2.2.2 < 0 then
  (gR 9 0 x0).bind fun p27 =>
  (aI p27 (0 : Int32) σ).bind fun v28 =>
  if s.2.1 = (((1 : Int32) <<< (v28 &&& 31)) - (1 : Int32)) then
  if x4 ≤ s.2.2.1 then
  (F_X9_marry_167 (x0) (x1) (x2) (x3) (x4) (x5) (s.2.2.1) σ).map fun z => .inr (z)
  else
  (F_X9_marry_168 (x0) (x1) (x2) (x3) (x4) (x5) (s.2.2.1) ((1 : Int32)) σ).map fun z => .inr (z)
  else
  (F_X9_marry_167 (x0) (x1) (x2) (x3) (x4) (x5) (s.2.2.1) σ).map fun z => .inr (z)
  else
  (gR 9 0 x0).bind fun p33 =>
  (aI p33 (0 : Int32) σ).bind fun v34 =>
  (nz v34).bind fun _ =>
  let w37 := (s.2.1 ||| ((1 : Int32) <<< ((s.1 - s.1 / v34 * v34) &&& 31)))
  (gR 9 0 x0).bind fun p39 =>
  (aI p39 (0 : Int32) σ).bind fun v40 =>
  (nz v40).bind fun _ =>
  (F_X9_crossWith x0 s.2.2.2 (s.1 - s.1 / v40 * v40) σ).bind fun q43 =>
  (gR 9 0 x0).bind fun p46 =>
  (aI p46 (0 : Int32) σ).bind fun v47 =>
  (nz v47).bind fun _ =>
  some (.inl ((s.1 / v47), w37, (s.2.2.1 + q43), (s.2.2.2 + (-1 : Int32))))
noncomputable def F_X9_marry_226 (x0 : Nat) (x1 : Int32) (x4 : Int32) : Int32 × Int32 × Mem → Option (Int32 × Mem) := lp fun s =>
  if s.2.1 < 0 then
  some (.inr ((x4, s.2.2)))
  else
  (gR 9 3 x0).bind fun p54 =>
  (gR 9 0 x0).bind fun p56 =>
  (aI p56 (0 : Int32) s.2.2).bind fun v57 =>
  (nz v57).bind fun _ =>
  (sI p54 (((40 : Int32) * x1) + s.2.1) (s.1 - s.1 / v57 * v57) s.2.2).bind fun m60 =>
  (gR 9 0 x0).bind fun p63 =>
  (aI p63 (0 : Int32) m60).bind fun v64 =>
  (nz v64).bind fun _ =>
  some (.inl ((s.1 / v64), (s.2.1 + (-1 : Int32)), m60))
noncomputable def F_X9_marry_57 (x0 : Nat) (x1 : Int32) (x2 : Int32) (σ : Mem) : Int32 × Int32 × Int32 → Option (Int32 × Mem) := lp fun s =>
  if x2 ≤ s.2.2 then
  (gR 9 0 x0).bind fun p12 =>
  (aI p12 (0 : Int32) σ).bind fun v13 =>
  (F_X9_anew x0 x1 v13 σ).bind fun q15 =>
  (gR 9 0 x0).bind fun p18 =>
  (aI p18 (0 : Int32) q15).bind fun v19 =>
  (F_X9_marry_226 (x0) (x1) (s.2.1)  (s.1, (v19 - (1 : Int32)), q15)).map fun z => .inr (z)
  else
  (gR 9 0 x0).bind fun p22 =>
  (aI p22 (0 : Int32) σ).bind fun v23 =>
  F_X9_marry_83 (x0) (x1) (x2) (s.1) (s.2.1) (s.2.2) σ (s.2.2, (0 : Int32), (0 : Int32), (v23 - (1 : Int32)))
noncomputable def F_X9_marry_23 (x0 : Nat) (x1 : Int32) (σ : Mem) : Int32 × Int32 → Option (Int32 × Mem) := lp fun s =>
  (gR 9 0 x0).bind fun p2 =>
  (aI p2 (0 : Int32) σ).bind fun v3 =>
  if v3 ≤ s.2 then
  (F_X9_marry_57 (x0) (x1) (s.1) σ ((0 : Int32), (1000000 : Int32), (0 : Int32))).map fun z => .inr (z)
  else
  (gR 9 0 x0).bind fun p7 =>
  (aI p7 (0 : Int32) σ).bind fun v8 =>
  some (.inl ((s.1 * v8), (s.2 + (1 : Int32))))
noncomputable def F_X9_marry (x0 : Nat) (x1 : Int32) (σ : Mem) : Option (Int32 × Mem) :=
  (F_X9_isRow x1 σ).bind fun q67 =>
  if q67 = 0 then
  some ((-1 : Int32), σ)
  else
  (F_X9_isTown x0 σ).bind fun q70 =>
  if q70 = 0 then
  some ((-4 : Int32), σ)
  else
  F_X9_marry_23 (x0) (x1) σ ((1 : Int32), (0 : Int32))
noncomputable def F_X9_wantsRight (x0 : Nat) (x1 : Int32) (x2 : Int32) (σ : Mem) : Option Int32 :=
  (gR 9 0 x0).bind fun p2 =>
  (aI p2 ((9 : Int32) + x1) σ).bind fun v3 =>
  (gR 9 0 x0).bind fun p6 =>
  (aI p6 ((15 : Int32) + x2) σ).bind fun v7 =>
  (F_X9_off v3 v7 σ).bind fun q9 =>
  (F_X9_gapIn x0 (0 : Int32) x1 σ).bind fun q11 =>
  if q11 ≤ q9 then
  some (0 : Int32)
  else
  some (1 : Int32)
noncomputable def F_X9_rather_104 (x0 : Nat) (x2 : Int32) (x3 : Int32) (x4 : Int32) (y0 : Int32) (y1 : Int32) (σ : Mem) : Option ((Int32 × Int32 × Int32) ⊕ ((Int32 × Int32 × Int32) ⊕ (Int32 × Mem))) :=
  some (.inl ((y1 + y0), x2, (x4 + (1 : Int32))))
noncomputable def F_X9_rather_92 (x0 : Nat) (x1 : Int32) (x3 : Int32) (x4 : Int32) (x5 : Int32) (y0 : Int32) (σ : Mem) : Option ((Int32 × Int32 × Int32) ⊕ ((Int32 × Int32 × Int32) ⊕ (Int32 × Mem))) :=
  if x5 = 0 then
  F_X9_rather_104 (x0) (y0) (x3) (x4) ((0 : Int32)) (x1) σ
  else
  F_X9_rather_104 (x0) (y0) (x3) (x4) ((1 : Int32)) (x1) σ
noncomputable def F_X9_rather_91 (x0 : Nat) (x1 : Int32) (x2 : Int32) (x3 : Int32) (x4 : Int32) (x5 : Int32)  (σ : Mem) : Option ((Int32 × Int32 × Int32) ⊕ ((Int32 × Int32 × Int32) ⊕ (Int32 × Mem))) :=
  F_X9_rather_92 (x0) (x1) (x3) (x4) (x5) (x2) σ
noncomputable def F_X9_rather_68 (x0 : Nat) (x1 : Int32) (x2 : Int32) (x3 : Int32) (x4 : Int32) (y0 : Int32) (σ : Mem) : Option ((Int32 × Int32 × Int32) ⊕ ((Int32 × Int32 × Int32) ⊕ (Int32 × Mem))) :=
  if y0 = 0 then
  F_X9_rather_91 (x0) (x1) (x2) (x3) (x4) (y0) σ
  else
  if x2 = (-9 : Int32) then
  F_X9_rather_92 (x0) (x1) (x3) (x4) (y0) ((((10 : Int32) * x3) + x4)) σ
  else
  F_X9_rather_91 (x0) (x1) (x2) (x3) (x4) (y0) σ
noncomputable def F_X9_rather_67 (x0 : Nat) (x1 : Int32) (x2 : Int32) (x3 : Int32) (x4 : Int32)  (σ : Mem) : Option ((Int32 × Int32 × Int32) ⊕ ((Int32 × Int32 × Int32) ⊕ (Int32 × Mem))) :=
  F_X9_rather_68 (x0) (x1) (x2) (x3) (x4) ((0 : Int32)) σ
noncomputable def F_X9_rather_32 (x0 : Nat) (x3 : Int32) (σ : Mem) : Int32 × Int32 × Int32 → Option ((Int32 × Int32 × Int32) ⊕ (Int32 × Mem)) := lp fun s =>
  (gR 9 0 x0).bind fun p9 =>
  (aI p9 (0 : Int32) σ).bind fun v10 =>
  if v10 ≤ s.2.2 then
  some (.inr (.inl (s.1, s.2.1, (x3 + (1 : Int32)))))
  else
  (F_X9_wantsRight x0 x3 s.2.2 σ).bind fun q13 =>
  if q13 = 0 then
  F_X9_rather_67 (x0) (s.1) (s.2.1) (x3) (s.2.2) σ
  else
  (F_X9_wantsRight x0 s.2.2 x3 σ).bind fun q16 =>
  if q16 = 0 then
  F_X9_rather_67 (x0) (s.1) (s.2.1) (x3) (s.2.2) σ
  else
  F_X9_rather_68 (x0) (s.1) (s.2.1) (x3) (s.2.2) ((1 : Int32)) σ
noncomputable def F_X9_rather_17 (x0 : Nat) (σ : Mem) : Int32 × Int32 × Int32 → Option (Int32 × Mem) := lp fun s =>
  (gR 9 0 x0).bind fun p2 =>
  (aI p2 (0 : Int32) σ).bind fun v3 =>
  if v3 ≤ s.2.2 then
  (F_X9_tells x0 s.2.1 s.1 σ).bind fun q6 =>
  some (.inr ((q6.1, q6.2)))
  else
  F_X9_rather_32 (x0) (s.2.2) σ (s.1, s.2.1, (s.2.2 + (1 : Int32)))
noncomputable def F_X9_rather (x0 : Nat) (σ : Mem) : Option (Int32 × Mem) :=
  (F_X9_isTown x0 σ).bind fun q22 =>
  if q22 = 0 then
  some ((-4 : Int32), σ)
  else
  F_X9_rather_17 (x0) σ ((0 : Int32), (-9 : Int32), (0 : Int32))
noncomputable def F_X9_against_90 (x0 : Nat)  (σ : Mem) : Option (Int32 × Mem) :=
  (F_X9_found x0 (3 : Int32) σ).bind fun q20 =>
  some (q20.1, q20.2)
noncomputable def F_X9_against_34 (x0 : Nat) (x1 : Int32) (σ : Mem) : Int32 → Option (Int32 × Mem) := lp fun s =>
  (gR 9 4 x0).bind fun p2 =>
  (aI p2 x1 σ).bind fun v3 =>
  if v3 ≤ s then
  some (.inr (((0 : Int32), σ)))
  else
  (gR 9 3 x0).bind fun p7 =>
  (aI p7 (((40 : Int32) * x1) + s) σ).bind fun v8 =>
  (F_X9_in v8.toInt64 (0 : Int64) (99 : Int64) σ).bind fun q10 =>
  if q10 = 0 then
  (F_X9_against_90 (x0) σ).map fun z => .inr (z)
  else
  (gR 9 3 x0).bind fun p14 =>
  (aI p14 ((((40 : Int32) * x1) + s) + (1 : Int32)) σ).bind fun v15 =>
  (F_X9_in v15.toInt64 (0 : Int64) (30 : Int64) σ).bind fun q17 =>
  if q17 = 0 then
  (F_X9_against_90 (x0) σ).map fun z => .inr (z)
  else
  some (.inl ((s + (2 : Int32))))
noncomputable def F_X9_against (x0 : Nat) (x1 : Int32) (σ : Mem) : Option (Int32 × Mem) :=
  (gR 9 4 x0).bind fun p23 =>
  (aI p23 x1 σ).bind fun v24 =>
  if 0 ≤ v24 then
  (gR 9 4 x0).bind fun p28 =>
  (aI p28 x1 σ).bind fun v29 =>
  if (v29 - v29 / (2 : Int32) * (2 : Int32)) = 0 then
  F_X9_against_34 (x0) (x1) σ ((0 : Int32))
  else
  (F_X9_found x0 (5 : Int32) σ).bind fun q32 =>
  some (q32.1, q32.2)
  else
  (F_X9_found x0 (1 : Int32) σ).bind fun q34 =>
  some (q34.1, q34.2)
noncomputable def F_X9_crossedSo_68 (x0 : Nat) (x1 : Int32) (x2 : Int32) (x3 : Int32) (x4 : Int32) (x6 : Int32)  (σ : Mem) : Option ((Int32 × Int32) ⊕ Int32) :=
  some (.inl ((0 : Int32), (x6 + (2 : Int32))))
noncomputable def F_X9_crossedSo_6 (x0 : Nat) (x1 : Int32) (x2 : Int32) (x3 : Int32) (x4 : Int32) (σ : Mem) : Int32 × Int32 → Option Int32 := lp fun s =>
  (gR 9 4 x0).bind fun p2 =>
  (aI p2 x1 σ).bind fun v3 =>
  if v3 ≤ s.2 then
  (bz s.1).bind fun _ =>
  some (.inr (s.1))
  else
  if s.1 = 0 then
  F_X9_crossedSo_68 (x0) (x1) (x2) (x3) (x4) (s.2) σ
  else
  (F_X9_gapIn x0 (0 : Int32) x2 σ).bind fun q8 =>
  (gR 9 3 x0).bind fun p11 =>
  (aI p11 (((40 : Int32) * x1) + s.2) σ).bind fun v12 =>
  (F_X9_crossBy x0 x3 x4 q8 v12 σ).bind fun q14 =>
  (gR 9 3 x0).bind fun p17 =>
  (aI p17 ((((40 : Int32) * x1) + s.2) + (1 : Int32)) σ).bind fun v18 =>
  if q14 = v18 then
  some (.inl ((1 : Int32), (s.2 + (2 : Int32))))
  else
  F_X9_crossedSo_68 (x0) (x1) (x2) (x3) (x4) (s.2) σ
noncomputable def F_X9_crossedSo (x0 : Nat) (x1 : Int32) (x2 : Int32) (x3 : Int32) (x4 : Int32) (σ : Mem) : Option Int32 :=
  F_X9_crossedSo_6 (x0) (x1) (x2) (x3) (x4) σ ((1 : Int32), (0 : Int32))
noncomputable def F_X9_thicks_71 (x0 : Nat) (x1 : Int32) (x2 : Int32) (x5 : Int32) (y0 : Int32) (y1 : Int32) (σ : Mem) : Option ((Int32 × Int32) ⊕ (Int32 × Mem)) :=
  some (.inl ((y1 ||| y0), (x5 + (1 : Int32))))
noncomputable def F_X9_thicks_35 (x0 : Nat) (x1 : Int32) (x2 : Int32) (σ : Mem) : Int32 × Int32 → Option (Int32 × Mem) := lp fun s =>
  if (10 : Int32) ≤ s.2 then
  some (.inr ((s.1, σ)))
  else
  (gR 9 0 x0).bind fun p3 =>
  (aI p3 ((3 : Int32) + x1) σ).bind fun v4 =>
  (F_X9_crossedSo x0 x2 x1 v4 s.2 σ).bind fun q6 =>
  if q6 = 0 then
  F_X9_thicks_71 (x0) (x1) (x2) (s.2) ((0 : Int32)) (s.1) σ
  else
  F_X9_thicks_71 (x0) (x1) (x2) (s.2) (((1 : Int32) <<< (s.2 &&& 31))) (s.1) σ
noncomputable def F_X9_thicks (x0 : Nat) (x1 : Int32) (x2 : Int32) (σ : Mem) : Option (Int32 × Mem) :=
  (F_X9_isBed x0 x1 σ).bind fun q9 =>
  if q9 = 0 then
  some ((-1 : Int32), σ)
  else
  (F_X9_isRow x2 σ).bind fun q12 =>
  if q12 = 0 then
  some ((-1 : Int32), σ)
  else
  (F_X9_against x0 x2 σ).bind fun q15 =>
  if 0 ≤ q15.1 then
  F_X9_thicks_35 (x0) (x1) (x2) q15.2 ((0 : Int32), (0 : Int32))
  else
  some (q15.1, q15.2)
noncomputable def F_X9_kinds_71 (x0 : Nat) (x1 : Int32) (x2 : Int32) (x5 : Int32) (y0 : Int32) (y1 : Int32) (σ : Mem) : Option ((Int32 × Int32) ⊕ (Int32 × Mem)) :=
  some (.inl ((y1 ||| y0), (x5 + (1 : Int32))))
noncomputable def F_X9_kinds_35 (x0 : Nat) (x1 : Int32) (x2 : Int32) (σ : Mem) : Int32 × Int32 → Option (Int32 × Mem) := lp fun s =>
  if (5 : Int32) < s.2 then
  some (.inr ((s.1, σ)))
  else
  (gR 9 0 x0).bind fun p3 =>
  (aI p3 ((21 : Int32) + x1) σ).bind fun v4 =>
  (F_X9_crossedSo x0 x2 x1 s.2 v4 σ).bind fun q6 =>
  if q6 = 0 then
  F_X9_kinds_71 (x0) (x1) (x2) (s.2) ((0 : Int32)) (s.1) σ
  else
  F_X9_kinds_71 (x0) (x1) (x2) (s.2) (((1 : Int32) <<< (s.2 &&& 31))) (s.1) σ
noncomputable def F_X9_kinds (x0 : Nat) (x1 : Int32) (x2 : Int32) (σ : Mem) : Option (Int32 × Mem) :=
  (F_X9_isBed x0 x1 σ).bind fun q9 =>
  if q9 = 0 then
  some ((-1 : Int32), σ)
  else
  (F_X9_isRow x2 σ).bind fun q12 =>
  if q12 = 0 then
  some ((-1 : Int32), σ)
  else
  (F_X9_against x0 x2 σ).bind fun q15 =>
  if 0 ≤ q15.1 then
  F_X9_kinds_35 (x0) (x1) (x2) q15.2 ((0 : Int32), (0 : Int32))
  else
  some (q15.1, q15.2)
noncomputable def F_X9_test_168 (x0 : Nat) (x1 : Int32) (x2 : Int32) (x4 : Int32) (x5 : Int32) (x6 : Int32) (x7 : Int32) (x9 : Int32) (y0 : Int32) (σ : Mem) : Option ((Int32 × Int32 × Int32 × Mem) ⊕ ((Int32 × Int32 × Int32 × Int32 × Mem) ⊕ (Int32 × Mem))) :=
  some (.inl ((x6 + (1 : Int32)), y0, (x9 + (1 : Int32)), σ))
noncomputable def F_X9_test_193 (x0 : Nat) (x1 : Int32) (x2 : Int32) (x5 : Int32) (x6 : Int32) (x7 : Int32) (x8 : Int32) (y0 : Int32) (σ : Mem) : Option ((Int32 × Int32 × Int32 × Int32 × Mem) ⊕ (Int32 × Mem)) :=
  if x5 ≤ x8 then
  some (.inl (y0, x5, x6, (x7 + (1 : Int32)), σ))
  else
  some (.inl (y0, x8, x6, (x7 + (1 : Int32)), σ))
noncomputable def F_X9_test_83 (x0 : Nat) (x1 : Int32) (x2 : Int32) (x4 : Int32) (x5 : Int32) (x7 : Int32) : Int32 × Int32 × Int32 × Mem → Option ((Int32 × Int32 × Int32 × Int32 × Mem) ⊕ (Int32 × Mem)) := lp fun s =>
  if (60 : Int32) ≤ s.2.2.1 then
  if x5 ≤ s.2.1 then
  (F_X9_test_193 (x0) (x1) (x2) (x5) (s.1) (x7) (s.2.1) (x4) s.2.2.2).map fun z => .inr (z)
  else
  (F_X9_test_193 (x0) (x1) (x2) (x5) (s.1) (x7) (s.2.1) (x7) s.2.2.2).map fun z => .inr (z)
  else
  (F_X9_crossedSo x0 x2 x1 (s.2.2.1 / (10 : Int32)) (s.2.2.1 - s.2.2.1 / (10 : Int32) * (10 : Int32)) s.2.2.2).bind fun q12 =>
  if q12 = 0 then
  some (.inl (s.1, s.2.1, (s.2.2.1 + (1 : Int32)), s.2.2.2))
  else
  (F_X9_gapIn x0 (0 : Int32) x1 s.2.2.2).bind fun q15 =>
  (F_X9_crossBy x0 (s.2.2.1 / (10 : Int32)) (s.2.2.1 - s.2.2.1 / (10 : Int32) * (10 : Int32)) q15 x7 s.2.2.2).bind fun q17 =>
  (gR 9 14 x0).bind fun p20 =>
  (aI p20 q17 s.2.2.2).bind fun v21 =>
  (sI p20 q17 (v21 + (1 : Int32)) s.2.2.2).bind fun m23 =>
  (gR 9 14 x0).bind fun p26 =>
  (aI p26 q17 m23).bind fun v27 =>
  if v27 ≤ s.2.1 then
  F_X9_test_168 (x0) (x1) (x2) (x4) (x5) (s.1) (x7) (s.2.2.1) (s.2.1) m23
  else
  (gR 9 14 x0).bind fun p31 =>
  (aI p31 q17 m23).bind fun v32 =>
  F_X9_test_168 (x0) (x1) (x2) (x4) (x5) (s.1) (x7) (s.2.2.1) (v32) m23
noncomputable def F_X9_test_59 (x0 : Nat) (x1 : Int32) (x2 : Int32) (x4 : Int32) (x5 : Int32) (x6 : Int32) (x7 : Int32) (x8 : Int32) : Int32 × Mem → Option ((Int32 × Int32 × Int32 × Int32 × Mem) ⊕ (Int32 × Mem)) := lp fun s =>
  if (32 : Int32) ≤ s.1 then
  (F_X9_test_83 (x0) (x1) (x2) (x4) (x5) (x7)  (x6, x8, (0 : Int32), s.2)).map fun z => .inr (z)
  else
  (gR 9 14 x0).bind fun p7 =>
  (sI p7 s.1 (0 : Int32) s.2).bind fun m8 =>
  some (.inl ((s.1 + (1 : Int32)), m8))
noncomputable def F_X9_test_43 (x0 : Nat) (x1 : Int32) (x2 : Int32) : Int32 × Int32 × Int32 × Int32 × Mem → Option (Int32 × Mem) := lp fun s =>
  if (8 : Int32) ≤ s.2.2.2.1 then
  if s.2.2.1 = 0 then
  some (.inr (((-9 : Int32), s.2.2.2.2)))
  else
  (F_X9_tells x0 s.2.1 s.1 s.2.2.2.2).bind fun q3 =>
  some (.inr ((q3.1, q3.2)))
  else
  F_X9_test_59 (x0) (x1) (x2) (s.1) (s.2.1) ((0 : Int32)) (s.2.2.2.1) ((0 : Int32))  ((0 : Int32), s.2.2.2.2)
noncomputable def F_X9_test (x0 : Nat) (x1 : Int32) (x2 : Int32) (σ : Mem) : Option (Int32 × Mem) :=
  (F_X9_isBed x0 x1 σ).bind fun q35 =>
  if q35 = 0 then
  some ((-1 : Int32), σ)
  else
  (F_X9_isRow x2 σ).bind fun q38 =>
  if q38 = 0 then
  some ((-1 : Int32), σ)
  else
  (F_X9_against x0 x2 σ).bind fun q41 =>
  if 0 ≤ q41.1 then
  F_X9_test_43 (x0) (x1) (x2)  ((-9 : Int32), (1000000 : Int32), (0 : Int32), (0 : Int32), q41.2)
  else
  some (q41.1, q41.2)
noncomputable def F_X9_duel_130 (x0 : Nat) (x1 : Int32) (x2 : Int32) (x3 : Int32) (x4 : Int32) (x6 : Int32) (x7 : Int32) (x8 : Int32) (y0 : Int32) (y1 : Int32) (σ : Mem) : Option ((Int32 × Int32 × Int32 × Int32 × Mem) ⊕ ((Int32 × Mem) ⊕ (Int32 × Mem))) :=
  some (.inl ((y1 + y0), x6, x7, (x8 + (1 : Int32)), σ))
noncomputable def F_X9_duel_192 (x0 : Nat) (x1 : Int32) (x2 : Int32) (x3 : Int32) (x4 : Int32) (x5 : Int32) (x6 : Int32) (x7 : Int32) (x8 : Int32)  (σ : Mem) : Option ((Int32 × Int32 × Int32 × Int32 × Mem) ⊕ ((Int32 × Mem) ⊕ (Int32 × Mem))) :=
  (F_X9_passes x0 (7260 : Int32) σ).bind fun q32 =>
  some (.inl (x5, x6, x7, (x8 + (1 : Int32)), q32.2))
noncomputable def F_X9_duel_165 (x0 : Nat) (x1 : Int32) (x2 : Int32) (x3 : Int32) (x4 : Int32) (x5 : Int32) (x6 : Int32) (x8 : Int32) (x9 : Int32) (y0 : Int32) (σ : Mem) : Option ((Int32 × Int32 × Int32 × Int32 × Mem) ⊕ ((Int32 × Mem) ⊕ (Int32 × Mem))) :=
  if y0 = 0 then
  F_X9_duel_192 (x0) (x1) (x2) (x3) (x4) (x5) (x6) (y0) (x8) σ
  else
  if x9 < 0 then
  F_X9_duel_192 (x0) (x1) (x2) (x3) (x4) (x5) (x6) (y0) (x8) σ
  else
  (gR 9 0 x0).bind fun p27 =>
  (aI p27 ((7281 : Int32) + x9) σ).bind fun v28 =>
  (sI p27 ((7281 : Int32) + x9) (v28 - (1 : Int32)) σ).bind fun m30 =>
  F_X9_duel_192 (x0) (x1) (x2) (x3) (x4) (x5) (x6) (y0) (x8) m30
noncomputable def F_X9_duel_160 (x0 : Nat) (x1 : Int32) (x2 : Int32) (x3 : Int32) (x4 : Int32) (x5 : Int32) (x6 : Int32) (x8 : Int32) (x9 : Int32)  (σ : Mem) : Option ((Int32 × Int32 × Int32 × Int32 × Mem) ⊕ ((Int32 × Mem) ⊕ (Int32 × Mem))) :=
  F_X9_duel_165 (x0) (x1) (x2) (x3) (x4) (x5) (x6) (x8) (x9) ((1 : Int32)) σ
noncomputable def F_X9_duel_164 (x0 : Nat) (x1 : Int32) (x2 : Int32) (x3 : Int32) (x4 : Int32) (x5 : Int32) (x6 : Int32) (x8 : Int32) (x9 : Int32)  (σ : Mem) : Option ((Int32 × Int32 × Int32 × Int32 × Mem) ⊕ ((Int32 × Mem) ⊕ (Int32 × Mem))) :=
  F_X9_duel_165 (x0) (x1) (x2) (x3) (x4) (x5) (x6) (x8) (x9) ((0 : Int32)) σ
noncomputable def F_X9_duel_223 (x0 : Nat) (x1 : Int32) (x2 : Int32) (x3 : Int32) (x4 : Int32) (y0 : Int32) (y1 : Int32) (y2 : Nat) (σ : Mem) : Option ((Int32 × Mem) ⊕ (Int32 × Mem)) :=
  (sI y2 y1 y0 σ).bind fun m34 =>
  some (.inl ((x4 + (1 : Int32)), m34))
noncomputable def F_X9_duel_79 (x0 : Nat) (x1 : Int32) (x2 : Int32) (x3 : Int32) (x4 : Int32) : Int32 × Int32 × Int32 × Int32 × Mem → Option ((Int32 × Mem) ⊕ (Int32 × Mem)) := lp fun s =>
  if x1 ≤ s.2.2.2.1 then
  (gR 9 15 x0).bind fun p7 =>
  if s.2.2.1 = 0 then
  (F_X9_duel_223 (x0) (x1) (x2) (x3) (x4) ((-1 : Int32)) (x4) (p7) s.2.2.2.2).map fun z => .inr (z)
  else
  (F_X9_duel_223 (x0) (x1) (x2) (x3) (x4) (s.1) (x4) (p7) s.2.2.2.2).map fun z => .inr (z)
  else
  (nz x2).bind fun _ =>
  (nz (s.2.1 / x2)).bind fun _ =>
  (nz x2).bind fun _ =>
  let w12 := (((x4 / (s.2.1 / x2)) - (x4 / (s.2.1 / x2)) / x2 * x2) - (1 : Int32))
  if (s.2.2.2.1 - s.2.2.2.1 / (2 : Int32) * (2 : Int32)) = (1 : Int32) then
  if 0 ≤ w12 then
  (F_X9_inspects x0 (7260 : Int32) w12 s.2.2.2.2).bind fun q22 =>
  F_X9_duel_130 (x0) (x1) (x2) (x3) (x4) ((s.2.1 / x2)) (s.2.2.1) (s.2.2.2.1) (q22.1) (s.1) q22.2
  else
  F_X9_duel_130 (x0) (x1) (x2) (x3) (x4) ((s.2.1 / x2)) (s.2.2.1) (s.2.2.2.1) ((0 : Int32)) (s.1) s.2.2.2.2
  else
  if s.2.2.1 = 0 then
  F_X9_duel_164 (x0) (x1) (x2) (x3) (x4) (s.1) ((s.2.1 / x2)) (s.2.2.2.1) (w12) s.2.2.2.2
  else
  if w12 < 0 then
  F_X9_duel_160 (x0) (x1) (x2) (x3) (x4) (s.1) ((s.2.1 / x2)) (s.2.2.2.1) (w12) s.2.2.2.2
  else
  (gR 9 0 x0).bind fun p17 =>
  (aI p17 ((7281 : Int32) + w12) s.2.2.2.2).bind fun v18 =>
  if v18 ≤ 0 then
  F_X9_duel_164 (x0) (x1) (x2) (x3) (x4) (s.1) ((s.2.1 / x2)) (s.2.2.2.1) (w12) s.2.2.2.2
  else
  F_X9_duel_160 (x0) (x1) (x2) (x3) (x4) (s.1) ((s.2.1 / x2)) (s.2.2.2.1) (w12) s.2.2.2.2
noncomputable def F_X9_duel_325 (x0 : Nat) (x2 : Int32) (x4 : Int32) (x5 : Int32) (x6 : Int32) (x7 : Int32) (x8 : Int32) (x9 : Int32) (y0 : Int32) (σ : Mem) : Option ((Int32 × Int32) ⊕ ((Int32 × Mem) ⊕ ((Int32 × Int32 × Mem) ⊕ (Int32 × Mem)))) :=
  if y0 = 0 then
  some (.inl (x7, (x8 + (1 : Int32))))
  else
  some (.inl (x9, (x8 + (1 : Int32))))
noncomputable def F_X9_duel_320 (x0 : Nat) (x2 : Int32) (x4 : Int32) (x5 : Int32) (x6 : Int32) (x7 : Int32) (x8 : Int32) (x9 : Int32)  (σ : Mem) : Option ((Int32 × Int32) ⊕ ((Int32 × Mem) ⊕ ((Int32 × Int32 × Mem) ⊕ (Int32 × Mem)))) :=
  F_X9_duel_325 (x0) (x2) (x4) (x5) (x6) (x7) (x8) (x9) ((1 : Int32)) σ
noncomputable def F_X9_duel_324 (x0 : Nat) (x2 : Int32) (x4 : Int32) (x5 : Int32) (x6 : Int32) (x7 : Int32) (x8 : Int32) (x9 : Int32)  (σ : Mem) : Option ((Int32 × Int32) ⊕ ((Int32 × Mem) ⊕ ((Int32 × Int32 × Mem) ⊕ (Int32 × Mem)))) :=
  F_X9_duel_325 (x0) (x2) (x4) (x5) (x6) (x7) (x8) (x9) ((0 : Int32)) σ
noncomputable def F_X9_duel_265 (x0 : Nat) (x2 : Int32) (x4 : Int32) (x5 : Int32) (x6 : Int32) (σ : Mem) : Int32 × Int32 → Option ((Int32 × Mem) ⊕ ((Int32 × Int32 × Mem) ⊕ (Int32 × Mem))) := lp fun s =>
  if x2 ≤ s.2 then
  (gR 9 15 x0).bind fun p45 =>
  (sI p45 x6 s.1 σ).bind fun m46 =>
  some (.inr (.inl ((x6 + (1 : Int32)), m46)))
  else
  (gR 9 15 x0).bind fun p49 =>
  (aI p49 ((x2 * x6) + s.2) σ).bind fun v50 =>
  if v50 < 0 then
  F_X9_duel_324 (x0) (x2) (x4) (x5) (x6) (s.1) (s.2) (v50) σ
  else
  if s.1 < 0 then
  F_X9_duel_320 (x0) (x2) (x4) (x5) (x6) (s.1) (s.2) (v50) σ
  else
  if (x5 - x5 / (2 : Int32) * (2 : Int32)) = (1 : Int32) then
  if v50 ≤ s.1 then
  F_X9_duel_324 (x0) (x2) (x4) (x5) (x6) (s.1) (s.2) (v50) σ
  else
  F_X9_duel_320 (x0) (x2) (x4) (x5) (x6) (s.1) (s.2) (v50) σ
  else
  if s.1 ≤ v50 then
  F_X9_duel_324 (x0) (x2) (x4) (x5) (x6) (s.1) (s.2) (v50) σ
  else
  F_X9_duel_320 (x0) (x2) (x4) (x5) (x6) (s.1) (s.2) (v50) σ
noncomputable def F_X9_duel_252 (x0 : Nat) (x2 : Int32) (x4 : Int32) (x5 : Int32) : Int32 × Mem → Option ((Int32 × Int32 × Mem) ⊕ (Int32 × Mem)) := lp fun s =>
  if x4 ≤ s.1 then
  some (.inr (.inl (x4, (x5 + (-1 : Int32)), s.2)))
  else
  F_X9_duel_265 (x0) (x2) (x4) (x5) (s.1) s.2 ((-1 : Int32), (0 : Int32))
noncomputable def F_X9_duel_238 (x0 : Nat) (x2 : Int32) : Int32 × Int32 × Mem → Option (Int32 × Mem) := lp fun s =>
  if s.2.1 < 0 then
  (gR 9 15 x0).bind fun p38 =>
  (aI p38 (0 : Int32) s.2.2).bind fun v39 =>
  some (.inr ((v39, s.2.2)))
  else
  (nz x2).bind fun _ =>
  F_X9_duel_252 (x0) (x2) ((s.1 / x2)) (s.2.1)  ((0 : Int32), s.2.2)
noncomputable def F_X9_duel_57 (x0 : Nat) (x1 : Int32) (x2 : Int32) (x3 : Int32) : Int32 × Mem → Option (Int32 × Mem) := lp fun s =>
  if x3 ≤ s.1 then
  (F_X9_duel_238 (x0) (x2)  (x3, (x1 - (1 : Int32)), s.2)).map fun z => .inr (z)
  else
  (F_X9_tries x0 s.2).bind fun q3 =>
  F_X9_duel_79 (x0) (x1) (x2) (x3) (s.1)  ((0 : Int32), x3, (1 : Int32), (0 : Int32), q3)
noncomputable def F_X9_duel_38 (x0 : Nat) (x1 : Int32) (x2 : Int32) (σ : Mem) : Int32 × Int32 → Option (Int32 × Mem) := lp fun s =>
  if x1 ≤ s.2 then
  (F_X9_duel_57 (x0) (x1) (x2) (s.1)  ((0 : Int32), σ)).map fun z => .inr (z)
  else
  some (.inl ((s.1 * x2), (s.2 + (1 : Int32))))
noncomputable def F_X9_duel (x0 : Nat) (x1 : Int32) (σ : Mem) : Option (Int32 × Mem) :=
  (F_X9_in x1.toInt64 (0 : Int64) (4 : Int64) σ).bind fun q58 =>
  if q58 = 0 then
  some ((-1 : Int32), σ)
  else
  (F_X9_isTown x0 σ).bind fun q61 =>
  if q61 = 0 then
  some ((-4 : Int32), σ)
  else
  (gR 9 0 x0).bind fun p65 =>
  (aI p65 (0 : Int32) σ).bind fun v66 =>
  F_X9_duel_38 (x0) (x1) ((v66 + (1 : Int32))) σ ((1 : Int32), (0 : Int32))
noncomputable def F_X9_tellsParts_6 (x0 : Nat) (x1 : Int64) (x3 : Int64) (σ : Mem) : Int64 × Int64 → Option (Int32 × Mem) := lp fun s =>
  if (lg_cmp s.2 (0 : Int64)) = 0 then
  (nzL s.1).bind fun _ =>
  (pL 9 11 x0 (x1 / s.1) σ).bind fun m4 =>
  (nzL s.1).bind fun _ =>
  (pL 9 12 x0 (x3 / s.1) m4).bind fun m7 =>
  some (.inr (((1 : Int32), m7)))
  else
  (nzL s.2).bind fun _ =>
  some (.inl (s.2, (s.1 - s.1 / s.2 * s.2)))
noncomputable def F_X9_tellsParts (x0 : Nat) (x1 : Int64) (x3 : Int64) (σ : Mem) : Option (Int32 × Mem) :=
  F_X9_tellsParts_6 (x0) (x1) (x3) σ (x1, x3)
noncomputable def F_X9_dueNow_31 (x0 : Nat) (x2 : Int32) (y0 : Int32) (y1 : Int32) (σ : Mem) : Option ((Int32 × Int32) ⊕ Int32) :=
  some (.inl ((y1 ||| y0), (x2 + (1 : Int32))))
noncomputable def F_X9_dueNow_4 (x0 : Nat) (σ : Mem) : Int32 × Int32 → Option Int32 := lp fun s =>
  (gR 9 0 x0).bind fun p2 =>
  (aI p2 (0 : Int32) σ).bind fun v3 =>
  if v3 ≤ s.2 then
  some (.inr (s.1))
  else
  (F_X9_isDue x0 (0 : Int32) s.2 σ).bind fun q6 =>
  if q6 = 0 then
  F_X9_dueNow_31 (x0) (s.2) ((0 : Int32)) (s.1) σ
  else
  F_X9_dueNow_31 (x0) (s.2) (((1 : Int32) <<< (s.2 &&& 31))) (s.1) σ
noncomputable def F_X9_dueNow (x0 : Nat) (σ : Mem) : Option Int32 :=
  F_X9_dueNow_4 (x0) σ ((0 : Int32), (0 : Int32))
noncomputable def F_X9_waysOf_51 (x0 : Nat) (x1 : Int32) (x2 : Int32) (x3 : Int32) (x6 : Int32) (y0 : Int64) (y1 : Int64) (σ : Mem) : Option ((Int64 × Int32) ⊕ Int64) :=
  some (.inl ((y1 * y0), (x6 + (1 : Int32))))
noncomputable def F_X9_waysOf_6 (x0 : Nat) (x1 : Int32) (x2 : Int32) (x3 : Int32) (σ : Mem) : Int64 × Int32 → Option Int64 := lp fun s =>
  (gR 9 0 x0).bind fun p2 =>
  (aI p2 (0 : Int32) σ).bind fun v3 =>
  if v3 ≤ s.2 then
  some (.inr (s.1))
  else
  (F_X9_has x1 s.2 σ).bind fun q6 =>
  if q6 = 0 then
  F_X9_waysOf_51 (x0) (x1) (x2) (x3) (s.2) ((1 : Int64)) (s.1) σ
  else
  (F_X9_has x2 s.2 σ).bind fun q9 =>
  if q9 = 0 then
  F_X9_waysOf_51 (x0) (x1) (x2) (x3) (s.2) (((12 : Int32) - x3).toInt64) (s.1) σ
  else
  F_X9_waysOf_51 (x0) (x1) (x2) (x3) (s.2) (x3.toInt64) (s.1) σ
noncomputable def F_X9_waysOf (x0 : Nat) (x1 : Int32) (x2 : Int32) (x3 : Int32) (σ : Mem) : Option Int64 :=
  F_X9_waysOf_6 (x0) (x1) (x2) (x3) σ ((1 : Int64), (0 : Int32))
noncomputable def F_X9_allWays_8  (σ : Mem) : Int64 × Int32 → Option Int64 := lp fun s =>
  if s.2 ≤ 0 then
  some (.inr (s.1))
  else
  some (.inl ((s.1 * (12 : Int64)), (s.2 + (-1 : Int32))))
noncomputable def F_X9_allWays (x0 : Nat) (x1 : Int32) (σ : Mem) : Option Int64 :=
  (F_X9_ones x1 σ).bind fun q2 =>
  F_X9_allWays_8  σ ((1 : Int64), q2)
noncomputable def F_X9_odds_86 (x0 : Nat) (x1 : Int32) (x2 : Int32) (x3 : Int32) (x6 : Int32) (y0 : Int64) (y1 : Int64) (σ : Mem) : Option ((Int64 × Int32) ⊕ (Int32 × Mem)) :=
  some (.inl ((y1 + y0), (x6 + (1 : Int32))))
noncomputable def F_X9_odds_85 (x0 : Nat) (x1 : Int32) (x2 : Int32) (x3 : Int32) (x6 : Int32) (y0 : Int64) (σ : Mem) : Option ((Int64 × Int32) ⊕ (Int32 × Mem)) :=
  F_X9_odds_86 (x0) (x1) (x2) (x3) (x6) ((0 : Int64)) (y0) σ
noncomputable def F_X9_odds_47 (x0 : Nat) (x1 : Int32) (x2 : Int32) (x3 : Int32) (σ : Mem) : Int64 × Int32 → Option (Int32 × Mem) := lp fun s =>
  if (64 : Int32) ≤ s.2 then
  (F_X9_allWays x0 x3 σ).bind fun q2 =>
  (F_X9_tellsParts x0 s.1 q2 σ).bind fun q4 =>
  some (.inr ((q4.1, q4.2)))
  else
  if (s.2 &&& (x3 ^^^ (-1 : Int32))) = 0 then
  (F_X9_ones s.2 σ).bind fun q7 =>
  if q7 < x1 then
  F_X9_odds_85 (x0) (x1) (x2) (x3) (s.2) (s.1) σ
  else
  (F_X9_waysOf x0 x3 s.2 x2 σ).bind fun q10 =>
  F_X9_odds_86 (x0) (x1) (x2) (x3) (s.2) (q10) (s.1) σ
  else
  F_X9_odds_85 (x0) (x1) (x2) (x3) (s.2) (s.1) σ
noncomputable def F_X9_odds (x0 : Nat) (x1 : Int32) (x2 : Int32) (σ : Mem) : Option (Int32 × Mem) :=
  (F_X9_in x1.toInt64 (0 : Int64) (6 : Int64) σ).bind fun q12 =>
  if q12 = 0 then
  some ((-1 : Int32), σ)
  else
  (F_X9_in x2.toInt64 (0 : Int64) (12 : Int64) σ).bind fun q15 =>
  if q15 = 0 then
  some ((-1 : Int32), σ)
  else
  (F_X9_isTown x0 σ).bind fun q18 =>
  if q18 = 0 then
  some ((-4 : Int32), σ)
  else
  (F_X9_dueNow x0 σ).bind fun q21 =>
  F_X9_odds_47 (x0) (x1) (x2) (q21) σ ((0 : Int64), (0 : Int32))
noncomputable def F_X9_mid_98 (x0 : Nat) (x1 : Int32) (x2 : Int32) (x3 : Int64) (x5 : Int32) (x6 : Int32) (x7 : Int32)  (σ : Mem) : Option ((Int32 × Int32) ⊕ ((Int64 × Int32) ⊕ (Int32 × Mem))) :=
  some (.inl (x6, (x7 + (1 : Int32))))
noncomputable def F_X9_mid_134 (x0 : Nat) (x1 : Int32) (x2 : Int32) (x5 : Int32) (y0 : Int64) (y1 : Int64) (σ : Mem) : Option ((Int64 × Int32) ⊕ (Int32 × Mem)) :=
  some (.inl ((y1 + y0), (x5 + (1 : Int32))))
noncomputable def F_X9_mid_47 (x0 : Nat) (x1 : Int32) (x2 : Int32) (x3 : Int64) (x5 : Int32) (σ : Mem) : Int32 × Int32 → Option ((Int64 × Int32) ⊕ (Int32 × Mem)) := lp fun s =>
  (gR 9 0 x0).bind fun p7 =>
  (aI p7 (0 : Int32) σ).bind fun v8 =>
  if v8 ≤ s.2 then
  if (x5 &&& (x2 ^^^ (-1 : Int32))) = 0 then
  (F_X9_waysOf x0 x2 x5 x1 σ).bind fun q12 =>
  (F_X9_mid_134 (x0) (x1) (x2) (x5) ((s.1.toInt64 * q12)) (x3) σ).map fun z => .inr (z)
  else
  (F_X9_mid_134 (x0) (x1) (x2) (x5) ((0 : Int64)) (x3) σ).map fun z => .inr (z)
  else
  (F_X9_has (x5 &&& x2) s.2 σ).bind fun q14 =>
  if q14 = 0 then
  F_X9_mid_98 (x0) (x1) (x2) (x3) (x5) (s.1) (s.2) σ
  else
  (gR 9 0 x0).bind fun p18 =>
  (aI p18 ((27 : Int32) + s.2) σ).bind fun v19 =>
  if v19 ≤ s.1 then
  F_X9_mid_98 (x0) (x1) (x2) (x3) (x5) (s.1) (s.2) σ
  else
  (gR 9 0 x0).bind fun p23 =>
  (aI p23 ((27 : Int32) + s.2) σ).bind fun v24 =>
  some (.inl (v24, (s.2 + (1 : Int32))))
noncomputable def F_X9_mid_34 (x0 : Nat) (x1 : Int32) (x2 : Int32) (σ : Mem) : Int64 × Int32 → Option (Int32 × Mem) := lp fun s =>
  if (64 : Int32) ≤ s.2 then
  (F_X9_allWays x0 x2 σ).bind fun q2 =>
  (F_X9_tellsParts x0 s.1 q2 σ).bind fun q4 =>
  some (.inr ((q4.1, q4.2)))
  else
  F_X9_mid_47 (x0) (x1) (x2) (s.1) (s.2) σ ((0 : Int32), (0 : Int32))
noncomputable def F_X9_mid (x0 : Nat) (x1 : Int32) (σ : Mem) : Option (Int32 × Mem) :=
  (F_X9_in x1.toInt64 (0 : Int64) (12 : Int64) σ).bind fun q26 =>
  if q26 = 0 then
  some ((-1 : Int32), σ)
  else
  (F_X9_isTown x0 σ).bind fun q29 =>
  if q29 = 0 then
  some ((-4 : Int32), σ)
  else
  (F_X9_dueNow x0 σ).bind fun q32 =>
  F_X9_mid_34 (x0) (x1) (q32) σ ((0 : Int64), (0 : Int32))
noncomputable def F_X9_lots_168 (x0 : Nat) (x1 : Int32) (x3 : Int64) (x5 : Int32) (x6 : Int32) (y0 : Int32) (y1 : Int32) (y2 : Int32) (y3 : Nat) (σ : Mem) : Option ((Int64 × Int32 × Int32 × Mem) ⊕ (Int32 × Mem)) :=
  (sI y3 y2 (y1 - y0) σ).bind fun m26 =>
  some (.inl (x3, x5, (x6 + (1 : Int32)), m26))
noncomputable def F_X9_lots_59 (x0 : Nat) (x1 : Int32) : Int64 × Int32 × Int32 × Mem → Option (Int32 × Mem) := lp fun s =>
  if x1 ≤ s.2.2.1 then
  some (.inr ((s.2.1, s.2.2.2)))
  else
  let w2 := ((s.1 * (48271 : Int64)) - (s.1 * (48271 : Int64)) / (2147483647 : Int64) * (2147483647 : Int64))
  (gR 9 0 x0).bind fun p4 =>
  (aI p4 (0 : Int32) s.2.2.2).bind fun v5 =>
  (nzL v5.toInt64).bind fun _ =>
  let w8 := ((w2 / (8 : Int64)) - (w2 / (8 : Int64)) / v5.toInt64 * v5.toInt64).toInt32
  (F_X9_minds x0 s.2.2.2).bind fun q9 =>
  if (2 : Int32) ≤ (w2 - w2 / (4 : Int64) * (4 : Int64)).toInt32 then
  if (w2 - w2 / (4 : Int64) * (4 : Int64)).toInt32 = (2 : Int32) then
  (F_X9_inspects x0 (0 : Int32) w8 q9).bind fun q22 =>
  some (.inl (w2, (s.2.1 + q22.1), (s.2.2.1 + (1 : Int32)), q22.2))
  else
  (gR 9 0 x0).bind fun p14 =>
  (aI p14 ((21 : Int32) + w8) q9).bind fun v15 =>
  (gR 9 0 x0).bind fun p18 =>
  (aI p18 ((21 : Int32) + w8) q9).bind fun v19 =>
  if v19 ≤ 0 then
  F_X9_lots_168 (x0) (x1) (w2) (s.2.1) (s.2.2.1) ((0 : Int32)) (v15) (((21 : Int32) + w8)) (p14) q9
  else
  F_X9_lots_168 (x0) (x1) (w2) (s.2.1) (s.2.2.1) ((1 : Int32)) (v15) (((21 : Int32) + w8)) (p14) q9
  else
  (F_X9_passes x0 (0 : Int32) q9).bind fun q24 =>
  some (.inl (w2, s.2.1, (s.2.2.1 + (1 : Int32)), q24.2))
noncomputable def F_X9_lots (x0 : Nat) (x1 : Int32) (x2 : Int32) (σ : Mem) : Option (Int32 × Mem) :=
  (F_X9_in x1.toInt64 (1 : Int64) (20 : Int64) σ).bind fun q28 =>
  if q28 = 0 then
  some ((-1 : Int32), σ)
  else
  (F_X9_in x2.toInt64 (1 : Int64) (2147483646 : Int64) σ).bind fun q31 =>
  if q31 = 0 then
  some ((-1 : Int32), σ)
  else
  (F_X9_isTown x0 σ).bind fun q34 =>
  if q34 = 0 then
  some ((-4 : Int32), σ)
  else
  (gI 9 1 x0 σ).bind fun v38 =>
  if (v38 + x1) ≤ (40 : Int32) then
  F_X9_lots_59 (x0) (x1)  (x2.toInt64, (0 : Int32), (0 : Int32), σ)
  else
  some ((-2 : Int32), σ)
noncomputable def F_X9_asked (x0 : Nat) (σ : Mem) : Option Int32 :=
  (gI 9 10 x0 σ).bind fun v2 =>
  some v2
noncomputable def F_X9_upper (x0 : Nat) (σ : Mem) : Option Int64 :=
  (gL 9 11 x0 σ).bind fun v2 =>
  some v2
noncomputable def F_X9_lower (x0 : Nat) (σ : Mem) : Option Int64 :=
  (gL 9 12 x0 σ).bind fun v2 =>
  some v2
noncomputable def F_X9_countOf_84 (x0 : Nat) (σ : Mem) : Int32 × Int32 → Option Int32 := lp fun s =>
  (gR 9 0 x0).bind fun p2 =>
  (aI p2 (0 : Int32) σ).bind fun v3 =>
  if v3 ≤ s.2 then
  some (.inr (s.1))
  else
  (gR 9 0 x0).bind fun p7 =>
  (aI p7 ((27 : Int32) + s.2) σ).bind fun v8 =>
  some (.inl ((s.1 + v8), (s.2 + (1 : Int32))))
noncomputable def F_X9_countOf_189 (x0 : Nat) (x3 : Int32) (y0 : Int32) (y1 : Int32) (σ : Mem) : Option ((Int32 × Int32) ⊕ Int32) :=
  some (.inl ((y1 + y0), (x3 + (1 : Int32))))
noncomputable def F_X9_countOf_184 (x0 : Nat) (x3 : Int32) (y0 : Int32) (σ : Mem) : Option ((Int32 × Int32) ⊕ Int32) :=
  F_X9_countOf_189 (x0) (x3) ((1 : Int32)) (y0) σ
noncomputable def F_X9_countOf_149 (x0 : Nat) (σ : Mem) : Int32 × Int32 → Option Int32 := lp fun s =>
  (gR 9 0 x0).bind fun p11 =>
  (aI p11 (0 : Int32) σ).bind fun v12 =>
  if v12 ≤ s.2 then
  some (.inr (s.1))
  else
  (gR 9 0 x0).bind fun p16 =>
  (aI p16 ((3 : Int32) + s.2) σ).bind fun v17 =>
  if v17 = (2 : Int32) then
  F_X9_countOf_184 (x0) (s.2) (s.1) σ
  else
  (gR 9 0 x0).bind fun p21 =>
  (aI p21 ((3 : Int32) + s.2) σ).bind fun v22 =>
  if v22 = (4 : Int32) then
  F_X9_countOf_184 (x0) (s.2) (s.1) σ
  else
  F_X9_countOf_189 (x0) (s.2) ((0 : Int32)) (s.1) σ
noncomputable def F_X9_countOf_222 (x0 : Nat) (x3 : Int32) (y0 : Int32) (y1 : Int32) (σ : Mem) : Option ((Int32 × Int32) ⊕ Int32) :=
  some (.inl ((y1 + y0), (x3 + (1 : Int32))))
noncomputable def F_X9_countOf_201 (x0 : Nat) (σ : Mem) : Int32 × Int32 → Option Int32 := lp fun s =>
  if (6 : Int32) ≤ s.2 then
  some (.inr (s.1))
  else
  (gR 9 4 x0).bind fun p27 =>
  (aI p27 s.2 σ).bind fun v28 =>
  if 0 ≤ v28 then
  F_X9_countOf_222 (x0) (s.2) ((1 : Int32)) (s.1) σ
  else
  F_X9_countOf_222 (x0) (s.2) ((0 : Int32)) (s.1) σ
noncomputable def F_X9_countOf_254 (x0 : Nat) (x3 : Int32) (y0 : Int32) (y1 : Int32) (σ : Mem) : Option ((Int32 × Int32) ⊕ Int32) :=
  some (.inl ((y1 + y0), (x3 + (1 : Int32))))
noncomputable def F_X9_countOf_234 (x0 : Nat) (σ : Mem) : Int32 × Int32 → Option Int32 := lp fun s =>
  if (4 : Int32) ≤ s.2 then
  some (.inr (s.1))
  else
  (gR 9 6 x0).bind fun p33 =>
  (aI p33 s.2 σ).bind fun v34 =>
  if 0 ≤ v34 then
  F_X9_countOf_254 (x0) (s.2) ((1 : Int32)) (s.1) σ
  else
  F_X9_countOf_254 (x0) (s.2) ((0 : Int32)) (s.1) σ
noncomputable def F_X9_countOf_286 (x0 : Nat) (x3 : Int32) (y0 : Int32) (y1 : Int32) (σ : Mem) : Option ((Int32 × Int32) ⊕ Int32) :=
  some (.inl ((y1 + y0), (x3 + (1 : Int32))))
noncomputable def F_X9_countOf_266 (x0 : Nat) (σ : Mem) : Int32 × Int32 → Option Int32 := lp fun s =>
  if (3 : Int32) ≤ s.2 then
  some (.inr (s.1))
  else
  (gR 9 2 x0).bind fun p39 =>
  (aI p39 s.2 σ).bind fun v40 =>
  if 0 ≤ v40 then
  F_X9_countOf_286 (x0) (s.2) ((1 : Int32)) (s.1) σ
  else
  F_X9_countOf_286 (x0) (s.2) ((0 : Int32)) (s.1) σ
noncomputable def F_X9_countOf (x0 : Nat) (x1 : Int32) (σ : Mem) : Option Int32 :=
  if x1 = (0 : Int32) then
  (gR 9 0 x0).bind fun p45 =>
  (aI p45 (0 : Int32) σ).bind fun v46 =>
  some v46
  else
  if x1 = (1 : Int32) then
  (gR 9 0 x0).bind fun p50 =>
  (aI p50 (1 : Int32) σ).bind fun v51 =>
  some v51
  else
  if x1 = (2 : Int32) then
  (gI 9 1 x0 σ).bind fun v55 =>
  some v55
  else
  if x1 = (3 : Int32) then
  (gR 9 0 x0).bind fun p58 =>
  (aI p58 (2 : Int32) σ).bind fun v59 =>
  some v59
  else
  if x1 = (4 : Int32) then
  F_X9_countOf_84 (x0) σ ((0 : Int32), (0 : Int32))
  else
  if x1 = (5 : Int32) then
  (F_X9_dueNow x0 σ).bind fun q63 =>
  some q63
  else
  if x1 = (6 : Int32) then
  (F_X9_isTown x0 σ).bind fun q66 =>
  if q66 = 0 then
  some (0 : Int32)
  else
  (gR 9 0 x0).bind fun p70 =>
  (gR 9 0 x0).bind fun p72 =>
  (aI p72 (1 : Int32) σ).bind fun v73 =>
  (aI p70 ((39 : Int32) + (v73 - v73 / (4 : Int32) * (4 : Int32))) σ).bind fun v75 =>
  some v75
  else
  if x1 = (7 : Int32) then
  F_X9_countOf_149 (x0) σ ((0 : Int32), (0 : Int32))
  else
  if x1 = (8 : Int32) then
  F_X9_countOf_201 (x0) σ ((0 : Int32), (0 : Int32))
  else
  if x1 = (9 : Int32) then
  F_X9_countOf_234 (x0) σ ((0 : Int32), (0 : Int32))
  else
  F_X9_countOf_266 (x0) σ ((0 : Int32), (0 : Int32))
noncomputable def F_X9_count (x0 : Nat) (x1 : Int32) (σ : Mem) : Option Int32 :=
  (F_X9_in x1.toInt64 (0 : Int64) (10 : Int64) σ).bind fun q1 =>
  if q1 = 0 then
  some (-1 : Int32)
  else
  (F_X9_countOf x0 x1 σ).bind fun q4 =>
  some q4
noncomputable def F_X9_finding (x0 : Nat) (σ : Mem) : Option Int32 :=
  (gI 9 8 x0 σ).bind fun v2 =>
  some v2
noncomputable def F_X9_findings (x0 : Nat) (x1 : Int32) (σ : Mem) : Option Int32 :=
  (F_X9_in x1.toInt64 (1 : Int64) (5 : Int64) σ).bind fun q1 =>
  if q1 = 0 then
  some (-1 : Int32)
  else
  (gR 9 9 x0).bind fun p5 =>
  (aI p5 x1 σ).bind fun v6 =>
  some v6
noncomputable def F_X9_mix (x0 : Nat) (x1 : Int64) (σ : Mem) : Option Mem :=
  (gL 9 16 x0 σ).bind fun v2 =>
  (pL 9 16 x0 (((31 : Int64) * v2) + x1) σ).bind fun m4 =>
  some m4
noncomputable def F_X9_digest_45 (x0 : Nat) (x1 : Int32) : Int32 × Mem → Option ((Int32 × Mem) ⊕ (Int64 × Mem)) := lp fun s =>
  if (8 : Int32) ≤ s.1 then
  some (.inr (.inl ((x1 + (1 : Int32)), s.2)))
  else
  (F_X9_bedTells x0 x1 s.1 s.2).bind fun q12 =>
  (F_X9_mix x0 q12.toInt64 s.2).bind fun q14 =>
  some (.inl ((s.1 + (1 : Int32)), q14))
noncomputable def F_X9_digest_119 (x0 : Nat) (x1 : Int32) : Int32 × Mem → Option ((Int32 × Mem) ⊕ (Int64 × Mem)) := lp fun s =>
  (gR 9 4 x0).bind fun p31 =>
  (aI p31 x1 s.2).bind fun v32 =>
  if v32 ≤ s.1 then
  some (.inr (.inl ((x1 + (1 : Int32)), s.2)))
  else
  (gR 9 3 x0).bind fun p36 =>
  (aI p36 (((40 : Int32) * x1) + s.1) s.2).bind fun v37 =>
  (F_X9_mix x0 v37.toInt64 s.2).bind fun q39 =>
  some (.inl ((s.1 + (1 : Int32)), q39))
noncomputable def F_X9_digest_177 (x0 : Nat) (x1 : Int32) : Int32 × Mem → Option ((Int32 × Mem) ⊕ (Int64 × Mem)) := lp fun s =>
  (gR 9 6 x0).bind fun p51 =>
  (aI p51 x1 s.2).bind fun v52 =>
  if v52 ≤ s.1 then
  some (.inr (.inl ((x1 + (1 : Int32)), s.2)))
  else
  (gR 9 5 x0).bind fun p56 =>
  (aI p56 (((60 : Int32) * x1) + s.1) s.2).bind fun v57 =>
  (F_X9_mix x0 v57.toInt64 s.2).bind fun q59 =>
  some (.inl ((s.1 + (1 : Int32)), q59))
noncomputable def F_X9_digest_159 (x0 : Nat) : Int32 × Mem → Option (Int64 × Mem) := lp fun s =>
  if (4 : Int32) ≤ s.1 then
  (gL 9 16 x0 s.2).bind fun v43 =>
  some (.inr ((v43, s.2)))
  else
  (gR 9 6 x0).bind fun p45 =>
  (aI p45 s.1 s.2).bind fun v46 =>
  (F_X9_mix x0 v46.toInt64 s.2).bind fun q48 =>
  F_X9_digest_177 (x0) (s.1)  ((0 : Int32), q48)
noncomputable def F_X9_digest_100 (x0 : Nat) : Int32 × Mem → Option (Int64 × Mem) := lp fun s =>
  if (6 : Int32) ≤ s.1 then
  (F_X9_digest_159 (x0)  ((0 : Int32), s.2)).map fun z => .inr (z)
  else
  (gR 9 4 x0).bind fun p25 =>
  (aI p25 s.1 s.2).bind fun v26 =>
  (F_X9_mix x0 v26.toInt64 s.2).bind fun q28 =>
  F_X9_digest_119 (x0) (s.1)  ((0 : Int32), q28)
noncomputable def F_X9_digest_76 (x0 : Nat) : Int32 × Mem → Option (Int64 × Mem) := lp fun s =>
  if (3 : Int32) ≤ s.1 then
  (F_X9_digest_100 (x0)  ((0 : Int32), s.2)).map fun z => .inr (z)
  else
  (gR 9 2 x0).bind fun p18 =>
  (aI p18 s.1 s.2).bind fun v19 =>
  (F_X9_mix x0 v19.toInt64 s.2).bind fun q21 =>
  some (.inl ((s.1 + (1 : Int32)), q21))
noncomputable def F_X9_digest_33 (x0 : Nat) : Int32 × Mem → Option (Int64 × Mem) := lp fun s =>
  (gR 9 0 x0).bind fun p7 =>
  (aI p7 (0 : Int32) s.2).bind fun v8 =>
  if v8 ≤ s.1 then
  (F_X9_digest_76 (x0)  ((0 : Int32), s.2)).map fun z => .inr (z)
  else
  F_X9_digest_45 (x0) (s.1)  ((0 : Int32), s.2)
noncomputable def F_X9_digest_9 (x0 : Nat) : Int32 × Mem → Option (Int64 × Mem) := lp fun s =>
  if (11 : Int32) ≤ s.1 then
  (F_X9_digest_33 (x0)  ((0 : Int32), s.2)).map fun z => .inr (z)
  else
  (F_X9_countOf x0 s.1 s.2).bind fun q2 =>
  (F_X9_mix x0 q2.toInt64 s.2).bind fun q4 =>
  some (.inl ((s.1 + (1 : Int32)), q4))
noncomputable def F_X9_digest (x0 : Nat) (σ : Mem) : Option (Int64 × Mem) :=
  (pL 9 16 x0 (17 : Int64) σ).bind fun m62 =>
  F_X9_digest_9 (x0)  ((0 : Int32), m62)
end
section
/-! ===== facts of the table of shapes (printed) ===== -/
theorem ck_0 : chk 8 0 = some () := rfl
theorem ik_0 : isK 8 0 = true := rfl
theorem gR_0_0 : gR 8 0 0 = some 1 := rfl
theorem gR_0_1 : gR 8 1 0 = some 4 := rfl
theorem gR_0_2 : gR 8 2 0 = some 7 := rfl
theorem gR_0_3 : gR 8 3 0 = some 10 := rfl
theorem gR_0_4 : gR 8 4 0 = some 18 := rfl
theorem gR_0_5 : gR 8 5 0 = some 26 := rfl
theorem gR_0_6 : gR 8 6 0 = some 34 := rfl
theorem gI_0_7 {σ : Mem} : gI 8 7 0 σ = some (σ.1 0 7) := rfl
theorem pI_0_7 {v : Int32} {σ : Mem} : pI 8 7 0 v σ = some (setI σ 0 7 v) := rfl
theorem gR_0_8 : gR 8 8 0 = some 35 := rfl
theorem gR_0_9 : gR 8 9 0 = some 45 := rfl
theorem gR_0_10 : gR 8 10 0 = some 90 := rfl
theorem gR_0_11 : gR 8 11 0 = some 93 := rfl
theorem gR_0_12 : gR 8 12 0 = some 98 := rfl
theorem gI_0_13 {σ : Mem} : gI 8 13 0 σ = some (σ.1 0 13) := rfl
theorem pI_0_13 {v : Int32} {σ : Mem} : pI 8 13 0 v σ = some (setI σ 0 13 v) := rfl
theorem gL_0_14 {σ : Mem} : gL 8 14 0 σ = some (σ.2 0 14) := rfl
theorem pL_0_14 {v : Int64} {σ : Mem} : pL 8 14 0 v σ = some (setL σ 0 14 v) := rfl
theorem gL_0_15 {σ : Mem} : gL 8 15 0 σ = some (σ.2 0 15) := rfl
theorem pL_0_15 {v : Int64} {σ : Mem} : pL 8 15 0 v σ = some (setL σ 0 15 v) := rfl
theorem gI_0_16 {σ : Mem} : gI 8 16 0 σ = some (σ.1 0 16) := rfl
theorem pI_0_16 {v : Int32} {σ : Mem} : pI 8 16 0 v σ = some (setI σ 0 16 v) := rfl
theorem gR_0_17 : gR 8 17 0 = some 133 := rfl
theorem ck_1 : chk 6 1 = some () := rfl
theorem ik_1 : isK 6 1 = true := rfl
theorem gI_1_0 {σ : Mem} : gI 6 0 1 σ = some (σ.1 1 0) := rfl
theorem pI_1_0 {v : Int32} {σ : Mem} : pI 6 0 1 v σ = some (setI σ 1 0 v) := rfl
theorem gR_1_1 : gR 6 1 1 = some 2 := rfl
theorem gR_1_2 : gR 6 2 1 = some 3 := rfl
theorem sh_2 : shp 2 = .inr (.inl 6) := rfl
theorem sh_3 : shp 3 = .inr (.inl 240) := rfl
theorem ck_4 : chk 6 4 = some () := rfl
theorem ik_4 : isK 6 4 = true := rfl
theorem gI_4_0 {σ : Mem} : gI 6 0 4 σ = some (σ.1 4 0) := rfl
theorem pI_4_0 {v : Int32} {σ : Mem} : pI 6 0 4 v σ = some (setI σ 4 0 v) := rfl
theorem gR_4_1 : gR 6 1 4 = some 5 := rfl
theorem gR_4_2 : gR 6 2 4 = some 6 := rfl
theorem sh_5 : shp 5 = .inr (.inl 4) := rfl
theorem sh_6 : shp 6 = .inr (.inl 240) := rfl
theorem ck_7 : chk 6 7 = some () := rfl
theorem ik_7 : isK 6 7 = true := rfl
theorem gI_7_0 {σ : Mem} : gI 6 0 7 σ = some (σ.1 7 0) := rfl
theorem pI_7_0 {v : Int32} {σ : Mem} : pI 6 0 7 v σ = some (setI σ 7 0 v) := rfl
theorem gR_7_1 : gR 6 1 7 = some 8 := rfl
theorem gR_7_2 : gR 6 2 7 = some 9 := rfl
theorem sh_8 : shp 8 = .inr (.inl 3) := rfl
theorem sh_9 : shp 9 = .inr (.inl 120) := rfl
theorem sh_11 : shp 11 = .inr (.inl 4) := rfl
theorem sh_12 : shp 12 = .inr (.inl 6) := rfl
theorem sh_13 : shp 13 = .inr (.inl 6) := rfl
theorem sh_14 : shp 14 = .inr (.inl 6) := rfl
theorem sh_15 : shp 15 = .inr (.inl 6) := rfl
theorem sh_16 : shp 16 = .inr (.inl 6) := rfl
theorem sh_17 : shp 17 = .inr (.inl 6) := rfl
theorem sh_19 : shp 19 = .inr (.inl 4) := rfl
theorem sh_20 : shp 20 = .inr (.inl 6) := rfl
theorem sh_21 : shp 21 = .inr (.inl 6) := rfl
theorem sh_22 : shp 22 = .inr (.inl 6) := rfl
theorem sh_23 : shp 23 = .inr (.inl 6) := rfl
theorem sh_24 : shp 24 = .inr (.inl 6) := rfl
theorem sh_25 : shp 25 = .inr (.inl 6) := rfl
theorem sh_27 : shp 27 = .inr (.inl 4) := rfl
theorem sh_28 : shp 28 = .inr (.inl 6) := rfl
theorem sh_29 : shp 29 = .inr (.inl 6) := rfl
theorem sh_30 : shp 30 = .inr (.inl 6) := rfl
theorem sh_31 : shp 31 = .inr (.inl 6) := rfl
theorem sh_32 : shp 32 = .inr (.inl 6) := rfl
theorem sh_33 : shp 33 = .inr (.inl 6) := rfl
theorem sh_34 : shp 34 = .inr (.inl 40) := rfl
theorem ck_35 : chk 4 35 = some () := rfl
theorem ik_35 : isK 4 35 = true := rfl
theorem gR_35_0 : gR 4 0 35 = some 36 := rfl
theorem gR_35_1 : gR 4 1 35 = some 44 := rfl
theorem gI_35_2 {σ : Mem} : gI 4 2 35 σ = some (σ.1 35 2) := rfl
theorem pI_35_2 {v : Int32} {σ : Mem} : pI 4 2 35 v σ = some (setI σ 35 2 v) := rfl
theorem gI_35_3 {σ : Mem} : gI 4 3 35 σ = some (σ.1 35 3) := rfl
theorem pI_35_3 {v : Int32} {σ : Mem} : pI 4 3 35 v σ = some (setI σ 35 3 v) := rfl
theorem sh_37 : shp 37 = .inr (.inl 4) := rfl
theorem sh_38 : shp 38 = .inr (.inl 6) := rfl
theorem sh_39 : shp 39 = .inr (.inl 6) := rfl
theorem sh_40 : shp 40 = .inr (.inl 6) := rfl
theorem sh_41 : shp 41 = .inr (.inl 6) := rfl
theorem sh_42 : shp 42 = .inr (.inl 6) := rfl
theorem sh_43 : shp 43 = .inr (.inl 6) := rfl
theorem sh_44 : shp 44 = .inr (.inl 60) := rfl
theorem ck_45 : chk 5 45 = some () := rfl
theorem ik_45 : isK 5 45 = true := rfl
theorem gR_45_0 : gR 5 0 45 = some 46 := rfl
theorem gR_45_1 : gR 5 1 45 = some 88 := rfl
theorem gR_45_2 : gR 5 2 45 = some 89 := rfl
theorem gI_45_3 {σ : Mem} : gI 5 3 45 σ = some (σ.1 45 3) := rfl
theorem pI_45_3 {v : Int32} {σ : Mem} : pI 5 3 45 v σ = some (setI σ 45 3 v) := rfl
theorem ck_46 : chk 2 46 = some () := rfl
theorem ik_46 : isK 2 46 = true := rfl
theorem gR_46_0 : gR 2 0 46 = some 47 := rfl
theorem sh_47 : shp 47 = .inr (.inr [48, 56, 64, 72, 80]) := rfl
theorem sh_49 : shp 49 = .inr (.inl 4) := rfl
theorem sh_50 : shp 50 = .inr (.inl 6) := rfl
theorem sh_51 : shp 51 = .inr (.inl 6) := rfl
theorem sh_52 : shp 52 = .inr (.inl 6) := rfl
theorem sh_53 : shp 53 = .inr (.inl 6) := rfl
theorem sh_54 : shp 54 = .inr (.inl 6) := rfl
theorem sh_55 : shp 55 = .inr (.inl 6) := rfl
theorem sh_57 : shp 57 = .inr (.inl 4) := rfl
theorem sh_58 : shp 58 = .inr (.inl 6) := rfl
theorem sh_59 : shp 59 = .inr (.inl 6) := rfl
theorem sh_60 : shp 60 = .inr (.inl 6) := rfl
theorem sh_61 : shp 61 = .inr (.inl 6) := rfl
theorem sh_62 : shp 62 = .inr (.inl 6) := rfl
theorem sh_63 : shp 63 = .inr (.inl 6) := rfl
theorem sh_65 : shp 65 = .inr (.inl 4) := rfl
theorem sh_66 : shp 66 = .inr (.inl 6) := rfl
theorem sh_67 : shp 67 = .inr (.inl 6) := rfl
theorem sh_68 : shp 68 = .inr (.inl 6) := rfl
theorem sh_69 : shp 69 = .inr (.inl 6) := rfl
theorem sh_70 : shp 70 = .inr (.inl 6) := rfl
theorem sh_71 : shp 71 = .inr (.inl 6) := rfl
theorem sh_73 : shp 73 = .inr (.inl 4) := rfl
theorem sh_74 : shp 74 = .inr (.inl 6) := rfl
theorem sh_75 : shp 75 = .inr (.inl 6) := rfl
theorem sh_76 : shp 76 = .inr (.inl 6) := rfl
theorem sh_77 : shp 77 = .inr (.inl 6) := rfl
theorem sh_78 : shp 78 = .inr (.inl 6) := rfl
theorem sh_79 : shp 79 = .inr (.inl 6) := rfl
theorem sh_81 : shp 81 = .inr (.inl 4) := rfl
theorem sh_82 : shp 82 = .inr (.inl 6) := rfl
theorem sh_83 : shp 83 = .inr (.inl 6) := rfl
theorem sh_84 : shp 84 = .inr (.inl 6) := rfl
theorem sh_85 : shp 85 = .inr (.inl 6) := rfl
theorem sh_86 : shp 86 = .inr (.inl 6) := rfl
theorem sh_87 : shp 87 = .inr (.inl 6) := rfl
theorem sh_88 : shp 88 = .inr (.inl 4) := rfl
theorem sh_89 : shp 89 = .inr (.inl 4) := rfl
theorem ck_90 : chk 3 90 = some () := rfl
theorem ik_90 : isK 3 90 = true := rfl
theorem gR_90_0 : gR 3 0 90 = some 91 := rfl
theorem gR_90_1 : gR 3 1 90 = some 92 := rfl
theorem gI_90_2 {σ : Mem} : gI 3 2 90 σ = some (σ.1 90 2) := rfl
theorem pI_90_2 {v : Int32} {σ : Mem} : pI 3 2 90 v σ = some (setI σ 90 2 v) := rfl
theorem sh_91 : shp 91 = .inr (.inl 6) := rfl
theorem sh_92 : shp 92 = .inr (.inl 6) := rfl
theorem ck_93 : chk 0 93 = some () := rfl
theorem ik_93 : isK 0 93 = true := rfl
theorem gR_93_0 : gR 0 0 93 = some 94 := rfl
theorem gR_93_1 : gR 0 1 93 = some 95 := rfl
theorem gR_93_2 : gR 0 2 93 = some 96 := rfl
theorem gR_93_3 : gR 0 3 93 = some 97 := rfl
theorem gI_93_4 {σ : Mem} : gI 0 4 93 σ = some (σ.1 93 4) := rfl
theorem pI_93_4 {v : Int32} {σ : Mem} : pI 0 4 93 v σ = some (setI σ 93 4 v) := rfl
theorem gI_93_5 {σ : Mem} : gI 0 5 93 σ = some (σ.1 93 5) := rfl
theorem pI_93_5 {v : Int32} {σ : Mem} : pI 0 5 93 v σ = some (setI σ 93 5 v) := rfl
theorem sh_94 : shp 94 = .inr (.inl 20) := rfl
theorem sh_95 : shp 95 = .inr (.inl 20) := rfl
theorem sh_96 : shp 96 = .inr (.inl 6) := rfl
theorem sh_97 : shp 97 = .inr (.inl 31) := rfl
theorem ck_98 : chk 1 98 = some () := rfl
theorem ik_98 : isK 1 98 = true := rfl
theorem gR_98_0 : gR 1 0 98 = some 99 := rfl
theorem ck_99 : chk 2 99 = some () := rfl
theorem ik_99 : isK 2 99 = true := rfl
theorem gR_99_0 : gR 2 0 99 = some 100 := rfl
theorem sh_100 : shp 100 = .inr (.inr [101, 109, 117, 125]) := rfl
theorem sh_102 : shp 102 = .inr (.inl 4) := rfl
theorem sh_103 : shp 103 = .inr (.inl 6) := rfl
theorem sh_104 : shp 104 = .inr (.inl 6) := rfl
theorem sh_105 : shp 105 = .inr (.inl 6) := rfl
theorem sh_106 : shp 106 = .inr (.inl 6) := rfl
theorem sh_107 : shp 107 = .inr (.inl 6) := rfl
theorem sh_108 : shp 108 = .inr (.inl 6) := rfl
theorem sh_110 : shp 110 = .inr (.inl 4) := rfl
theorem sh_111 : shp 111 = .inr (.inl 6) := rfl
theorem sh_112 : shp 112 = .inr (.inl 6) := rfl
theorem sh_113 : shp 113 = .inr (.inl 6) := rfl
theorem sh_114 : shp 114 = .inr (.inl 6) := rfl
theorem sh_115 : shp 115 = .inr (.inl 6) := rfl
theorem sh_116 : shp 116 = .inr (.inl 6) := rfl
theorem sh_118 : shp 118 = .inr (.inl 4) := rfl
theorem sh_119 : shp 119 = .inr (.inl 6) := rfl
theorem sh_120 : shp 120 = .inr (.inl 6) := rfl
theorem sh_121 : shp 121 = .inr (.inl 6) := rfl
theorem sh_122 : shp 122 = .inr (.inl 6) := rfl
theorem sh_123 : shp 123 = .inr (.inl 6) := rfl
theorem sh_124 : shp 124 = .inr (.inl 6) := rfl
theorem sh_126 : shp 126 = .inr (.inl 4) := rfl
theorem sh_127 : shp 127 = .inr (.inl 6) := rfl
theorem sh_128 : shp 128 = .inr (.inl 6) := rfl
theorem sh_129 : shp 129 = .inr (.inl 6) := rfl
theorem sh_130 : shp 130 = .inr (.inl 6) := rfl
theorem sh_131 : shp 131 = .inr (.inl 6) := rfl
theorem sh_132 : shp 132 = .inr (.inl 6) := rfl
theorem sh_133 : shp 133 = .inr (.inl 6) := rfl
theorem ck_134 : chk 9 134 = some () := rfl
theorem ik_134 : isK 9 134 = true := rfl
theorem gR_134_0 : gR 9 0 134 = some 135 := rfl
theorem gI_134_1 {σ : Mem} : gI 9 1 134 σ = some (σ.1 134 1) := rfl
theorem pI_134_1 {v : Int32} {σ : Mem} : pI 9 1 134 v σ = some (setI σ 134 1 v) := rfl
theorem gR_134_2 : gR 9 2 134 = some 136 := rfl
theorem gR_134_3 : gR 9 3 134 = some 137 := rfl
theorem gR_134_4 : gR 9 4 134 = some 138 := rfl
theorem gR_134_5 : gR 9 5 134 = some 139 := rfl
theorem gR_134_6 : gR 9 6 134 = some 140 := rfl
theorem gR_134_7 : gR 9 7 134 = some 141 := rfl
theorem gI_134_8 {σ : Mem} : gI 9 8 134 σ = some (σ.1 134 8) := rfl
theorem pI_134_8 {v : Int32} {σ : Mem} : pI 9 8 134 v σ = some (setI σ 134 8 v) := rfl
theorem gR_134_9 : gR 9 9 134 = some 142 := rfl
theorem gI_134_10 {σ : Mem} : gI 9 10 134 σ = some (σ.1 134 10) := rfl
theorem pI_134_10 {v : Int32} {σ : Mem} : pI 9 10 134 v σ = some (setI σ 134 10 v) := rfl
theorem gL_134_11 {σ : Mem} : gL 9 11 134 σ = some (σ.2 134 11) := rfl
theorem pL_134_11 {v : Int64} {σ : Mem} : pL 9 11 134 v σ = some (setL σ 134 11 v) := rfl
theorem gL_134_12 {σ : Mem} : gL 9 12 134 σ = some (σ.2 134 12) := rfl
theorem pL_134_12 {v : Int64} {σ : Mem} : pL 9 12 134 v σ = some (setL σ 134 12 v) := rfl
theorem gI_134_13 {σ : Mem} : gI 9 13 134 σ = some (σ.1 134 13) := rfl
theorem pI_134_13 {v : Int32} {σ : Mem} : pI 9 13 134 v σ = some (setI σ 134 13 v) := rfl
theorem gR_134_14 : gR 9 14 134 = some 143 := rfl
theorem gR_134_15 : gR 9 15 134 = some 144 := rfl
theorem gL_134_16 {σ : Mem} : gL 9 16 134 σ = some (σ.2 134 16) := rfl
theorem pL_134_16 {v : Int64} {σ : Mem} : pL 9 16 134 v σ = some (setL σ 134 16 v) := rfl
theorem sh_135 : shp 135 = .inr (.inl 7304) := rfl
theorem sh_136 : shp 136 = .inr (.inl 3) := rfl
theorem sh_137 : shp 137 = .inr (.inl 240) := rfl
theorem sh_138 : shp 138 = .inr (.inl 6) := rfl
theorem sh_139 : shp 139 = .inr (.inl 240) := rfl
theorem sh_140 : shp 140 = .inr (.inl 4) := rfl
theorem sh_141 : shp 141 = .inr (.inl 40) := rfl
theorem sh_142 : shp 142 = .inr (.inl 6) := rfl
theorem sh_143 : shp 143 = .inr (.inl 32) := rfl
theorem sh_144 : shp 144 = .inr (.inl 2401) := rfl
/-- a town's place: its object, and its seven rows behind it -/
def Tw (k : Nat) : Prop := shp k = .inl (7, [some (some (k + 1)), some (some (k + 2)), some (some (k + 3)), some (some (k + 4)), some (some (k + 5)), some (some (k + 6)), some (some (k + 7)), none, none, none]) ∧ shp (k + 1) = .inr (.inl 4) ∧ shp (k + 2) = .inr (.inl 6) ∧ shp (k + 3) = .inr (.inl 6) ∧ shp (k + 4) = .inr (.inl 6) ∧ shp (k + 5) = .inr (.inl 6) ∧ shp (k + 6) = .inr (.inl 6) ∧ shp (k + 7) = .inr (.inl 6) ∧ k + 7 < nW
theorem tw_10 : Tw 10 := ⟨rfl, rfl, rfl, rfl, rfl, rfl, rfl, rfl, by decide⟩
theorem tw_18 : Tw 18 := ⟨rfl, rfl, rfl, rfl, rfl, rfl, rfl, rfl, by decide⟩
theorem tw_26 : Tw 26 := ⟨rfl, rfl, rfl, rfl, rfl, rfl, rfl, rfl, by decide⟩
theorem tw_36 : Tw 36 := ⟨rfl, rfl, rfl, rfl, rfl, rfl, rfl, rfl, by decide⟩
theorem tw_48 : Tw 48 := ⟨rfl, rfl, rfl, rfl, rfl, rfl, rfl, rfl, by decide⟩
theorem tw_56 : Tw 56 := ⟨rfl, rfl, rfl, rfl, rfl, rfl, rfl, rfl, by decide⟩
theorem tw_64 : Tw 64 := ⟨rfl, rfl, rfl, rfl, rfl, rfl, rfl, rfl, by decide⟩
theorem tw_72 : Tw 72 := ⟨rfl, rfl, rfl, rfl, rfl, rfl, rfl, rfl, by decide⟩
theorem tw_80 : Tw 80 := ⟨rfl, rfl, rfl, rfl, rfl, rfl, rfl, rfl, by decide⟩
theorem tw_101 : Tw 101 := ⟨rfl, rfl, rfl, rfl, rfl, rfl, rfl, rfl, by decide⟩
theorem tw_109 : Tw 109 := ⟨rfl, rfl, rfl, rfl, rfl, rfl, rfl, rfl, by decide⟩
theorem tw_117 : Tw 117 := ⟨rfl, rfl, rfl, rfl, rfl, rfl, rfl, rfl, by decide⟩
theorem tw_125 : Tw 125 := ⟨rfl, rfl, rfl, rfl, rfl, rfl, rfl, rfl, by decide⟩
section TWN
variable {k : Nat} {σ : Mem} {v : Int32}
theorem tR_0 (h : Tw k) : gR 7 0 k = some (k + 1) := by unfold gR; rw [h.1]; rfl
theorem tR_1 (h : Tw k) : gR 7 1 k = some (k + 2) := by unfold gR; rw [h.1]; rfl
theorem tR_2 (h : Tw k) : gR 7 2 k = some (k + 3) := by unfold gR; rw [h.1]; rfl
theorem tR_3 (h : Tw k) : gR 7 3 k = some (k + 4) := by unfold gR; rw [h.1]; rfl
theorem tR_4 (h : Tw k) : gR 7 4 k = some (k + 5) := by unfold gR; rw [h.1]; rfl
theorem tR_5 (h : Tw k) : gR 7 5 k = some (k + 6) := by unfold gR; rw [h.1]; rfl
theorem tR_6 (h : Tw k) : gR 7 6 k = some (k + 7) := by unfold gR; rw [h.1]; rfl
theorem tI_7 (h : Tw k) : gI 7 7 k σ = some (σ.1 k 7) := by unfold gI; rw [h.1]; rfl
theorem tP_7 (h : Tw k) : pI 7 7 k v σ = some (setI σ k 7 v) := by unfold pI; rw [h.1]; rfl
theorem tI_8 (h : Tw k) : gI 7 8 k σ = some (σ.1 k 8) := by unfold gI; rw [h.1]; rfl
theorem tP_8 (h : Tw k) : pI 7 8 k v σ = some (setI σ k 8 v) := by unfold pI; rw [h.1]; rfl
theorem tI_9 (h : Tw k) : gI 7 9 k σ = some (σ.1 k 9) := by unfold gI; rw [h.1]; rfl
theorem tP_9 (h : Tw k) : pI 7 9 k v σ = some (setI σ k 9 v) := by unfold pI; rw [h.1]; rfl
theorem tC (h : Tw k) : chk 7 k = some () := by unfold chk isK; rw [h.1]; rfl
theorem tK (h : Tw k) : isK 7 k = true := by unfold isK; rw [h.1]; rfl
end TWN
theorem aI_eq {k n j : Nat} {σ : Mem} (hs : shp k = .inr (.inl n)) (hj : j < n) (hn : n ≤ 100000) : aI k (nI j) σ = some (σ.1 k j) := by
  unfold aI
  rw [hs]
  dsimp only
  rw [if_pos ⟨by rw [nI_toInt (by omega)]; omega, by rw [nI_toInt (by omega)]; omega⟩, nI_clamp (by omega)]
theorem sI_eq {k n j : Nat} {v : Int32} {σ : Mem} (hs : shp k = .inr (.inl n)) (hj : j < n) (hn : n ≤ 100000) : sI k (nI j) v σ = some (setI σ k j v) := by
  unfold sI
  rw [hs]
  dsimp only
  rw [if_pos ⟨by rw [nI_toInt (by omega)]; omega, by rw [nI_toInt (by omega)]; omega⟩, nI_clamp (by omega)]
theorem aN_eq {k n : Nat} (hk : k < nW) (hs : shp k = .inr (.inl n)) : aN k = some (nI n) := by
  unfold aN
  rw [if_pos hk, hs]
  rfl
/-- read() and write(): any index is well -/
theorem rd_eq {k n j : Nat} {σ : Mem} (hk : k < nW) (hs : shp k = .inr (.inl n)) (hj : j < n) (hn : n ≤ 100000) : F_X8_read k (nI j) σ = some (σ.1 k j) := by
  unfold F_X8_read
  rw [if_neg (nI_pos (by omega)), aN_eq hk hs]
  show (if nI n ≤ nI j then _ else _) = _
  rw [if_neg (nI_ge hj (by omega)), aI_eq hs hj hn]
  rfl
theorem rd_no {k n : Nat} {x : Int32} {σ : Mem} (hk : k < nW) (hs : shp k = .inr (.inl n)) (hx : x < 0 ∨ nI n ≤ x) : F_X8_read k x σ = some 0 := by
  unfold F_X8_read
  by_cases h : x < 0
  · rw [if_pos h]
  · rw [if_neg h, aN_eq hk hs]
    show (if nI n ≤ x then _ else _) = _
    rw [if_pos (hx.resolve_left h)]
theorem wr_eq {k n j : Nat} {v : Int32} {σ : Mem} (hk : k < nW) (hs : shp k = .inr (.inl n)) (hj : j < n) (hn : n ≤ 100000) : F_X8_write k (nI j) v σ = some (setI σ k j v) := by
  unfold F_X8_write
  rw [if_neg (nI_pos (by omega)), aN_eq hk hs]
  show (if nI n ≤ nI j then _ else _) = _
  rw [if_neg (nI_ge hj (by omega)), sI_eq hs hj hn]
  rfl
theorem wr_no {k n : Nat} {x v : Int32} {σ : Mem} (hk : k < nW) (hs : shp k = .inr (.inl n)) (hx : x < 0 ∨ nI n ≤ x) : F_X8_write k x v σ = some σ := by
  unfold F_X8_write
  by_cases h : x < 0
  · rw [if_pos h]
  · rw [if_neg h, aN_eq hk hs]
    show (if nI n ≤ x then _ else _) = _
    rw [if_pos (hx.resolve_left h)]
theorem setI_1 (σ : Mem) (k j : Nat) (v : Int32) (a b : Nat) : (setI σ k j v).1 a b = if a = k ∧ b = j then v else σ.1 a b := rfl
theorem setI_2 (σ : Mem) (k j : Nat) (v : Int32) : (setI σ k j v).2 = σ.2 := rfl
theorem setL_1 (σ : Mem) (k j : Nat) (v : Int64) : (setL σ k j v).1 = σ.1 := rfl
theorem setL_2 (σ : Mem) (k j : Nat) (v : Int64) (a b : Nat) : (setL σ k j v).2 a b = if a = k ∧ b = j then v else σ.2 a b := rfl
theorem ob_some {α β : Type} (a : α) (f : α → Option β) : (some a).bind f = f a := rfl
/-- a loop that counts up -/
theorem lp_up {S T : Type} {f : S → Option (S ⊕ T)} (g : Nat → S) (n : Nat) {t : T} (hs : ∀ j, j < n → f (g j) = some (.inl (g (j + 1)))) (he : f (g n) = some (.inr t)) : lp f (g 0) = some t := by
  have key : ∀ m, m ≤ n → lp f (g (n - m)) = some t := by
    intro m
    induction m with
    | zero => intro _; exact lp_out he
    | succ m ih =>
      intro hm
      have h1 := hs (n - (m + 1)) (by omega)
      rw [show n - (m + 1) + 1 = n - m by omega] at h1
      rw [lp_in h1]
      exact ih (by omega)
  have := key n (Nat.le_refl n)
  rwa [Nat.sub_self] at this
end
section
/-! ===== numbers: everything as nI of a natural number ===== -/
theorem li (n : Nat) : (OfNat.ofNat n : Int32) = nI n := rfl
theorem dt {c : Prop} [Decidable c] {α : Type} {a b : α} (h : c) : (if c then a else b) = a := if_pos h
theorem df {c : Prop} [Decidable c] {α : Type} {a b : α} (h : ¬ c) : (if c then a else b) = b := if_neg h
/-! ===== a town as natural numbers, in the reference's order: 0 how many, 1 night, 2 fines, 3 kinds, 9 lefts, 15 rights, 21 thicks, 27 lying, 33 found, 39 colds, 43 thread ===== -/
abbrev Tn : Type := Nat → Nat
def updT (T : Tn) (j v : Nat) : Tn := fun a => if a = j then v else T a
def sumT (T : Tn) : Nat → Nat
  | 0 => 0
  | n + 1 => sumT T n + T (33 + n)
/-- well formed: B bounds nights and findings -/
def wfT (B : Nat) (T : Tn) : Prop := T 0 ≤ 6 ∧ T 1 ≤ B ∧ (∀ i, i < T 0 → T (3 + i) < 6 ∧ T (9 + i) ≤ 9 ∧ T (15 + i) ≤ 9 ∧ T (21 + i) ≤ 9 ∧ T (27 + i) ≤ 99 ∧ T (33 + i) ≤ B) ∧ (∀ m, m < 4 → T (39 + m) ≤ 9) ∧ T 43 ≤ 9 ∧ T 2 = sumT T (T 0)
/-- the reference's numbers from f on are the town T -/
def MT (σ : Mem) (f : Nat) (T : Tn) : Prop := ∀ j, j < 44 → σ.1 135 (f + j) = nI (T j)
/-- the class's town at place k is T -/
def CT (σ : Mem) (k : Nat) (T : Tn) : Prop := σ.1 k 8 = nI (T 0) ∧ σ.1 k 9 = nI (T 1) ∧ (0 < T 0 → σ.1 k 7 = nI (T 43)) ∧ (∀ m, m < 4 → σ.1 (k + 1) m = nI (T (39 + m))) ∧ ∀ i, i < T 0 → σ.1 (k + 2) i = nI (T (3 + i)) ∧ σ.1 (k + 3) i = nI (T (9 + i)) ∧ σ.1 (k + 4) i = nI (T (15 + i)) ∧ σ.1 (k + 5) i = nI (T (21 + i)) ∧ σ.1 (k + 6) i = nI (T (27 + i)) ∧ σ.1 (k + 7) i = nI (T (33 + i))
def gapT (T : Tn) (i j : Nat) : Nat := if T (9 + i) ≤ T (15 + j) then T (15 + j) - T (9 + i) else T (9 + i) - T (15 + j)
def barN (kind thick : Nat) : Nat := if kind = 1 ∨ kind = 5 then thick + 2 else if kind = 2 ∨ kind = 4 then thick / 2 else thick
def crN (kind gap thick m cold : Nat) : Nat :=
  let over := gap + cold - barN kind thick
  if kind = 3 then (if m % 2 = 0 then over else 0) else if kind = 4 then (if over = 0 then 0 else over + 1) else if kind = 5 then over / 2 else over
def crossT (T : Tn) (i m : Nat) : Nat := crN (T (3 + i)) (gapT T i i) (T (21 + i)) m (T (39 + m % 4))
def sleepT (T : Tn) (i : Nat) : Tn := if 3 ≤ crossT T i (T 1) then updT (updT T (27 + i) (min 99 (T (27 + i) + crossT T i (T 1)))) (21 + i) (T (21 + i) - 1) else updT T (27 + i) (min 99 (T (27 + i) + crossT T i (T 1)))
def passL (T : Tn) : Nat → Tn
  | 0 => T
  | n + 1 => sleepT (passL T n) n
def passS (T : Tn) : Nat → Nat
  | 0 => 0
  | n + 1 => passS T n + crossT (passL T n) n ((passL T n) 1)
def passT (T : Tn) : Tn := updT (passL T (T 0)) 1 (T 1 + 1)
def inspT (T : Tn) (i : Nat) : Tn := if T 43 ≤ T (27 + i) then updT (updT (updT (updT T (27 + i) 0) (21 + i) 9) (33 + i) (T (33 + i) + 1)) 2 (T 2 + 1) else T
def inspS (T : Tn) (i : Nat) : Nat := if T 43 ≤ T (27 + i) then T (27 + i) else 0
theorem crN_le {kind gap thick m cold : Nat} (h1 : gap ≤ 9) (h2 : cold ≤ 9) : crN kind gap thick m cold ≤ 19 := by
  unfold crN
  dsimp only
  repeat' split
  all_goals omega
theorem gapT_le {T : Tn} {i j : Nat} (h1 : T (9 + i) ≤ 9) (h2 : T (15 + j) ≤ 9) : gapT T i j ≤ 9 := by
  unfold gapT
  split <;> omega
/-! ===== the bar, what crosses: both sides ===== -/
theorem C_bar {kind thick : Nat} {σ : Mem} (hk : kind < 6) (ht : thick ≤ 9) : F_X8_barOf (nI kind) (nI thick) σ = some (nI (barN kind thick)) := by
  unfold F_X8_barOf barN
  simp (disch := omega) only [li, nI_eq, nI_add, pk_div]
  repeat' split
  all_goals first | rfl | omega
theorem M_bar {kind thick : Nat} {σ : Mem} (hk : kind < 6) (ht : thick ≤ 9) : F_X9_barOf (nI kind) (nI thick) σ = some (nI (barN kind thick)) := by
  unfold F_X9_barOf F_X9_barOf_10 F_X9_barOf_26 barN
  simp (disch := omega) only [li, nI_eq, nI_add, pk_div]
  repeat' split
  all_goals first | rfl | omega
theorem barN_le {kind thick : Nat} (ht : thick ≤ 9) : barN kind thick ≤ 11 := by
  unfold barN
  repeat' split
  all_goals omega
theorem over_lt {a b : Nat} (ha : a < 2 ^ 30) (hb : b < 2 ^ 30) : (nI 0 < nI a - nI b) ↔ b < a := by
  rw [Int32.lt_iff_toInt_lt, pk_sub_toInt ha hb, nI_toInt (by omega)]
  omega
theorem over_le {a b : Nat} (ha : a < 2 ^ 30) (hb : b < 2 ^ 30) : (nI 0 ≤ nI a - nI b) ↔ b ≤ a := by
  rw [Int32.le_iff_toInt_le, pk_sub_toInt ha hb, nI_toInt (by omega)]
  omega
theorem over_lt0 {a b : Nat} (ha : a < 2 ^ 30) (hb : b < 2 ^ 30) : ((0 : Int32) < nI a - nI b) ↔ b < a := over_lt ha hb
theorem over_le0 {a b : Nat} (ha : a < 2 ^ 30) (hb : b < 2 ^ 30) : ((0 : Int32) ≤ nI a - nI b) ↔ b ≤ a := over_le ha hb
theorem rem2 {m : Nat} (h : m ≤ 100000) : nI m - nI m / (2 : Int32) * (2 : Int32) = nI (m % 2) := pk_rem (by omega) (by decide) (by decide)
theorem rem4 {m : Nat} (h : m ≤ 100000) : nI m - nI m / (4 : Int32) * (4 : Int32) = nI (m % 4) := pk_rem (by omega) (by decide) (by decide)
theorem over_eq {g c b : Nat} (hg : g ≤ 9) (hc : c ≤ 9) (hb : b ≤ 11) : (if (0 : Int32) < (nI g + nI c) - nI b then (nI g + nI c) - nI b else (0 : Int32)) = nI (g + c - b) := by
  rw [nI_add]
  by_cases h : b < g + c
  · rw [if_pos ((over_lt0 (by omega) (by omega)).mpr h), pk_sub (by omega)]
  · rw [if_neg (fun q => h ((over_lt0 (by omega) (by omega)).mp q)), show g + c - b = 0 by omega]
    rfl
theorem C_crossing {kind gap thick m cold : Nat} {σ : Mem} (hk : kind < 6) (hg : gap ≤ 9) (ht : thick ≤ 9) (hm : m ≤ 100000) (hc : cold ≤ 9) : F_X8_crossing (nI kind) (nI gap) (nI thick) (nI m) (nI cold) σ = some (nI (crN kind gap thick m cold)) := by
  have hb := barN_le (kind := kind) ht
  have ho : gap + cold - barN kind thick ≤ 18 := by omega
  unfold F_X8_crossing crN
  rw [C_bar hk ht, ob_some]
  simp only [over_eq hg hc hb]
  generalize gap + cold - barN kind thick = ov at ho
  have hm2 : m % 2 < 2 := Nat.mod_lt _ (by decide)
  rcases (show kind = 0 ∨ kind = 1 ∨ kind = 2 ∨ kind = 3 ∨ kind = 4 ∨ kind = 5 by omega) with h | h | h | h | h | h <;> subst h <;> simp (disch := omega) only [↓rem2, li, nI_eq, nI_leI, pk_div, nI_add, reduceCtorEq, Nat.reduceEqDiff, if_true, if_false, Nat.le_zero_eq] <;> (repeat' split) <;> first | rfl | omega
theorem off_eq {a b : Nat} {σ : Mem} (ha : a ≤ 9) (hb : b ≤ 9) : F_X9_off (nI a) (nI b) σ = some (nI (if a ≤ b then b - a else a - b)) := by
  unfold F_X9_off
  by_cases h : b ≤ a
  · rw [if_pos ((nI_leI (by omega) (by omega)).mpr h), pk_sub h]
    congr 2
    split <;> omega
  · rw [if_neg (fun q => h ((nI_leI (by omega) (by omega)).mp q)), pk_sub (by omega), if_pos (by omega)]
theorem abs_eq {a b : Nat} (ha : a ≤ 9) (hb : b ≤ 9) : (if (0 : Int32) ≤ (nI a - nI b) then (nI a - nI b) else 0 - (nI a - nI b)) = nI (if a ≤ b then b - a else a - b) := by
  by_cases h : b ≤ a
  · rw [if_pos ((over_le0 (by omega) (by omega)).mpr h), pk_sub h]
    congr 1
    split <;> omega
  · rw [if_neg (fun q => h ((over_le0 (by omega) (by omega)).mp q)), if_pos (by omega)]
    have e : nI b - nI a = nI (b - a) := pk_sub (by omega)
    rw [← e, Int32.zero_sub, Int32.neg_sub]
theorem M_crossBy_tail {kind m ov : Nat} {σ : Mem} (hk : kind < 6) (hm : m ≤ 100000) (ho : ov ≤ 18) : F_X9_crossBy_33 (nI kind) (nI m) (nI ov) σ = some (nI (if kind = 3 then (if m % 2 = 0 then ov else 0) else if kind = 4 then (if ov = 0 then 0 else ov + 1) else if kind = 5 then ov / 2 else ov)) := by
  unfold F_X9_crossBy_33
  have hm2 : m % 2 < 2 := Nat.mod_lt _ (by decide)
  rcases (show kind = 0 ∨ kind = 1 ∨ kind = 2 ∨ kind = 3 ∨ kind = 4 ∨ kind = 5 by omega) with h | h | h | h | h | h <;> subst h <;> simp (disch := omega) only [↓rem2, li, nI_eq, nI_leI, pk_div, nI_add, reduceCtorEq, Nat.reduceEqDiff, if_true, if_false, Nat.le_zero_eq] <;> (repeat' split) <;> first | rfl | omega
end
section
/-! ===== the class's town: reading ===== -/
theorem Tw.lt {k : Nat} (h : Tw k) : k + 7 < nW := h.2.2.2.2.2.2.2.2
theorem Tw.ar {k o : Nat} (h : Tw k) (h1 : 2 ≤ o) (h2 : o ≤ 7) : shp (k + o) = .inr (.inl 6) := by
  obtain ⟨-, -, a2, a3, a4, a5, a6, a7, -⟩ := h
  rcases (show o = 2 ∨ o = 3 ∨ o = 4 ∨ o = 5 ∨ o = 6 ∨ o = 7 by omega) with q | q | q | q | q | q <;> subst q <;> assumption
theorem Tw.rd {k o j : Nat} {σ : Mem} (h : Tw k) (h1 : 2 ≤ o) (h2 : o ≤ 7) (hj : j < 6) : F_X8_read (k + o) (nI j) σ = some (σ.1 (k + o) j) := rd_eq (by have := h.lt; omega) (h.ar h1 h2) hj (by decide)
theorem Tw.wr {k o j : Nat} {v : Int32} {σ : Mem} (h : Tw k) (h1 : 2 ≤ o) (h2 : o ≤ 7) (hj : j < 6) : F_X8_write (k + o) (nI j) v σ = some (setI σ (k + o) j v) := wr_eq (by have := h.lt; omega) (h.ar h1 h2) hj (by decide)
/-- a number of a bed is another one -/
theorem CT.set {σ : Mem} {k o b i v : Nat} {T : Tn} (h : CT σ k T) (h6 : T 0 ≤ 6) (hi : i < T 0) (h1 : 2 ≤ o) (h2 : o ≤ 7) (hb : b = 6 * o - 9 + i) : CT (setI σ (k + o) i (nI v)) k (updT T b v) := by
  obtain ⟨a0, a1, a2, a3, a4⟩ := h
  have e0 : updT T b v 0 = T 0 := by unfold updT; rw [if_neg (by omega)]
  refine ⟨?_, ?_, ?_, ?_, ?_⟩
  · rw [e0, setI_1, if_neg (by omega)]; exact a0
  · rw [setI_1, if_neg (by omega)]; unfold updT; rw [if_neg (by omega)]; exact a1
  · rw [e0, setI_1, if_neg (by omega)]; unfold updT; rw [if_neg (by omega)]; exact a2
  · intro m hm
    rw [setI_1, if_neg (by omega)]; unfold updT; rw [if_neg (by omega)]; exact a3 m hm
  · intro j hj
    rw [e0] at hj
    obtain ⟨c2, c3, c4, c5, c6, c7⟩ := a4 j hj
    unfold updT
    simp only [setI_1]
    refine ⟨?_, ?_, ?_, ?_, ?_, ?_⟩
    · by_cases q : o = 2 ∧ j = i
      · rw [if_pos (by omega), if_pos (by omega)]
      · rw [if_neg (by omega), if_neg (by omega)]; exact c2
    · by_cases q : o = 3 ∧ j = i
      · rw [if_pos (by omega), if_pos (by omega)]
      · rw [if_neg (by omega), if_neg (by omega)]; exact c3
    · by_cases q : o = 4 ∧ j = i
      · rw [if_pos (by omega), if_pos (by omega)]
      · rw [if_neg (by omega), if_neg (by omega)]; exact c4
    · by_cases q : o = 5 ∧ j = i
      · rw [if_pos (by omega), if_pos (by omega)]
      · rw [if_neg (by omega), if_neg (by omega)]; exact c5
    · by_cases q : o = 6 ∧ j = i
      · rw [if_pos (by omega), if_pos (by omega)]
      · rw [if_neg (by omega), if_neg (by omega)]; exact c6
    · by_cases q : o = 7 ∧ j = i
      · rw [if_pos (by omega), if_pos (by omega)]
      · rw [if_neg (by omega), if_neg (by omega)]; exact c7
theorem CT.night {σ : Mem} {k v : Nat} {T : Tn} (h : CT σ k T) : CT (setI σ k 9 (nI v)) k (updT T 1 v) := by
  obtain ⟨a0, a1, a2, a3, a4⟩ := h
  refine ⟨?_, ?_, ?_, ?_, ?_⟩
  · rw [setI_1, if_neg (by omega)]; exact a0
  · rw [setI_1, if_pos ⟨rfl, rfl⟩]; rfl
  · rw [setI_1, if_neg (by omega)]; exact a2
  · intro m hm
    rw [setI_1, if_neg (by omega)]; unfold updT; rw [if_neg (by omega)]; exact a3 m hm
  · intro j hj
    have h0 : updT T 1 v 0 = T 0 := rfl
    rw [h0] at hj
    obtain ⟨c2, c3, c4, c5, c6, c7⟩ := a4 j hj
    unfold updT
    simp only [setI_1]
    refine ⟨?_, ?_, ?_, ?_, ?_, ?_⟩ <;> (rw [if_neg (by omega), if_neg (by omega)]; assumption)
/-- fines stand in the reference alone -/
theorem CT.fine {σ : Mem} {k v : Nat} {T : Tn} (h : CT σ k T) : CT σ k (updT T 2 v) := by
  obtain ⟨a0, a1, a2, a3, a4⟩ := h
  refine ⟨a0, a1, a2, fun m hm => ?_, fun j hj => ?_⟩
  · unfold updT; rw [if_neg (by omega)]; exact a3 m hm
  · have h0 : updT T 2 v 0 = T 0 := rfl
    rw [h0] at hj
    obtain ⟨c2, c3, c4, c5, c6, c7⟩ := a4 j hj
    unfold updT
    refine ⟨?_, ?_, ?_, ?_, ?_, ?_⟩ <;> (rw [if_neg (by omega)]; assumption)
/-- what a town's other places hold doesn't matter -/
theorem CT.kept {σ σ' : Mem} {k : Nat} {T : Tn} (h : CT σ k T) (ho : ∀ a b, k ≤ a → a ≤ k + 7 → σ'.1 a b = σ.1 a b) : CT σ' k T := by
  obtain ⟨a0, a1, a2, a3, a4⟩ := h
  refine ⟨(ho _ _ (by omega) (by omega)).trans a0, (ho _ _ (by omega) (by omega)).trans a1, fun q => (ho _ _ (by omega) (by omega)).trans (a2 q), fun m hm => (ho _ _ (by omega) (by omega)).trans (a3 m hm), fun j hj => ?_⟩
  obtain ⟨c2, c3, c4, c5, c6, c7⟩ := a4 j hj
  exact ⟨(ho _ _ (by omega) (by omega)).trans c2, (ho _ _ (by omega) (by omega)).trans c3, (ho _ _ (by omega) (by omega)).trans c4, (ho _ _ (by omega) (by omega)).trans c5, (ho _ _ (by omega) (by omega)).trans c6, (ho _ _ (by omega) (by omega)).trans c7⟩
section CTR
variable {σ : Mem} {k i B : Nat} {T : Tn}
theorem C_kind (hk : Tw k) (h : CT σ k T) (hw : wfT B T) (hi : i < T 0) : F_X7_kindOf k (nI i) σ = some (nI (T (3 + i))) := by
  unfold F_X7_kindOf
  rw [tR_1 hk, ob_some, hk.rd (o := 2) (by decide) (by decide) (by have := hw.1; omega), ob_some, (h.2.2.2.2 i hi).1]
theorem C_thick (hk : Tw k) (h : CT σ k T) (hw : wfT B T) (hi : i < T 0) : F_X7_thickOf k (nI i) σ = some (nI (T (21 + i))) := by
  unfold F_X7_thickOf
  rw [tR_4 hk, ob_some, hk.rd (o := 5) (by decide) (by decide) (by have := hw.1; omega), ob_some, (h.2.2.2.2 i hi).2.2.2.1]
theorem C_lies (hk : Tw k) (h : CT σ k T) (hw : wfT B T) (hi : i < T 0) : F_X7_liesIn k (nI i) σ = some (nI (T (27 + i))) := by
  unfold F_X7_liesIn
  rw [tR_5 hk, ob_some, hk.rd (o := 6) (by decide) (by decide) (by have := hw.1; omega), ob_some, (h.2.2.2.2 i hi).2.2.2.2.1]
theorem C_cold {m : Nat} (hk : Tw k) (h : CT σ k T) (hm : m ≤ 100000) : F_X7_coldOf k (nI m) σ = some (nI (T (39 + m % 4))) := by
  have h4 : m % 4 < 4 := Nat.mod_lt _ (by decide)
  unfold F_X7_coldOf
  rw [tR_0 hk, ob_some, rem4 hm, rd_eq (by have := hk.lt; omega) hk.2.1 h4 (by decide), ob_some, h.2.2.2.1 _ h4]
theorem C_gap {j : Nat} (hk : Tw k) (h : CT σ k T) (hw : wfT B T) (hi : i < T 0) (hj : j < T 0) : F_X7_gapWith k (nI i) (nI j) σ = some (nI (gapT T i j)) := by
  unfold F_X7_gapWith
  rw [tR_2 hk, ob_some, hk.rd (o := 3) (by decide) (by decide) (by have := hw.1; omega), ob_some, tR_3 hk, ob_some, hk.rd (o := 4) (by decide) (by decide) (by have := hw.1; omega), ob_some, (h.2.2.2.2 i hi).2.1, (h.2.2.2.2 j hj).2.2.1, abs_eq (hw.2.2.1 i hi).2.1 (hw.2.2.1 j hj).2.2.1]
  rfl
theorem C_crossesIn {m : Nat} (hk : Tw k) (h : CT σ k T) (hw : wfT B T) (hi : i < T 0) (hm : m ≤ 100000) : F_X7_crossesIn k (nI i) (nI m) σ = some (nI (crossT T i m)) := by
  have b := hw.2.2.1 i hi
  have h4 : m % 4 < 4 := Nat.mod_lt _ (by decide)
  unfold F_X7_crossesIn
  rw [C_kind hk h hw hi, ob_some, C_gap hk h hw hi hi, ob_some, C_thick hk h hw hi, ob_some, C_cold hk h hm, ob_some, C_crossing b.1 (gapT_le b.2.1 b.2.2.1) b.2.2.2.1 hm (hw.2.2.2.1 _ h4), ob_some]
  rfl
theorem C_crossesAs {kd th m : Nat} (hk : Tw k) (h : CT σ k T) (hw : wfT B T) (hi : i < T 0) (hm : m ≤ 100000) (h1 : kd < 6) (h2 : th ≤ 9) : F_X7_crossesAs k (nI i) (nI kd) (nI th) (nI m) σ = some (nI (crN kd (gapT T i i) th m (T (39 + m % 4)))) := by
  have b := hw.2.2.1 i hi
  have h4 : m % 4 < 4 := Nat.mod_lt _ (by decide)
  unfold F_X7_crossesAs
  rw [C_gap hk h hw hi hi, ob_some, C_cold hk h hm, ob_some, C_crossing h1 (gapT_le b.2.1 b.2.2.1) h2 hm (hw.2.2.2.1 _ h4), ob_some]
theorem C_crossesWith {j : Nat} (hk : Tw k) (h : CT σ k T) (hw : wfT B T) (hB : B ≤ 100000) (hi : i < T 0) (hj : j < T 0) : F_X7_crossesWith k (nI i) (nI j) σ = some (nI (crN (T (3 + i)) (gapT T i j) (T (21 + i)) (T 1) (T (39 + T 1 % 4)))) := by
  have b := hw.2.2.1 i hi
  have h4 : T 1 % 4 < 4 := Nat.mod_lt _ (by decide)
  have hm : T 1 ≤ 100000 := Nat.le_trans hw.2.1 hB
  unfold F_X7_crossesWith
  rw [C_kind hk h hw hi, ob_some, C_gap hk h hw hi hj, ob_some, C_thick hk h hw hi, ob_some, tI_9 hk, ob_some, ob_some, h.2.1, C_cold hk h hm, ob_some, C_crossing b.1 (gapT_le b.2.1 (hw.2.2.1 j hj).2.2.1) b.2.2.2.1 hm (hw.2.2.2.1 _ h4), ob_some]
theorem C_has (hk : Tw k) (h : CT σ k T) (hw : wfT B T) (hi : i < T 0) : F_X7_has k (nI i) σ = some 1 := by
  have h6 := hw.1
  unfold F_X7_has
  rw [if_neg (nI_pos (by omega)), tI_8 hk, ob_some, h.1, if_neg (nI_ge hi (by omega))]
theorem C_hasno {x : Int32} (hk : Tw k) (h : CT σ k T) (hx : x < 0 ∨ nI (T 0) ≤ x) : F_X7_has k x σ = some 0 := by
  unfold F_X7_has
  by_cases q : x < 0
  · rw [if_pos q]
  · rw [if_neg q, tI_8 hk, ob_some, h.1, if_pos (hx.resolve_left q)]
theorem C_found (hk : Tw k) (h : CT σ k T) (hw : wfT B T) (hi : i < T 0) : F_X7_wouldBeFound k (nI i) σ = some (if T 43 ≤ T (27 + i) then 1 else 0) := by
  have b := hw.2.2.1 i hi
  have b2 := hw.2.2.2.2.1
  unfold F_X7_wouldBeFound
  rw [C_has hk h hw hi, ob_some, if_neg (by decide), C_lies hk h hw hi, ob_some, tI_7 hk, ob_some, h.2.2.1 (by omega)]
  by_cases q : T 43 ≤ T (27 + i)
  · rw [if_neg (nI_nlt q (by omega)), if_pos q]
  · rw [if_pos (nI_lt (by omega) (by omega)), if_neg q]
theorem C_foundno {x : Int32} (hk : Tw k) (h : CT σ k T) (hx : x < 0 ∨ nI (T 0) ≤ x) : F_X7_wouldBeFound k x σ = some 0 := by
  unfold F_X7_wouldBeFound
  rw [C_hasno hk h hx, ob_some, if_pos rfl]
end CTR
end
section
/-! ===== a loop by an invariant ===== -/
theorem lp_inv {S T : Type} {f : S → Option (S ⊕ T)} {Q : T → Prop} (I : Nat → S → Prop) (n : Nat) (hs : ∀ j s, j < n → I j s → ∃ s', f s = some (.inl s') ∧ I (j + 1) s') (he : ∀ s, I n s → ∃ t, f s = some (.inr t) ∧ Q t) : ∀ s, I 0 s → ∃ t, lp f s = some t ∧ Q t := by
  have key : ∀ m, m ≤ n → ∀ s, I (n - m) s → ∃ t, lp f s = some t ∧ Q t := by
    intro m
    induction m with
    | zero =>
      intro _ s h
      obtain ⟨t, h1, h2⟩ := he s h
      exact ⟨t, lp_out h1, h2⟩
    | succ m ih =>
      intro hm s h
      obtain ⟨s', h1, h2⟩ := hs _ s (by omega) h
      rw [show n - (m + 1) + 1 = n - m by omega] at h2
      obtain ⟨t, h3, h4⟩ := ih (by omega) s' h2
      exact ⟨t, by rw [lp_in h1]; exact h3, h4⟩
  intro s h
  exact key n (Nat.le_refl n) s (by rw [Nat.sub_self]; exact h)
/-- nothing but the town at k has changed -/
def FrK (k : Nat) (σ σ' : Mem) : Prop := (∀ a b, (a < k ∨ k + 7 < a) → σ'.1 a b = σ.1 a b) ∧ σ'.2 = σ.2
theorem FrK.rf {k : Nat} {σ : Mem} : FrK k σ σ := ⟨fun _ _ _ => rfl, rfl⟩
theorem FrK.tr {k : Nat} {σ σ' σ'' : Mem} (h : FrK k σ σ') (h2 : FrK k σ' σ'') : FrK k σ σ'' := ⟨fun a b q => (h2.1 a b q).trans (h.1 a b q), h2.2.trans h.2⟩
theorem FrK.set {k a j : Nat} {v : Int32} {σ : Mem} (h1 : k ≤ a) (h2 : a ≤ k + 7) : FrK k σ (setI σ a j v) := ⟨fun x y q => by rw [setI_1, if_neg (by omega)], rfl⟩
/-! ===== well-formed towns stay so ===== -/
theorem sumT_ext {T T' : Tn} : ∀ n, (∀ j, j < n → T' (33 + j) = T (33 + j)) → sumT T' n = sumT T n
  | 0, _ => rfl
  | n + 1, h => by
    show sumT T' n + _ = sumT T n + _
    rw [sumT_ext n (fun j hj => h j (by omega)), h n (by omega)]
theorem upd_ne {T : Tn} {j v a : Nat} (h : a ≠ j) : updT T j v a = T a := if_neg h
theorem upd_eq {T : Tn} {j v : Nat} : updT T j v j = v := if_pos rfl
theorem wf_bed {B b v i : Nat} {T : Tn} (hw : wfT B T) (hi : i < T 0) (hb : (b = 15 + i ∧ v ≤ 9) ∨ (b = 21 + i ∧ v ≤ 9) ∨ (b = 27 + i ∧ v ≤ 99)) : wfT B (updT T b v) := by
  obtain ⟨h0, h1, h2, h3, h4, h5⟩ := hw
  have e0 : updT T b v 0 = T 0 := upd_ne (by omega)
  refine ⟨by rw [e0]; exact h0, by rw [upd_ne (by omega)]; exact h1, fun j hj => ?_, fun m hm => by rw [upd_ne (by omega)]; exact h3 m hm, by rw [upd_ne (by omega)]; exact h4, ?_⟩
  · rw [e0] at hj
    obtain ⟨c1, c2, c3, c4, c5, c6⟩ := h2 j hj
    refine ⟨by rw [upd_ne (by omega)]; exact c1, by rw [upd_ne (by omega)]; exact c2, ?_, ?_, ?_, by rw [upd_ne (by omega)]; exact c6⟩
    · unfold updT; split <;> omega
    · unfold updT; split <;> omega
    · unfold updT; split <;> omega
  · rw [e0, upd_ne (by omega), h5]
    exact (sumT_ext _ (fun j hj => upd_ne (by omega))).symm
theorem wf_mono {B B' : Nat} {T : Tn} (h : B ≤ B') (hw : wfT B T) : wfT B' T := ⟨hw.1, Nat.le_trans hw.2.1 h, fun i hi => by
  obtain ⟨c1, c2, c3, c4, c5, c6⟩ := hw.2.2.1 i hi
  exact ⟨c1, c2, c3, c4, c5, Nat.le_trans c6 h⟩, hw.2.2.2⟩
theorem sleep_0 {T : Tn} {i : Nat} : sleepT T i 0 = T 0 := by
  unfold sleepT
  split
  · rw [upd_ne (by omega), upd_ne (by omega)]
  · rw [upd_ne (by omega)]
theorem sleep_1 {T : Tn} {i : Nat} : sleepT T i 1 = T 1 := by
  unfold sleepT
  split
  · rw [upd_ne (by omega), upd_ne (by omega)]
  · rw [upd_ne (by omega)]
theorem wf_sleep {B i : Nat} {T : Tn} (hw : wfT B T) (hi : i < T 0) : wfT B (sleepT T i) := by
  have b := hw.2.2.1 i hi
  have w1 : wfT B (updT T (27 + i) (min 99 (T (27 + i) + crossT T i (T 1)))) := wf_bed hw hi (Or.inr (Or.inr ⟨rfl, Nat.min_le_left _ _⟩))
  unfold sleepT
  split
  · exact wf_bed (i := i) w1 (by rw [upd_ne (by omega)]; exact hi) (Or.inr (Or.inl ⟨rfl, by omega⟩))
  · exact w1
theorem passL_0 (T : Tn) : ∀ n, passL T n 0 = T 0
  | 0 => rfl
  | n + 1 => sleep_0.trans (passL_0 T n)
theorem passL_1 (T : Tn) : ∀ n, passL T n 1 = T 1
  | 0 => rfl
  | n + 1 => sleep_1.trans (passL_1 T n)
theorem wf_passL {B : Nat} {T : Tn} (hw : wfT B T) : ∀ n, n ≤ T 0 → wfT B (passL T n)
  | 0, _ => hw
  | n + 1, h => wf_sleep (wf_passL hw n (by omega)) (by rw [passL_0]; omega)
theorem wf_night {B v : Nat} {T : Tn} (hw : wfT B T) (hv : v ≤ B) : wfT B (updT T 1 v) := by
  obtain ⟨h0, h1, h2, h3, h4, h5⟩ := hw
  have e0 : updT T 1 v 0 = T 0 := rfl
  refine ⟨h0, by rw [upd_eq]; exact hv, fun j hj => ?_, fun m hm => by rw [upd_ne (by omega)]; exact h3 m hm, h4, ?_⟩
  · rw [e0] at hj
    obtain ⟨c1, c2, c3, c4, c5, c6⟩ := h2 j hj
    refine ⟨?_, ?_, ?_, ?_, ?_, ?_⟩ <;> (rw [upd_ne (by omega)]; assumption)
  · rw [e0, upd_ne (by omega), h5]
    exact (sumT_ext _ (fun j hj => upd_ne (by omega))).symm
theorem pass_0 (T : Tn) : passT T 0 = T 0 := passL_0 T _
theorem wf_pass {B : Nat} {T : Tn} (hw : wfT B T) : wfT (B + 1) (passT T) := wf_night (wf_mono (by omega) (wf_passL hw _ (Nat.le_refl _))) (by have := hw.2.1; omega)
theorem sumT_upd {T : Tn} {v : Nat} : ∀ (n i : Nat), i < n → sumT (updT T (33 + i) v) n + T (33 + i) = sumT T n + v
  | 0, _, h => by omega
  | n + 1, i, h => by
    show sumT (updT T (33 + i) v) n + updT T (33 + i) v (33 + n) + T (33 + i) = sumT T n + T (33 + n) + v
    by_cases q : i = n
    · subst q
      rw [upd_eq, sumT_ext i (fun j hj => upd_ne (by omega))]
      omega
    · rw [upd_ne (by omega)]
      have := sumT_upd (T := T) (v := v) n i (by omega)
      omega
theorem insp_0 {T : Tn} {i : Nat} : inspT T i 0 = T 0 := by
  unfold inspT
  split
  · rw [upd_ne (by omega), upd_ne (by omega), upd_ne (by omega), upd_ne (by omega)]
  · rfl
theorem wf_insp {B i : Nat} {T : Tn} (hw : wfT B T) (hi : i < T 0) : wfT (B + 1) (inspT T i) := by
  unfold inspT
  split
  · have b := hw.2.2.1 i hi
    have w1 : wfT B (updT T (27 + i) 0) := wf_bed hw hi (Or.inr (Or.inr ⟨rfl, by omega⟩))
    have w2 : wfT B (updT (updT T (27 + i) 0) (21 + i) 9) := wf_bed (i := i) w1 (by rw [upd_ne (by omega)]; exact hi) (Or.inr (Or.inl ⟨rfl, by omega⟩))
    generalize hU : updT (updT T (27 + i) 0) (21 + i) 9 = U at w2
    have e33 : U (33 + i) = T (33 + i) := by rw [← hU, upd_ne (by omega), upd_ne (by omega)]
    have e2 : U 2 = T 2 := by rw [← hU, upd_ne (by omega), upd_ne (by omega)]
    have eU0 : U 0 = T 0 := by rw [← hU, upd_ne (by omega), upd_ne (by omega)]
    obtain ⟨h0, h1, h2, h3, h4, h5⟩ := w2
    have e0 : updT (updT U (33 + i) (T (33 + i) + 1)) 2 (T 2 + 1) 0 = U 0 := by rw [upd_ne (by omega), upd_ne (by omega)]
    refine ⟨by rw [e0]; exact h0, by rw [upd_ne (by omega), upd_ne (by omega)]; omega, fun j hj => ?_, fun m hm => by rw [upd_ne (by omega), upd_ne (by omega)]; exact h3 m hm, by rw [upd_ne (by omega), upd_ne (by omega)]; exact h4, ?_⟩
    · rw [e0] at hj
      obtain ⟨c1, c2, c3, c4, c5, c6⟩ := h2 j hj
      refine ⟨?_, ?_, ?_, ?_, ?_, ?_⟩
      · rw [upd_ne (by omega), upd_ne (by omega)]; exact c1
      · rw [upd_ne (by omega), upd_ne (by omega)]; exact c2
      · rw [upd_ne (by omega), upd_ne (by omega)]; exact c3
      · rw [upd_ne (by omega), upd_ne (by omega)]; exact c4
      · rw [upd_ne (by omega), upd_ne (by omega)]; exact c5
      · rw [upd_ne (by omega)]; unfold updT; split <;> omega
    · rw [e0, upd_eq]
      have s1 : sumT (updT (updT U (33 + i) (T (33 + i) + 1)) 2 (T 2 + 1)) (U 0) = sumT (updT U (33 + i) (T (33 + i) + 1)) (U 0) := sumT_ext _ (fun j hj => upd_ne (by omega))
      rw [s1]
      have s2 := sumT_upd (T := U) (v := T (33 + i) + 1) (U 0) i (by omega)
      omega
  · exact wf_mono (by omega) hw
/-! ===== the class's town: what happens ===== -/
section CTD
variable {σ : Mem} {k i B : Nat} {T : Tn}
theorem C_thin {v : Nat} (hk : Tw k) (h : CT σ k T) (hw : wfT B T) (hi : i < T 0) (hv : v ≤ 10) : F_X7_thinBed k (nI i) (nI v) σ = some (setI σ (k + 5) i (nI (T (21 + i) - v))) := by
  have b := hw.2.2.1 i hi
  have h6 := hw.1
  unfold F_X7_thinBed
  rw [tR_4 hk, ob_some, ob_some, hk.rd (o := 5) (by decide) (by decide) (by omega), ob_some, (h.2.2.2.2 i hi).2.2.2.1]
  have e : (if (0 : Int32) < (nI (T (21 + i)) - nI v) then (nI (T (21 + i)) - nI v) else (0 : Int32)) = nI (T (21 + i) - v) := by
    by_cases q : v < T (21 + i)
    · rw [if_pos ((over_lt0 (by omega) (by omega)).mpr q), pk_sub (by omega)]
    · rw [if_neg (fun z => q ((over_lt0 (by omega) (by omega)).mp z)), show T (21 + i) - v = 0 by omega]
      rfl
  rw [e, hk.wr (o := 5) (by decide) (by decide) (by omega), ob_some]
theorem crossT_le (hw : wfT B T) (hi : i < T 0) {m : Nat} : crossT T i m ≤ 19 := by
  have b := hw.2.2.1 i hi
  exact crN_le (gapT_le b.2.1 b.2.2.1) (hw.2.2.2.1 _ (Nat.mod_lt _ (by decide)))
theorem C_sleep (hk : Tw k) (h : CT σ k T) (hw : wfT B T) (hB : B ≤ 100000) (hi : i < T 0) : ∃ σ', F_X7_sleepIn k (nI i) σ = some (nI (crossT T i (T 1)), σ') ∧ CT σ' k (sleepT T i) ∧ FrK k σ σ' := by
  have b := hw.2.2.1 i hi
  have h6 := hw.1
  have h4 : T 1 % 4 < 4 := Nat.mod_lt _ (by decide)
  have hm : T 1 ≤ 100000 := Nat.le_trans hw.2.1 hB
  have hc := crossT_le hw hi (m := T 1)
  have w1 : wfT B (updT T (27 + i) (min 99 (T (27 + i) + crossT T i (T 1)))) := wf_bed hw hi (Or.inr (Or.inr ⟨rfl, Nat.min_le_left _ _⟩))
  have c1 := h.set (o := 6) (v := min 99 (T (27 + i) + crossT T i (T 1))) h6 hi (by decide) (by decide) (b := 27 + i) (by omega)
  have e : (if (nI (T (27 + i)) + nI (crossT T i (T 1))) < (99 : Int32) then (nI (T (27 + i)) + nI (crossT T i (T 1))) else (99 : Int32)) = nI (min 99 (T (27 + i) + crossT T i (T 1))) := by
    rw [nI_add]
    have e9 : (nI (T (27 + i) + crossT T i (T 1)) < (99 : Int32)) ↔ T (27 + i) + crossT T i (T 1) < 99 := nI_ltI (b := 99) (by omega) (by decide)
    by_cases q : T (27 + i) + crossT T i (T 1) < 99
    · rw [if_pos (e9.mpr q), Nat.min_eq_right (by omega)]
    · rw [if_neg (fun z => q (e9.mp z)), Nat.min_eq_left (by omega)]
      rfl
  have e3 : (nI (crossT T i (T 1)) < (3 : Int32)) ↔ crossT T i (T 1) < 3 := nI_ltI (b := 3) (by omega) (by decide)
  unfold F_X7_sleepIn
  rw [C_kind hk h hw hi, ob_some, C_gap hk h hw hi hi, ob_some, C_thick hk h hw hi, ob_some, tI_9 hk, ob_some, ob_some, h.2.1, C_cold hk h hm, ob_some, C_crossing b.1 (gapT_le b.2.1 b.2.2.1) b.2.2.2.1 hm (hw.2.2.2.1 _ h4), ob_some, tR_5 hk, ob_some, C_lies hk h hw hi, ob_some]
  change ∃ σ', ((F_X8_write (k + 6) (nI i) (if (nI (T (27 + i)) + nI (crossT T i (T 1))) < (99 : Int32) then (nI (T (27 + i)) + nI (crossT T i (T 1))) else (99 : Int32)) σ).bind fun q19 => if nI (crossT T i (T 1)) < (3 : Int32) then some (nI (crossT T i (T 1)), q19) else (F_X7_thinBed k (nI i) (1 : Int32) q19).bind fun q22 => some (nI (crossT T i (T 1)), q22)) = some (nI (crossT T i (T 1)), σ') ∧ _
  rw [e, hk.wr (o := 6) (by decide) (by decide) (by omega), ob_some]
  unfold sleepT
  by_cases q : 3 ≤ crossT T i (T 1)
  · rw [if_neg (fun z => by have := e3.mp z; omega), if_pos q]
    have e1 : (1 : Int32) = nI 1 := rfl
    rw [e1, C_thin hk c1 w1 (by rw [upd_ne (by omega)]; exact hi) (by decide), ob_some, upd_ne (by omega)]
    refine ⟨_, rfl, ?_, (FrK.set (by omega) (by omega)).tr (FrK.set (by omega) (by omega))⟩
    exact c1.set (o := 5) (by rw [upd_ne (by omega)]; exact h6) (by rw [upd_ne (by omega)]; exact hi) (by decide) (by decide) (by omega)
  · rw [if_pos (e3.mpr (by omega)), if_neg q]
    exact ⟨_, rfl, c1, FrK.set (by omega) (by omega)⟩
theorem C_pass (hk : Tw k) (h : CT σ k T) (hw : wfT B T) (hB : B ≤ 100000) : ∃ σ', F_X7_passNight k σ = some (nI (passS T (T 0)), σ') ∧ CT σ' k (passT T) ∧ FrK k σ σ' := by
  have h6 := hw.1
  have key : ∃ t, F_X7_passNight k σ = some t ∧ (t.1 = nI (passS T (T 0)) ∧ CT t.2 k (passT T) ∧ FrK k σ t.2) := by
    unfold F_X7_passNight F_X7_passNight_4
    refine lp_inv (Q := fun t : Int32 × Mem => t.1 = nI (passS T (T 0)) ∧ CT t.2 k (passT T) ∧ FrK k σ t.2) (fun j (s : Int32 × Int32 × Mem) => s.1 = nI (passS T j) ∧ s.2.1 = nI j ∧ CT s.2.2 k (passL T j) ∧ FrK k σ s.2.2) (T 0) ?_ ?_ _ ⟨rfl, rfl, h, FrK.rf⟩
    · intro j s hj ⟨h1, h2, h3, h4⟩
      have hw2 := wf_passL hw j (by omega)
      obtain ⟨σ', g1, g2, g3⟩ := C_sleep hk h3 hw2 hB (i := j) (by rw [passL_0]; exact hj)
      refine ⟨(nI (passS T (j + 1)), nI (j + 1), σ'), ?_, rfl, rfl, g2, h4.tr g3⟩
      rw [tI_8 hk, ob_some, h3.1, passL_0, h2, if_neg (nI_ge hj (by omega)), g1, ob_some, h1, nI_add, nI_1]
      rfl
    · intro s ⟨h1, h2, h3, h4⟩
      refine ⟨(s.1, setI s.2.2 k 9 (nI (T 1 + 1))), ?_, h1, ?_, h4.tr (FrK.set (by omega) (by omega))⟩
      · rw [tI_8 hk, ob_some, h3.1, passL_0, h2, if_pos (nI_le (Nat.le_refl _) (by omega)), tI_9 hk, ob_some, tP_9 hk, ob_some, h3.2.1, passL_1, nI_1]
      · exact h3.night
  obtain ⟨t, h1, h2, h3, h4⟩ := key
  exact ⟨t.2, by rw [← h2]; exact h1, h3, h4⟩
end CTD
end
section
/-! ===== copying rows; the class's other deeds ===== -/
def cpM (σ : Mem) (a b n : Nat) : Mem := (fun x y => if x = b then va_cpy (σ.1 a) (σ.1 b) 0 0 n y else σ.1 x y, σ.2)
theorem cp_at (σ : Mem) (a b n x y : Nat) : (cpM σ a b n).1 x y = if x = b then (if y < n then σ.1 a y else σ.1 b y) else σ.1 x y := by
  unfold cpM va_cpy
  dsimp only
  by_cases h : x = b
  · rw [if_pos h, if_pos h]
    by_cases q : y < n
    · rw [if_pos (by omega), if_pos q, show 0 + (y - 0) = y by omega]
    · rw [if_neg (by omega), if_neg q]
  · rw [if_neg h, if_neg h]
theorem cp_2 (σ : Mem) (a b n : Nat) : (cpM σ a b n).2 = σ.2 := rfl
theorem copyAll_eq {a b n : Nat} {σ : Mem} (ha : shp a = .inr (.inl n)) (hb : shp b = .inr (.inl n)) (hn : n ≤ 100000) (h1 : a < nW) (h2 : b < nW) : F_X8_copyAll a b σ = some (cpM σ a b n) := by
  unfold F_X8_copyAll
  rw [aN_eq h1 ha, ob_some, aN_eq h2 hb, ob_some]
  have e : (if nI n < nI n then nI n else nI n) = nI n := by split <;> rfl
  rw [e]
  unfold cpI
  rw [ha, hb]
  dsimp only
  have e0 : (0 : Int32).toInt = 0 := rfl
  rw [if_pos ⟨by rw [e0]; omega, by rw [e0]; omega, by rw [nI_toInt (by omega)]; omega, by rw [nI_toInt (by omega), e0]; omega, by rw [nI_toInt (by omega), e0]; omega, h1, h2⟩, ob_some, nI_clamp (by omega)]
  rfl
section CTE
variable {σ : Mem} {k i B : Nat} {T : Tn}
theorem cp_step {a b n : Nat} {σ : Mem} (ha : shp a = .inr (.inl n)) (hb : shp b = .inr (.inl n)) (hn : n ≤ 100000) (h1 : a < nW) (h2 : b < nW) : ∃ σ', F_X8_copyAll a b σ = some σ' ∧ (∀ y, y < n → σ'.1 b y = σ.1 a y) ∧ (∀ x y, x ≠ b → σ'.1 x y = σ.1 x y) ∧ σ'.2 = σ.2 := by
  refine ⟨_, copyAll_eq ha hb hn h1 h2, fun y hy => ?_, fun x y hx => ?_, rfl⟩
  · rw [cp_at, if_pos rfl, if_pos hy]
  · rw [cp_at, if_neg hx]
theorem C_copy {k2 : Nat} (hk : Tw k) (hk2 : Tw k2) (hd : k + 7 < k2 ∨ k2 + 7 < k) (h6 : T 0 ≤ 6) (h : CT σ k2 T) : ∃ σ', F_X7_copyFrom k k2 σ = some σ' ∧ CT σ' k T ∧ FrK k σ σ' := by
  have l1 := hk.lt
  have l2 := hk2.lt
  obtain ⟨σ1, r1, c1, n1, q1⟩ := cp_step (σ := σ) hk2.2.1 hk.2.1 (by decide) (by omega) (by omega)
  obtain ⟨σ2, r2, c2, n2, q2⟩ := cp_step (σ := σ1) hk2.2.2.1 hk.2.2.1 (by decide) (by omega) (by omega)
  obtain ⟨σ3, r3, c3, n3, q3⟩ := cp_step (σ := σ2) hk2.2.2.2.1 hk.2.2.2.1 (by decide) (by omega) (by omega)
  obtain ⟨σ4, r4, c4, n4, q4⟩ := cp_step (σ := σ3) hk2.2.2.2.2.1 hk.2.2.2.2.1 (by decide) (by omega) (by omega)
  obtain ⟨σ5, r5, c5, n5, q5⟩ := cp_step (σ := σ4) hk2.2.2.2.2.2.1 hk.2.2.2.2.2.1 (by decide) (by omega) (by omega)
  obtain ⟨σ6, r6, c6, n6, q6⟩ := cp_step (σ := σ5) hk2.2.2.2.2.2.2.1 hk.2.2.2.2.2.2.1 (by decide) (by omega) (by omega)
  obtain ⟨σ7, r7, c7, n7, q7⟩ := cp_step (σ := σ6) hk2.2.2.2.2.2.2.2.1 hk.2.2.2.2.2.2.2.1 (by decide) (by omega) (by omega)
  have hF : F_X7_copyFrom k k2 σ = some (setI (setI (setI σ7 k 7 (σ7.1 k2 7)) k 8 (σ7.1 k2 8)) k 9 (σ7.1 k2 9)) := by
    unfold F_X7_copyFrom
    rw [tR_0 hk2, ob_some, tR_0 hk, ob_some, r1, ob_some, tR_1 hk2, ob_some, tR_1 hk, ob_some, r2, ob_some, tR_2 hk2, ob_some, tR_2 hk, ob_some, r3, ob_some, tR_3 hk2, ob_some, tR_3 hk, ob_some, r4, ob_some, tR_4 hk2, ob_some, tR_4 hk, ob_some, r5, ob_some, tR_5 hk2, ob_some, tR_5 hk, ob_some, r6, ob_some, tR_6 hk2, ob_some, tR_6 hk, ob_some, r7, ob_some, tI_7 hk2, ob_some, tP_7 hk, ob_some, tI_8 hk2, ob_some, tP_8 hk, ob_some, tI_9 hk2, ob_some, tP_9 hk, ob_some]
    rw [setI_1, if_neg (by omega), setI_1, if_neg (by omega), setI_1, if_neg (by omega)]
  have out : ∀ x y, (x < k + 1 ∨ k + 7 < x) → σ7.1 x y = σ.1 x y := fun x y q => by
    rw [n7 x y (by omega), n6 x y (by omega), n5 x y (by omega), n4 x y (by omega), n3 x y (by omega), n2 x y (by omega), n1 x y (by omega)]
  refine ⟨_, hF, ?_, fun a b q => ?_, ?_⟩
  · obtain ⟨a0, a1, a2, a3, a4⟩ := h
    refine ⟨?_, ?_, fun q => ?_, fun m hm => ?_, fun j hj => ?_⟩
    · rw [setI_1, if_neg (by omega), setI_1, if_pos ⟨rfl, rfl⟩, out _ _ (by omega)]; exact a0
    · rw [setI_1, if_pos ⟨rfl, rfl⟩, out _ _ (by omega)]; exact a1
    · rw [setI_1, if_neg (by omega), setI_1, if_neg (by omega), setI_1, if_pos ⟨rfl, rfl⟩, out _ _ (by omega)]; exact a2 q
    · rw [setI_1, if_neg (by omega), setI_1, if_neg (by omega), setI_1, if_neg (by omega), n7 _ _ (by omega), n6 _ _ (by omega), n5 _ _ (by omega), n4 _ _ (by omega), n3 _ _ (by omega), n2 _ _ (by omega), c1 m hm]; exact a3 m hm
    · obtain ⟨b2, b3, b4, b5, b6, b7⟩ := a4 j hj
      have hj6 : j < 6 := by omega
      refine ⟨?_, ?_, ?_, ?_, ?_, ?_⟩ <;> rw [setI_1, if_neg (by omega), setI_1, if_neg (by omega), setI_1, if_neg (by omega)]
      · rw [n7 _ _ (by omega), n6 _ _ (by omega), n5 _ _ (by omega), n4 _ _ (by omega), n3 _ _ (by omega), c2 j hj6, n1 _ _ (by omega)]; exact b2
      · rw [n7 _ _ (by omega), n6 _ _ (by omega), n5 _ _ (by omega), n4 _ _ (by omega), c3 j hj6, n2 _ _ (by omega), n1 _ _ (by omega)]; exact b3
      · rw [n7 _ _ (by omega), n6 _ _ (by omega), n5 _ _ (by omega), c4 j hj6, n3 _ _ (by omega), n2 _ _ (by omega), n1 _ _ (by omega)]; exact b4
      · rw [n7 _ _ (by omega), n6 _ _ (by omega), c5 j hj6, n4 _ _ (by omega), n3 _ _ (by omega), n2 _ _ (by omega), n1 _ _ (by omega)]; exact b5
      · rw [n7 _ _ (by omega), c6 j hj6, n5 _ _ (by omega), n4 _ _ (by omega), n3 _ _ (by omega), n2 _ _ (by omega), n1 _ _ (by omega)]; exact b6
      · rw [c7 j hj6, n6 _ _ (by omega), n5 _ _ (by omega), n4 _ _ (by omega), n3 _ _ (by omega), n2 _ _ (by omega), n1 _ _ (by omega)]; exact b7
  · rw [setI_1, if_neg (by omega), setI_1, if_neg (by omega), setI_1, if_neg (by omega), out _ _ (by omega)]
  · show σ7.2 = σ.2
    rw [q7, q6, q5, q4, q3, q2, q1]
theorem C_insp (hk : Tw k) (h : CT σ k T) (hw : wfT B T) (hB : B ≤ 100000) (hi : i < T 0) : ∃ σ', F_X7_inspectBed k (nI i) σ = some (nI (inspS T i), σ') ∧ CT σ' k (inspT T i) ∧ FrK k σ σ' := by
  have b := hw.2.2.1 i hi
  have h6 := hw.1
  unfold F_X7_inspectBed
  rw [C_found hk h hw hi, ob_some]
  unfold inspS inspT
  by_cases q : T 43 ≤ T (27 + i)
  · rw [if_pos q, if_neg (by decide), if_pos q, if_pos q, C_lies hk h hw hi, ob_some, tR_5 hk, ob_some, hk.wr (o := 6) (by decide) (by decide) (by omega), ob_some, tR_4 hk, ob_some, hk.wr (o := 5) (by decide) (by decide) (by omega), ob_some, tR_6 hk, ob_some, ob_some, hk.rd (o := 7) (by decide) (by decide) (by omega), ob_some, hk.wr (o := 7) (by decide) (by decide) (by omega), ob_some]
    have c1 := h.set (o := 6) (v := 0) h6 hi (by decide) (by decide) (b := 27 + i) (by omega)
    have c2 := c1.set (o := 5) (i := i) (v := 9) (by rw [upd_ne (by omega)]; exact h6) (by rw [upd_ne (by omega)]; exact hi) (by decide) (by decide) (b := 21 + i) (by omega)
    have c3 := c2.set (o := 7) (i := i) (v := T (33 + i) + 1) (by rw [upd_ne (by omega), upd_ne (by omega)]; exact h6) (by rw [upd_ne (by omega), upd_ne (by omega)]; exact hi) (by decide) (by decide) (b := 33 + i) (by omega)
    refine ⟨_, rfl, ?_, ((FrK.set (by omega) (by omega)).tr (FrK.set (by omega) (by omega))).tr (FrK.set (by omega) (by omega))⟩
    have e : (setI (setI σ (k + 6) i (0 : Int32)) (k + 5) i (9 : Int32)).1 (k + 7) i + (1 : Int32) = nI (T (33 + i) + 1) := by
      rw [setI_1, if_neg (by omega), setI_1, if_neg (by omega), (h.2.2.2.2 i hi).2.2.2.2.2]
      exact nI_1 _
    rw [e]
    exact c3.fine
  · rw [if_neg q, if_pos rfl, if_neg q, if_neg q]
    exact ⟨σ, rfl, h, FrK.rf⟩
theorem C_inspno {x : Int32} (hk : Tw k) (h : CT σ k T) (hx : x < 0 ∨ nI (T 0) ≤ x) : F_X7_inspectBed k x σ = some (0, σ) := by
  unfold F_X7_inspectBed
  rw [C_foundno hk h hx, ob_some, if_pos rfl]
def swapT (T : Tn) (i j : Nat) : Tn := updT (updT T (15 + i) (T (15 + j))) (15 + j) (T (15 + i))
theorem wf_swap {j : Nat} (hw : wfT B T) (hi : i < T 0) (hj : j < T 0) : wfT B (swapT T i j) := by
  unfold swapT
  have b := hw.2.2.1 i hi
  have b2 := hw.2.2.1 j hj
  exact wf_bed (i := j) (wf_bed hw hi (Or.inl ⟨rfl, b2.2.2.1⟩)) (by rw [upd_ne (by omega)]; exact hj) (Or.inl ⟨rfl, b.2.2.1⟩)
theorem C_swap {j : Nat} (hk : Tw k) (h : CT σ k T) (hw : wfT B T) (hi : i < T 0) (hj : j < T 0) : ∃ σ', F_X7_swapRights k (nI i) (nI j) σ = some σ' ∧ CT σ' k (swapT T i j) ∧ FrK k σ σ' := by
  have h6 := hw.1
  unfold F_X7_swapRights swapT
  rw [tR_3 hk, ob_some, hk.rd (o := 4) (by decide) (by decide) (by omega), ob_some, ob_some, ob_some, hk.rd (o := 4) (by decide) (by decide) (by omega), ob_some, hk.wr (o := 4) (by decide) (by decide) (by omega), ob_some, ob_some, hk.wr (o := 4) (by decide) (by decide) (by omega), ob_some]
  rw [(h.2.2.2.2 i hi).2.2.1, (h.2.2.2.2 j hj).2.2.1]
  have c1 := h.set (o := 4) (v := T (15 + j)) h6 hi (by decide) (by decide) (b := 15 + i) (by omega)
  have c2 := c1.set (o := 4) (i := j) (v := T (15 + i)) (by rw [upd_ne (by omega)]; exact h6) (by rw [upd_ne (by omega)]; exact hj) (by decide) (by decide) (b := 15 + j) (by omega)
  exact ⟨_, rfl, c2, (FrK.set (by omega) (by omega)).tr (FrK.set (by omega) (by omega))⟩
/-- nights for one bed alone -/
def aloneT (T : Tn) (i : Nat) : Nat → Tn
  | 0 => T
  | n + 1 => updT (sleepT (aloneT T i n) i) 1 ((aloneT T i n) 1 + 1)
theorem alone_0 (T : Tn) (i : Nat) : ∀ n, aloneT T i n 0 = T 0
  | 0 => rfl
  | n + 1 => by
    show updT _ 1 _ 0 = _
    rw [upd_ne (by omega), sleep_0, alone_0 T i n]
theorem wf_alone (hw : wfT B T) (hi : i < T 0) : ∀ n, wfT (B + n) (aloneT T i n)
  | 0 => hw
  | n + 1 => by
    have w := wf_alone hw hi n
    have w2 := wf_sleep w (by rw [alone_0]; exact hi)
    exact wf_night (wf_mono (by omega) w2) (by have := w.2.1; omega)
theorem C_alone {n : Nat} (hk : Tw k) (h : CT σ k T) (hw : wfT B T) (hB : B + n ≤ 100000) (hi : i < T 0) : ∃ σ', F_X7_passAlone k (nI i) (nI n) σ = some σ' ∧ CT σ' k (aloneT T i n) ∧ FrK k σ σ' := by
  unfold F_X7_passAlone F_X7_passAlone_2
  refine lp_inv (Q := fun t : Mem => CT t k (aloneT T i n) ∧ FrK k σ t) (fun j (s : Int32 × Mem) => s.1 = nI j ∧ CT s.2 k (aloneT T i j) ∧ FrK k σ s.2) n ?_ ?_ _ ⟨rfl, h, FrK.rf⟩
  · intro j s hj ⟨h1, h2, h3⟩
    obtain ⟨σ', g1, g2, g3⟩ := C_sleep hk h2 (wf_alone hw hi j) (by omega) (i := i) (by rw [alone_0]; exact hi)
    refine ⟨(nI (j + 1), setI σ' k 9 (nI ((aloneT T i j) 1 + 1))), ?_, rfl, g2.night, (h3.tr g3).tr (FrK.set (by omega) (by omega))⟩
    rw [h1, if_neg (nI_ge hj (by omega)), g1, ob_some, tI_9 hk, ob_some, tP_9 hk, ob_some]
    dsimp only
    rw [g2.2.1, sleep_1, nI_1, nI_1]
  · intro s ⟨h1, h2, h3⟩
    exact ⟨s.2, by rw [h1, if_pos (nI_le (Nat.le_refl _) (by omega))], h2, h3⟩
end CTE
end
section
/-! ===== the reference's town ===== -/
theorem ix_3 {f i : Nat} : (nI f + (3 : Int32)) + nI i = nI (f + (3 + i)) := by
  rw [show (3 : Int32) = nI 3 from rfl, nI_add, nI_add, Nat.add_assoc]
theorem ix_9 {f i : Nat} : (nI f + (9 : Int32)) + nI i = nI (f + (9 + i)) := by
  rw [show (9 : Int32) = nI 9 from rfl, nI_add, nI_add, Nat.add_assoc]
theorem ix_15 {f i : Nat} : (nI f + (15 : Int32)) + nI i = nI (f + (15 + i)) := by
  rw [show (15 : Int32) = nI 15 from rfl, nI_add, nI_add, Nat.add_assoc]
theorem ix_21 {f i : Nat} : (nI f + (21 : Int32)) + nI i = nI (f + (21 + i)) := by
  rw [show (21 : Int32) = nI 21 from rfl, nI_add, nI_add, Nat.add_assoc]
theorem ix_27 {f i : Nat} : (nI f + (27 : Int32)) + nI i = nI (f + (27 + i)) := by
  rw [show (27 : Int32) = nI 27 from rfl, nI_add, nI_add, Nat.add_assoc]
theorem ix_33 {f i : Nat} : (nI f + (33 : Int32)) + nI i = nI (f + (33 + i)) := by
  rw [show (33 : Int32) = nI 33 from rfl, nI_add, nI_add, Nat.add_assoc]
theorem iy_0 {f : Nat} : nI f + (0 : Int32) = nI (f + 0) := by
  rw [show (0 : Int32) = nI 0 from rfl, nI_add]
theorem iy_1 {f : Nat} : nI f + (1 : Int32) = nI (f + 1) := by
  rw [show (1 : Int32) = nI 1 from rfl, nI_add]
theorem iy_2 {f : Nat} : nI f + (2 : Int32) = nI (f + 2) := by
  rw [show (2 : Int32) = nI 2 from rfl, nI_add]
theorem iy_43 {f : Nat} : nI f + (43 : Int32) = nI (f + 43) := by
  rw [show (43 : Int32) = nI 43 from rfl, nI_add]
theorem iz_39 {m : Nat} : (39 : Int32) + nI m = nI (39 + m) := by
  rw [show (39 : Int32) = nI 39 from rfl, nI_add]
theorem wR : gR 9 0 134 = some 135 := rfl
theorem w_rd {j : Nat} {σ : Mem} (h : j < 7304) : aI 135 (nI j) σ = some (σ.1 135 j) := aI_eq sh_135 h (by decide)
theorem w_wr {j : Nat} {v : Int32} {σ : Mem} (h : j < 7304) : sI 135 (nI j) v σ = some (setI σ 135 j v) := sI_eq sh_135 h (by decide)
/-- the colds that all of the reference's towns go by -/
def COL (σ : Mem) (T : Tn) : Prop := ∀ m, m < 4 → σ.1 135 (39 + m) = nI (T (39 + m))
def FrM (f : Nat) (σ σ' : Mem) : Prop := (∀ a b, (a ≠ 135 ∨ b < f ∨ f + 44 ≤ b) → σ'.1 a b = σ.1 a b) ∧ σ'.2 = σ.2
theorem FrM.rf {f : Nat} {σ : Mem} : FrM f σ σ := ⟨fun _ _ _ => rfl, rfl⟩
theorem FrM.tr {f : Nat} {σ σ' σ'' : Mem} (h : FrM f σ σ') (h2 : FrM f σ' σ'') : FrM f σ σ'' := ⟨fun a b q => (h2.1 a b q).trans (h.1 a b q), h2.2.trans h.2⟩
theorem FrM.set {f j : Nat} {v : Int32} {σ : Mem} (h1 : j < 44) : FrM f σ (setI σ 135 (f + j) v) := ⟨fun x y q => by rw [setI_1, if_neg (by omega)], rfl⟩
theorem MT.set {σ : Mem} {f j v : Nat} {T : Tn} (h : MT σ f T) : MT (setI σ 135 (f + j) (nI v)) f (updT T j v) := by
  intro a ha
  rw [setI_1]
  unfold updT
  by_cases q : a = j
  · rw [if_pos ⟨rfl, by omega⟩, if_pos q]
  · rw [if_neg (by omega), if_neg q]
    exact h a ha
theorem MT.kept {σ σ' : Mem} {f : Nat} {T : Tn} (h : MT σ f T) (ho : ∀ b, f ≤ b → b < f + 44 → σ'.1 135 b = σ.1 135 b) : MT σ' f T := fun j hj => (ho _ (by omega) (by omega)).trans (h j hj)
theorem MT.ext {σ : Mem} {f : Nat} {T T' : Tn} (h : MT σ f T) (e : ∀ j, j < 44 → T' j = T j) : MT σ f T' := fun j hj => by rw [e j hj]; exact h j hj
theorem COL.set {σ : Mem} {f j : Nat} {v : Int32} {T : Tn} (h : COL σ T) (hf : f = 0 ∨ 44 ≤ f) (hj : j < 39) : COL (setI σ 135 (f + j) v) T := fun m hm => by
  rw [setI_1, if_neg (by omega)]
  exact h m hm
theorem COL.ext {σ : Mem} {T T' : Tn} (h : COL σ T) (e : ∀ m, m < 4 → T' (39 + m) = T (39 + m)) : COL σ T' := fun m hm => by rw [e m hm]; exact h m hm
theorem sleep_col {T : Tn} {i m : Nat} (hi : i < 6) : sleepT T i (39 + m) = T (39 + m) := by
  unfold sleepT
  split
  · rw [upd_ne (by omega), upd_ne (by omega)]
  · rw [upd_ne (by omega)]
theorem passL_col {T : Tn} {m : Nat} : ∀ n, n ≤ 6 → passL T n (39 + m) = T (39 + m)
  | 0, _ => rfl
  | n + 1, h => (sleep_col (by omega)).trans (passL_col n (by omega))
section MTR
variable {σ : Mem} {f i B : Nat} {T : Tn}
theorem M_gap (h : MT σ f T) (hf : f + 44 ≤ 7304) (hw : wfT B T) (hi : i < T 0) : F_X9_gapIn 134 (nI f) (nI i) σ = some (nI (gapT T i i)) := by
  have b := hw.2.2.1 i hi
  have h6 := hw.1
  unfold F_X9_gapIn
  rw [wR, ob_some, ix_9, w_rd (by omega), ob_some, ob_some, ix_15, w_rd (by omega), ob_some, h _ (by omega), h _ (by omega), off_eq b.2.1 b.2.2.1, ob_some]
  rfl
theorem M_crossBy {kd th gap m c : Nat} (hc : σ.1 135 (39 + m % 4) = nI c) (h1 : kd < 6) (h2 : th ≤ 9) (h3 : gap ≤ 9) (h4 : m ≤ 100000) (h5 : c ≤ 9) : F_X9_crossBy 134 (nI kd) (nI th) (nI gap) (nI m) σ = some (nI (crN kd gap th m c)) := by
  have hb := barN_le (kind := kd) h2
  have hm4 : m % 4 < 4 := Nat.mod_lt _ (by decide)
  unfold F_X9_crossBy
  rw [wR, ob_some, rem4 h4, iz_39, w_rd (by omega), ob_some, hc, M_bar h1 h2, ob_some, nI_add]
  by_cases q : barN kd th ≤ gap + c
  · rw [if_pos ((over_le0 (by omega) (by omega)).mpr q), pk_sub q, M_crossBy_tail h1 h4 (by omega)]
    rfl
  · rw [if_neg (fun z => q ((over_le0 (by omega) (by omega)).mp z)), show (0 : Int32) = nI (gap + c - barN kd th) by rw [show gap + c - barN kd th = 0 by omega]; rfl, M_crossBy_tail h1 h4 (by omega)]
    rfl
theorem M_crossIn (h : MT σ f T) (hC : COL σ T) (hf : f + 44 ≤ 7304) (hw : wfT B T) (hB : B ≤ 100000) (hi : i < T 0) : F_X9_crossIn 134 (nI f) (nI i) σ = some (nI (crossT T i (T 1))) := by
  have b := hw.2.2.1 i hi
  have h6 := hw.1
  have h4 : T 1 % 4 < 4 := Nat.mod_lt _ (by decide)
  have hm : T 1 ≤ 100000 := Nat.le_trans hw.2.1 hB
  unfold F_X9_crossIn
  rw [wR, ob_some, ix_3, w_rd (by omega), ob_some, ob_some, ix_21, w_rd (by omega), ob_some, M_gap h hf hw hi, ob_some, ob_some, iy_1, w_rd (by omega), ob_some, h _ (by omega), h _ (by omega), h 1 (by decide), M_crossBy (hC _ h4) b.1 b.2.2.2.1 (gapT_le b.2.1 b.2.2.1) hm (hw.2.2.2.1 _ h4), ob_some]
  rfl
theorem M_due (h : MT σ f T) (hf : f + 44 ≤ 7304) (hw : wfT B T) (hi : i < T 0) : F_X9_isDue 134 (nI f) (nI i) σ = some (if T 43 ≤ T (27 + i) then 1 else 0) := by
  have b := hw.2.2.1 i hi
  have b2 := hw.2.2.2.2.1
  have h6 := hw.1
  unfold F_X9_isDue
  rw [wR, ob_some, ix_27, w_rd (by omega), ob_some, ob_some, iy_43, w_rd (by omega), ob_some, h _ (by omega), h 43 (by decide)]
  by_cases q : T 43 ≤ T (27 + i)
  · rw [if_neg (nI_nlt q (by omega)), if_pos q]
  · rw [if_pos (nI_lt (by omega) (by omega)), if_neg q]
theorem M_insp (h : MT σ f T) (hf : f + 44 ≤ 7304) (hw : wfT B T) (hi : i < T 0) : ∃ σ', F_X9_inspects 134 (nI f) (nI i) σ = some (nI (inspS T i), σ') ∧ MT σ' f (inspT T i) ∧ FrM f σ σ' := by
  have b := hw.2.2.1 i hi
  have h6 := hw.1
  unfold F_X9_inspects
  rw [M_due h hf hw hi, ob_some]
  unfold inspS inspT
  by_cases q : T 43 ≤ T (27 + i)
  · rw [if_pos q, if_neg (by decide), if_pos q, if_pos q, wR, ob_some, ix_27, w_rd (by omega), ob_some, ob_some, w_wr (by omega), ob_some, ob_some, ix_21, w_wr (by omega), ob_some, ob_some, ix_33, w_rd (by omega), ob_some, w_wr (by omega), ob_some, ob_some, iy_2, w_rd (by omega), ob_some, w_wr (by omega), ob_some, h _ (by omega)]
    have m1 : MT (setI σ 135 (f + (27 + i)) (nI 0)) f (updT T (27 + i) 0) := h.set
    have m2 : MT (setI (setI σ 135 (f + (27 + i)) (nI 0)) 135 (f + (21 + i)) (nI 9)) f (updT (updT T (27 + i) 0) (21 + i) 9) := m1.set
    have e1 : (setI (setI σ 135 (f + (27 + i)) (0 : Int32)) 135 (f + (21 + i)) (9 : Int32)).1 135 (f + (33 + i)) + (1 : Int32) = nI (T (33 + i) + 1) := by
      rw [setI_1, if_neg (by omega), setI_1, if_neg (by omega), h _ (by omega)]
      exact nI_1 _
    rw [e1]
    have m3 := m2.set (j := 33 + i) (v := T (33 + i) + 1)
    have e2 : (setI (setI (setI σ 135 (f + (27 + i)) (0 : Int32)) 135 (f + (21 + i)) (9 : Int32)) 135 (f + (33 + i)) (nI (T (33 + i) + 1))).1 135 (f + 2) + (1 : Int32) = nI (T 2 + 1) := by
      rw [setI_1, if_neg (by omega), setI_1, if_neg (by omega), setI_1, if_neg (by omega), h _ (by omega)]
      exact nI_1 _
    rw [e2]
    exact ⟨_, rfl, m3.set, (((FrM.set (by omega)).tr (FrM.set (by omega))).tr (FrM.set (by omega))).tr (FrM.set (by decide))⟩
  · rw [if_neg q, if_pos rfl, if_neg q, if_neg q]
    exact ⟨σ, rfl, h, FrM.rf⟩
/-- one bed's night, as the reference writes it -/
theorem M_sleep (h : MT σ f T) (hC : COL σ T) (hf : f + 44 ≤ 7304) (hf0 : f = 0 ∨ 44 ≤ f) (hw : wfT B T) (hi : i < T 0) {x : Int32} : ∃ σ', (if (nI (T (27 + i)) + nI (crossT T i (T 1))) ≤ (99 : Int32) then F_X9_passes_64 134 (nI f) x (nI i) (nI (crossT T i (T 1))) (nI (T (27 + i)) + nI (crossT T i (T 1))) (nI (f + (27 + i))) 135 σ else F_X9_passes_64 134 (nI f) x (nI i) (nI (crossT T i (T 1))) (99 : Int32) (nI (f + (27 + i))) 135 σ) = some (.inl (x + nI (crossT T i (T 1)), nI i + (1 : Int32), σ')) ∧ MT σ' f (sleepT T i) ∧ COL σ' T ∧ FrM f σ σ' := by
  have b := hw.2.2.1 i hi
  have h6 := hw.1
  have hc := crossT_le hw hi (m := T 1)
  have e3 : (nI (crossT T i (T 1)) < (3 : Int32)) ↔ crossT T i (T 1) < 3 := nI_ltI (b := 3) (by omega) (by decide)
  have e0 : (nI (T (21 + i)) ≤ (0 : Int32)) ↔ T (21 + i) ≤ 0 := nI_leI (b := 0) (by omega) (by decide)
  have e9 : (nI (T (27 + i) + crossT T i (T 1)) ≤ (99 : Int32)) ↔ T (27 + i) + crossT T i (T 1) ≤ 99 := nI_leI (b := 99) (by omega) (by decide)
  have key : ∀ v, v = min 99 (T (27 + i) + crossT T i (T 1)) → ∃ σ', F_X9_passes_64 134 (nI f) x (nI i) (nI (crossT T i (T 1))) (nI v) (nI (f + (27 + i))) 135 σ = some (.inl (x + nI (crossT T i (T 1)), nI i + (1 : Int32), σ')) ∧ MT σ' f (sleepT T i) ∧ COL σ' T ∧ FrM f σ σ' := by
    intro v hv
    have m1 : MT (setI σ 135 (f + (27 + i)) (nI v)) f (updT T (27 + i) v) := h.set
    have k1 : COL (setI σ 135 (f + (27 + i)) (nI v)) T := hC.set hf0 (by omega)
    have e21 : (setI σ 135 (f + (27 + i)) (nI v)).1 135 (f + (21 + i)) = nI (T (21 + i)) := by rw [setI_1, if_neg (by omega), h _ (by omega)]
    unfold F_X9_passes_64
    rw [w_wr (by omega), ob_some, wR, ob_some, ix_21, w_rd (by omega), ob_some, e21]
    unfold sleepT
    rw [← hv]
    by_cases q : crossT T i (T 1) < 3
    · rw [if_pos (e3.mpr q), if_neg (by omega)]
      unfold F_X9_passes_101 F_X9_passes_102
      rw [w_wr (by omega), ob_some, show nI (T (21 + i)) - (0 : Int32) = nI (T (21 + i)) from Int32.sub_zero _]
      refine ⟨_, rfl, MT.ext m1.set (fun j hj => ?_), k1.set hf0 (by omega), (FrM.set (by omega)).tr (FrM.set (by omega))⟩
      by_cases z : j = 21 + i
      · subst z; rw [upd_eq, upd_ne (by omega)]
      · rw [upd_ne z]
    · rw [if_neg (fun z => q (e3.mp z)), ob_some, w_rd (by omega), ob_some, e21, if_pos (show 3 ≤ crossT T i (T 1) by omega)]
      by_cases z : T (21 + i) ≤ 0
      · rw [if_pos (e0.mpr z)]
        unfold F_X9_passes_101 F_X9_passes_102
        rw [w_wr (by omega), ob_some, show nI (T (21 + i)) - (0 : Int32) = nI (T (21 + i) - 1) by rw [show T (21 + i) - 1 = T (21 + i) by omega]; exact Int32.sub_zero _]
        exact ⟨_, rfl, m1.set, k1.set hf0 (by omega), (FrM.set (by omega)).tr (FrM.set (by omega))⟩
      · rw [if_neg (fun y => z (e0.mp y))]
        unfold F_X9_passes_102
        rw [w_wr (by omega), ob_some, show nI (T (21 + i)) - (1 : Int32) = nI (T (21 + i) - 1) from pk_sub (b := 1) (by omega)]
        exact ⟨_, rfl, m1.set, k1.set hf0 (by omega), (FrM.set (by omega)).tr (FrM.set (by omega))⟩
  rw [nI_add]
  by_cases q : T (27 + i) + crossT T i (T 1) ≤ 99
  · rw [if_pos (e9.mpr q)]
    exact key _ (by omega)
  · rw [if_neg (fun z => q (e9.mp z))]
    exact key 99 (by omega)
theorem M_pass (h : MT σ f T) (hC : COL σ T) (hf : f + 44 ≤ 7304) (hf0 : f = 0 ∨ 44 ≤ f) (hw : wfT B T) (hB : B ≤ 100000) : ∃ σ', F_X9_passes 134 (nI f) σ = some (nI (passS T (T 0)), σ') ∧ MT σ' f (passT T) ∧ FrM f σ σ' := by
  have h6 := hw.1
  have key : ∃ t, F_X9_passes 134 (nI f) σ = some t ∧ (t.1 = nI (passS T (T 0)) ∧ MT t.2 f (passT T) ∧ FrM f σ t.2) := by
    unfold F_X9_passes F_X9_passes_4
    refine lp_inv (Q := fun t : Int32 × Mem => t.1 = nI (passS T (T 0)) ∧ MT t.2 f (passT T) ∧ FrM f σ t.2) (fun j (s : Int32 × Int32 × Mem) => s.1 = nI (passS T j) ∧ s.2.1 = nI j ∧ MT s.2.2 f (passL T j) ∧ COL s.2.2 T ∧ FrM f σ s.2.2) (T 0) ?_ ?_ _ ⟨rfl, rfl, h, hC, FrM.rf⟩
    · intro j s hj ⟨h1, h2, h3, h4, h5⟩
      have hw2 := wf_passL hw j (by omega)
      have hj2 : j < passL T j 0 := by rw [passL_0]; exact hj
      have hC2 : COL s.2.2 (passL T j) := h4.ext (fun m _ => passL_col j (by omega))
      obtain ⟨σ', g1, g2, g3, g4⟩ := M_sleep h3 hC2 hf hf0 hw2 hj2 (x := s.1)
      refine ⟨(nI (passS T (j + 1)), nI (j + 1), σ'), ?_, rfl, rfl, g2, g3.ext (fun m _ => (passL_col j (by omega)).symm), h5.tr g4⟩
      rw [wR, ob_some, iy_0, w_rd (by omega), ob_some, h3 0 (by decide), passL_0, h2, if_neg (nI_ge hj (by omega)), M_crossIn h3 hC2 hf hw2 hB hj2, ob_some, ob_some, ix_27, w_rd (by omega), ob_some, ob_some, h3 _ (by omega), g1, h1, nI_add, nI_1]
      rfl
    · intro s ⟨h1, h2, h3, h4, h5⟩
      refine ⟨(s.1, setI s.2.2 135 (f + 1) (nI (T 1 + 1))), ?_, h1, h3.set, h5.tr (FrM.set (by decide))⟩
      rw [wR, ob_some, iy_0, w_rd (by omega), ob_some, h3 0 (by decide), passL_0, h2, if_pos (nI_le (Nat.le_refl _) (by omega)), ob_some, iy_1, w_rd (by omega), ob_some, w_wr (by omega), ob_some, h3 1 (by decide), passL_1, nI_1]
  obtain ⟨t, h1, h2, h3, h4⟩ := key
  exact ⟨t.2, by rw [← h2]; exact h1, h3, h4⟩
end MTR
end
section
/-! ===== the class's shelves ===== -/
def Sf (b many room : Nat) : Prop := gR 6 1 b = some (b + 1) ∧ gR 6 2 b = some (b + 2) ∧ (∀ σ : Mem, gI 6 0 b σ = some (σ.1 b 0)) ∧ chk 6 b = some () ∧ shp (b + 1) = .inr (.inl many) ∧ shp (b + 2) = .inr (.inl (many * room)) ∧ b + 2 < nW ∧ many ≤ 6 ∧ room ≤ 60 ∧ 0 < many ∧ 0 < room
theorem sf_1 : Sf 1 6 40 := ⟨rfl, rfl, fun _ => rfl, rfl, rfl, rfl, by decide, by decide, by decide, by decide, by decide⟩
theorem sf_4 : Sf 4 4 60 := ⟨rfl, rfl, fun _ => rfl, rfl, rfl, rfl, by decide, by decide, by decide, by decide, by decide⟩
theorem sf_7 : Sf 7 3 40 := ⟨rfl, rfl, fun _ => rfl, rfl, rfl, rfl, by decide, by decide, by decide, by decide, by decide⟩
theorem m1_lt {n : Nat} : (-1 : Int32) < 0 := by decide
/-- a row's size is -1, or a number up to its room -/
def Sz (room : Nat) (x : Int32) (o : Option Nat) : Prop := match o with
  | none => x = -1
  | some n => x = nI n ∧ n ≤ room
theorem ixr {r m i : Nat} : (nI r * nI m) + nI i = nI (r * m + i) := by rw [pk_mul, nI_add]
theorem ix_lt {r many room i : Nat} (hr : r < many) (hi : i < room) : r * room + i < many * room := by
  have : (r + 1) * room ≤ many * room := Nat.mul_le_mul_right room hr
  rw [Nat.succ_mul] at this
  omega
section SHF
variable {b many room r n i : Nat} {σ : Mem} {x : Int32}
theorem S_numno (h : Sf b many room) (hx : x < 0 ∨ nI many ≤ x) : F_X6_isNumber b x σ = some 0 := by
  unfold F_X6_isNumber
  by_cases q : x < 0
  · rw [if_pos q]
  · rw [if_neg q, h.1, ob_some, aN_eq (by have := h.2.2.2.2.2.2.1; omega) h.2.2.2.2.1, ob_some, if_pos (hx.resolve_left q)]
theorem S_num (h : Sf b many room) (hr : r < many) : F_X6_isNumber b (nI r) σ = some 1 := by
  have h7 := h.2.2.2.2.2.2.2.1
  unfold F_X6_isNumber
  rw [if_neg (nI_pos (by omega)), h.1, ob_some, aN_eq (by have := h.2.2.2.2.2.2.1; omega) h.2.2.2.2.1, ob_some, if_neg (nI_ge hr (by omega))]
theorem S_size (h : Sf b many room) (hr : r < many) : F_X6_size b (nI r) σ = some (σ.1 (b + 1) r) := by
  have h7 := h.2.2.2.2.2.2.2.1
  unfold F_X6_size
  rw [if_neg (nI_pos (by omega)), h.1, ob_some, aN_eq (by have := h.2.2.2.2.2.2.1; omega) h.2.2.2.2.1, ob_some, if_neg (nI_ge hr (by omega)), ob_some, aI_eq h.2.2.2.2.1 hr (by omega), ob_some]
theorem S_stands (h : Sf b many room) (hr : r < many) : F_X6_stands b (nI r) σ = some (if σ.1 (b + 1) r < 0 then 0 else 1) := by
  unfold F_X6_stands
  rw [S_size h hr, ob_some]
  split <;> rfl
theorem S_get (h : Sf b many room) (hr : r < many) (hrm : σ.1 b 0 = nI room) (hs : σ.1 (b + 1) r = nI n) (hn : n ≤ room) (hi : i < n) : F_X6_get b (nI r) (nI i) σ = some (σ.1 (b + 2) (r * room + i)) := by
  obtain ⟨g1, g2, g3, g4, g5, g6, g7, g8, g9, g10, g11⟩ := h
  have h1 := ix_lt hr (show i < room by omega)
  have h2 : many * room ≤ 6 * 60 := Nat.mul_le_mul g8 g9
  unfold F_X6_get
  rw [if_neg (nI_pos (by omega)), S_size ⟨g1, g2, g3, g4, g5, g6, g7, g8, g9, g10, g11⟩ hr, ob_some, hs, if_neg (nI_ge hi (by omega)), g2, ob_some, g3, ob_some, hrm, ixr, rd_eq g7 g6 h1 (by omega), ob_some]
theorem S_set {v : Int32} (h : Sf b many room) (hr : r < many) (hrm : σ.1 b 0 = nI room) (hs : σ.1 (b + 1) r = nI n) (hn : n ≤ room) (hi : i < n) : F_X6_set b (nI r) (nI i) v σ = some (setI σ (b + 2) (r * room + i) v) := by
  obtain ⟨g1, g2, g3, g4, g5, g6, g7, g8, g9, g10, g11⟩ := h
  have h1 := ix_lt hr (show i < room by omega)
  have h2 : many * room ≤ 6 * 60 := Nat.mul_le_mul g8 g9
  unfold F_X6_set
  rw [if_neg (nI_pos (by omega)), S_size ⟨g1, g2, g3, g4, g5, g6, g7, g8, g9, g10, g11⟩ hr, ob_some, hs, if_neg (nI_ge hi (by omega)), g2, ob_some, g3, ob_some, hrm, ixr, wr_eq g7 g6 h1 (by omega), ob_some]
/-- some places of a row: whether they are there -/
theorem S_holds1 (h : Sf b many room) (hr : r < many) (hs : σ.1 (b + 1) r = nI n) (hn : n ≤ room) : F_X6_holds b (nI r) x 1 σ = some (if x < 0 ∨ nI n ≤ x then 0 else 1) := by
  have h9 := h.2.2.2.2.2.2.2.2.1
  unfold F_X6_holds
  by_cases q : x < 0
  · rw [if_pos q, if_pos (Or.inl q)]
  · rw [if_neg q, if_neg (by decide), S_size h hr, ob_some, hs]
    have e2 : (nI n - (1 : Int32)).toInt = (n : Int) - 1 := pk_sub_toInt (a := n) (b := 1) (by omega) (by decide)
    have e3 : (nI n - (1 : Int32)) < x ↔ nI n ≤ x := by
      rw [Int32.lt_iff_toInt_lt, Int32.le_iff_toInt_le, e2, nI_toInt (by omega)]
      omega
    by_cases z : nI n ≤ x
    · rw [if_pos (e3.mpr z), if_pos (show x < 0 ∨ nI n ≤ x from Or.inr z)]
    · rw [if_neg (fun y => z (e3.mp y)), if_neg (show ¬ (x < 0 ∨ nI n ≤ x) from fun y => y.elim q z)]
theorem S_remove (h : Sf b many room) (hr : r < many) : F_X6_remove b (nI r) σ = some (setI σ (b + 1) r (-1)) := by
  unfold F_X6_remove
  rw [h.1, ob_some, wr_eq (by have := h.2.2.2.2.2.2.1; omega) h.2.2.2.2.1 hr (by have := h.2.2.2.2.2.2.2.1; omega), ob_some]
/-- what making a row leaves -/
def FrS (b r room : Nat) (σ σ' : Mem) : Prop := (∀ x y, (x ≠ b + 1 ∨ y ≠ r) → (x ≠ b + 2 ∨ y < r * room ∨ r * room + room ≤ y) → σ'.1 x y = σ.1 x y) ∧ σ'.2 = σ.2
theorem S_make {v : Int32} (h : Sf b many room) (hr : r < many) (hrm : σ.1 b 0 = nI room) (hn : n ≤ room) : ∃ σ', F_X6_make b (nI r) (nI n) v σ = some σ' ∧ σ'.1 (b + 1) r = nI n ∧ (∀ i, i < n → σ'.1 (b + 2) (r * room + i) = v) ∧ FrS b r room σ σ' := by
  have h8 := h.2.2.2.2.2.2.2.1
  have h9 := h.2.2.2.2.2.2.2.2.1
  unfold F_X6_make
  rw [h.1, ob_some, h.2.2.1, ob_some, hrm]
  have e : (if nI room < nI n then nI room else nI n) = nI n := if_neg (nI_nlt hn (by omega))
  rw [e, wr_eq (by have := h.2.2.2.2.2.2.1; omega) h.2.2.2.2.1 hr (by omega), ob_some]
  unfold F_X6_make_19
  refine lp_inv (Q := fun t : Mem => t.1 (b + 1) r = nI n ∧ (∀ i, i < n → t.1 (b + 2) (r * room + i) = v) ∧ FrS b r room σ t) (fun j (s : Int32 × Mem) => s.1 = nI j ∧ s.2.1 (b + 1) r = nI n ∧ s.2.1 b 0 = nI room ∧ (∀ i, i < j → s.2.1 (b + 2) (r * room + i) = v) ∧ FrS b r room σ s.2) n ?_ ?_ _ ⟨rfl, ?_, ?_, fun i hi => absurd hi (Nat.not_lt_zero i), fun x y q _ => ?_, rfl⟩
  · intro j s hj ⟨a1, a2, a3, a4, a5⟩
    refine ⟨(nI (j + 1), setI s.2 (b + 2) (r * room + j) v), ?_, rfl, ?_, ?_, fun i hi => ?_, fun x y q1 q2 => ?_, ?_⟩
    · rw [a1, if_neg (nI_ge hj (by omega)), h.2.2.1, ob_some, a3, if_neg (nI_ge (show j < room by omega) (by omega)), S_set h hr a3 a2 hn hj, ob_some, nI_1]
    · rw [setI_1, if_neg (by omega)]; exact a2
    · rw [setI_1, if_neg (by omega)]; exact a3
    · rw [setI_1]
      by_cases z : i = j
      · subst z; rw [if_pos ⟨rfl, rfl⟩]
      · rw [if_neg (by omega)]; exact a4 i (by omega)
    · show (setI s.2 (b + 2) (r * room + j) v).1 x y = _
      rw [setI_1, if_neg (by omega)]; exact a5.1 x y q1 q2
    · exact a5.2
  · intro s ⟨a1, a2, a3, a4, a5⟩
    exact ⟨s.2, by rw [a1, if_pos (nI_le (Nat.le_refl _) (by omega))], a2, a4, a5⟩
  · rw [setI_1, if_pos ⟨rfl, rfl⟩]
  · rw [setI_1, if_neg (by omega)]; exact hrm
  · rw [setI_1, if_neg (by omega)]
end SHF
end
section
/-! ===== what both sides' cells mean: rows, texts, what is told, towns and deeds ===== -/
def thinT (T : Tn) (i : Nat) : Tn := updT T (21 + i) (T (21 + i) - 1)
def applyD (T : Tn) (c : Nat) : Tn := if c / 100 = 1 then inspT T (c / 10 % 10) else if c / 100 = 2 then thinT T (c / 10 % 10) else if c / 100 = 3 then swapT T (c / 10 % 10) (c % 10) else passT T
def runD (S : Tn) (ds : Nat → Nat) : Nat → Tn
  | 0 => S
  | n + 1 => applyD (runD S ds n) (ds n)
/-- a deed's number is one of these beds' -/
def okD (nb c : Nat) : Prop := (c = 0 ∧ 0 < nb) ∨ (∃ i, i < nb ∧ (c = 100 + 10 * i ∨ c = 200 + 10 * i)) ∨ ∃ i j, i < nb ∧ j < nb ∧ i ≠ j ∧ c = 300 + 10 * i + j
def CSh (σ : Mem) (b many room : Nat) (rs : Nat → Option Nat) (rv : Nat → Nat → Int32) : Prop := σ.1 b 0 = nI room ∧ ∀ r, r < many → match rs r with
  | none => σ.1 (b + 1) r = -1
  | some n => n ≤ room ∧ σ.1 (b + 1) r = nI n ∧ ∀ i, i < n → σ.1 (b + 2) (r * room + i) = rv r i
def MSh (σ : Mem) (ms mp many room : Nat) (rs : Nat → Option Nat) (rv : Nat → Nat → Int32) : Prop := ∀ r, r < many → match rs r with
  | none => σ.1 ms r = -1
  | some n => n ≤ room ∧ σ.1 ms r = nI n ∧ ∀ i, i < n → σ.1 mp (r * room + i) = rv r i
abbrev To : Type := Int32 × Int64 × Int64 × Int32 × (Nat → Int32)
def CTo (σ : Mem) (t : To) : Prop := σ.1 0 13 = t.1 ∧ σ.2 0 14 = t.2.1 ∧ σ.2 0 15 = t.2.2.1 ∧ σ.1 0 16 = t.2.2.2.1 ∧ ∀ f, f < 6 → σ.1 133 f = t.2.2.2.2 f
def MTo (σ : Mem) (t : To) : Prop := σ.1 134 10 = t.1 ∧ σ.2 134 11 = t.2.1 ∧ σ.2 134 12 = t.2.2.1 ∧ σ.1 134 8 = t.2.2.2.1 ∧ ∀ f, f < 6 → σ.1 142 f = t.2.2.2.2 f
/-- a town as it was read, deeds, kept deeds -/
abbrev De : Type := Tn × Nat × (Nat → Nat) × (Nat → Option Nat) × (Nat → Nat → Nat)
def okDe (D : De) : Prop := wfT 0 D.1 ∧ D.2.1 ≤ 40 ∧ (∀ d, d < D.2.1 → okD (D.1 0) (D.2.2.1 d)) ∧ (∀ k n, D.2.2.2.1 k = some n → n ≤ 40 ∧ 0 < D.1 0 ∧ ∀ d, d < n → okD (D.1 0) (D.2.2.2.2 k d)) ∧ (D.1 0 = 0 → D.2.1 = 0 ∧ ∀ m, m < 4 → D.1 (39 + m) = 0)
def CDe (σ : Mem) (D : De) : Prop := CT σ 10 D.1 ∧ CT σ 18 (runD D.1 D.2.2.1 D.2.1) ∧ σ.1 0 7 = nI D.2.1 ∧ (∀ d, d < D.2.1 → σ.1 34 d = nI (D.2.2.1 d)) ∧ CSh σ 7 3 40 D.2.2.2.1 (fun k d => nI (D.2.2.2.2 k d))
def MDe (σ : Mem) (D : De) : Prop := MT σ 0 (runD D.1 D.2.2.1 D.2.1) ∧ (∀ d, d < D.2.1 → MT σ (44 * (1 + d)) (runD D.1 D.2.2.1 d)) ∧ σ.1 134 1 = nI D.2.1 ∧ ∀ k, k < 3 → match D.2.2.2.1 k with
  | none => σ.1 136 k = -1
  | some n => σ.1 136 k = nI n ∧ MT σ (1804 * (1 + k)) (runD D.1 (D.2.2.2.2 k) n) ∧ ∀ d, d < n → MT σ (1804 * (1 + k) + 44 * (1 + d)) (runD D.1 (D.2.2.2.2 k) d)
/-- the abstract state: rows, texts, told, deeds -/
abbrev Ab : Type := ((Nat → Option Nat) × (Nat → Nat → Int32)) × ((Nat → Option Nat) × (Nat → Nat → Int32)) × To × De
def RC (A : Ab) (σ : Mem) : Prop := CSh σ 1 6 40 A.1.1 A.1.2 ∧ CSh σ 4 4 60 A.2.1.1 A.2.1.2 ∧ CTo σ A.2.2.1 ∧ CDe σ A.2.2.2
def RM (A : Ab) (σ : Mem) : Prop := MSh σ 138 137 6 40 A.1.1 A.1.2 ∧ MSh σ 140 139 4 60 A.2.1.1 A.2.1.2 ∧ MTo σ A.2.2.1 ∧ MDe σ A.2.2.2
/-- the reader's draft: no night, nothing lying, nothing found -/
def Dr (σ : Mem) : Prop := σ.1 36 9 = nI 0 ∧ ∀ j, j < 6 → σ.1 42 j = nI 0 ∧ σ.1 43 j = nI 0
def Inv (σ : Mem) : Prop := (∃ A : Ab, okDe A.2.2.2 ∧ RC A σ ∧ RM A σ) ∧ Dr σ
/-- the class leaves the reference's cells, the reference the class's -/
def FC (σ σ' : Mem) : Prop := (∀ a b, (134 ≤ a ∨ (a = 36 ∧ b = 9) ∨ a = 42 ∨ a = 43) → σ'.1 a b = σ.1 a b) ∧ ∀ a b, 134 ≤ a → σ'.2 a b = σ.2 a b
def FM (σ σ' : Mem) : Prop := (∀ a b, a < 134 → σ'.1 a b = σ.1 a b) ∧ ∀ a b, a < 134 → σ'.2 a b = σ.2 a b
theorem FC.rf {σ : Mem} : FC σ σ := ⟨fun _ _ _ => rfl, fun _ _ _ => rfl⟩
theorem FM.rf {σ : Mem} : FM σ σ := ⟨fun _ _ _ => rfl, fun _ _ _ => rfl⟩
theorem FC.tr {σ σ' σ'' : Mem} (h : FC σ σ') (h2 : FC σ' σ'') : FC σ σ'' := ⟨fun a b q => (h2.1 a b q).trans (h.1 a b q), fun a b q => (h2.2 a b q).trans (h.2 a b q)⟩
theorem FM.tr {σ σ' σ'' : Mem} (h : FM σ σ') (h2 : FM σ' σ'') : FM σ σ'' := ⟨fun a b q => (h2.1 a b q).trans (h.1 a b q), fun a b q => (h2.2 a b q).trans (h.2 a b q)⟩
theorem FC.set {σ : Mem} {k j : Nat} {v : Int32} (h : k < 134) (h2 : k < 36 ∨ 43 < k := by decide) : FC σ (setI σ k j v) := ⟨fun a b q => by rw [setI_1, if_neg (by omega)], fun _ _ _ => rfl⟩
theorem FM.set {σ : Mem} {k j : Nat} {v : Int32} (h : 134 ≤ k) : FM σ (setI σ k j v) := ⟨fun a b q => by rw [setI_1, if_neg (by omega)], fun _ _ _ => rfl⟩
/-! each part rests on its own cells -/
theorem CSh.kept {σ σ' : Mem} {b many room : Nat} {rs : Nat → Option Nat} {rv : Nat → Nat → Int32} (h : CSh σ b many room rs rv) (ho : ∀ a j, b ≤ a → a ≤ b + 2 → σ'.1 a j = σ.1 a j) : CSh σ' b many room rs rv := by
  refine ⟨(ho _ _ (Nat.le_refl _) (by omega)).trans h.1, fun r hr => ?_⟩
  have h2 := h.2 r hr
  cases e : rs r with
  | none => rw [e] at h2; exact (ho _ _ (by omega) (by omega)).trans h2
  | some n =>
    rw [e] at h2
    exact ⟨h2.1, (ho _ _ (by omega) (by omega)).trans h2.2.1, fun i hi => (ho _ _ (by omega) (by omega)).trans (h2.2.2 i hi)⟩
theorem MSh.kept {σ σ' : Mem} {ms mp many room : Nat} {rs : Nat → Option Nat} {rv : Nat → Nat → Int32} (h : MSh σ ms mp many room rs rv) (ho : ∀ a j, a = ms ∨ a = mp → σ'.1 a j = σ.1 a j) : MSh σ' ms mp many room rs rv := by
  intro r hr
  have h2 := h r hr
  cases e : rs r with
  | none => rw [e] at h2; exact (ho _ _ (Or.inl rfl)).trans h2
  | some n =>
    rw [e] at h2
    exact ⟨h2.1, (ho _ _ (Or.inl rfl)).trans h2.2.1, fun i hi => (ho _ _ (Or.inr rfl)).trans (h2.2.2 i hi)⟩
theorem CTo.kept {σ σ' : Mem} {t : To} (h : CTo σ t) (h1 : σ'.1 0 13 = σ.1 0 13) (h2 : σ'.1 0 16 = σ.1 0 16) (h3 : ∀ f, σ'.1 133 f = σ.1 133 f) (h4 : ∀ j, σ'.2 0 j = σ.2 0 j) : CTo σ' t := ⟨h1.trans h.1, (h4 _).trans h.2.1, (h4 _).trans h.2.2.1, h2.trans h.2.2.2.1, fun f hf => (h3 f).trans (h.2.2.2.2 f hf)⟩
theorem MTo.kept {σ σ' : Mem} {t : To} (h : MTo σ t) (h1 : σ'.1 134 10 = σ.1 134 10) (h2 : σ'.1 134 8 = σ.1 134 8) (h3 : ∀ f, σ'.1 142 f = σ.1 142 f) (h4 : σ'.2 134 11 = σ.2 134 11) (h5 : σ'.2 134 12 = σ.2 134 12) : MTo σ' t := ⟨h1.trans h.1, h4.trans h.2.1, h5.trans h.2.2.1, h2.trans h.2.2.2.1, fun f hf => (h3 f).trans (h.2.2.2.2 f hf)⟩
theorem CDe.kept {σ σ' : Mem} {D : De} (h : CDe σ D) (h1 : σ'.1 0 7 = σ.1 0 7) (ho : ∀ a j, (7 ≤ a ∧ a ≤ 25) ∨ a = 34 → σ'.1 a j = σ.1 a j) : CDe σ' D :=
  ⟨h.1.kept (fun a b _ _ => ho a b (by omega)), h.2.1.kept (fun a b _ _ => ho a b (by omega)), h1.trans h.2.2.1, fun d hd => (ho _ _ (Or.inr rfl)).trans (h.2.2.2.1 d hd), h.2.2.2.2.kept (fun a b _ _ => ho a b (by omega))⟩
theorem MDe.kept {σ σ' : Mem} {D : De} (h : MDe σ D) (h1 : σ'.1 134 1 = σ.1 134 1) (ho : ∀ a j, a = 135 ∨ a = 136 → σ'.1 a j = σ.1 a j) : MDe σ' D := by
  refine ⟨h.1.kept (fun b _ _ => ho _ b (Or.inl rfl)), fun d hd => (h.2.1 d hd).kept (fun b _ _ => ho _ b (Or.inl rfl)), h1.trans h.2.2.1, fun k hk => ?_⟩
  have h2 := h.2.2.2 k hk
  cases e : D.2.2.2.1 k with
  | none => rw [e] at h2; exact (ho _ _ (Or.inr rfl)).trans h2
  | some n =>
    rw [e] at h2
    exact ⟨(ho _ _ (Or.inr rfl)).trans h2.1, h2.2.1.kept (fun b _ _ => ho _ b (Or.inl rfl)), fun d hd => (h2.2.2 d hd).kept (fun b _ _ => ho _ b (Or.inl rfl))⟩
theorem RC.kept {A : Ab} {σ σ' : Mem} (h : RC A σ) (f : FM σ σ') : RC A σ' := ⟨h.1.kept (fun a j _ _ => f.1 a j (by omega)), h.2.1.kept (fun a j _ _ => f.1 a j (by omega)), h.2.2.1.kept (f.1 _ _ (by decide)) (f.1 _ _ (by decide)) (fun j => f.1 _ j (by decide)) (fun j => f.2 _ j (by decide)), h.2.2.2.kept (f.1 _ _ (by decide)) (fun a j q => f.1 a j (by omega))⟩
theorem RM.kept {A : Ab} {σ σ' : Mem} (h : RM A σ) (f : FC σ σ') : RM A σ' := ⟨h.1.kept (fun a j q => f.1 a j (by omega)), h.2.1.kept (fun a j q => f.1 a j (by omega)), h.2.2.1.kept (f.1 _ _ (by decide)) (f.1 _ _ (by decide)) (fun j => f.1 _ j (Or.inl (by decide))) (f.2 _ _ (by decide)) (f.2 _ _ (by decide)), h.2.2.2.kept (f.1 _ _ (by decide)) (fun a j q => f.1 a j (by omega))⟩
/-- what is owed of a call: from cells that mean A both sides answer alike, and their cells mean one thing again -/
def CAns {α : Type} (A : Ab) (F : Mem → Option (α × Mem)) (r : α) (A' : Ab) : Prop := ∀ σ, RC A σ → ∃ σ', F σ = some (r, σ') ∧ RC A' σ' ∧ FC σ σ'
def MAns {α : Type} (A : Ab) (F : Mem → Option (α × Mem)) (r : α) (A' : Ab) : Prop := ∀ σ, RM A σ → ∃ σ', F σ = some (r, σ') ∧ RM A' σ' ∧ FM σ σ'
def Sim {α : Type} (F G : Mem → Option (α × Mem)) : Prop := ∀ σ, Inv σ → ∃ q1 q2, F σ = some q1 ∧ G q1.2 = some q2 ∧ q1.1 = q2.1 ∧ Inv q2.2
theorem Dr.keptC {σ σ' : Mem} (h : Dr σ) (f : FC σ σ') : Dr σ' := ⟨(f.1 _ _ (by decide)).trans h.1, fun j hj => ⟨(f.1 _ _ (by omega)).trans (h.2 j hj).1, (f.1 _ _ (by omega)).trans (h.2 j hj).2⟩⟩
theorem Dr.keptM {σ σ' : Mem} (h : Dr σ) (f : FM σ σ') : Dr σ' := ⟨(f.1 _ _ (by decide)).trans h.1, fun j hj => ⟨(f.1 _ _ (by decide)).trans (h.2 j hj).1, (f.1 _ _ (by decide)).trans (h.2 j hj).2⟩⟩
theorem sim_of {α : Type} {F G : Mem → Option (α × Mem)} (h : ∀ A, okDe A.2.2.2 → ∃ r A', okDe A'.2.2.2 ∧ CAns A F r A' ∧ MAns A G r A') : Sim F G := by
  intro σ ⟨⟨A, hA, hC, hM⟩, hD⟩
  obtain ⟨r, A', hA', h1, h2⟩ := h A hA
  obtain ⟨σ1, e1, c1, f1⟩ := h1 σ hC
  obtain ⟨σ2, e2, m2, f2⟩ := h2 σ1 (hM.kept f1)
  exact ⟨(r, σ1), (r, σ2), e1, e2, rfl, ⟨A', hA', c1.kept f2, m2⟩, (hD.keptC f1).keptM f2⟩
/-- calls that change nothing -/
def SimP {α : Type} (F G : Mem → Option α) : Prop := ∀ σ, Inv σ → ∃ r, F σ = some r ∧ G σ = some r
/-! ===== refusals, tellings ===== -/
def foundA (A : Ab) (f : Nat) : Ab := (A.1, A.2.1, (A.2.2.1.1, A.2.2.1.2.1, A.2.2.1.2.2.1, nI f, fun x => if x = f then A.2.2.1.2.2.2.2 x + 1 else A.2.2.1.2.2.2.2 x), A.2.2.2)
def toldA (A : Ab) (v : Int32) : Ab := (A.1, A.2.1, (v, A.2.2.1.2.1, A.2.2.1.2.2.1, A.2.2.1.2.2.2.1, A.2.2.1.2.2.2.2), A.2.2.2)
theorem C_refuse {A : Ab} {f : Nat} (hf : f < 6) : CAns A (F_X8_refuse 0 (nI f)) (-3) (foundA A f) := by
  intro σ h
  have e : F_X8_refuse 0 (nI f) σ = some (-3, setI (setI σ 0 16 (nI f)) 133 f (σ.1 133 f + 1)) := by
    unfold F_X8_refuse
    rw [pI_0_16, ob_some, gR_0_17, ob_some, ob_some, rd_eq (by decide) sh_133 hf (by decide), ob_some, wr_eq (by decide) sh_133 hf (by decide), ob_some, setI_1, if_neg (by omega)]
  refine ⟨_, e, ⟨h.1.kept ?_, h.2.1.kept ?_, ⟨?_, ?_, ?_, ?_, fun x hx => ?_⟩, h.2.2.2.kept ?_ ?_⟩, (FC.set (by decide)).tr (FC.set (by decide))⟩
  · intro a j _ _; rw [setI_1, if_neg (by omega), setI_1, if_neg (by omega)]
  · intro a j _ _; rw [setI_1, if_neg (by omega), setI_1, if_neg (by omega)]
  · rw [setI_1, if_neg (by omega), setI_1, if_neg (by omega)]; exact h.2.2.1.1
  · exact h.2.2.1.2.1
  · exact h.2.2.1.2.2.1
  · rw [setI_1, if_neg (by omega), setI_1, if_pos ⟨rfl, rfl⟩]; rfl
  · show _ = if x = f then _ else _
    rw [setI_1]
    by_cases q : x = f
    · subst q; rw [if_pos ⟨rfl, rfl⟩, if_pos rfl, h.2.2.1.2.2.2.2 x hx]
    · rw [if_neg (by omega), if_neg q, setI_1, if_neg (by omega)]; exact h.2.2.1.2.2.2.2 x hx
  · rw [setI_1, if_neg (by omega), setI_1, if_neg (by omega)]
  · intro a j q; rw [setI_1, if_neg (by omega), setI_1, if_neg (by omega)]
theorem M_found {A : Ab} {f : Nat} (hf : f < 6) : MAns A (F_X9_found 134 (nI f)) (-3) (foundA A f) := by
  intro σ h
  have e : F_X9_found 134 (nI f) σ = some (-3, setI (setI σ 134 8 (nI f)) 142 f (σ.1 142 f + 1)) := by
    unfold F_X9_found
    rw [pI_134_8, ob_some, gR_134_9, ob_some, aI_eq sh_142 hf (by decide), ob_some, sI_eq sh_142 hf (by decide), ob_some, setI_1, if_neg (by omega)]
  refine ⟨_, e, ⟨h.1.kept ?_, h.2.1.kept ?_, ⟨?_, ?_, ?_, ?_, fun x hx => ?_⟩, h.2.2.2.kept ?_ ?_⟩, (FM.set (by decide)).tr (FM.set (by decide))⟩
  · intro a j q; rw [setI_1, if_neg (by omega), setI_1, if_neg (by omega)]
  · intro a j q; rw [setI_1, if_neg (by omega), setI_1, if_neg (by omega)]
  · rw [setI_1, if_neg (by omega), setI_1, if_neg (by omega)]; exact h.2.2.1.1
  · exact h.2.2.1.2.1
  · exact h.2.2.1.2.2.1
  · rw [setI_1, if_neg (by omega), setI_1, if_pos ⟨rfl, rfl⟩]; rfl
  · show _ = if x = f then _ else _
    rw [setI_1]
    by_cases q : x = f
    · subst q; rw [if_pos ⟨rfl, rfl⟩, if_pos rfl, h.2.2.1.2.2.2.2 x hx]
    · rw [if_neg (by omega), if_neg q, setI_1, if_neg (by omega)]; exact h.2.2.1.2.2.2.2 x hx
  · rw [setI_1, if_neg (by omega), setI_1, if_neg (by omega)]
  · intro a j q; rw [setI_1, if_neg (by omega), setI_1, if_neg (by omega)]
theorem C_tell {A : Ab} {v : Int32} : CAns A (F_X8_tell 0 v) 1 (toldA A v) := by
  intro σ h
  have e : F_X8_tell 0 v σ = some (1, setI σ 0 13 v) := by
    unfold F_X8_tell
    rw [pI_0_13, ob_some]
  refine ⟨_, e, ⟨h.1.kept ?_, h.2.1.kept ?_, ⟨?_, ?_, ?_, ?_, fun x hx => ?_⟩, h.2.2.2.kept ?_ ?_⟩, FC.set (by decide)⟩
  · intro a j _ _; rw [setI_1, if_neg (by omega)]
  · intro a j _ _; rw [setI_1, if_neg (by omega)]
  · rw [setI_1, if_pos ⟨rfl, rfl⟩]; rfl
  · exact h.2.2.1.2.1
  · exact h.2.2.1.2.2.1
  · rw [setI_1, if_neg (by omega)]; exact h.2.2.1.2.2.2.1
  · rw [setI_1, if_neg (by omega)]; exact h.2.2.1.2.2.2.2 x hx
  · rw [setI_1, if_neg (by omega)]
  · intro a j q; rw [setI_1, if_neg (by omega)]
theorem M_tells {A : Ab} {v r : Int32} : MAns A (F_X9_tells 134 v r) r (toldA A v) := by
  intro σ h
  have e : F_X9_tells 134 v r σ = some (r, setI σ 134 10 v) := by
    unfold F_X9_tells
    rw [pI_134_10, ob_some]
  refine ⟨_, e, ⟨h.1.kept ?_, h.2.1.kept ?_, ⟨?_, ?_, ?_, ?_, fun x hx => ?_⟩, h.2.2.2.kept ?_ ?_⟩, FM.set (by decide)⟩
  · intro a j q; rw [setI_1, if_neg (by omega)]
  · intro a j q; rw [setI_1, if_neg (by omega)]
  · rw [setI_1, if_pos ⟨rfl, rfl⟩]; rfl
  · exact h.2.2.1.2.1
  · exact h.2.2.1.2.2.1
  · rw [setI_1, if_neg (by omega)]; exact h.2.2.1.2.2.2.1
  · rw [setI_1, if_neg (by omega)]; exact h.2.2.1.2.2.2.2 x hx
  · rw [setI_1, if_neg (by omega)]
  · intro a j q; rw [setI_1, if_neg (by omega)]
/-! ===== asked, upper, lower, finding ===== -/
theorem sim_asked : SimP (F_X8_asked 0) (F_X9_asked 134) := by
  intro σ ⟨⟨A, _, hC, hM⟩, _⟩
  refine ⟨A.2.2.1.1, ?_, ?_⟩
  · unfold F_X8_asked; rw [gI_0_13, ob_some, hC.2.2.1.1]
  · unfold F_X9_asked; rw [gI_134_10, ob_some, hM.2.2.1.1]
theorem sim_upper : SimP (F_X8_upper 0) (F_X9_upper 134) := by
  intro σ ⟨⟨A, _, hC, hM⟩, _⟩
  refine ⟨A.2.2.1.2.1, ?_, ?_⟩
  · unfold F_X8_upper; rw [gL_0_14, ob_some, hC.2.2.1.2.1]
  · unfold F_X9_upper; rw [gL_134_11, ob_some, hM.2.2.1.2.1]
theorem sim_lower : SimP (F_X8_lower 0) (F_X9_lower 134) := by
  intro σ ⟨⟨A, _, hC, hM⟩, _⟩
  refine ⟨A.2.2.1.2.2.1, ?_, ?_⟩
  · unfold F_X8_lower; rw [gL_0_15, ob_some, hC.2.2.1.2.2.1]
  · unfold F_X9_lower; rw [gL_134_12, ob_some, hM.2.2.1.2.2.1]
theorem sim_finding : SimP (F_X8_finding 0) (F_X9_finding 134) := by
  intro σ ⟨⟨A, _, hC, hM⟩, _⟩
  refine ⟨A.2.2.1.2.2.2.1, ?_, ?_⟩
  · unfold F_X8_finding; rw [gI_0_16, ob_some, hC.2.2.1.2.2.2.1]
  · unfold F_X9_finding; rw [gI_134_8, ob_some, hM.2.2.1.2.2.2.1]
end
section
/-! ===== rows and texts: both sides ===== -/
theorem wide (x : Int32) : x.toInt64.toInt = x.toInt := Int32.toInt_toInt64 x
theorem cmp_lt0 (x y : Int64) : (lg_cmp x y) < 0 ↔ x < y := by
  have h := lg_cmp_ge x y
  rw [← Int32.not_le, h, Int64.not_le]
theorem cmp_gt0 (x y : Int64) : 0 < (lg_cmp x y) ↔ y < x := by
  unfold lg_cmp
  by_cases h : x > y
  · rw [if_pos h]
    exact ⟨fun _ => h, fun _ => by decide⟩
  · rw [if_neg h]
    refine ⟨fun q => ?_, fun q => absurd q h⟩
    split at q
    · exact absurd q (by decide)
    · exact absurd q (by decide)
theorem in_eq {x lo hi : Int64} {σ : Mem} : F_X9_in x lo hi σ = some (if lo.toInt ≤ x.toInt ∧ x.toInt ≤ hi.toInt then 1 else 0) := by
  unfold F_X9_in
  by_cases h : (lg_cmp x lo) < 0
  · rw [if_pos h, if_neg]
    rw [cmp_lt0, Int64.lt_iff_toInt_lt] at h
    omega
  · rw [if_neg h]
    rw [cmp_lt0, Int64.lt_iff_toInt_lt] at h
    by_cases h2 : 0 < (lg_cmp x hi)
    · rw [if_pos h2, if_neg]
      rw [cmp_gt0, Int64.lt_iff_toInt_lt] at h2
      omega
    · rw [if_neg h2, if_pos]
      rw [cmp_gt0, Int64.lt_iff_toInt_lt] at h2
      omega
theorem bz1 : bz 1 = some () := by decide
theorem bz0 : bz 0 = some () := by decide
theorem row_no {x : Int32} {σ : Mem} (h : x < 0 ∨ nI 6 ≤ x) : F_X9_isRow x σ = some 0 := by
  unfold F_X9_isRow
  rw [in_eq, if_neg, ob_some, bz0, ob_some]
  rw [wide]
  rw [Int32.lt_iff_toInt_lt, Int32.le_iff_toInt_le, nI_toInt (by decide)] at h
  have e0 : (0 : Int64).toInt = 0 := rfl
  have e5 : (5 : Int64).toInt = 5 := rfl
  have e00 : (0 : Int32).toInt = 0 := rfl
  omega
theorem row_yes {r : Nat} {σ : Mem} (h : r < 6) : F_X9_isRow (nI r) σ = some 1 := by
  unfold F_X9_isRow
  rw [in_eq, if_pos, ob_some, bz1, ob_some]
  rw [wide, nI_toInt (by omega)]
  have e0 : (0 : Int64).toInt = 0 := rfl
  have e5 : (5 : Int64).toInt = 5 := rfl
  omega
theorem text_no {x : Int32} {σ : Mem} (h : x < 0 ∨ nI 4 ≤ x) : F_X9_isText x σ = some 0 := by
  unfold F_X9_isText
  rw [in_eq, if_neg, ob_some, bz0, ob_some]
  rw [wide]
  rw [Int32.lt_iff_toInt_lt, Int32.le_iff_toInt_le, nI_toInt (by decide)] at h
  have e0 : (0 : Int64).toInt = 0 := rfl
  have e5 : (3 : Int64).toInt = 3 := rfl
  have e00 : (0 : Int32).toInt = 0 := rfl
  omega
theorem text_yes {r : Nat} {σ : Mem} (h : r < 4) : F_X9_isText (nI r) σ = some 1 := by
  unfold F_X9_isText
  rw [in_eq, if_pos, ob_some, bz1, ob_some]
  rw [wide, nI_toInt (by omega)]
  have e0 : (0 : Int64).toInt = 0 := rfl
  have e5 : (3 : Int64).toInt = 3 := rfl
  omega
def rowA (A : Ab) (r : Nat) (o : Option Nat) (f : Nat → Int32) : Ab := ((fun x => if x = r then o else A.1.1 x, fun x => if x = r then f else A.1.2 x), A.2)
def textA (A : Ab) (r : Nat) (o : Option Nat) (f : Nat → Int32) : Ab := (A.1, (fun x => if x = r then o else A.2.1.1 x, fun x => if x = r then f else A.2.1.2 x), A.2.2)
/-- a shelf of which one row is made anew -/
theorem CSh.make {σ σ' : Mem} {b many room r n : Nat} {rs : Nat → Option Nat} {rv : Nat → Nat → Int32} {f : Nat → Int32} (h : CSh σ b many room rs rv) (hr : r < many) (hn : n ≤ room) (h1 : σ'.1 (b + 1) r = nI n) (h2 : ∀ i, i < n → σ'.1 (b + 2) (r * room + i) = f i) (fr : FrS b r room σ σ') : CSh σ' b many room (fun x => if x = r then some n else rs x) (fun x => if x = r then f else rv x) := by
  refine ⟨(fr.1 _ _ (Or.inl (by omega)) (Or.inl (by omega))).trans h.1, fun x hx => ?_⟩
  by_cases q : x = r
  · subst q
    simp only [if_true]
    exact ⟨hn, h1, h2⟩
  · simp only [if_neg q]
    have h3 := h.2 x hx
    cases e : rs x with
    | none => rw [e] at h3; exact (fr.1 _ _ (Or.inr q) (Or.inl (by omega))).trans h3
    | some m =>
      rw [e] at h3
      refine ⟨h3.1, (fr.1 _ _ (Or.inr q) (Or.inl (by omega))).trans h3.2.1, fun i hi => ?_⟩
      refine (fr.1 _ _ (Or.inl (by omega)) (Or.inr ?_)).trans (h3.2.2 i hi)
      rcases Nat.lt_or_gt_of_ne q with z | z
      · have := Nat.mul_le_mul_right room (show x + 1 ≤ r from z)
        rw [Nat.succ_mul] at this
        have := h3.1
        omega
      · have := Nat.mul_le_mul_right room (show r + 1 ≤ x from z)
        rw [Nat.succ_mul] at this
        omega
theorem C_row {A : Ab} {r n : Nat} (hr : r < 6) (hn : n ≤ 40) : CAns A (F_X8_row 0 (nI r) (nI n)) (nI n) (rowA A r (some n) (fun _ => 0)) := by
  intro σ h
  obtain ⟨σ', e, e1, e2, fr⟩ := S_make (v := 0) sf_1 hr h.1.1 hn
  have hF : F_X8_row 0 (nI r) (nI n) σ = some (nI n, σ') := by
    unfold F_X8_row F_X8_makeAnew
    rw [gR_0_0, ob_some, ck_1, ob_some, S_num sf_1 hr, ob_some, if_neg (by decide), gI_1_0, ob_some, h.1.1, if_pos (nI_le hn (by decide)), if_pos (nI_pos' (by omega)), ob_some, e, ob_some, ob_some]
  have keep : ∀ a j, (a < 2 ∨ 3 < a) → σ'.1 a j = σ.1 a j := fun a j q => fr.1 a j (Or.inl (by omega)) (Or.inl (by omega))
  exact ⟨σ', hF, ⟨h.1.make hr hn e1 e2 fr, h.2.1.kept (fun a j _ _ => keep a j (by omega)), h.2.2.1.kept (keep _ _ (by decide)) (keep _ _ (by decide)) (fun f => keep _ _ (by decide)) (fun j => by rw [fr.2]), h.2.2.2.kept (keep _ _ (by decide)) (fun a j q => keep a j (by omega))⟩, fun a j q => keep a j (by omega), fun a j q => by rw [fr.2]⟩
theorem ix40 {r i : Nat} : ((40 : Int32) * nI r) + nI i = nI (r * 40 + i) := by
  rw [show (40 : Int32) = nI 40 from rfl, pk_mul, nI_add, Nat.mul_comm]
theorem ix60 {r i : Nat} : ((60 : Int32) * nI r) + nI i = nI (r * 60 + i) := by
  rw [show (60 : Int32) = nI 60 from rfl, pk_mul, nI_add, Nat.mul_comm]
theorem MSh.make {σ σ' : Mem} {ms mp many room r n : Nat} {rs : Nat → Option Nat} {rv : Nat → Nat → Int32} {f : Nat → Int32} (h : MSh σ ms mp many room rs rv) (hn : n ≤ room) (h1 : σ'.1 ms r = nI n) (h2 : ∀ i, i < n → σ'.1 mp (r * room + i) = f i) (k1 : ∀ x, x ≠ r → σ'.1 ms x = σ.1 ms x) (k2 : ∀ y, (y < r * room ∨ r * room + room ≤ y) → σ'.1 mp y = σ.1 mp y) : MSh σ' ms mp many room (fun x => if x = r then some n else rs x) (fun x => if x = r then f else rv x) := by
  intro x hx
  by_cases q : x = r
  · subst q
    simp only [if_true]
    exact ⟨hn, h1, h2⟩
  · simp only [if_neg q]
    have h3 := h x hx
    cases e : rs x with
    | none => rw [e] at h3; exact (k1 x q).trans h3
    | some m =>
      rw [e] at h3
      refine ⟨h3.1, (k1 x q).trans h3.2.1, fun i hi => (k2 _ ?_).trans (h3.2.2 i hi)⟩
      have h4 := h3.1
      rcases Nat.lt_or_gt_of_ne q with z | z
      · have := Nat.mul_le_mul_right room (show x + 1 ≤ r from z)
        rw [Nat.succ_mul] at this
        omega
      · have := Nat.mul_le_mul_right room (show r + 1 ≤ x from z)
        rw [Nat.succ_mul] at this
        omega
theorem M_anew {r n : Nat} {σ : Mem} (hr : r < 6) : ∃ σ', F_X9_anew 134 (nI r) (nI n) σ = some σ' ∧ σ'.1 138 r = nI n ∧ (∀ i, i < 40 → σ'.1 137 (r * 40 + i) = 0) ∧ (∀ x y, (x ≠ 138 ∨ y ≠ r) → (x ≠ 137 ∨ y < r * 40 ∨ r * 40 + 40 ≤ y) → σ'.1 x y = σ.1 x y) ∧ σ'.2 = σ.2 := by
  unfold F_X9_anew
  rw [gR_134_4, ob_some, sI_eq sh_138 hr (by decide), ob_some]
  unfold F_X9_anew_9
  refine lp_inv (Q := fun t : Mem => t.1 138 r = nI n ∧ (∀ i, i < 40 → t.1 137 (r * 40 + i) = 0) ∧ (∀ x y, (x ≠ 138 ∨ y ≠ r) → (x ≠ 137 ∨ y < r * 40 ∨ r * 40 + 40 ≤ y) → t.1 x y = σ.1 x y) ∧ t.2 = σ.2) (fun j (s : Int32 × Mem) => s.1 = nI j ∧ s.2.1 138 r = nI n ∧ (∀ i, i < j → s.2.1 137 (r * 40 + i) = 0) ∧ (∀ x y, (x ≠ 138 ∨ y ≠ r) → (x ≠ 137 ∨ y < r * 40 ∨ r * 40 + 40 ≤ y) → s.2.1 x y = σ.1 x y) ∧ s.2.2 = σ.2) 40 ?_ ?_ _ ⟨rfl, ?_, fun i hi => absurd hi (Nat.not_lt_zero i), fun x y q _ => ?_, rfl⟩
  · intro j s hj ⟨a1, a2, a3, a4, a5⟩
    have h40 : (40 : Int32) ≤ nI j ↔ 40 ≤ j := nI_leI (a := 40) (by decide) (by omega)
    refine ⟨(nI (j + 1), setI s.2 137 (r * 40 + j) 0), ?_, rfl, ?_, fun i hi => ?_, fun x y q1 q2 => ?_, a5⟩
    · rw [a1, if_neg (fun z => by have := h40.mp z; omega), gR_134_3, ob_some, ix40, sI_eq sh_137 (by omega) (by decide), ob_some, nI_1]
    · rw [setI_1, if_neg (by omega)]; exact a2
    · rw [setI_1]
      by_cases z : i = j
      · subst z; rw [if_pos ⟨rfl, rfl⟩]
      · rw [if_neg (by omega)]; exact a3 i (by omega)
    · show (setI s.2 137 (r * 40 + j) 0).1 x y = _
      rw [setI_1, if_neg (by omega)]; exact a4 x y q1 q2
  · intro s ⟨a1, a2, a3, a4, a5⟩
    have h40 : (40 : Int32) ≤ nI 40 := by decide
    exact ⟨s.2, by rw [a1, if_pos h40], a2, a3, a4, a5⟩
  · rw [setI_1, if_pos ⟨rfl, rfl⟩]
  · rw [setI_1, if_neg (by omega)]
theorem M_row {A : Ab} {r n : Nat} (hr : r < 6) (hn : n ≤ 40) : MAns A (F_X9_row 134 (nI r) (nI n)) (nI n) (rowA A r (some n) (fun _ => 0)) := by
  intro σ h
  obtain ⟨σ', e, e1, e2, fr, f2⟩ := M_anew (n := n) (σ := σ) hr
  have h40 : nI n ≤ (40 : Int32) := nI_le (b := 40) hn (by decide)
  have hF : F_X9_row 134 (nI r) (nI n) σ = some (nI n, σ') := by
    unfold F_X9_row
    rw [row_yes hr, ob_some, if_neg (by decide), if_pos h40, if_pos (nI_pos' (by omega)), e, ob_some]
  have keep : ∀ a j, (a < 137 ∨ 138 < a) → σ'.1 a j = σ.1 a j := fun a j q => fr a j (Or.inl (by omega)) (Or.inl (by omega))
  exact ⟨σ', hF, ⟨h.1.make hn e1 (fun i hi => e2 i (by omega)) (fun x q => fr _ _ (Or.inr q) (Or.inl (by decide))) (fun y q => fr _ _ (Or.inl (by decide)) (Or.inr q)), h.2.1.kept (fun a j q => keep a j (by omega)), h.2.2.1.kept (keep _ _ (by decide)) (keep _ _ (by decide)) (fun f => keep _ _ (by decide)) (by rw [f2]) (by rw [f2]), h.2.2.2.kept (keep _ _ (by decide)) (fun a j q => keep a j (by omega))⟩, fun a j q => keep a j (by omega), fun a j q => by rw [f2]⟩
/-- an answer that changes nothing -/
theorem C_same {A : Ab} {α : Type} {F : Mem → Option (α × Mem)} {r : α} (h : ∀ σ, RC A σ → F σ = some (r, σ)) : CAns A F r A := fun σ hσ => ⟨σ, h σ hσ, hσ, FC.rf⟩
theorem M_same {A : Ab} {α : Type} {F : Mem → Option (α × Mem)} {r : α} (h : ∀ σ, RM A σ → F σ = some (r, σ)) : MAns A F r A := fun σ hσ => ⟨σ, h σ hσ, hσ, FM.rf⟩
theorem sim_row (a b : Int32) : Sim (F_X8_row 0 a b) (F_X9_row 134 a b) := by
  refine sim_of fun A hA => ?_
  rcases pk_ix a (n := 6) (by decide) with ha | ha | ⟨r, hr, rfl⟩
  · refine ⟨-1, A, hA, C_same fun σ _ => ?_, M_same fun σ _ => ?_⟩
    · unfold F_X8_row F_X8_makeAnew
      rw [gR_0_0, ob_some, ck_1, ob_some, S_numno sf_1 (Or.inl ha), ob_some, if_pos rfl, ob_some]
    · unfold F_X9_row
      rw [row_no (Or.inl ha), ob_some, if_pos rfl]
  · refine ⟨-1, A, hA, C_same fun σ _ => ?_, M_same fun σ _ => ?_⟩
    · unfold F_X8_row F_X8_makeAnew
      rw [gR_0_0, ob_some, ck_1, ob_some, S_numno sf_1 (Or.inr ha), ob_some, if_pos rfl, ob_some]
    · unfold F_X9_row
      rw [row_no (Or.inr ha), ob_some, if_pos rfl]
  · by_cases hb : b ≤ nI 40
    · by_cases hb0 : b < 0
      · refine ⟨-3, foundA A 5, hA, ?_, ?_⟩
        · intro σ h
          obtain ⟨σ', e, h1, h2⟩ := C_refuse (A := A) (f := 5) (by decide) σ h
          have hn : ¬ (0 : Int32) ≤ b := Int32.not_le.mpr hb0
          refine ⟨σ', ?_, h1, h2⟩
          unfold F_X8_row F_X8_makeAnew
          rw [gR_0_0, ob_some, ck_1, ob_some, S_num sf_1 hr, ob_some, if_neg (by decide), gI_1_0, ob_some, h.1.1, if_pos hb, if_neg hn]
          have e' : F_X8_refuse 0 (5 : Int32) σ = some (-3, σ') := e
          rw [e', ob_some, ob_some]
        · intro σ h
          obtain ⟨σ', e, h1, h2⟩ := M_found (A := A) (f := 5) (by decide) σ h
          have hn : ¬ (0 : Int32) ≤ b := Int32.not_le.mpr hb0
          refine ⟨σ', ?_, h1, h2⟩
          have e' : F_X9_found 134 (5 : Int32) σ = some (-3, σ') := e
          unfold F_X9_row
          rw [row_yes hr, ob_some, if_neg (by decide), if_pos (show b ≤ (40 : Int32) from hb), if_neg hn, e', ob_some]
      · obtain ⟨n, hn, rfl⟩ := nI_of2 (M := nI 40) (n := 40) (by decide) hb0 hb
        exact ⟨nI n, rowA A r (some n) (fun _ => 0), hA, C_row hr hn, M_row hr hn⟩
    · refine ⟨-1, A, hA, C_same fun σ h => ?_, M_same fun σ _ => ?_⟩
      · unfold F_X8_row F_X8_makeAnew
        rw [gR_0_0, ob_some, ck_1, ob_some, S_num sf_1 hr, ob_some, if_neg (by decide), gI_1_0, ob_some, h.1.1, if_neg hb, ob_some]
      · unfold F_X9_row
        rw [row_yes hr, ob_some, if_neg (by decide), if_neg (show ¬ b ≤ (40 : Int32) from hb)]
end
section
theorem n10 : ¬ (-1 : Int32) = 0 := by decide
theorem n30 : ¬ (-3 : Int32) = 0 := by decide
section REF
variable {b many room r n : Nat} {σ σ' : Mem} {x : Int32}
theorem eta2 {α : Type} (o : Option (α × Mem)) : (o.bind fun q => some (q.1, q.2)) = o := by cases o <;> rfl
theorem Rm_no (h : Sf b many room) (hx : x < 0 ∨ nI many ≤ x) : F_X8_refusalOfMissing 0 b x σ = some (-1, σ) := by
  unfold F_X8_refusalOfMissing
  rw [h.2.2.2.1, ob_some, S_numno h hx, ob_some, if_pos rfl]
theorem Rm_none (h : Sf b many room) (hr : r < many) (hs : σ.1 (b + 1) r = -1) : F_X8_refusalOfMissing 0 b (nI r) σ = F_X8_refuse 0 (nI 1) σ := by
  unfold F_X8_refusalOfMissing
  rw [h.2.2.2.1, ob_some, S_num h hr, ob_some, if_neg (by decide), ob_some, S_stands h hr, ob_some, hs, if_pos (m1_lt (n := 0)), if_pos rfl]
  exact eta2 _
theorem Rm_some (h : Sf b many room) (hr : r < many) (hn : n ≤ room) (hs : σ.1 (b + 1) r = nI n) : F_X8_refusalOfMissing 0 b (nI r) σ = some (0, σ) := by
  have h9 := h.2.2.2.2.2.2.2.2.1
  unfold F_X8_refusalOfMissing
  rw [h.2.2.2.1, ob_some, S_num h hr, ob_some, if_neg (by decide), ob_some, S_stands h hr, ob_some, hs, if_neg (nI_pos (by omega)), if_neg (by decide)]
theorem Rp_no {y : Int32} (h : Sf b many room) (hx : x < 0 ∨ nI many ≤ x) : F_X8_refusalOfPlace 0 b x y σ = some (-1, σ) := by
  unfold F_X8_refusalOfPlace
  rw [Rm_no h hx, ob_some, if_neg n10]
theorem Rp_none {y : Int32} (h : Sf b many room) (hr : r < many) (hs : σ.1 (b + 1) r = -1) (e : F_X8_refuse 0 (nI 1) σ = some (-3, σ')) : F_X8_refusalOfPlace 0 b (nI r) y σ = some (-3, σ') := by
  unfold F_X8_refusalOfPlace
  rw [Rm_none h hr hs, e, ob_some, if_neg n30]
theorem Rp_out {y : Int32} (h : Sf b many room) (hr : r < many) (hn : n ≤ room) (hs : σ.1 (b + 1) r = nI n) (hy : y < 0 ∨ nI n ≤ y) (e : F_X8_refuse 0 (nI 2) σ = some (-3, σ')) : F_X8_refusalOfPlace 0 b (nI r) y σ = some (-3, σ') := by
  have e' : F_X8_refuse 0 (2 : Int32) σ = some (-3, σ') := e
  unfold F_X8_refusalOfPlace
  rw [Rm_some h hr hn hs, ob_some, if_pos rfl, h.2.2.2.1, ob_some, S_holds1 h hr hs hn, ob_some, if_pos hy, if_pos rfl, e', ob_some]
theorem Rp_in {i : Nat} (h : Sf b many room) (hr : r < many) (hn : n ≤ room) (hs : σ.1 (b + 1) r = nI n) (hi : i < n) : F_X8_refusalOfPlace 0 b (nI r) (nI i) σ = some (0, σ) := by
  have h9 := h.2.2.2.2.2.2.2.2.1
  unfold F_X8_refusalOfPlace
  rw [Rm_some h hr hn hs, ob_some, if_pos rfl, h.2.2.2.1, ob_some, S_holds1 h hr hs hn, ob_some, if_neg (show ¬ (nI i < 0 ∨ nI n ≤ nI i) from fun q => q.elim (nI_pos (by omega)) (nI_ge hi (by omega))), if_neg (by decide)]
end REF
/-- a shelf's row is missing -/
theorem CSh.gone {σ : Mem} {b many room r : Nat} {rs : Nat → Option Nat} {rv : Nat → Nat → Int32} {f : Nat → Int32} (h : CSh σ b many room rs rv) : CSh (setI σ (b + 1) r (-1)) b many room (fun x => if x = r then none else rs x) (fun x => if x = r then f else rv x) := by
  refine ⟨by rw [setI_1, if_neg (by omega)]; exact h.1, fun x hx => ?_⟩
  by_cases q : x = r
  · subst q
    simp only [if_true]
    rw [setI_1, if_pos ⟨rfl, rfl⟩]
  · simp only [if_neg q]
    have h3 := h.2 x hx
    cases e : rs x with
    | none => rw [e] at h3; exact (by rw [setI_1, if_neg (by omega)]; exact h3)
    | some m =>
      rw [e] at h3
      exact ⟨h3.1, by rw [setI_1, if_neg (by omega)]; exact h3.2.1, fun i hi => by rw [setI_1, if_neg (by omega)]; exact h3.2.2 i hi⟩
theorem MSh.gone {σ : Mem} {ms mp many room r : Nat} {rs : Nat → Option Nat} {rv : Nat → Nat → Int32} {f : Nat → Int32} (hne : ms ≠ mp) (h : MSh σ ms mp many room rs rv) : MSh (setI σ ms r (-1)) ms mp many room (fun x => if x = r then none else rs x) (fun x => if x = r then f else rv x) := by
  intro x hx
  by_cases q : x = r
  · subst q
    simp only [if_true]
    rw [setI_1, if_pos ⟨rfl, rfl⟩]
  · simp only [if_neg q]
    have h3 := h x hx
    cases e : rs x with
    | none => rw [e] at h3; exact (by rw [setI_1, if_neg (by omega)]; exact h3)
    | some m =>
      rw [e] at h3
      exact ⟨h3.1, by rw [setI_1, if_neg (by omega)]; exact h3.2.1, fun i hi => by rw [setI_1, if_neg (by omega)]; exact h3.2.2 i hi⟩
/-- one place of a row is another number -/
theorem CSh.put {σ : Mem} {b many room r n i : Nat} {v : Int32} {rs : Nat → Option Nat} {rv : Nat → Nat → Int32} (h : CSh σ b many room rs rv) (hs : rs r = some n) (hi : i < n) (hn : n ≤ room) : CSh (setI σ (b + 2) (r * room + i) v) b many room (fun x => if x = r then some n else rs x) (fun x => if x = r then (fun j => if j = i then v else rv r j) else rv x) := by
  refine ⟨by rw [setI_1, if_neg (by omega)]; exact h.1, fun x hx => ?_⟩
  have h3 := h.2 x hx
  by_cases q : x = r
  · subst q
    simp only [if_true]
    rw [hs] at h3
    refine ⟨h3.1, by rw [setI_1, if_neg (by omega)]; exact h3.2.1, fun j hj => ?_⟩
    rw [setI_1]
    by_cases z : j = i
    · subst z; rw [if_pos ⟨rfl, rfl⟩, if_pos rfl]
    · rw [if_neg (by omega), if_neg z]; exact h3.2.2 j hj
  · simp only [if_neg q]
    cases e : rs x with
    | none => rw [e] at h3; exact (by rw [setI_1, if_neg (by omega)]; exact h3)
    | some m =>
      rw [e] at h3
      refine ⟨h3.1, by rw [setI_1, if_neg (by omega)]; exact h3.2.1, fun j hj => ?_⟩
      rw [setI_1, if_neg]
      · exact h3.2.2 j hj
      · intro ⟨_, z⟩
        have h4 := h3.1
        rcases Nat.lt_or_gt_of_ne q with y | y
        · have := Nat.mul_le_mul_right room (show x + 1 ≤ r from y)
          rw [Nat.succ_mul] at this
          omega
        · have := Nat.mul_le_mul_right room (show r + 1 ≤ x from y)
          rw [Nat.succ_mul] at this
          omega
theorem MSh.put {σ : Mem} {ms mp many room r n i : Nat} {v : Int32} {rs : Nat → Option Nat} {rv : Nat → Nat → Int32} (hne : ms ≠ mp) (h : MSh σ ms mp many room rs rv) (hs : rs r = some n) (hi : i < n) (hn : n ≤ room) : MSh (setI σ mp (r * room + i) v) ms mp many room (fun x => if x = r then some n else rs x) (fun x => if x = r then (fun j => if j = i then v else rv r j) else rv x) := by
  intro x hx
  have h3 := h x hx
  by_cases q : x = r
  · subst q
    simp only [if_true]
    rw [hs] at h3
    refine ⟨h3.1, by rw [setI_1, if_neg (by omega)]; exact h3.2.1, fun j hj => ?_⟩
    rw [setI_1]
    by_cases z : j = i
    · subst z; rw [if_pos ⟨rfl, rfl⟩, if_pos rfl]
    · rw [if_neg (by omega), if_neg z]; exact h3.2.2 j hj
  · simp only [if_neg q]
    cases e : rs x with
    | none => rw [e] at h3; exact (by rw [setI_1, if_neg (by omega)]; exact h3)
    | some m =>
      rw [e] at h3
      refine ⟨h3.1, by rw [setI_1, if_neg (by omega)]; exact h3.2.1, fun j hj => ?_⟩
      rw [setI_1, if_neg]
      · exact h3.2.2 j hj
      · intro ⟨_, z⟩
        have h4 := h3.1
        rcases Nat.lt_or_gt_of_ne q with y | y
        · have := Nat.mul_le_mul_right room (show x + 1 ≤ r from y)
          rw [Nat.succ_mul] at this
          omega
        · have := Nat.mul_le_mul_right room (show r + 1 ≤ x from y)
          rw [Nat.succ_mul] at this
          omega
theorem CSh.row {σ : Mem} {b many room r n : Nat} {rs : Nat → Option Nat} {rv : Nat → Nat → Int32} (h : CSh σ b many room rs rv) (hr : r < many) (hs : rs r = some n) : n ≤ room ∧ σ.1 (b + 1) r = nI n ∧ ∀ i, i < n → σ.1 (b + 2) (r * room + i) = rv r i := by
  have h3 := h.2 r hr
  rw [hs] at h3
  exact h3
theorem CSh.no {σ : Mem} {b many room r : Nat} {rs : Nat → Option Nat} {rv : Nat → Nat → Int32} (h : CSh σ b many room rs rv) (hr : r < many) (hs : rs r = none) : σ.1 (b + 1) r = -1 := by
  have h3 := h.2 r hr
  rw [hs] at h3
  exact h3
theorem MSh.row {σ : Mem} {ms mp many room r n : Nat} {rs : Nat → Option Nat} {rv : Nat → Nat → Int32} (h : MSh σ ms mp many room rs rv) (hr : r < many) (hs : rs r = some n) : n ≤ room ∧ σ.1 ms r = nI n ∧ ∀ i, i < n → σ.1 mp (r * room + i) = rv r i := by
  have h3 := h r hr
  rw [hs] at h3
  exact h3
theorem MSh.no {σ : Mem} {ms mp many room r : Nat} {rs : Nat → Option Nat} {rv : Nat → Nat → Int32} (h : MSh σ ms mp many room rs rv) (hr : r < many) (hs : rs r = none) : σ.1 ms r = -1 := by
  have h3 := h r hr
  rw [hs] at h3
  exact h3
theorem nm1 : ¬ (0 : Int32) ≤ -1 := by decide
theorem sim_tear (a : Int32) : Sim (F_X8_tear 0 a) (F_X9_tear 134 a) := by
  refine sim_of fun A hA => ?_
  rcases (show (a < 0 ∨ nI 6 ≤ a) ∨ ∃ r, r < 6 ∧ a = nI r from (pk_ix a (n := 6) (by decide)).elim (fun h => Or.inl (Or.inl h)) (fun h => h.elim (fun h => Or.inl (Or.inr h)) Or.inr)) with ha | ⟨r, hr, rfl⟩
  · refine ⟨-1, A, hA, C_same fun σ _ => ?_, M_same fun σ _ => ?_⟩
    · unfold F_X8_tear
      rw [gR_0_0, ob_some, Rm_no sf_1 ha, ob_some, if_neg n10]
    · unfold F_X9_tear
      rw [row_no ha, ob_some, if_pos rfl]
  · cases hs : A.1.1 r with
    | none =>
      refine ⟨-3, foundA A 1, hA, fun σ h => ?_, fun σ h => ?_⟩
      · obtain ⟨σ', e, h1, h2⟩ := C_refuse (A := A) (f := 1) (by decide) σ h
        refine ⟨σ', ?_, h1, h2⟩
        unfold F_X8_tear
        rw [gR_0_0, ob_some, Rm_none sf_1 hr (h.1.no hr hs), e, ob_some, if_neg n30]
      · obtain ⟨σ', e, h1, h2⟩ := M_found (A := A) (f := 1) (by decide) σ h
        have e' : F_X9_found 134 (1 : Int32) σ = some (-3, σ') := e
        refine ⟨σ', ?_, h1, h2⟩
        unfold F_X9_tear
        rw [row_yes hr, ob_some, if_neg (by decide), gR_134_4, ob_some, aI_eq sh_138 hr (by decide), ob_some, h.1.no hr hs, if_neg nm1, e', ob_some]
    | some n =>
      refine ⟨1, rowA A r none (fun _ => 0), hA, fun σ h => ?_, fun σ h => ?_⟩
      · obtain ⟨hn, h1, h2⟩ := h.1.row hr hs
        refine ⟨setI σ 2 r (-1), ?_, ⟨h.1.gone, h.2.1.kept ?_, h.2.2.1.kept ?_ ?_ (fun f => ?_) (fun j => rfl), h.2.2.2.kept ?_ ?_⟩, FC.set (by decide)⟩
        · unfold F_X8_tear
          rw [gR_0_0, ob_some, Rm_some sf_1 hr hn h1, ob_some, if_pos rfl, ob_some, ck_1, ob_some, S_remove sf_1 hr, ob_some]
        · intro a j _ _; rw [setI_1, if_neg (by omega)]
        · rw [setI_1, if_neg (by omega)]
        · rw [setI_1, if_neg (by omega)]
        · rw [setI_1, if_neg (by omega)]
        · rw [setI_1, if_neg (by omega)]
        · intro a j q; rw [setI_1, if_neg (by omega)]
      · obtain ⟨hn, h1, h2⟩ := h.1.row hr hs
        refine ⟨setI σ 138 r (-1), ?_, ⟨h.1.gone (by decide), h.2.1.kept ?_, h.2.2.1.kept ?_ ?_ (fun f => ?_) rfl rfl, h.2.2.2.kept ?_ ?_⟩, FM.set (by decide)⟩
        · unfold F_X9_tear
          rw [row_yes hr, ob_some, if_neg (by decide), gR_134_4, ob_some, aI_eq sh_138 hr (by decide), ob_some, h1, if_pos (nI_pos' (by omega)), ob_some, sI_eq sh_138 hr (by decide), ob_some]
        · intro a j q; rw [setI_1, if_neg (by omega)]
        · rw [setI_1, if_neg (by omega)]
        · rw [setI_1, if_neg (by omega)]
        · rw [setI_1, if_neg (by omega)]
        · rw [setI_1, if_neg (by omega)]
        · intro a j q; rw [setI_1, if_neg (by omega)]
end
section
theorem ixc (a : Int32) {n : Nat} (hn : n < 2 ^ 31) : (a < 0 ∨ nI n ≤ a) ∨ ∃ r, r < n ∧ a = nI r := (pk_ix a hn).elim (fun h => Or.inl (Or.inl h)) (fun h => h.elim (fun h => Or.inl (Or.inr h)) Or.inr)
theorem in_row {n : Nat} {x : Int32} {σ : Mem} (hn : n ≤ 60) : F_X9_in x.toInt64 (0 : Int64) (nI n - (1 : Int32)).toInt64 σ = some (if x < 0 ∨ nI n ≤ x then 0 else 1) := by
  rw [in_eq, wide, wide]
  have e : (nI n - (1 : Int32)).toInt = (n : Int) - 1 := pk_sub_toInt (a := n) (b := 1) (by omega) (by decide)
  have e0 : (0 : Int64).toInt = 0 := rfl
  have e00 : (0 : Int32).toInt = 0 := rfl
  have h : (x < 0 ∨ nI n ≤ x) ↔ (x.toInt < 0 ∨ (n : Int) ≤ x.toInt) := by
    rw [Int32.lt_iff_toInt_lt, Int32.le_iff_toInt_le, nI_toInt (by omega), e00]
  by_cases q : x < 0 ∨ nI n ≤ x
  · rw [if_pos q, if_neg]
    rw [e, e0]
    have := h.mp q
    omega
  · rw [if_neg q, if_pos]
    rw [e, e0]
    have this : ¬ (x.toInt < 0 ∨ (n : Int) ≤ x.toInt) := fun z => q (h.mpr z)
    omega
theorem sim_at (a b : Int32) : Sim (F_X8_at 0 a b) (F_X9_at 134 a b) := by
  refine sim_of fun A hA => ?_
  rcases ixc a (n := 6) (by decide) with ha | ⟨r, hr, rfl⟩
  · refine ⟨-1, A, hA, C_same fun σ _ => ?_, M_same fun σ _ => ?_⟩
    · unfold F_X8_at
      rw [gR_0_0, ob_some, Rp_no sf_1 ha, ob_some, if_neg n10]
    · unfold F_X9_at
      rw [row_no ha, ob_some, if_pos rfl]
  · cases hs : A.1.1 r with
    | none =>
      refine ⟨-3, foundA A 1, hA, fun σ h => ?_, fun σ h => ?_⟩
      · obtain ⟨σ', e, h1, h2⟩ := C_refuse (A := A) (f := 1) (by decide) σ h
        refine ⟨σ', ?_, h1, h2⟩
        unfold F_X8_at
        rw [gR_0_0, ob_some, Rp_none sf_1 hr (h.1.no hr hs) e, ob_some, if_neg n30]
      · obtain ⟨σ', e, h1, h2⟩ := M_found (A := A) (f := 1) (by decide) σ h
        have e' : F_X9_found 134 (1 : Int32) σ = some (-3, σ') := e
        refine ⟨σ', ?_, h1, h2⟩
        unfold F_X9_at
        rw [row_yes hr, ob_some, if_neg (by decide), gR_134_4, ob_some, aI_eq sh_138 hr (by decide), ob_some, h.1.no hr hs, if_neg nm1, e', ob_some]
    | some n =>
      rcases Nat.lt_or_ge 40 n with hbig | hsm
      · exact ⟨-1, A, hA, fun σ h => absurd (h.1.row hr hs).1 (by omega), fun σ h => absurd (h.1.row hr hs).1 (by omega)⟩
      rcases ixc b (n := n) (by omega) with hb | ⟨i, hi, rfl⟩
      · refine ⟨-3, foundA A 2, hA, fun σ h => ?_, fun σ h => ?_⟩
        · obtain ⟨hn, g1, g2⟩ := h.1.row hr hs
          obtain ⟨σ', e, h1, h2⟩ := C_refuse (A := A) (f := 2) (by decide) σ h
          refine ⟨σ', ?_, h1, h2⟩
          unfold F_X8_at
          rw [gR_0_0, ob_some, Rp_out sf_1 hr hn g1 hb e, ob_some, if_neg n30]
        · obtain ⟨hn, g1, g2⟩ := h.1.row hr hs
          obtain ⟨σ', e, h1, h2⟩ := M_found (A := A) (f := 2) (by decide) σ h
          have e' : F_X9_found 134 (2 : Int32) σ = some (-3, σ') := e
          refine ⟨σ', ?_, h1, h2⟩
          unfold F_X9_at
          rw [row_yes hr, ob_some, if_neg (by decide), gR_134_4, ob_some, aI_eq sh_138 hr (by decide), ob_some, g1, if_pos (nI_pos' (by omega)), ob_some, aI_eq sh_138 hr (by decide), ob_some, g1, in_row (by omega), ob_some, if_pos hb, if_pos rfl, e', ob_some]
      · refine ⟨1, toldA A (A.1.2 r i), hA, fun σ h => ?_, fun σ h => ?_⟩
        · obtain ⟨hn, g1, g2⟩ := h.1.row hr hs
          obtain ⟨σ', e, h1, h2⟩ := C_tell (A := A) (v := A.1.2 r i) σ h
          refine ⟨σ', ?_, h1, h2⟩
          unfold F_X8_at
          rw [gR_0_0, ob_some, Rp_in sf_1 hr hn g1 hi, ob_some, if_pos rfl, ob_some, ck_1, ob_some, S_get sf_1 hr h.1.1 g1 hn hi, ob_some, g2 i hi, e, ob_some]
        · obtain ⟨hn, g1, g2⟩ := h.1.row hr hs
          obtain ⟨σ', e, h1, h2⟩ := M_tells (A := A) (v := A.1.2 r i) (r := 1) σ h
          refine ⟨σ', ?_, h1, h2⟩
          have hb : ¬ (nI i < 0 ∨ nI n ≤ nI i) := fun q => q.elim (nI_pos (by omega)) (nI_ge hi (by omega))
          unfold F_X9_at
          rw [row_yes hr, ob_some, if_neg (by decide), gR_134_4, ob_some, aI_eq sh_138 hr (by decide), ob_some, g1, if_pos (nI_pos' (by omega)), ob_some, aI_eq sh_138 hr (by decide), ob_some, g1, in_row (by omega), ob_some, if_neg hb, if_neg (by decide), gR_134_3, ob_some, ix40, aI_eq sh_137 (by omega) (by decide), ob_some, g2 i hi, e, ob_some]
end
section
section MAT
variable {A : Ab} {r n i : Nat} {x y : Int32}
theorem M_at_no (hx : x < 0 ∨ nI 6 ≤ x) : MAns A (F_X9_at 134 x y) (-1) A := M_same fun σ _ => by
  unfold F_X9_at
  rw [row_no hx, ob_some, if_pos rfl]
theorem M_at_none (hr : r < 6) (hs : A.1.1 r = none) : MAns A (F_X9_at 134 (nI r) y) (-3) (foundA A 1) := fun σ h => by
  obtain ⟨σ', e, h1, h2⟩ := M_found (A := A) (f := 1) (by decide) σ h
  have e' : F_X9_found 134 (1 : Int32) σ = some (-3, σ') := e
  refine ⟨σ', ?_, h1, h2⟩
  unfold F_X9_at
  rw [row_yes hr, ob_some, if_neg (by decide), gR_134_4, ob_some, aI_eq sh_138 hr (by decide), ob_some, h.1.no hr hs, if_neg nm1, e', ob_some]
theorem M_at_out (hr : r < 6) (hs : A.1.1 r = some n) (hy : y < 0 ∨ nI n ≤ y) : MAns A (F_X9_at 134 (nI r) y) (-3) (foundA A 2) := fun σ h => by
  obtain ⟨hn, g1, g2⟩ := h.1.row hr hs
  obtain ⟨σ', e, h1, h2⟩ := M_found (A := A) (f := 2) (by decide) σ h
  have e' : F_X9_found 134 (2 : Int32) σ = some (-3, σ') := e
  refine ⟨σ', ?_, h1, h2⟩
  unfold F_X9_at
  rw [row_yes hr, ob_some, if_neg (by decide), gR_134_4, ob_some, aI_eq sh_138 hr (by decide), ob_some, g1, if_pos (nI_pos' (by omega)), ob_some, aI_eq sh_138 hr (by decide), ob_some, g1, in_row (by omega), ob_some, if_pos hy, if_pos rfl, e', ob_some]
theorem M_at_in (hr : r < 6) (hs : A.1.1 r = some n) (hi : i < n) : MAns A (F_X9_at 134 (nI r) (nI i)) 1 (toldA A (A.1.2 r i)) := fun σ h => by
  obtain ⟨hn, g1, g2⟩ := h.1.row hr hs
  obtain ⟨σ', e, h1, h2⟩ := M_tells (A := A) (v := A.1.2 r i) (r := 1) σ h
  refine ⟨σ', ?_, h1, h2⟩
  have hb : ¬ (nI i < 0 ∨ nI n ≤ nI i) := fun q => q.elim (nI_pos (by omega)) (nI_ge hi (by omega))
  unfold F_X9_at
  rw [row_yes hr, ob_some, if_neg (by decide), gR_134_4, ob_some, aI_eq sh_138 hr (by decide), ob_some, g1, if_pos (nI_pos' (by omega)), ob_some, aI_eq sh_138 hr (by decide), ob_some, g1, in_row (by omega), ob_some, if_neg hb, if_neg (by decide), gR_134_3, ob_some, ix40, aI_eq sh_137 (by omega) (by decide), ob_some, g2 i hi, e, ob_some]
end MAT
theorem n11 : ¬ (-1 : Int32) = 1 := by decide
theorem n31 : ¬ (-3 : Int32) = 1 := by decide
theorem lay_ref {A A' : Ab} {x a b v : Int32} (hx : ¬ x = 1) (h : MAns A (F_X9_at 134 a b) x A') : MAns A (F_X9_lay 134 a b v) x A' := fun σ hσ => by
  obtain ⟨σ', e, h1, h2⟩ := h σ hσ
  refine ⟨σ', ?_, h1, h2⟩
  unfold F_X9_lay
  rw [e, ob_some, if_neg hx]
theorem sim_lay (a b v : Int32) : Sim (F_X8_lay 0 a b v) (F_X9_lay 134 a b v) := by
  refine sim_of fun A hA => ?_
  rcases ixc a (n := 6) (by decide) with ha | ⟨r, hr, rfl⟩
  · refine ⟨-1, A, hA, C_same fun σ _ => ?_, lay_ref n11 (M_at_no ha)⟩
    unfold F_X8_lay
    rw [gR_0_0, ob_some, Rp_no sf_1 ha, ob_some, if_neg n10]
  · cases hs : A.1.1 r with
    | none =>
      refine ⟨-3, foundA A 1, hA, fun σ h => ?_, lay_ref n31 (M_at_none hr hs)⟩
      obtain ⟨σ', e, h1, h2⟩ := C_refuse (A := A) (f := 1) (by decide) σ h
      refine ⟨σ', ?_, h1, h2⟩
      unfold F_X8_lay
      rw [gR_0_0, ob_some, Rp_none sf_1 hr (h.1.no hr hs) e, ob_some, if_neg n30]
    | some n =>
      rcases Nat.lt_or_ge 40 n with hbig | hsm
      · exact ⟨-1, A, hA, fun σ h => absurd (h.1.row hr hs).1 (by omega), fun σ h => absurd (h.1.row hr hs).1 (by omega)⟩
      rcases ixc b (n := n) (by omega) with hb | ⟨i, hi, rfl⟩
      · refine ⟨-3, foundA A 2, hA, fun σ h => ?_, lay_ref n31 (M_at_out hr hs hb)⟩
        obtain ⟨hn, g1, g2⟩ := h.1.row hr hs
        obtain ⟨σ', e, h1, h2⟩ := C_refuse (A := A) (f := 2) (by decide) σ h
        refine ⟨σ', ?_, h1, h2⟩
        unfold F_X8_lay
        rw [gR_0_0, ob_some, Rp_out sf_1 hr hn g1 hb e, ob_some, if_neg n30]
      · refine ⟨1, toldA (rowA A r (some n) (fun j => if j = i then v else A.1.2 r j)) (A.1.2 r i), hA, fun σ h => ?_, fun σ h => ?_⟩
        · obtain ⟨hn, g1, g2⟩ := h.1.row hr hs
          have h1 : RC (rowA A r (some n) (fun j => if j = i then v else A.1.2 r j)) (setI σ 3 (r * 40 + i) v) := ⟨h.1.put hs hi hn, h.2.1.kept (fun a j _ _ => by rw [setI_1, if_neg (by omega)]), h.2.2.1.kept (by rw [setI_1, if_neg (by omega)]) (by rw [setI_1, if_neg (by omega)]) (fun f => by rw [setI_1, if_neg (by omega)]) (fun _ => rfl), h.2.2.2.kept (by rw [setI_1, if_neg (by omega)]) (fun a j q => by rw [setI_1, if_neg (by omega)])⟩
          obtain ⟨σ', e, h2, h3⟩ := C_tell (v := A.1.2 r i) _ h1
          refine ⟨σ', ?_, h2, (FC.set (by decide)).tr h3⟩
          unfold F_X8_lay
          rw [gR_0_0, ob_some, Rp_in sf_1 hr hn g1 hi, ob_some, if_pos rfl, ob_some, ck_1, ob_some, S_get sf_1 hr h.1.1 g1 hn hi, ob_some, ob_some, ck_1, ob_some, S_set sf_1 hr h.1.1 g1 hn hi, ob_some, g2 i hi, e, ob_some]
        · obtain ⟨hn, g1, g2⟩ := h.1.row hr hs
          obtain ⟨σ', e, h1, h2⟩ := M_at_in hr hs hi σ h
          have h3 : RM (toldA (rowA A r (some n) (fun j => if j = i then v else A.1.2 r j)) (A.1.2 r i)) (setI σ' 137 (r * 40 + i) v) := ⟨h1.1.put (by decide) hs hi hn, h1.2.1.kept (fun a j q => by rw [setI_1, if_neg (by omega)]), h1.2.2.1.kept (by rw [setI_1, if_neg (by omega)]) (by rw [setI_1, if_neg (by omega)]) (fun f => by rw [setI_1, if_neg (by omega)]) rfl rfl, h1.2.2.2.kept (by rw [setI_1, if_neg (by omega)]) (fun a j q => by rw [setI_1, if_neg (by omega)])⟩
          refine ⟨_, ?_, h3, h2.tr (FM.set (by decide))⟩
          unfold F_X9_lay
          rw [e, ob_some, if_pos rfl, gR_134_3, ob_some, ix40, sI_eq sh_137 (by omega) (by decide), ob_some]
theorem sim_findings (f : Int32) : SimP (F_X8_findings 0 f) (F_X9_findings 134 f) := by
  intro σ ⟨⟨A, hA, hC, hM⟩, _⟩
  have e5 : (5 : Int64).toInt = 5 := rfl
  have e1 : (1 : Int64).toInt = 1 := rfl
  have e01 : (1 : Int32).toInt = 1 := rfl
  have e05 : (5 : Int32).toInt = 5 := rfl
  by_cases h : 1 ≤ f.toInt ∧ f.toInt ≤ 5
  · obtain ⟨k, hk, rfl⟩ : ∃ k, k < 6 ∧ f = nI k := by
      rcases ixc f (n := 6) (by decide) with q | q
      · rw [Int32.lt_iff_toInt_lt, Int32.le_iff_toInt_le, nI_toInt (by decide)] at q
        have e00 : (0 : Int32).toInt = 0 := rfl
        omega
      · exact q
    have hk1 : 1 ≤ k := by
      have := h.1
      rw [nI_toInt (by omega)] at this
      omega
    refine ⟨A.2.2.1.2.2.2.2 k, ?_, ?_⟩
    · unfold F_X8_findings
      rw [if_neg, if_pos, gR_0_17, ob_some, rd_eq (by decide) sh_133 hk (by decide), ob_some, hC.2.2.1.2.2.2.2 k hk]
      · rw [Int32.le_iff_toInt_le, e05]; exact h.2
      · rw [Int32.lt_iff_toInt_lt, e01]; omega
    · unfold F_X9_findings
      rw [in_eq, wide, e1, e5, if_pos h, ob_some, if_neg (by decide), gR_134_9, ob_some, aI_eq sh_142 hk (by decide), ob_some, hM.2.2.1.2.2.2.2 k hk]
  · refine ⟨-1, ?_, ?_⟩
    · unfold F_X8_findings
      by_cases q : f < (1 : Int32)
      · rw [if_pos q]; rfl
      · rw [if_neg q, if_neg (show ¬ f ≤ (5 : Int32) by
          rw [Int32.lt_iff_toInt_lt, e01] at q
          rw [Int32.le_iff_toInt_le, e05]
          omega)]
        rfl
    · unfold F_X9_findings
      rw [in_eq, wide, e1, e5, if_neg h, ob_some, if_pos rfl]
end
section
theorem C_text {A : Ab} {r n : Nat} (hr : r < 4) (hn : n ≤ 60) : CAns A (F_X8_text 0 (nI r) (nI n)) (nI n) (textA A r (some n) (fun _ => 32)) := by
  intro σ h
  obtain ⟨σ', e, e1, e2, fr⟩ := S_make (v := 32) sf_4 hr h.2.1.1 hn
  have hF : F_X8_text 0 (nI r) (nI n) σ = some (nI n, σ') := by
    unfold F_X8_text F_X8_makeAnew
    rw [gR_0_1, ob_some, ck_4, ob_some, S_num sf_4 hr, ob_some, if_neg (by decide), gI_4_0, ob_some, h.2.1.1, if_pos (nI_le hn (by decide)), if_pos (nI_pos' (by omega)), ob_some, e, ob_some, ob_some]
  have keep : ∀ a j, (a < 5 ∨ 6 < a) → σ'.1 a j = σ.1 a j := fun a j q => fr.1 a j (Or.inl (by omega)) (Or.inl (by omega))
  exact ⟨σ', hF, ⟨h.1.kept (fun a j _ _ => keep a j (by omega)), h.2.1.make hr hn e1 e2 fr, h.2.2.1.kept (keep _ _ (by decide)) (keep _ _ (by decide)) (fun f => keep _ _ (by decide)) (fun j => by rw [fr.2]), h.2.2.2.kept (keep _ _ (by decide)) (fun a j q => keep a j (by omega))⟩, fun a j q => keep a j (by omega), fun a j q => by rw [fr.2]⟩
theorem M_textL {r n : Nat} {σ : Mem} (hr : r < 4) (h0 : σ.1 140 r = nI n) : ∃ σ', F_X9_text_34 134 (nI r) (nI n) ((0 : Int32), σ) = some (nI n, σ') ∧ σ'.1 140 r = nI n ∧ (∀ i, i < 60 → σ'.1 139 (r * 60 + i) = 32) ∧ (∀ x y, (x ≠ 139 ∨ y < r * 60 ∨ r * 60 + 60 ≤ y) → σ'.1 x y = σ.1 x y) ∧ σ'.2 = σ.2 := by
  have key : ∃ t, F_X9_text_34 134 (nI r) (nI n) ((0 : Int32), σ) = some t ∧ (t.1 = nI n ∧ t.2.1 140 r = nI n ∧ (∀ i, i < 60 → t.2.1 139 (r * 60 + i) = 32) ∧ (∀ x y, (x ≠ 139 ∨ y < r * 60 ∨ r * 60 + 60 ≤ y) → t.2.1 x y = σ.1 x y) ∧ t.2.2 = σ.2) := by
    unfold F_X9_text_34
    refine lp_inv (Q := fun t : Int32 × Mem => t.1 = nI n ∧ t.2.1 140 r = nI n ∧ (∀ i, i < 60 → t.2.1 139 (r * 60 + i) = 32) ∧ (∀ x y, (x ≠ 139 ∨ y < r * 60 ∨ r * 60 + 60 ≤ y) → t.2.1 x y = σ.1 x y) ∧ t.2.2 = σ.2) (fun j (s : Int32 × Mem) => s.1 = nI j ∧ s.2.1 140 r = nI n ∧ (∀ i, i < j → s.2.1 139 (r * 60 + i) = 32) ∧ (∀ x y, (x ≠ 139 ∨ y < r * 60 ∨ r * 60 + 60 ≤ y) → s.2.1 x y = σ.1 x y) ∧ s.2.2 = σ.2) 60 ?_ ?_ _ ⟨rfl, h0, fun i hi => absurd hi (Nat.not_lt_zero i), fun x y _ => rfl, rfl⟩
    · intro j s hj ⟨a1, a2, a3, a4, a5⟩
      have h60 : (60 : Int32) ≤ nI j ↔ 60 ≤ j := nI_leI (a := 60) (by decide) (by omega)
      refine ⟨(nI (j + 1), setI s.2 139 (r * 60 + j) 32), ?_, rfl, ?_, fun i hi => ?_, fun x y q1 => ?_, a5⟩
      · rw [a1, if_neg (fun z => by have := h60.mp z; omega), gR_134_5, ob_some, ix60, sI_eq sh_139 (by omega) (by decide), ob_some, nI_1]
      · rw [setI_1, if_neg (by omega)]; exact a2
      · rw [setI_1]
        by_cases z : i = j
        · subst z; rw [if_pos ⟨rfl, rfl⟩]
        · rw [if_neg (by omega)]; exact a3 i (by omega)
      · show (setI s.2 139 (r * 60 + j) 32).1 x y = _
        rw [setI_1, if_neg (by omega)]; exact a4 x y q1
    · intro s ⟨a1, a2, a3, a4, a5⟩
      have h60 : (60 : Int32) ≤ nI 60 := by decide
      exact ⟨(nI n, s.2), by rw [a1, if_pos h60], rfl, a2, a3, a4, a5⟩
  obtain ⟨t, k1, k2, k3⟩ := key
  exact ⟨t.2, k1.trans (congrArg some (Prod.ext k2 rfl)), k3⟩
theorem M_text {A : Ab} {r n : Nat} (hr : r < 4) (hn : n ≤ 60) : MAns A (F_X9_text 134 (nI r) (nI n)) (nI n) (textA A r (some n) (fun _ => 32)) := by
  intro σ h
  obtain ⟨σ', e, e1, e2, fr, f2⟩ := M_textL (n := n) (σ := setI σ 140 r (nI n)) hr (by rw [setI_1, if_pos ⟨rfl, rfl⟩])
  have h60 : nI n ≤ (60 : Int32) := nI_le (b := 60) hn (by decide)
  have hF : F_X9_text 134 (nI r) (nI n) σ = some (nI n, σ') := by
    unfold F_X9_text
    rw [text_yes hr, ob_some, if_neg (by decide), if_pos h60, if_pos (nI_pos' (by omega)), gR_134_6, ob_some, sI_eq sh_140 hr (by decide), ob_some, e]
  have keep : ∀ a j, (a ≠ 139 ∧ a ≠ 140) → σ'.1 a j = σ.1 a j := fun a j q => by rw [fr a j (Or.inl q.1), setI_1, if_neg (by omega)]
  have f3 : σ'.2 = σ.2 := f2
  exact ⟨σ', hF, ⟨h.1.kept (fun a j q => keep a j (by omega)), h.2.1.make hn e1 (fun i hi => e2 i (by omega)) (fun x q => by rw [fr _ _ (Or.inl (by decide)), setI_1, if_neg (by omega)]) (fun y q => by rw [fr _ _ (Or.inr q), setI_1, if_neg (by omega)]), h.2.2.1.kept (keep _ _ (by decide)) (keep _ _ (by decide)) (fun f => keep _ _ (by decide)) (by rw [f3]) (by rw [f3]), h.2.2.2.kept (keep _ _ (by decide)) (fun a j q => keep a j (by omega))⟩, fun a j q => keep a j (by omega), fun a j q => by rw [f3]⟩
theorem sim_text (a b : Int32) : Sim (F_X8_text 0 a b) (F_X9_text 134 a b) := by
  refine sim_of fun A hA => ?_
  rcases ixc a (n := 4) (by decide) with ha | ⟨r, hr, rfl⟩
  · refine ⟨-1, A, hA, C_same fun σ _ => ?_, M_same fun σ _ => ?_⟩
    · unfold F_X8_text F_X8_makeAnew
      rw [gR_0_1, ob_some, ck_4, ob_some, S_numno sf_4 ha, ob_some, if_pos rfl, ob_some]
    · unfold F_X9_text
      rw [text_no ha, ob_some, if_pos rfl]
  · by_cases hb : b ≤ nI 60
    · by_cases hb0 : b < 0
      · refine ⟨-3, foundA A 5, hA, ?_, ?_⟩
        · intro σ h
          obtain ⟨σ', e, h1, h2⟩ := C_refuse (A := A) (f := 5) (by decide) σ h
          have hn : ¬ (0 : Int32) ≤ b := Int32.not_le.mpr hb0
          refine ⟨σ', ?_, h1, h2⟩
          have e' : F_X8_refuse 0 (5 : Int32) σ = some (-3, σ') := e
          unfold F_X8_text F_X8_makeAnew
          rw [gR_0_1, ob_some, ck_4, ob_some, S_num sf_4 hr, ob_some, if_neg (by decide), gI_4_0, ob_some, h.2.1.1, if_pos hb, if_neg hn, e', ob_some, ob_some]
        · intro σ h
          obtain ⟨σ', e, h1, h2⟩ := M_found (A := A) (f := 5) (by decide) σ h
          have hn : ¬ (0 : Int32) ≤ b := Int32.not_le.mpr hb0
          refine ⟨σ', ?_, h1, h2⟩
          have e' : F_X9_found 134 (5 : Int32) σ = some (-3, σ') := e
          unfold F_X9_text
          rw [text_yes hr, ob_some, if_neg (by decide), if_pos (show b ≤ (60 : Int32) from hb), if_neg hn, e', ob_some]
      · obtain ⟨n, hn, rfl⟩ := nI_of2 (M := nI 60) (n := 60) (by decide) hb0 hb
        exact ⟨nI n, textA A r (some n) (fun _ => 32), hA, C_text hr hn, M_text hr hn⟩
    · refine ⟨-1, A, hA, C_same fun σ h => ?_, M_same fun σ _ => ?_⟩
      · unfold F_X8_text F_X8_makeAnew
        rw [gR_0_1, ob_some, ck_4, ob_some, S_num sf_4 hr, ob_some, if_neg (by decide), gI_4_0, ob_some, h.2.1.1, if_neg hb, ob_some]
      · unfold F_X9_text
        rw [text_yes hr, ob_some, if_neg (by decide), if_neg (show ¬ b ≤ (60 : Int32) from hb)]
theorem sim_put (a b v : Int32) : Sim (F_X8_put 0 a b v) (F_X9_put 134 a b v) := by
  refine sim_of fun A hA => ?_
  rcases ixc a (n := 4) (by decide) with ha | ⟨r, hr, rfl⟩
  · refine ⟨-1, A, hA, C_same fun σ _ => ?_, M_same fun σ _ => ?_⟩
    · unfold F_X8_put
      rw [gR_0_1, ob_some, Rp_no sf_4 ha, ob_some, if_neg n10]
    · unfold F_X9_put
      rw [text_no ha, ob_some, if_pos rfl]
  · cases hs : A.2.1.1 r with
    | none =>
      refine ⟨-3, foundA A 1, hA, fun σ h => ?_, fun σ h => ?_⟩
      · obtain ⟨σ', e, h1, h2⟩ := C_refuse (A := A) (f := 1) (by decide) σ h
        refine ⟨σ', ?_, h1, h2⟩
        unfold F_X8_put
        rw [gR_0_1, ob_some, Rp_none sf_4 hr (h.2.1.no hr hs) e, ob_some, if_neg n30]
      · obtain ⟨σ', e, h1, h2⟩ := M_found (A := A) (f := 1) (by decide) σ h
        have e' : F_X9_found 134 (1 : Int32) σ = some (-3, σ') := e
        refine ⟨σ', ?_, h1, h2⟩
        unfold F_X9_put
        rw [text_yes hr, ob_some, if_neg (by decide), gR_134_6, ob_some, aI_eq sh_140 hr (by decide), ob_some, h.2.1.no hr hs, if_neg nm1, e', ob_some]
    | some n =>
      rcases Nat.lt_or_ge 60 n with hbig | hsm
      · exact ⟨-1, A, hA, fun σ h => absurd (h.2.1.row hr hs).1 (by omega), fun σ h => absurd (h.2.1.row hr hs).1 (by omega)⟩
      rcases ixc b (n := n) (by omega) with hb | ⟨i, hi, rfl⟩
      · refine ⟨-3, foundA A 2, hA, fun σ h => ?_, fun σ h => ?_⟩
        · obtain ⟨hn, g1, g2⟩ := h.2.1.row hr hs
          obtain ⟨σ', e, h1, h2⟩ := C_refuse (A := A) (f := 2) (by decide) σ h
          refine ⟨σ', ?_, h1, h2⟩
          unfold F_X8_put
          rw [gR_0_1, ob_some, Rp_out sf_4 hr hn g1 hb e, ob_some, if_neg n30]
        · obtain ⟨hn, g1, g2⟩ := h.2.1.row hr hs
          obtain ⟨σ', e, h1, h2⟩ := M_found (A := A) (f := 2) (by decide) σ h
          have e' : F_X9_found 134 (2 : Int32) σ = some (-3, σ') := e
          refine ⟨σ', ?_, h1, h2⟩
          unfold F_X9_put
          rw [text_yes hr, ob_some, if_neg (by decide), gR_134_6, ob_some, aI_eq sh_140 hr (by decide), ob_some, g1, if_pos (nI_pos' (by omega)), ob_some, aI_eq sh_140 hr (by decide), ob_some, g1, in_row (by omega), ob_some, if_pos hb, if_pos rfl, e', ob_some]
      · refine ⟨A.2.1.2 r i + 1000, textA A r (some n) (fun j => if j = i then v.toInt8.toInt32 else A.2.1.2 r j), hA, fun σ h => ?_, fun σ h => ?_⟩
        · obtain ⟨hn, g1, g2⟩ := h.2.1.row hr hs
          refine ⟨setI σ 6 (r * 60 + i) v.toInt8.toInt32, ?_, ⟨h.1.kept (fun a j _ _ => by rw [setI_1, if_neg (by omega)]), h.2.1.put hs hi hn, h.2.2.1.kept (by rw [setI_1, if_neg (by omega)]) (by rw [setI_1, if_neg (by omega)]) (fun f => by rw [setI_1, if_neg (by omega)]) (fun _ => rfl), h.2.2.2.kept (by rw [setI_1, if_neg (by omega)]) (fun a j q => by rw [setI_1, if_neg (by omega)])⟩, FC.set (by decide)⟩
          unfold F_X8_put
          rw [gR_0_1, ob_some, Rp_in sf_4 hr hn g1 hi, ob_some, if_pos rfl, ob_some, ck_4, ob_some, S_get sf_4 hr h.2.1.1 g1 hn hi, ob_some, ob_some, ck_4, ob_some, S_set sf_4 hr h.2.1.1 g1 hn hi, ob_some, g2 i hi]
        · obtain ⟨hn, g1, g2⟩ := h.2.1.row hr hs
          have hb : ¬ (nI i < 0 ∨ nI n ≤ nI i) := fun q => q.elim (nI_pos (by omega)) (nI_ge hi (by omega))
          refine ⟨setI σ 139 (r * 60 + i) v.toInt8.toInt32, ?_, ⟨h.1.kept (fun a j q => by rw [setI_1, if_neg (by omega)]), h.2.1.put (by decide) hs hi hn, h.2.2.1.kept (by rw [setI_1, if_neg (by omega)]) (by rw [setI_1, if_neg (by omega)]) (fun f => by rw [setI_1, if_neg (by omega)]) rfl rfl, h.2.2.2.kept (by rw [setI_1, if_neg (by omega)]) (fun a j q => by rw [setI_1, if_neg (by omega)])⟩, FM.set (by decide)⟩
          unfold F_X9_put
          rw [text_yes hr, ob_some, if_neg (by decide), gR_134_6, ob_some, aI_eq sh_140 hr (by decide), ob_some, g1, if_pos (nI_pos' (by omega)), ob_some, aI_eq sh_140 hr (by decide), ob_some, g1, in_row (by omega), ob_some, if_neg hb, if_neg (by decide), gR_134_5, ob_some, ix60, aI_eq sh_139 (by omega) (by decide), ob_some, ob_some, sI_eq sh_139 (by omega) (by decide), ob_some, g2 i hi]
end
section
/-! ===== deeds, one by one ===== -/
def ansD (T : Tn) (c : Nat) : Nat := if c / 100 = 1 then inspS T (c / 10 % 10) else if c / 100 = 2 then T (21 + c / 10 % 10) - 1 else if c / 100 = 3 then gapT (swapT T (c / 10 % 10) (c % 10)) (c / 10 % 10) (c / 10 % 10) else passS T (T 0)
theorem swap_0 {T : Tn} {i j : Nat} : swapT T i j 0 = T 0 := by
  unfold swapT
  rw [upd_ne (by omega), upd_ne (by omega)]
theorem ap_night {T : Tn} : applyD T 0 = passT T := rfl
theorem ap_insp {T : Tn} {i : Nat} (hi : i < 6) : applyD T (100 + 10 * i) = inspT T i := by
  unfold applyD
  rw [if_pos (by omega), show (100 + 10 * i) / 10 % 10 = i by omega]
theorem ap_thin {T : Tn} {i : Nat} (hi : i < 6) : applyD T (200 + 10 * i) = thinT T i := by
  unfold applyD
  rw [if_neg (by omega), if_pos (by omega), show (200 + 10 * i) / 10 % 10 = i by omega]
theorem ap_swap {T : Tn} {i j : Nat} (hi : i < 6) (hj : j < 6) : applyD T (300 + 10 * i + j) = swapT T i j := by
  unfold applyD
  rw [if_neg (by omega), if_neg (by omega), if_pos (by omega), show (300 + 10 * i + j) / 10 % 10 = i by omega, show (300 + 10 * i + j) % 10 = j by omega]
theorem wf_apply {B c : Nat} {T : Tn} (hw : wfT B T) (hc : okD (T 0) c) : wfT (B + 1) (applyD T c) ∧ applyD T c 0 = T 0 := by
  have h6 := hw.1
  rcases hc with ⟨rfl, h0⟩ | ⟨i, hi, rfl | rfl⟩ | ⟨i, j, hi, hj, hne, rfl⟩
  · exact ⟨wf_pass hw, pass_0 T⟩
  · rw [ap_insp (by omega)]; exact ⟨wf_insp hw hi, insp_0⟩
  · rw [ap_thin (by omega)]
    have b := hw.2.2.1 i hi
    exact ⟨wf_mono (by omega) (wf_bed hw hi (Or.inr (Or.inl ⟨rfl, by omega⟩))), upd_ne (by omega)⟩
  · rw [ap_swap (by omega) (by omega)]
    exact ⟨wf_mono (by omega) (wf_swap hw hi hj), swap_0⟩
theorem wf_run {S : Tn} {ds : Nat → Nat} (hw : wfT 0 S) : ∀ n, (∀ d, d < n → okD (S 0) (ds d)) → wfT n (runD S ds n) ∧ runD S ds n 0 = S 0
  | 0, _ => ⟨hw, rfl⟩
  | n + 1, h => by
    obtain ⟨w, e⟩ := wf_run hw n (fun d hd => h d (by omega))
    have := wf_apply w (c := ds n) (by rw [e]; exact h n (by omega))
    exact ⟨this.1, this.2.trans e⟩
theorem run_ext {S : Tn} {ds ds' : Nat → Nat} : ∀ n, (∀ d, d < n → ds' d = ds d) → runD S ds' n = runD S ds n
  | 0, _ => rfl
  | n + 1, h => by
    show applyD (runD S ds' n) (ds' n) = applyD (runD S ds n) (ds n)
    rw [run_ext n (fun d hd => h d (by omega)), h n (by omega)]
theorem dv10 {c : Nat} (h : c ≤ 1000) : nI c / (10 : Int32) = nI (c / 10) := pk_div (d := 10) (by omega) (by decide) (by decide)
theorem dv100 {c : Nat} (h : c ≤ 1000) : nI c / (100 : Int32) = nI (c / 100) := pk_div (d := 100) (by omega) (by decide) (by decide)
theorem rm10 {c : Nat} (h : c ≤ 1000) : nI c - nI c / (10 : Int32) * (10 : Int32) = nI (c % 10) := pk_rem (d := 10) (by omega) (by decide) (by decide)
section CARRY
variable {σ : Mem} {k B c : Nat} {T : Tn}
theorem C_carry (hk : Tw k) (h : CT σ k T) (hw : wfT B T) (hB : B ≤ 100000) (hc : okD (T 0) c) : ∃ σ', F_X7_carryOut k (nI c) σ = some (nI (ansD T c), σ') ∧ CT σ' k (applyD T c) ∧ FrK k σ σ' := by
  have h6 := hw.1
  have hc9 : c ≤ 1000 := by
    rcases hc with ⟨rfl, h0⟩ | ⟨i, hi, rfl | rfl⟩ | ⟨i, j, hi, hj, hne, rfl⟩ <;> omega
  have e1 : (nI (c / 100) = (1 : Int32)) ↔ c / 100 = 1 := nI_eq (b := 1) (by omega) (by decide)
  have e2 : (nI (c / 100) = (2 : Int32)) ↔ c / 100 = 2 := nI_eq (b := 2) (by omega) (by decide)
  have e3 : (nI (c / 100) = (3 : Int32)) ↔ c / 100 = 3 := nI_eq (b := 3) (by omega) (by decide)
  unfold F_X7_carryOut
  simp only [↓rm10 hc9, dv10 hc9, dv100 hc9, rm10 (show c / 10 ≤ 1000 by omega)]
  unfold ansD applyD
  by_cases q1 : c / 100 = 1
  · have hi : c / 10 % 10 < T 0 := by
      rcases hc with ⟨rfl, h0⟩ | ⟨i, hi, rfl | rfl⟩ | ⟨i, j, hi, hj, hne, rfl⟩ <;> omega
    rw [if_pos (e1.mpr q1), if_pos q1, if_pos q1]
    obtain ⟨σ', g1, g2, g3⟩ := C_insp hk h hw hB hi
    exact ⟨σ', by rw [g1, ob_some], g2, g3⟩
  · rw [if_neg (fun z => q1 (e1.mp z)), if_neg q1, if_neg q1]
    by_cases q2 : c / 100 = 2
    · have hi : c / 10 % 10 < T 0 := by
        rcases hc with ⟨rfl, h0⟩ | ⟨i, hi, rfl | rfl⟩ | ⟨i, j, hi, hj, hne, rfl⟩ <;> omega
      have b := hw.2.2.1 _ hi
      rw [if_pos (e2.mpr q2), if_pos q2, if_pos q2]
      have c1 := h.set (o := 5) (v := T (21 + c / 10 % 10) - 1) h6 hi (by decide) (by decide) (b := 21 + c / 10 % 10) (by omega)
      have w1 : wfT B (updT T (21 + c / 10 % 10) (T (21 + c / 10 % 10) - 1)) := wf_bed hw hi (Or.inr (Or.inl ⟨rfl, by omega⟩))
      have e := C_thin hk h hw hi (v := 1) (by decide)
      have e' : F_X7_thinBed k (nI (c / 10 % 10)) (1 : Int32) σ = some (setI σ (k + 5) (c / 10 % 10) (nI (T (21 + c / 10 % 10) - 1))) := e
      have ht := C_thick hk c1 w1 (i := c / 10 % 10) (by rw [upd_ne (by omega)]; exact hi)
      refine ⟨setI σ (k + 5) (c / 10 % 10) (nI (T (21 + c / 10 % 10) - 1)), ?_, c1, FrK.set (by omega) (by omega)⟩
      rw [e', ob_some, ht, ob_some, upd_eq]
    · rw [if_neg (fun z => q2 (e2.mp z)), if_neg q2, if_neg q2]
      by_cases q3 : c / 100 = 3
      · have hi : c / 10 % 10 < T 0 ∧ c % 10 < T 0 := by
          rcases hc with ⟨rfl, h0⟩ | ⟨i, hi, rfl | rfl⟩ | ⟨i, j, hi, hj, hne, rfl⟩ <;> omega
        rw [if_pos (e3.mpr q3), if_pos q3, if_pos q3]
        obtain ⟨σ', g1, g2, g3⟩ := C_swap hk h hw hi.1 hi.2
        have hg := C_gap hk g2 (wf_swap hw hi.1 hi.2) (i := c / 10 % 10) (j := c / 10 % 10) (by rw [swap_0]; exact hi.1) (by rw [swap_0]; exact hi.1)
        exact ⟨σ', by rw [g1, ob_some, hg, ob_some], g2, g3⟩
      · rw [if_neg (fun z => q3 (e3.mp z)), if_neg q3, if_neg q3]
        obtain ⟨σ', g1, g2, g3⟩ := C_pass hk h hw hB
        exact ⟨σ', by rw [g1, ob_some], g2, g3⟩
end CARRY
def pushD (D : De) (c : Nat) : De := (D.1, D.2.1 + 1, (fun d => if d = D.2.1 then c else D.2.2.1 d), D.2.2.2.1, D.2.2.2.2)
def deA (A : Ab) (D : De) : Ab := (A.1, A.2.1, A.2.2.1, D)
abbrev nowT (D : De) : Tn := runD D.1 D.2.2.1 D.2.1
theorem push_now {D : De} {c : Nat} : nowT (pushD D c) = applyD (nowT D) c := by
  show applyD (runD D.1 (fun d => if d = D.2.1 then c else D.2.2.1 d) D.2.1) (if D.2.1 = D.2.1 then c else _) = _
  rw [if_pos rfl, run_ext D.2.1 (fun d hd => if_neg (by omega))]
theorem now_wf {D : De} (h : okDe D) : wfT 40 (nowT D) ∧ nowT D 0 = D.1 0 := by
  have := wf_run h.1 D.2.1 h.2.2.1
  exact ⟨wf_mono h.2.1 this.1, this.2⟩
theorem push_ok {D : De} {c : Nat} (h : okDe D) (h40 : D.2.1 < 40) (hc : okD (D.1 0) c) : okDe (pushD D c) := by
  refine ⟨h.1, h40, fun d hd => ?_, h.2.2.2.1, fun q => ?_⟩
  · show okD (D.1 0) (if d = D.2.1 then c else D.2.2.1 d)
    by_cases z : d = D.2.1
    · rw [if_pos z]; exact hc
    · rw [if_neg z]; exact h.2.2.1 d (by have : d < D.2.1 + 1 := hd; omega)
  · exfalso
    have q : D.1 0 = 0 := q
    rcases hc with ⟨_, h0⟩ | ⟨i, hi, _⟩ | ⟨i, j, hi, _⟩ <;> omega
theorem C_enact {A : Ab} {w i j c : Nat} (hA : okDe A.2.2.2) (h40 : A.2.2.2.2.1 < 40) (hc : okD (A.2.2.2.1 0) c) (he : c = 100 * w + 10 * i + j) : CAns A (F_X8_enact 0 (nI w) (nI i) (nI j)) (nI (ansD (nowT A.2.2.2) c)) (deA A (pushD A.2.2.2 c)) := by
  intro σ h
  have hcode : (((100 : Int32) * nI w) + ((10 : Int32) * nI i)) + nI j = nI c := by
    rw [show (100 : Int32) = nI 100 from rfl, show (10 : Int32) = nI 10 from rfl, pk_mul, pk_mul, nI_add, nI_add, he]
  obtain ⟨hnw, hn0⟩ := now_wf hA
  obtain ⟨t1, t2, t3, t4, t5⟩ := h.2.2.2
  have hCT : CT (setI (setI σ 34 A.2.2.2.2.1 (nI c)) 0 7 (nI (A.2.2.2.2.1 + 1))) 18 (nowT A.2.2.2) := t2.kept (fun a b p q => by rw [setI_1, if_neg (by omega), setI_1, if_neg (by omega)])
  obtain ⟨σ', g1, g2, g3⟩ := C_carry tw_18 hCT hnw (by decide) (c := c) (by rw [hn0]; exact hc)
  have hF : F_X8_enact 0 (nI w) (nI i) (nI j) σ = some (nI (ansD (nowT A.2.2.2) c), σ') := by
    unfold F_X8_enact
    simp only [hcode]
    rw [gR_0_6, ob_some, gI_0_7, ob_some, t3, wr_eq (by decide) sh_34 h40 (by decide), ob_some, gI_0_7, ob_some, setI_1, if_neg (by omega), t3, nI_1, pI_0_7, ob_some, gR_0_4, ob_some, tC tw_18, ob_some, g1, ob_some]
  have keep : ∀ a b, (a < 18 ∨ 25 < a) → (a ≠ 34 ∨ b ≠ A.2.2.2.2.1) → (a ≠ 0 ∨ b ≠ 7) → σ'.1 a b = σ.1 a b := fun a b q1 q2 q3 => by
    rw [g3.1 a b (by omega), setI_1, if_neg (by omega), setI_1, if_neg (by omega)]
  refine ⟨σ', hF, ⟨h.1.kept (fun a b p q => keep a b (by omega) (by omega) (by omega)), h.2.1.kept (fun a b p q => keep a b (by omega) (by omega) (by omega)), h.2.2.1.kept (keep _ _ (by decide) (by omega) (by decide)) (keep _ _ (by decide) (by omega) (by decide)) (fun f => keep _ _ (by decide) (by omega) (by omega)) (fun b => by rw [g3.2]; rfl), ?_, ?_, ?_, fun d hd => ?_, t5.kept (fun a b p q => keep a b (by omega) (by omega) (by omega))⟩, fun a b q => keep a b (by omega) (by omega) (by omega), fun a b q => by rw [g3.2]; rfl⟩
  · exact t1.kept (fun a b p q => keep a b (by omega) (by omega) (by omega))
  · show CT σ' 18 (nowT (pushD A.2.2.2 c))
    rw [push_now]
    exact g2
  · show σ'.1 0 7 = nI (A.2.2.2.2.1 + 1)
    rw [g3.1 _ _ (by omega), setI_1, if_pos ⟨rfl, rfl⟩]
  · show σ'.1 34 d = nI (if d = A.2.2.2.2.1 then c else A.2.2.2.2.2.1 d)
    rw [g3.1 _ _ (by omega), setI_1, if_neg (by omega), setI_1]
    by_cases z : d = A.2.2.2.2.1
    · rw [if_pos ⟨rfl, z⟩, if_pos z]
    · rw [if_neg (by omega), if_neg z]
      exact t4 d (by have : d < A.2.2.2.2.1 + 1 := hd; omega)
end
section
/-! ===== the reference's deeds ===== -/
theorem M_cp {σ : Mem} {f t n : Nat} (hd : f + n ≤ t ∨ t + n ≤ f) (h1 : f + n ≤ 7304) (h2 : t + n ≤ 7304) : ∃ σ', F_X9_copyAll 134 (nI f) (nI t) (nI n) σ = some σ' ∧ (∀ j, j < n → σ'.1 135 (t + j) = σ.1 135 (f + j)) ∧ (∀ a b, (a ≠ 135 ∨ b < t ∨ t + n ≤ b) → σ'.1 a b = σ.1 a b) ∧ σ'.2 = σ.2 := by
  unfold F_X9_copyAll F_X9_copyAll_3
  refine lp_inv (Q := fun s : Mem => (∀ j, j < n → s.1 135 (t + j) = σ.1 135 (f + j)) ∧ (∀ a b, (a ≠ 135 ∨ b < t ∨ t + n ≤ b) → s.1 a b = σ.1 a b) ∧ s.2 = σ.2) (fun i (s : Int32 × Mem) => s.1 = nI i ∧ (∀ j, j < i → s.2.1 135 (t + j) = σ.1 135 (f + j)) ∧ (∀ a b, (a ≠ 135 ∨ b < t ∨ t + n ≤ b) → s.2.1 a b = σ.1 a b) ∧ s.2.2 = σ.2) n ?_ ?_ _ ⟨rfl, fun j hj => absurd hj (Nat.not_lt_zero j), fun a b _ => rfl, rfl⟩
  · intro i s hi ⟨a1, a2, a3, a4⟩
    refine ⟨(nI (i + 1), setI s.2 135 (t + i) (σ.1 135 (f + i))), ?_, rfl, fun j hj => ?_, fun a b q => ?_, a4⟩
    · rw [a1, if_neg (nI_ge hi (by omega)), wR, ob_some, ob_some, nI_add, w_rd (by omega), ob_some, nI_add, w_wr (by omega), ob_some, a3 135 (f + i) (by omega), nI_1]
    · rw [setI_1]
      by_cases z : j = i
      · subst z; rw [if_pos ⟨rfl, rfl⟩]
      · rw [if_neg (by omega)]; exact a2 j (by omega)
    · show (setI s.2 135 (t + i) (σ.1 135 (f + i))).1 a b = _
      rw [setI_1, if_neg (by omega)]; exact a3 a b q
  · intro s ⟨a1, a2, a3, a4⟩
    exact ⟨s.2, by rw [a1, if_pos (nI_le (Nat.le_refl _) (by omega))], a2, a3, a4⟩
theorem M_minds {σ : Mem} {dc : Nat} (h : σ.1 134 1 = nI dc) (h40 : dc < 40) : ∃ σ', F_X9_minds 134 σ = some σ' ∧ (∀ j, j < 44 → σ'.1 135 (44 * (1 + dc) + j) = σ.1 135 j) ∧ σ'.1 134 1 = nI (dc + 1) ∧ (∀ a b, (a ≠ 135 ∨ b < 44 * (1 + dc) ∨ 44 * (1 + dc) + 44 ≤ b) → (a ≠ 134 ∨ b ≠ 1) → σ'.1 a b = σ.1 a b) ∧ σ'.2 = σ.2 := by
  obtain ⟨σ1, e, c1, c2, c3⟩ := M_cp (σ := σ) (f := 0) (t := 44 * (1 + dc)) (n := 44) (by omega) (by omega) (by omega)
  have e' : F_X9_copyAll 134 (0 : Int32) ((44 : Int32) * ((1 : Int32) + nI dc)) (44 : Int32) σ = some σ1 := by
    rw [show (44 : Int32) * ((1 : Int32) + nI dc) = nI (44 * (1 + dc)) by rw [show (1 : Int32) = nI 1 from rfl, nI_add, show (44 : Int32) = nI 44 from rfl, pk_mul]]
    exact e
  refine ⟨setI σ1 134 1 (nI (dc + 1)), ?_, fun j hj => ?_, ?_, fun a b q1 q2 => ?_, c3⟩
  · unfold F_X9_minds
    rw [gI_134_1, ob_some, h, e', ob_some, gI_134_1, ob_some, pI_134_1, ob_some, c2 _ _ (by omega), h, nI_1]
  · rw [setI_1, if_neg (by omega), c1 j hj, Nat.zero_add]
  · rw [setI_1, if_pos ⟨rfl, rfl⟩]
  · rw [setI_1, if_neg (by omega)]; exact c2 a b q1
/-- a deed behind the keeping of what was -/
theorem M_push {σ σ1 σ2 : Mem} {D : De} {c : Nat} (h : MDe σ D) (h40 : D.2.1 < 40) (m1 : ∀ j, j < 44 → σ1.1 135 (44 * (1 + D.2.1) + j) = σ.1 135 j) (m2 : σ1.1 134 1 = nI (D.2.1 + 1)) (m3 : ∀ a b, (a ≠ 135 ∨ b < 44 * (1 + D.2.1) ∨ 44 * (1 + D.2.1) + 44 ≤ b) → (a ≠ 134 ∨ b ≠ 1) → σ1.1 a b = σ.1 a b) (g1 : MT σ2 0 (applyD (nowT D) c)) (g2 : FrM 0 σ1 σ2) : MDe σ2 (pushD D c) := by
  have keep : ∀ a b, (a ≠ 135 ∨ 44 ≤ b) → (a ≠ 135 ∨ b < 44 * (1 + D.2.1) ∨ 44 * (1 + D.2.1) + 44 ≤ b) → (a ≠ 134 ∨ b ≠ 1) → σ2.1 a b = σ.1 a b := fun a b q1 q2 q3 => by rw [g2.1 a b (by omega), m3 a b q2 q3]
  refine ⟨?_, fun d hd => ?_, ?_, fun k hk => ?_⟩
  · show MT σ2 0 (nowT (pushD D c))
    rw [push_now]; exact g1
  · have hd : d < D.2.1 + 1 := hd
    show MT σ2 (44 * (1 + d)) (runD D.1 (fun d => if d = D.2.1 then c else D.2.2.1 d) d)
    rw [run_ext d (fun x hx => if_neg (by omega))]
    by_cases q : d = D.2.1
    · subst q
      intro j hj
      rw [g2.1 _ _ (by omega), m1 j hj]
      have := h.1 j hj
      rw [Nat.zero_add] at this
      exact this
    · exact (h.2.1 d (by omega)).kept (fun b p1 p2 => keep _ _ (by omega) (by omega) (by omega))
  · show σ2.1 134 1 = nI (D.2.1 + 1)
    rw [g2.1 _ _ (by omega)]; exact m2
  · have h2 := h.2.2.2 k hk
    show match D.2.2.2.1 k with
      | none => σ2.1 136 k = -1
      | some n => σ2.1 136 k = nI n ∧ MT σ2 (1804 * (1 + k)) (runD D.1 (D.2.2.2.2 k) n) ∧ ∀ d, d < n → MT σ2 (1804 * (1 + k) + 44 * (1 + d)) (runD D.1 (D.2.2.2.2 k) d)
    cases e : D.2.2.2.1 k with
    | none => rw [e] at h2; exact (keep _ _ (by omega) (by omega) (by omega)).trans h2
    | some n =>
      rw [e] at h2
      exact ⟨(keep _ _ (by omega) (by omega) (by omega)).trans h2.1, h2.2.1.kept (fun b p1 p2 => keep _ _ (by omega) (by omega) (by omega)), fun d hd => (h2.2.2 d hd).kept (fun b p1 p2 => keep _ _ (by omega) (by omega) (by omega))⟩
/-- the same, with all that is not a town's -/
theorem M_push2 {σ σ1 σ2 : Mem} {A : Ab} {c : Nat} (h : RM A σ) (h40 : A.2.2.2.2.1 < 40) (m1 : ∀ j, j < 44 → σ1.1 135 (44 * (1 + A.2.2.2.2.1) + j) = σ.1 135 j) (m2 : σ1.1 134 1 = nI (A.2.2.2.2.1 + 1)) (m3 : ∀ a b, (a ≠ 135 ∨ b < 44 * (1 + A.2.2.2.2.1) ∨ 44 * (1 + A.2.2.2.2.1) + 44 ≤ b) → (a ≠ 134 ∨ b ≠ 1) → σ1.1 a b = σ.1 a b) (m4 : σ1.2 = σ.2) (g1 : MT σ2 0 (applyD (nowT A.2.2.2) c)) (g2 : FrM 0 σ1 σ2) : RM (deA A (pushD A.2.2.2 c)) σ2 ∧ FM σ σ2 := by
  have keep : ∀ a b, a ≠ 135 → (a ≠ 134 ∨ b ≠ 1) → σ2.1 a b = σ.1 a b := fun a b q1 q3 => by rw [g2.1 a b (by omega), m3 a b (by omega) q3]
  have k2 : σ2.2 = σ.2 := g2.2.trans m4
  exact ⟨⟨h.1.kept (fun a j q => keep a j (by omega) (by omega)), h.2.1.kept (fun a j q => keep a j (by omega) (by omega)), h.2.2.1.kept (keep _ _ (by decide) (by decide)) (keep _ _ (by decide) (by decide)) (fun f => keep _ _ (by decide) (by omega)) (by rw [k2]) (by rw [k2]), M_push h.2.2.2 h40 m1 m2 m3 g1 g2⟩, fun a b q => keep a b (by omega) (by omega), fun a b q => by rw [k2]⟩
theorem MT.col {σ : Mem} {T : Tn} (h : MT σ 0 T) : COL σ T := fun m hm => by
  have := h (39 + m) (by omega)
  rwa [Nat.zero_add] at this
theorem M_isTown {σ : Mem} {T : Tn} (h : MT σ 0 T) (h6 : T 0 ≤ 6) : F_X9_isTown 134 σ = some (if T 0 = 0 then 0 else 1) := by
  have e0 : (nI (T 0) ≤ (0 : Int32)) ↔ T 0 ≤ 0 := nI_leI (b := 0) (by omega) (by decide)
  have h0 : σ.1 135 0 = nI (T 0) := h 0 (by decide)
  unfold F_X9_isTown
  rw [wR, ob_some, show (0 : Int32) = nI 0 from rfl, w_rd (by decide), ob_some, h0]
  by_cases q : T 0 = 0
  · rw [if_pos (show nI (T 0) ≤ nI 0 from e0.mpr (by omega)), if_pos q]
  · rw [if_neg (show ¬ nI (T 0) ≤ nI 0 from fun z => q (by have := e0.mp z; omega)), if_neg q]
theorem M_isBed {σ : Mem} {T : Tn} {x : Int32} (h : MT σ 0 T) (h6 : T 0 ≤ 6) : F_X9_isBed 134 x σ = some (if x < 0 ∨ nI (T 0) ≤ x then 0 else 1) := by
  have h0 : σ.1 135 0 = nI (T 0) := h 0 (by decide)
  unfold F_X9_isBed
  rw [wR, ob_some, show aI 135 (0 : Int32) σ = some (σ.1 135 0) from w_rd (j := 0) (by decide), ob_some, h0, in_row (by omega), ob_some]
  split
  · rw [bz0, ob_some]
  · rw [bz1, ob_some]
theorem RC.now {A : Ab} {σ : Mem} (h : RC A σ) : CT σ 18 (nowT A.2.2.2) := h.2.2.2.2.1
theorem RM.now {A : Ab} {σ : Mem} (h : RM A σ) : MT σ 0 (nowT A.2.2.2) := h.2.2.2.1
theorem RC.dc {A : Ab} {σ : Mem} (h : RC A σ) : σ.1 0 7 = nI A.2.2.2.2.1 := h.2.2.2.2.2.1
theorem RM.dc {A : Ab} {σ : Mem} (h : RM A σ) : σ.1 134 1 = nI A.2.2.2.2.1 := h.2.2.2.2.2.1
theorem sim_night : Sim (F_X8_night 0) (F_X9_night 134) := by
  refine sim_of fun A hA => ?_
  obtain ⟨hnw, hn0⟩ := now_wf hA
  have h6 := hnw.1
  by_cases hz : A.2.2.2.1 0 = 0
  · refine ⟨-4, A, hA, C_same fun σ h => ?_, M_same fun σ h => ?_⟩
    · have e : σ.1 18 8 = 0 := by rw [h.now.1, hn0, hz]; rfl
      unfold F_X8_night
      rw [gR_0_4, ob_some, tI_8 tw_18, ob_some, e, if_pos rfl]
    · unfold F_X9_night
      rw [M_isTown h.now h6, hn0, if_pos hz, ob_some, if_pos rfl]
  · by_cases h40 : A.2.2.2.2.1 < 40
    · have hc : okD (A.2.2.2.1 0) 0 := Or.inl ⟨rfl, by omega⟩
      refine ⟨nI (passS (nowT A.2.2.2) (nowT A.2.2.2 0)), deA A (pushD A.2.2.2 0), push_ok hA h40 hc, fun σ h => ?_, fun σ h => ?_⟩
      · obtain ⟨σ', e, h1, h2⟩ := C_enact (w := 0) (i := 0) (j := 0) (c := 0) hA h40 hc rfl σ h
        refine ⟨σ', ?_, h1, h2⟩
        have e8 : ¬ nI (A.2.2.2.1 0) = (0 : Int32) := nI_ne0 (by omega) (by omega)
        have e40 : (nI A.2.2.2.2.1 < (40 : Int32)) := nI_lt (b := 40) h40 (by decide)
        have e' : F_X8_enact 0 (0 : Int32) (0 : Int32) (0 : Int32) σ = some (nI (passS (nowT A.2.2.2) (nowT A.2.2.2 0)), σ') := e
        have hb : σ.1 18 8 = nI (A.2.2.2.1 0) := by rw [h.now.1, hn0]
        unfold F_X8_night
        rw [gR_0_4, ob_some, tI_8 tw_18, ob_some, hb, if_neg e8, gI_0_7, ob_some, h.dc, if_pos e40, e', ob_some]
      · obtain ⟨σ1, f1, m1, m2, m3, m4⟩ := M_minds h.dc h40
        have t0 : MT σ1 0 (nowT A.2.2.2) := h.2.2.2.1.kept (fun b p1 p2 => m3 _ _ (by omega) (by omega))
        obtain ⟨σ2, f2, g1, g2⟩ := M_pass (f := 0) t0 t0.col (by decide) (Or.inl rfl) hnw (by decide)
        obtain ⟨k1, k2⟩ := M_push2 (c := 0) h h40 m1 m2 m3 m4 g1 g2
        refine ⟨σ2, ?_, k1, k2⟩
        have e40 : ¬ (nI A.2.2.2.2.1 = (40 : Int32)) := fun z => by
          have := (nI_eq (a := A.2.2.2.2.1) (b := 40) (by omega) (by decide)).mp z
          omega
        have f2' : F_X9_passes 134 (0 : Int32) σ1 = some (nI (passS (nowT A.2.2.2) (nowT A.2.2.2 0)), σ2) := f2
        have ht : F_X9_isTown 134 σ = some 1 := by rw [M_isTown h.now h6, hn0, if_neg hz]
        unfold F_X9_night
        rw [ht, ob_some, if_neg (by decide), gI_134_1, ob_some, h.dc, if_neg e40, f1, ob_some, f2', ob_some]
    · have h40' : A.2.2.2.2.1 = 40 := by have := hA.2.1; omega
      refine ⟨-2, A, hA, C_same fun σ h => ?_, M_same fun σ h => ?_⟩
      · have e8 : ¬ nI (A.2.2.2.1 0) = (0 : Int32) := nI_ne0 (by omega) (by omega)
        unfold F_X8_night
        rw [gR_0_4, ob_some, tI_8 tw_18, ob_some, h.now.1, hn0, if_neg e8, gI_0_7, ob_some, h.dc, h40', if_neg (by decide)]
      · unfold F_X9_night
        rw [M_isTown h.now h6, hn0, if_neg hz, ob_some, if_neg (by decide), gI_134_1, ob_some, h.dc, h40', if_pos (by decide)]
end
section
/-! ===== inspect, thin, swap ===== -/
theorem an_insp {T : Tn} {i : Nat} (hi : i < 6) : ansD T (100 + 10 * i) = inspS T i := by
  unfold ansD
  rw [if_pos (by omega), show (100 + 10 * i) / 10 % 10 = i by omega]
theorem an_thin {T : Tn} {i : Nat} (hi : i < 6) : ansD T (200 + 10 * i) = T (21 + i) - 1 := by
  unfold ansD
  rw [if_neg (by omega), if_pos (by omega), show (200 + 10 * i) / 10 % 10 = i by omega]
theorem an_swap {T : Tn} {i j : Nat} (hi : i < 6) (hj : j < 6) : ansD T (300 + 10 * i + j) = gapT (swapT T i j) i i := by
  unfold ansD
  rw [if_neg (by omega), if_neg (by omega), if_pos (by omega), show (300 + 10 * i + j) / 10 % 10 = i by omega, show (300 + 10 * i + j) % 10 = j by omega]
theorem M_bedno {σ : Mem} {T : Tn} {x : Int32} (h : MT σ 0 T) (h6 : T 0 ≤ 6) (hx : x < 0 ∨ nI (T 0) ≤ x) : F_X9_isBed 134 x σ = some 0 := by rw [M_isBed h h6, if_pos hx]
theorem nb_in {i n : Nat} (hi : i < n) (hn : n ≤ 100) : ¬ (nI i < 0 ∨ nI n ≤ nI i) := fun z => z.elim (nI_pos (by omega)) (nI_ge hi (by omega))
theorem M_bed {σ : Mem} {T : Tn} {i : Nat} (h : MT σ 0 T) (h6 : T 0 ≤ 6) (hi : i < T 0) : F_X9_isBed 134 (nI i) σ = some 1 := by rw [M_isBed h h6, if_neg (nb_in hi (by omega))]
theorem sim_inspect (x : Int32) : Sim (F_X8_inspect 0 x) (F_X9_inspect 134 x) := by
  refine sim_of fun A hA => ?_
  obtain ⟨hnw, hn0⟩ := now_wf hA
  have h6 := hnw.1
  rcases ixc x (n := nowT A.2.2.2 0) (by omega) with hx | ⟨i, hi, rfl⟩
  · refine ⟨-1, A, hA, C_same fun σ h => ?_, M_same fun σ h => ?_⟩
    · unfold F_X8_inspect
      rw [gR_0_4, ob_some, tC tw_18, ob_some, C_hasno tw_18 h.now hx, ob_some, if_pos rfl]
    · unfold F_X9_inspect
      rw [M_bedno h.now h6 hx, ob_some, if_pos rfl]
  · by_cases h40 : A.2.2.2.2.1 < 40
    · have hc : okD (A.2.2.2.1 0) (100 + 10 * i) := Or.inr (Or.inl ⟨i, by omega, Or.inl rfl⟩)
      refine ⟨nI (inspS (nowT A.2.2.2) i), deA A (pushD A.2.2.2 (100 + 10 * i)), push_ok hA h40 hc, fun σ h => ?_, fun σ h => ?_⟩
      · obtain ⟨σ', e, h1, h2⟩ := C_enact (w := 1) (i := i) (j := 0) hA h40 hc (by omega) σ h
        rw [an_insp (by omega)] at e
        refine ⟨σ', ?_, h1, h2⟩
        have e40 : (nI A.2.2.2.2.1 < (40 : Int32)) := nI_lt (b := 40) h40 (by decide)
        have e' : F_X8_enact 0 (1 : Int32) (nI i) (0 : Int32) σ = some (nI (inspS (nowT A.2.2.2) i), σ') := e
        unfold F_X8_inspect
        rw [gR_0_4, ob_some, tC tw_18, ob_some, C_has tw_18 h.now hnw hi, ob_some, if_neg (by decide), gI_0_7, ob_some, h.dc, if_pos e40, e', ob_some]
      · obtain ⟨σ1, f1, m1, m2, m3, m4⟩ := M_minds h.dc h40
        have t0 : MT σ1 0 (nowT A.2.2.2) := h.2.2.2.1.kept (fun b p1 p2 => m3 _ _ (by omega) (by omega))
        obtain ⟨σ2, f2, g1, g2⟩ := M_insp (f := 0) t0 (by decide) hnw hi
        rw [← ap_insp (by omega)] at g1
        obtain ⟨k1, k2⟩ := M_push2 h h40 m1 m2 m3 m4 g1 g2
        refine ⟨σ2, ?_, k1, k2⟩
        have e40 : ¬ (nI A.2.2.2.2.1 = (40 : Int32)) := fun z => by
          have := (nI_eq (a := A.2.2.2.2.1) (b := 40) (by omega) (by decide)).mp z
          omega
        have f2' : F_X9_inspects 134 (0 : Int32) (nI i) σ1 = some (nI (inspS (nowT A.2.2.2) i), σ2) := f2
        unfold F_X9_inspect
        rw [M_bed h.now h6 hi, ob_some, if_neg (by decide), gI_134_1, ob_some, h.dc, if_neg e40, f1, ob_some, f2', ob_some]
    · have h40' : A.2.2.2.2.1 = 40 := by have := hA.2.1; omega
      refine ⟨-2, A, hA, C_same fun σ h => ?_, M_same fun σ h => ?_⟩
      · unfold F_X8_inspect
        rw [gR_0_4, ob_some, tC tw_18, ob_some, C_has tw_18 h.now hnw hi, ob_some, if_neg (by decide), gI_0_7, ob_some, h.dc, h40', if_neg (by decide)]
      · unfold F_X9_inspect
        rw [M_bed h.now h6 hi, ob_some, if_neg (by decide), gI_134_1, ob_some, h.dc, h40', if_pos (by decide)]
end
section
/-! ===== thin, swap ===== -/
theorem lx {a b : Nat} {x : Int32} (h : x = nI a) : x + nI b = nI (a + b) := by rw [h, nI_add]
theorem sim_thin (x : Int32) : Sim (F_X8_thin 0 x) (F_X9_thin 134 x) := by
  refine sim_of fun A hA => ?_
  obtain ⟨hnw, hn0⟩ := now_wf hA
  have h6 := hnw.1
  rcases ixc x (n := nowT A.2.2.2 0) (by omega) with hx | ⟨i, hi, rfl⟩
  · refine ⟨-1, A, hA, C_same fun σ h => ?_, M_same fun σ h => ?_⟩
    · unfold F_X8_thin
      rw [gR_0_4, ob_some, tC tw_18, ob_some, C_hasno tw_18 h.now hx, ob_some, if_pos rfl]
    · unfold F_X9_thin
      rw [M_bedno h.now h6 hx, ob_some, if_pos rfl]
  · have b := hnw.2.2.1 i hi
    have ea : (21 : Int32) + nI i = nI (21 + i) := lx rfl
    by_cases hz : nowT A.2.2.2 (21 + i) = 0
    · refine ⟨-4, A, hA, C_same fun σ h => ?_, M_same fun σ h => ?_⟩
      · unfold F_X8_thin
        rw [gR_0_4, ob_some, tC tw_18, ob_some, C_has tw_18 h.now hnw hi, ob_some, if_neg (by decide), ob_some, tC tw_18, ob_some, C_thick tw_18 h.now hnw hi, ob_some, hz, if_pos (show nI 0 = (0 : Int32) from rfl)]
      · have hv := h.now (21 + i) (by omega)
        rw [Nat.zero_add, hz] at hv
        unfold F_X9_thin
        rw [M_bed h.now h6 hi, ob_some, if_neg (by decide), wR, ob_some, ea, w_rd (by omega), ob_some, hv, if_pos (show nI 0 = (0 : Int32) from rfl)]
    · have e0 : ¬ nI (nowT A.2.2.2 (21 + i)) = (0 : Int32) := nI_ne0 (by omega) (by omega)
      by_cases h40 : A.2.2.2.2.1 < 40
      · have hc : okD (A.2.2.2.1 0) (200 + 10 * i) := Or.inr (Or.inl ⟨i, by omega, Or.inr rfl⟩)
        refine ⟨nI (nowT A.2.2.2 (21 + i) - 1), deA A (pushD A.2.2.2 (200 + 10 * i)), push_ok hA h40 hc, fun σ h => ?_, fun σ h => ?_⟩
        · obtain ⟨σ', e, h1, h2⟩ := C_enact (w := 2) (i := i) (j := 0) hA h40 hc (by omega) σ h
          rw [an_thin (by omega)] at e
          refine ⟨σ', ?_, h1, h2⟩
          have e40 : (nI A.2.2.2.2.1 < (40 : Int32)) := nI_lt (b := 40) h40 (by decide)
          have e' : F_X8_enact 0 (2 : Int32) (nI i) (0 : Int32) σ = some (nI (nowT A.2.2.2 (21 + i) - 1), σ') := e
          unfold F_X8_thin
          rw [gR_0_4, ob_some, tC tw_18, ob_some, C_has tw_18 h.now hnw hi, ob_some, if_neg (by decide), ob_some, tC tw_18, ob_some, C_thick tw_18 h.now hnw hi, ob_some, if_neg e0, gI_0_7, ob_some, h.dc, if_pos e40, e', ob_some]
        · obtain ⟨σ1, f1, m1, m2, m3, m4⟩ := M_minds h.dc h40
          have t0 : MT σ1 0 (nowT A.2.2.2) := h.2.2.2.1.kept (fun b p1 p2 => m3 _ _ (by omega) (by omega))
          have hv := h.now (21 + i) (by omega)
          have hv1 := t0 (21 + i) (by omega)
          rw [Nat.zero_add] at hv hv1
          have g1 : MT (setI σ1 135 (0 + (21 + i)) (nI (nowT A.2.2.2 (21 + i) - 1))) 0 (applyD (nowT A.2.2.2) (200 + 10 * i)) := by
            rw [ap_thin (by omega)]; exact t0.set
          obtain ⟨k1, k2⟩ := M_push2 h h40 m1 m2 m3 m4 g1 (FrM.set (by omega))
          refine ⟨_, ?_, k1, k2⟩
          have e40 : ¬ (nI A.2.2.2.2.1 = (40 : Int32)) := fun z => by
            have := (nI_eq (a := A.2.2.2.2.1) (b := 40) (by omega) (by decide)).mp z
            omega
          have es : nI (nowT A.2.2.2 (21 + i)) - (1 : Int32) = nI (nowT A.2.2.2 (21 + i) - 1) := pk_sub (a := nowT A.2.2.2 (21 + i)) (b := 1) (by omega)
          unfold F_X9_thin
          rw [M_bed h.now h6 hi, ob_some, if_neg (by decide), wR, ob_some, ea, w_rd (by omega), ob_some, hv, if_neg e0, gI_134_1, ob_some, h.dc, if_neg e40, f1, ob_some, ob_some, w_rd (by omega), ob_some, hv1, es, w_wr (by omega), ob_some, ob_some, w_rd (by omega), ob_some, setI_1, if_pos ⟨rfl, rfl⟩, Nat.zero_add]
      · have h40' : A.2.2.2.2.1 = 40 := by have := hA.2.1; omega
        refine ⟨-2, A, hA, C_same fun σ h => ?_, M_same fun σ h => ?_⟩
        · unfold F_X8_thin
          rw [gR_0_4, ob_some, tC tw_18, ob_some, C_has tw_18 h.now hnw hi, ob_some, if_neg (by decide), ob_some, tC tw_18, ob_some, C_thick tw_18 h.now hnw hi, ob_some, if_neg e0, gI_0_7, ob_some, h.dc, h40', if_neg (by decide)]
        · have hv := h.now (21 + i) (by omega)
          rw [Nat.zero_add] at hv
          unfold F_X9_thin
          rw [M_bed h.now h6 hi, ob_some, if_neg (by decide), wR, ob_some, ea, w_rd (by omega), ob_some, hv, if_neg e0, gI_134_1, ob_some, h.dc, h40', if_pos (by decide)]
theorem sim_swap (x y : Int32) : Sim (F_X8_swap 0 x y) (F_X9_swap 134 x y) := by
  refine sim_of fun A hA => ?_
  obtain ⟨hnw, hn0⟩ := now_wf hA
  have h6 := hnw.1
  rcases ixc x (n := nowT A.2.2.2 0) (by omega) with hx | ⟨i, hi, rfl⟩
  · refine ⟨-1, A, hA, C_same fun σ h => ?_, M_same fun σ h => ?_⟩
    · unfold F_X8_swap
      rw [gR_0_4, ob_some, tC tw_18, ob_some, C_hasno tw_18 h.now hx, ob_some, if_pos rfl]
    · unfold F_X9_swap
      rw [M_bedno h.now h6 hx, ob_some, if_pos rfl]
  · rcases ixc y (n := nowT A.2.2.2 0) (by omega) with hy | ⟨j, hj, rfl⟩
    · refine ⟨-1, A, hA, C_same fun σ h => ?_, M_same fun σ h => ?_⟩
      · unfold F_X8_swap
        rw [gR_0_4, ob_some, tC tw_18, ob_some, C_has tw_18 h.now hnw hi, ob_some, if_neg (by decide), ob_some, tC tw_18, ob_some, C_hasno tw_18 h.now hy, ob_some, if_pos rfl]
      · unfold F_X9_swap
        rw [M_bed h.now h6 hi, ob_some, if_neg (by decide), M_bedno h.now h6 hy, ob_some, if_pos rfl]
    · by_cases hij : i = j
      · refine ⟨-1, A, hA, C_same fun σ h => ?_, M_same fun σ h => ?_⟩
        · unfold F_X8_swap
          rw [gR_0_4, ob_some, tC tw_18, ob_some, C_has tw_18 h.now hnw hi, ob_some, if_neg (by decide), ob_some, tC tw_18, ob_some, C_has tw_18 h.now hnw hj, ob_some, if_neg (by decide), if_pos (by rw [hij])]
        · unfold F_X9_swap
          rw [M_bed h.now h6 hi, ob_some, if_neg (by decide), M_bed h.now h6 hj, ob_some, if_neg (by decide), if_pos (by rw [hij])]
      · have e0 : ¬ nI i = nI j := fun z => hij ((nI_eq (by omega) (by omega)).mp z)
        by_cases h40 : A.2.2.2.2.1 < 40
        · have hc : okD (A.2.2.2.1 0) (300 + 10 * i + j) := Or.inr (Or.inr ⟨i, j, by omega, by omega, hij, rfl⟩)
          refine ⟨nI (gapT (swapT (nowT A.2.2.2) i j) i i), deA A (pushD A.2.2.2 (300 + 10 * i + j)), push_ok hA h40 hc, fun σ h => ?_, fun σ h => ?_⟩
          · obtain ⟨σ', e, h1, h2⟩ := C_enact (w := 3) (i := i) (j := j) hA h40 hc (by omega) σ h
            rw [an_swap (by omega) (by omega)] at e
            refine ⟨σ', ?_, h1, h2⟩
            have e40 : (nI A.2.2.2.2.1 < (40 : Int32)) := nI_lt (b := 40) h40 (by decide)
            have e' : F_X8_enact 0 (3 : Int32) (nI i) (nI j) σ = some (nI (gapT (swapT (nowT A.2.2.2) i j) i i), σ') := e
            unfold F_X8_swap
            rw [gR_0_4, ob_some, tC tw_18, ob_some, C_has tw_18 h.now hnw hi, ob_some, if_neg (by decide), ob_some, tC tw_18, ob_some, C_has tw_18 h.now hnw hj, ob_some, if_neg (by decide), if_neg e0, gI_0_7, ob_some, h.dc, if_pos e40, e', ob_some]
          · obtain ⟨σ1, f1, m1, m2, m3, m4⟩ := M_minds h.dc h40
            have t0 : MT σ1 0 (nowT A.2.2.2) := h.2.2.2.1.kept (fun b p1 p2 => m3 _ _ (by omega) (by omega))
            have hvi := t0 (15 + i) (by omega)
            have hvj := t0 (15 + j) (by omega)
            have t1 : MT (setI σ1 135 (0 + (15 + i)) (nI (nowT A.2.2.2 (15 + j)))) 0 _ := t0.set
            have t2 : MT (setI (setI σ1 135 (0 + (15 + i)) (nI (nowT A.2.2.2 (15 + j)))) 135 (0 + (15 + j)) (nI (nowT A.2.2.2 (15 + i)))) 0 (swapT (nowT A.2.2.2) i j) := t1.set
            have hw2 : wfT 41 (swapT (nowT A.2.2.2) i j) := by
              rw [← ap_swap (by omega) (by omega)]
              exact (wf_apply hnw (by rw [hn0]; exact hc)).1
            have g1 := t2
            rw [← ap_swap (by omega) (by omega)] at g1
            obtain ⟨k1, k2⟩ := M_push2 h h40 m1 m2 m3 m4 g1 ((FrM.set (by omega)).tr (FrM.set (by omega)))
            refine ⟨_, ?_, k1, k2⟩
            have e40 : ¬ (nI A.2.2.2.2.1 = (40 : Int32)) := fun z => by
              have := (nI_eq (a := A.2.2.2.2.1) (b := 40) (by omega) (by decide)).mp z
              omega
            have eai : (15 : Int32) + nI i = nI (15 + i) := lx rfl
            have eaj : (15 : Int32) + nI j = nI (15 + j) := lx rfl
            have eg := M_gap (f := 0) t2 (by decide) hw2 (i := i) (by rw [swap_0]; exact hi)
            rw [Nat.zero_add, Nat.zero_add] at eg
            rw [Nat.zero_add] at hvi hvj
            rw [Nat.zero_add, Nat.zero_add]
            unfold F_X9_swap
            rw [M_bed h.now h6 hi, ob_some, if_neg (by decide), M_bed h.now h6 hj, ob_some, if_neg (by decide), if_neg e0, gI_134_1, ob_some, h.dc, if_neg e40, f1, ob_some, wR, ob_some, eai, w_rd (by omega), ob_some, ob_some, ob_some, eaj, w_rd (by omega), ob_some, w_wr (by omega), ob_some, ob_some, w_wr (by omega), ob_some, hvi, hvj]
            exact (congrArg (fun o : Option Int32 => o.bind fun q => some (q, _)) eg).trans rfl
        · have h40' : A.2.2.2.2.1 = 40 := by have := hA.2.1; omega
          refine ⟨-2, A, hA, C_same fun σ h => ?_, M_same fun σ h => ?_⟩
          · unfold F_X8_swap
            rw [gR_0_4, ob_some, tC tw_18, ob_some, C_has tw_18 h.now hnw hi, ob_some, if_neg (by decide), ob_some, tC tw_18, ob_some, C_has tw_18 h.now hnw hj, ob_some, if_neg (by decide), if_neg e0, gI_0_7, ob_some, h.dc, h40', if_neg (by decide)]
          · unfold F_X9_swap
            rw [M_bed h.now h6 hi, ob_some, if_neg (by decide), M_bed h.now h6 hj, ob_some, if_neg (by decide), if_neg e0, gI_134_1, ob_some, h.dc, h40', if_pos (by decide)]
end
section
/-! ===== undo ===== -/
/-- the class's town again, deed by deed -/
theorem C_redo {σ : Mem} {S : Tn} {ds : Nat → Nat} {n : Nat} (hS : CT σ 10 S) (hw : wfT 0 S) (hn : σ.1 0 7 = nI n) (h40 : n ≤ 40) (hd : ∀ d, d < n → σ.1 34 d = nI (ds d)) (ok : ∀ d, d < n → okD (S 0) (ds d)) : ∃ σ', F_X8_redoFromStart 0 σ = some σ' ∧ CT σ' 18 (runD S ds n) ∧ FrK 18 σ σ' := by
  obtain ⟨σ1, e1, c1, f1⟩ := C_copy tw_18 (k2 := 10) tw_10 (by decide) hw.1 hS
  unfold F_X8_redoFromStart
  rw [gR_0_4, ob_some, gR_0_3, ob_some, tC tw_18, ob_some, e1, ob_some]
  unfold F_X8_redoFromStart_13
  refine lp_inv (Q := fun s : Mem => CT s 18 (runD S ds n) ∧ FrK 18 σ s) (fun i (s : Int32 × Mem) => s.1 = nI i ∧ CT s.2 18 (runD S ds i) ∧ FrK 18 σ s.2) n ?_ ?_ _ ⟨rfl, c1, f1⟩
  · intro i s hi ⟨a1, a2, a3⟩
    have hw2 := wf_run hw i (fun d hd => ok d (by omega))
    obtain ⟨σ2, e2, c2, f2⟩ := C_carry tw_18 a2 hw2.1 (by omega) (c := ds i) (by rw [hw2.2]; exact ok i hi)
    refine ⟨(nI (i + 1), σ2), ?_, rfl, c2, a3.tr f2⟩
    rw [gI_0_7, ob_some, a3.1 _ _ (by decide), hn, a1, if_neg (nI_ge hi (by omega)), gR_0_4, ob_some, gR_0_6, ob_some, rd_eq (by decide) sh_34 (by omega) (by decide), ob_some, a3.1 _ _ (by decide), hd i hi, tC tw_18, ob_some, e2, ob_some, nI_1]
  · intro s ⟨a1, a2, a3⟩
    exact ⟨s.2, by rw [gI_0_7, ob_some, a3.1 _ _ (by decide), hn, a1, if_pos (nI_le (Nat.le_refl _) (by omega))], a2, a3⟩
/-- the deeds up to n -/
def cutD (D : De) (n : Nat) : De := (D.1, n, D.2.2)
theorem cut_ok {D : De} {n : Nat} (h : okDe D) (hn : n ≤ D.2.1) : okDe (cutD D n) := ⟨h.1, Nat.le_trans hn h.2.1, fun d hd => h.2.2.1 d (Nat.lt_of_lt_of_le hd hn), h.2.2.2.1, fun q => ⟨Nat.le_zero.mp (Nat.le_trans hn (Nat.le_of_eq (h.2.2.2.2 q).1)), (h.2.2.2.2 q).2⟩⟩
theorem cut_self {D : De} : cutD D D.2.1 = D := rfl
theorem in_upto {n : Nat} {x : Int32} {σ : Mem} (hn : n ≤ 50) : F_X9_in x.toInt64 (0 : Int64) (nI n).toInt64 σ = some (if x < 0 ∨ nI (n + 1) ≤ x then 0 else 1) := by
  have e : nI n = nI (n + 1) - (1 : Int32) := (pk_sub (a := n + 1) (b := 1) (by omega)).symm
  rw [e]; exact in_row (n := n + 1) (by omega)
theorem sim_undo (x : Int32) : Sim (F_X8_undo 0 x) (F_X9_undo 134 x) := by
  refine sim_of fun A hA => ?_
  have hdc := hA.2.1
  rcases ixc x (n := A.2.2.2.2.1 + 1) (by omega) with hx | ⟨i, hi, rfl⟩
  · refine ⟨-1, A, hA, C_same fun σ h => ?_, M_same fun σ h => ?_⟩
    · unfold F_X8_undo
      by_cases q : x < 0
      · rw [if_pos q]
      · rw [if_neg q, gI_0_7, ob_some, h.dc, if_neg]
        intro z
        have hx := hx.resolve_left q
        rw [Int32.le_iff_toInt_le, nI_toInt (by omega)] at z hx
        omega
    · unfold F_X9_undo
      rw [gI_134_1, ob_some, h.dc, in_upto (by omega), if_pos hx, ob_some, if_pos rfl]
  · have es : nI A.2.2.2.2.1 - nI i = nI (A.2.2.2.2.1 - i) := pk_sub (by omega)
    refine ⟨nI (A.2.2.2.2.1 - i), deA A (cutD A.2.2.2 i), cut_ok hA (by omega), fun σ h => ?_, fun σ h => ?_⟩
    · obtain ⟨t1, t2, t3, t4, t5⟩ := h.2.2.2
      obtain ⟨σ', g1, g2, g3⟩ := C_redo (σ := setI σ 0 7 (nI i)) (S := A.2.2.2.1) (ds := A.2.2.2.2.2.1) (n := i) (t1.kept (fun a b p q => by rw [setI_1, if_neg (by omega)])) hA.1 (by rw [setI_1, if_pos ⟨rfl, rfl⟩]) (by omega) (fun d hd => by rw [setI_1, if_neg (by omega)]; exact t4 d (by omega)) (fun d hd => hA.2.2.1 d (by omega))
      have keep : ∀ a b, (a < 18 ∨ 25 < a) → (a ≠ 0 ∨ b ≠ 7) → σ'.1 a b = σ.1 a b := fun a b q1 q3 => by
        rw [g3.1 a b (by omega), setI_1, if_neg (by omega)]
      refine ⟨σ', ?_, ⟨h.1.kept (fun a b p q => keep a b (by omega) (by omega)), h.2.1.kept (fun a b p q => keep a b (by omega) (by omega)), h.2.2.1.kept (keep _ _ (by decide) (by decide)) (keep _ _ (by decide) (by decide)) (fun f => keep _ _ (by decide) (by omega)) (fun b => by rw [g3.2]; rfl), t1.kept (fun a b p q => keep a b (by omega) (by omega)), g2, ?_, fun d hd => ?_, t5.kept (fun a b p q => keep a b (by omega) (by omega))⟩, fun a b q => keep a b (by omega) (by omega), fun a b q => by rw [g3.2]; rfl⟩
      · unfold F_X8_undo
        rw [if_neg (nI_pos (by omega)), gI_0_7, ob_some, h.dc, if_pos (nI_le (by omega) (by omega)), ob_some, pI_0_7, ob_some, g1, ob_some, es]
      · show σ'.1 0 7 = nI i
        rw [g3.1 _ _ (by omega), setI_1, if_pos ⟨rfl, rfl⟩]
      · rw [keep _ _ (by decide) (by omega)]; exact t4 d (by have : d < i := hd; omega)
    · by_cases q : i = A.2.2.2.2.1
      · subst q
        refine ⟨σ, ?_, h, FM.rf⟩
        unfold F_X9_undo
        rw [gI_134_1, ob_some, h.dc, in_upto (by omega), if_neg (nb_in hi (by omega)), ob_some, if_neg (by decide), ob_some, es, if_pos (by rw [Nat.sub_self]; decide)]
      · obtain ⟨u1, u2, u3, u4⟩ := h.2.2.2
        obtain ⟨σ1, e1, c1, c2, c3⟩ := M_cp (σ := σ) (f := 44 * (1 + i)) (t := 0) (n := 44) (by omega) (by omega) (by omega)
        have e1' : F_X9_copyAll 134 ((44 : Int32) * ((1 : Int32) + nI i)) (0 : Int32) (44 : Int32) σ = some σ1 := by
          rw [show (44 : Int32) * ((1 : Int32) + nI i) = nI (44 * (1 + i)) by rw [show (1 : Int32) = nI 1 from rfl, nI_add, show (44 : Int32) = nI 44 from rfl, pk_mul]]
          exact e1
        have keep : ∀ a b, (a ≠ 135 ∨ 44 ≤ b) → (a ≠ 134 ∨ b ≠ 1) → (setI σ1 134 1 (nI i)).1 a b = σ.1 a b := fun a b q1 q3 => by
          rw [setI_1, if_neg (by omega), c2 a b (by omega)]
        refine ⟨setI σ1 134 1 (nI i), ?_, ⟨h.1.kept (fun a j q => keep a j (by omega) (by omega)), h.2.1.kept (fun a j q => keep a j (by omega) (by omega)), h.2.2.1.kept (keep _ _ (by decide) (by decide)) (keep _ _ (by decide) (by decide)) (fun f => keep _ _ (by omega) (by omega)) (by show σ1.2 _ _ = _; rw [c3]) (by show σ1.2 _ _ = _; rw [c3]), fun j hj => ?_, fun d hd => ?_, ?_, fun k hk => ?_⟩, fun a b q => keep a b (by omega) (by omega), fun a b q => by show σ1.2 _ _ = _; rw [c3]⟩
        · have en : ¬ nI (A.2.2.2.2.1 - i) ≤ (0 : Int32) := fun z => by
            have := (nI_leI (b := 0) (by omega) (by decide)).mp z
            omega
          unfold F_X9_undo
          rw [gI_134_1, ob_some, h.dc, in_upto (by omega), if_neg (nb_in hi (by omega)), ob_some, if_neg (by decide), ob_some, es, if_neg en, e1', ob_some, pI_134_1, ob_some]
        · have hz := c1 j hj
          rw [setI_1, if_neg (by omega), hz]
          exact u2 i (by omega) j hj
        · have hd : d < i := hd
          exact (u2 d (by omega)).kept (fun b p1 p2 => keep _ _ (by omega) (by omega))
        · rw [setI_1, if_pos ⟨rfl, rfl⟩]; rfl
        · have h2 := u4 k hk
          show match A.2.2.2.2.2.2.1 k with
            | none => (setI σ1 134 1 (nI i)).1 136 k = -1
            | some n => (setI σ1 134 1 (nI i)).1 136 k = nI n ∧ MT (setI σ1 134 1 (nI i)) (1804 * (1 + k)) (runD A.2.2.2.1 (A.2.2.2.2.2.2.2 k) n) ∧ ∀ d, d < n → MT (setI σ1 134 1 (nI i)) (1804 * (1 + k) + 44 * (1 + d)) (runD A.2.2.2.1 (A.2.2.2.2.2.2.2 k) d)
          cases e : A.2.2.2.2.2.2.1 k with
          | none => rw [e] at h2; exact (keep _ _ (by omega) (by omega)).trans h2
          | some n =>
            rw [e] at h2
            exact ⟨(keep _ _ (by omega) (by omega)).trans h2.1, h2.2.1.kept (fun b p1 p2 => keep _ _ (by omega) (by omega)), fun d hd => (h2.2.2 d hd).kept (fun b p1 p2 => keep _ _ (by omega) (by omega))⟩
end
section
/-! ===== keep, on ===== -/
theorem S_makeOf {σ : Mem} {b many room r n src len : Nat} (h : Sf b many room) (hr : r < many) (hrm : σ.1 b 0 = nI room) (hn : n ≤ room) (hsrc : src < nW) (hsh : shp src = .inr (.inl len)) (hnl : n ≤ len) (hl : len ≤ 100000) (hd : src ≠ b + 1 ∧ src ≠ b + 2) : ∃ σ', F_X6_makeOf b (nI r) (nI n) src σ = some σ' ∧ σ'.1 (b + 1) r = nI n ∧ (∀ i, i < n → σ'.1 (b + 2) (r * room + i) = σ.1 src i) ∧ FrS b r room σ σ' := by
  have h8 := h.2.2.2.2.2.2.2.1
  have h9 := h.2.2.2.2.2.2.2.2.1
  unfold F_X6_makeOf
  rw [h.1, ob_some, h.2.2.1, ob_some, hrm]
  have e : (if nI room < nI n then nI room else nI n) = nI n := if_neg (nI_nlt hn (by omega))
  rw [e, wr_eq (by have := h.2.2.2.2.2.2.1; omega) h.2.2.2.2.1 hr (by omega), ob_some]
  unfold F_X6_makeOf_19
  refine lp_inv (Q := fun t : Mem => t.1 (b + 1) r = nI n ∧ (∀ i, i < n → t.1 (b + 2) (r * room + i) = σ.1 src i) ∧ FrS b r room σ t) (fun j (s : Int32 × Mem) => s.1 = nI j ∧ s.2.1 (b + 1) r = nI n ∧ s.2.1 b 0 = nI room ∧ (∀ i, i < j → s.2.1 (b + 2) (r * room + i) = σ.1 src i) ∧ FrS b r room σ s.2) n ?_ ?_ _ ⟨rfl, ?_, ?_, fun i hi => absurd hi (Nat.not_lt_zero i), fun x y q _ => ?_, rfl⟩
  · intro j s hj ⟨a1, a2, a3, a4, a5⟩
    refine ⟨(nI (j + 1), setI s.2 (b + 2) (r * room + j) (σ.1 src j)), ?_, rfl, ?_, ?_, fun i hi => ?_, fun x y q1 q2 => ?_, ?_⟩
    · rw [a1, if_neg (nI_ge hj (by omega)), h.2.2.1, ob_some, a3, if_neg (nI_ge (show j < room by omega) (by omega)), rd_eq hsrc hsh (by omega) hl, ob_some, a5.1 _ _ (by omega) (by omega), S_set h hr a3 a2 hn hj, ob_some, nI_1]
    · rw [setI_1, if_neg (by omega)]; exact a2
    · rw [setI_1, if_neg (by omega)]; exact a3
    · rw [setI_1]
      by_cases z : i = j
      · subst z; rw [if_pos ⟨rfl, rfl⟩]
      · rw [if_neg (by omega)]; exact a4 i (by omega)
    · show (setI s.2 (b + 2) (r * room + j) (σ.1 src j)).1 x y = _
      rw [setI_1, if_neg (by omega)]; exact a5.1 x y q1 q2
    · exact a5.2
  · intro s ⟨a1, a2, a3, a4, a5⟩
    exact ⟨s.2, by rw [a1, if_pos (nI_le (Nat.le_refl _) (by omega))], a2, a4, a5⟩
  · rw [setI_1, if_pos ⟨rfl, rfl⟩]
  · rw [setI_1, if_neg (by omega)]; exact hrm
  · rw [setI_1, if_neg (by omega)]
theorem kept_no {x : Int32} {σ : Mem} (h : x < 0 ∨ nI 3 ≤ x) : F_X9_isKept x σ = some 0 := by
  unfold F_X9_isKept
  rw [in_eq, if_neg, ob_some, bz0, ob_some]
  rw [wide]
  rw [Int32.lt_iff_toInt_lt, Int32.le_iff_toInt_le, nI_toInt (by decide)] at h
  have e0 : (0 : Int64).toInt = 0 := rfl
  have e5 : (2 : Int64).toInt = 2 := rfl
  have e00 : (0 : Int32).toInt = 0 := rfl
  omega
theorem kept_yes {r : Nat} {σ : Mem} (h : r < 3) : F_X9_isKept (nI r) σ = some 1 := by
  unfold F_X9_isKept
  rw [in_eq, if_pos, ob_some, bz1, ob_some]
  rw [wide, nI_toInt (by omega)]
  have e0 : (0 : Int64).toInt = 0 := rfl
  have e5 : (2 : Int64).toInt = 2 := rfl
  omega
/-- the deeds kept at r -/
def keepD (D : De) (r : Nat) : De := (D.1, D.2.1, D.2.2.1, fun x => if x = r then some D.2.1 else D.2.2.2.1 x, fun x => if x = r then D.2.2.1 else D.2.2.2.2 x)
theorem keep_ok {D : De} {r : Nat} (h : okDe D) (h0 : 0 < D.1 0) : okDe (keepD D r) := by
  refine ⟨h.1, h.2.1, h.2.2.1, fun k n e => ?_, h.2.2.2.2⟩
  have e : (if k = r then some D.2.1 else D.2.2.2.1 k) = some n := e
  show n ≤ 40 ∧ 0 < D.1 0 ∧ ∀ d, d < n → okD (D.1 0) ((if k = r then D.2.2.1 else D.2.2.2.2 k) d)
  by_cases q : k = r
  · rw [if_pos q] at e
    rw [if_pos q]
    injection e with e
    subst e
    exact ⟨h.2.1, h0, h.2.2.1⟩
  · rw [if_neg q] at e
    rw [if_neg q]
    exact h.2.2.2.1 k n e
theorem sim_keep (x : Int32) : Sim (F_X8_keep 0 x) (F_X9_keep 134 x) := by
  refine sim_of fun A hA => ?_
  obtain ⟨hnw, hn0⟩ := now_wf hA
  have h6 := hnw.1
  have hdc := hA.2.1
  rcases ixc x (n := 3) (by decide) with hx | ⟨r, hr, rfl⟩
  · refine ⟨-1, A, hA, C_same fun σ h => ?_, M_same fun σ h => ?_⟩
    · unfold F_X8_keep
      rw [gR_0_2, ob_some, ck_7, ob_some, S_numno sf_7 hx, ob_some, if_pos rfl]
    · unfold F_X9_keep
      rw [kept_no hx, ob_some, if_pos rfl]
  · by_cases hz : A.2.2.2.1 0 = 0
    · refine ⟨-4, A, hA, C_same fun σ h => ?_, M_same fun σ h => ?_⟩
      · have e : σ.1 18 8 = 0 := by rw [h.now.1, hn0, hz]; rfl
        unfold F_X8_keep
        rw [gR_0_2, ob_some, ck_7, ob_some, S_num sf_7 hr, ob_some, if_neg (by decide), gR_0_4, ob_some, tI_8 tw_18, ob_some, e, if_pos rfl]
      · have ht : F_X9_isTown 134 σ = some 0 := by rw [M_isTown h.now h6, hn0, if_pos hz]
        unfold F_X9_keep
        rw [kept_yes hr, ob_some, if_neg (by decide), ht, ob_some, if_pos rfl]
    · refine ⟨nI A.2.2.2.2.1, deA A (keepD A.2.2.2 r), keep_ok hA (by omega), fun σ h => ?_, fun σ h => ?_⟩
      · obtain ⟨t1, t2, t3, t4, t5⟩ := h.2.2.2
        obtain ⟨σ', g1, g2, g3, g4⟩ := S_makeOf (σ := σ) (n := A.2.2.2.2.1) (src := 34) sf_7 hr t5.1 hdc (by decide) sh_34 hdc (by decide) (by decide)
        have e8 : ¬ nI (A.2.2.2.1 0) = (0 : Int32) := nI_ne0 (by omega) (by omega)
        have hb : σ.1 18 8 = nI (A.2.2.2.1 0) := by rw [h.now.1, hn0]
        have keep : ∀ a b, a ≠ 8 → a ≠ 9 → σ'.1 a b = σ.1 a b := fun a b q1 q2 => g4.1 a b (Or.inl q1) (Or.inl q2)
        refine ⟨σ', ?_, ⟨h.1.kept (fun a b p q => keep a b (by omega) (by omega)), h.2.1.kept (fun a b p q => keep a b (by omega) (by omega)), h.2.2.1.kept (keep _ _ (by decide) (by decide)) (keep _ _ (by decide) (by decide)) (fun f => keep _ _ (by decide) (by decide)) (fun b => by rw [g4.2]), t1.kept (fun a b p q => keep a b (by omega) (by omega)), t2.kept (fun a b p q => keep a b (by omega) (by omega)), (keep _ _ (by decide) (by decide)).trans t3, fun d hd => (keep _ _ (by decide) (by decide)).trans (t4 d hd), ?_⟩, fun a b q => keep a b (by omega) (by omega), fun a b q => by rw [g4.2]⟩
        · unfold F_X8_keep
          rw [gR_0_2, ob_some, ck_7, ob_some, S_num sf_7 hr, ob_some, if_neg (by decide), gR_0_4, ob_some, tI_8 tw_18, ob_some, hb, if_neg e8, ob_some, gI_0_7, ob_some, t3, gR_0_6, ob_some, ck_7, ob_some, g1, ob_some, gI_0_7, ob_some, keep _ _ (by decide) (by decide), t3]
        · have t6 := t5.make (f := fun d => nI (A.2.2.2.2.2.1 d)) hr hdc g2 (fun i hi => (g3 i hi).trans (t4 i hi)) g4
          have ef : (fun x => if x = r then (fun d => nI (A.2.2.2.2.2.1 d)) else (fun d => nI (A.2.2.2.2.2.2.2 x d))) = (fun k d => nI ((keepD A.2.2.2 r).2.2.2.2 k d)) := by
            funext k d
            show (if k = r then (fun d => nI (A.2.2.2.2.2.1 d)) else (fun d => nI (A.2.2.2.2.2.2.2 k d))) d = nI ((if k = r then A.2.2.2.2.2.1 else A.2.2.2.2.2.2.2 k) d)
            by_cases q : k = r
            · rw [if_pos q, if_pos q]
            · rw [if_neg q, if_neg q]
          rw [ef] at t6
          exact t6
      · obtain ⟨u1, u2, u3, u4⟩ := h.2.2.2
        obtain ⟨σ1, e1, c1, c2, c3⟩ := M_cp (σ := σ) (f := 0) (t := 1804 * (1 + r)) (n := 1804) (by omega) (by omega) (by omega)
        have e1' : F_X9_copyAll 134 (0 : Int32) ((1804 : Int32) * ((1 : Int32) + nI r)) (1804 : Int32) σ = some σ1 := by
          rw [show (1804 : Int32) * ((1 : Int32) + nI r) = nI (1804 * (1 + r)) by rw [show (1 : Int32) = nI 1 from rfl, nI_add, show (1804 : Int32) = nI 1804 from rfl, pk_mul]]
          exact e1
        have ht : F_X9_isTown 134 σ = some 1 := by rw [M_isTown h.now h6, hn0, if_neg hz]
        have k1 : σ1.1 134 1 = nI A.2.2.2.2.1 := (c2 _ _ (by omega)).trans u3
        have keep : ∀ a b, (a ≠ 135 ∨ b < 1804 * (1 + r) ∨ 1804 * (1 + r) + 1804 ≤ b) → (a ≠ 136 ∨ b ≠ r) → (setI σ1 136 r (nI A.2.2.2.2.1)).1 a b = σ.1 a b := fun a b q1 q3 => by
          rw [setI_1, if_neg (by omega), c2 a b (by omega)]
        have cp : ∀ {f : Nat} {T : Tn}, MT σ f T → f + 44 ≤ 1804 → MT (setI σ1 136 r (nI A.2.2.2.2.1)) (1804 * (1 + r) + f) T := fun {f T} hT hf j hj => by
          rw [setI_1, if_neg (by omega), show 1804 * (1 + r) + f + j = 1804 * (1 + r) + (f + j) by omega, c1 (f + j) (by omega), Nat.zero_add]
          exact hT j hj
        refine ⟨setI σ1 136 r (nI A.2.2.2.2.1), ?_, ⟨h.1.kept (fun a j q => keep a j (by omega) (by omega)), h.2.1.kept (fun a j q => keep a j (by omega) (by omega)), h.2.2.1.kept (keep _ _ (by omega) (by omega)) (keep _ _ (by omega) (by omega)) (fun f => keep _ _ (by omega) (by omega)) (by show σ1.2 _ _ = _; rw [c3]) (by show σ1.2 _ _ = _; rw [c3]), u1.kept (fun b p1 p2 => keep _ _ (by omega) (by omega)), fun d hd => (u2 d hd).kept (fun b p1 p2 => keep _ _ (by have : d < A.2.2.2.2.1 := hd; omega) (by omega)), (keep _ _ (by omega) (by omega)).trans u3, fun k hk => ?_⟩, fun a b q => keep a b (by omega) (by omega), fun a b q => by show σ1.2 _ _ = _; rw [c3]⟩
        · unfold F_X9_keep
          rw [kept_yes hr, ob_some, if_neg (by decide), ht, ob_some, if_neg (by decide), e1', ob_some, gR_134_2, ob_some, gI_134_1, ob_some, k1, sI_eq sh_136 hr (by decide), ob_some, gI_134_1, ob_some, setI_1, if_neg (by omega), k1]
        · have h2 := u4 k hk
          show match (if k = r then some A.2.2.2.2.1 else A.2.2.2.2.2.2.1 k) with
            | none => (setI σ1 136 r (nI A.2.2.2.2.1)).1 136 k = -1
            | some n => (setI σ1 136 r (nI A.2.2.2.2.1)).1 136 k = nI n ∧ MT (setI σ1 136 r (nI A.2.2.2.2.1)) (1804 * (1 + k)) (runD A.2.2.2.1 (if k = r then A.2.2.2.2.2.1 else A.2.2.2.2.2.2.2 k) n) ∧ ∀ d, d < n → MT (setI σ1 136 r (nI A.2.2.2.2.1)) (1804 * (1 + k) + 44 * (1 + d)) (runD A.2.2.2.1 (if k = r then A.2.2.2.2.2.1 else A.2.2.2.2.2.2.2 k) d)
          by_cases q : k = r
          · subst q
            simp only [if_true]
            refine ⟨by rw [setI_1, if_pos ⟨rfl, rfl⟩], cp u1 (by decide), fun d hd => cp (u2 d hd) (by omega)⟩
          · simp only [if_neg q]
            cases e : A.2.2.2.2.2.2.1 k with
            | none => rw [e] at h2; exact (keep _ _ (by omega) (by omega)).trans h2
            | some n =>
              rw [e] at h2
              have hn := (hA.2.2.2.1 k n e).1
              exact ⟨(keep _ _ (by omega) (by omega)).trans h2.1, h2.2.1.kept (fun b p1 p2 => keep _ _ (by omega) (by omega)), fun d hd => (h2.2.2 d hd).kept (fun b p1 p2 => keep _ _ (by omega) (by omega))⟩
end
section
/-! ===== on ===== -/
def onD (D : De) (r n : Nat) : De := (D.1, n, D.2.2.2.2 r, D.2.2.2)
theorem on_ok {D : De} {r n : Nat} (h : okDe D) (e : D.2.2.2.1 r = some n) : okDe (onD D r n) := by
  obtain ⟨k1, k2, k3⟩ := h.2.2.2.1 r n e
  exact ⟨h.1, k1, k3, h.2.2.2.1, fun q => absurd (show D.1 0 = 0 from q) (by omega)⟩
theorem sim_on (x : Int32) : Sim (F_X8_on 0 x) (F_X9_on 134 x) := by
  refine sim_of fun A hA => ?_
  rcases ixc x (n := 3) (by decide) with hx | ⟨r, hr, rfl⟩
  · refine ⟨-1, A, hA, C_same fun σ h => ?_, M_same fun σ h => ?_⟩
    · unfold F_X8_on
      rw [gR_0_2, ob_some, Rm_no sf_7 hx, ob_some, if_neg n10]
    · unfold F_X9_on
      rw [kept_no hx, ob_some, if_pos rfl]
  · cases hs : A.2.2.2.2.2.2.1 r with
    | none =>
      refine ⟨-3, foundA A 1, hA, fun σ h => ?_, fun σ h => ?_⟩
      · obtain ⟨σ', e, h1, h2⟩ := C_refuse (A := A) (f := 1) (by decide) σ h
        refine ⟨σ', ?_, h1, h2⟩
        have g := h.2.2.2.2.2.2.2.2 r hr
        rw [hs] at g
        unfold F_X8_on
        rw [gR_0_2, ob_some, Rm_none sf_7 hr g, e, ob_some, if_neg n30]
      · obtain ⟨σ', e, h1, h2⟩ := M_found (A := A) (f := 1) (by decide) σ h
        refine ⟨σ', ?_, h1, h2⟩
        have g := h.2.2.2.2.2.2 r hr
        rw [hs] at g
        have e' : F_X9_found 134 (1 : Int32) σ = some (-3, σ') := e
        unfold F_X9_on
        rw [kept_yes hr, ob_some, if_neg (by decide), gR_134_2, ob_some, aI_eq sh_136 hr (by decide), ob_some, g, if_neg (by decide), e', ob_some]
    | some n =>
      obtain ⟨k1, k2, k3⟩ := hA.2.2.2.1 r n hs
      refine ⟨nI n, deA A (onD A.2.2.2 r n), on_ok hA hs, fun σ h => ?_, fun σ h => ?_⟩
      · obtain ⟨t1, t2, t3, t4, t5⟩ := h.2.2.2
        have g := t5.2 r hr
        rw [hs] at g
        obtain ⟨g1, g2, g3⟩ := g
        have key : ∃ q, F_X8_on_30 0 (nI r) ((0 : Int32), setI σ 0 7 (nI n)) = some q ∧ (q.1 = nI n ∧ CT q.2 18 (runD A.2.2.2.1 (A.2.2.2.2.2.2.2 r) n) ∧ q.2.1 0 7 = nI n ∧ (∀ d, d < n → q.2.1 34 d = nI (A.2.2.2.2.2.2.2 r d)) ∧ (∀ a b, (a < 18 ∨ 25 < a) → a ≠ 34 → (a ≠ 0 ∨ b ≠ 7) → q.2.1 a b = σ.1 a b) ∧ q.2.2 = σ.2) := by
          unfold F_X8_on_30
          refine lp_inv (Q := fun q : Int32 × Mem => q.1 = nI n ∧ CT q.2 18 (runD A.2.2.2.1 (A.2.2.2.2.2.2.2 r) n) ∧ q.2.1 0 7 = nI n ∧ (∀ d, d < n → q.2.1 34 d = nI (A.2.2.2.2.2.2.2 r d)) ∧ (∀ a b, (a < 18 ∨ 25 < a) → a ≠ 34 → (a ≠ 0 ∨ b ≠ 7) → q.2.1 a b = σ.1 a b) ∧ q.2.2 = σ.2) (fun i (s : Int32 × Mem) => s.1 = nI i ∧ s.2.1 0 7 = nI n ∧ (∀ d, d < i → s.2.1 34 d = nI (A.2.2.2.2.2.2.2 r d)) ∧ (∀ a b, a ≠ 34 → (a ≠ 0 ∨ b ≠ 7) → s.2.1 a b = σ.1 a b) ∧ s.2.2 = σ.2) n ?_ ?_ _ ⟨rfl, ?_, fun d hd => absurd hd (Nat.not_lt_zero d), fun a b q1 q2 => ?_, rfl⟩
          · intro i s hi ⟨a1, a2, a3, a4, a5⟩
            refine ⟨(nI (i + 1), setI s.2 34 i (nI (A.2.2.2.2.2.2.2 r i))), ?_, rfl, ?_, fun d hd => ?_, fun a b q1 q2 => ?_, a5⟩
            · rw [gI_0_7, ob_some, a2, a1, if_neg (nI_ge hi (by omega)), gR_0_6, ob_some, gR_0_2, ob_some, ck_7, ob_some, S_get sf_7 hr (by rw [a4 _ _ (by omega) (by omega)]; exact t5.1) (by rw [a4 _ _ (by omega) (by omega)]; exact g2) g1 hi, ob_some, a4 _ _ (by omega) (by omega), g3 i hi, wr_eq (by decide) sh_34 (by omega) (by decide), ob_some, nI_1]
            · rw [setI_1, if_neg (by omega)]; exact a2
            · rw [setI_1]
              by_cases z : d = i
              · subst z; rw [if_pos ⟨rfl, rfl⟩]
              · rw [if_neg (by omega)]; exact a3 d (by omega)
            · show (setI s.2 34 i (nI (A.2.2.2.2.2.2.2 r i))).1 a b = _
              rw [setI_1, if_neg (by omega)]; exact a4 a b q1 q2
          · intro s ⟨a1, a2, a3, a4, a5⟩
            obtain ⟨σ', e1, e2, e3⟩ := C_redo (σ := s.2) (S := A.2.2.2.1) (ds := A.2.2.2.2.2.2.2 r) (n := n) (t1.kept (fun a b p q => a4 a b (by omega) (by omega))) hA.1 a2 k1 a3 k3
            refine ⟨(nI n, σ'), ?_, rfl, e2, ?_, fun d hd => ?_, fun a b q1 q2 q3 => ?_, ?_⟩
            · rw [gI_0_7, ob_some, a2, a1, if_pos (nI_le (Nat.le_refl _) (by omega)), e1, ob_some, gI_0_7, ob_some, e3.1 _ _ (by decide), a2]
            · show σ'.1 0 7 = _
              rw [e3.1 _ _ (by decide), a2]
            · show σ'.1 34 d = _
              rw [e3.1 _ _ (by decide), a3 d hd]
            · show σ'.1 a b = _
              rw [e3.1 _ _ q1, a4 a b q2 q3]
            · show σ'.2 = _
              rw [e3.2, a5]
          · show (setI σ 0 7 (nI n)).1 0 7 = _
            rw [setI_1, if_pos ⟨rfl, rfl⟩]
          · show (setI σ 0 7 (nI n)).1 a b = _
            rw [setI_1, if_neg (by omega)]
        obtain ⟨⟨v, σ'⟩, e1, rfl, e2, e3, e4, keep, e5⟩ := key
        refine ⟨σ', ?_, ⟨h.1.kept (fun a b p q => keep a b (by omega) (by omega) (by omega)), h.2.1.kept (fun a b p q => keep a b (by omega) (by omega) (by omega)), h.2.2.1.kept (keep _ _ (by decide) (by decide) (by decide)) (keep _ _ (by decide) (by decide) (by decide)) (fun f => keep _ _ (by decide) (by decide) (by omega)) (fun b => by rw [e5]), t1.kept (fun a b p q => keep a b (by omega) (by omega) (by omega)), e2, e3, e4, t5.kept (fun a b p q => keep a b (by omega) (by omega) (by omega))⟩, fun a b q => keep a b (by omega) (by omega) (by omega), fun a b q => by rw [e5]⟩
        unfold F_X8_on
        rw [gR_0_2, ob_some, Rm_some sf_7 hr g1 g2, ob_some, if_pos rfl, ob_some, ck_7, ob_some, S_size sf_7 hr, ob_some, g2, pI_0_7, ob_some, e1]
      · obtain ⟨u1, u2, u3, u4⟩ := h.2.2.2
        have g := u4 r hr
        rw [hs] at g
        obtain ⟨g1, g2, g3⟩ := g
        obtain ⟨σ1, e1, c1, c2, c3⟩ := M_cp (σ := σ) (f := 1804 * (1 + r)) (t := 0) (n := 1804) (by omega) (by omega) (by omega)
        have e1' : F_X9_copyAll 134 ((1804 : Int32) * ((1 : Int32) + nI r)) (0 : Int32) (1804 : Int32) σ = some σ1 := by
          rw [show (1804 : Int32) * ((1 : Int32) + nI r) = nI (1804 * (1 + r)) by rw [show (1 : Int32) = nI 1 from rfl, nI_add, show (1804 : Int32) = nI 1804 from rfl, pk_mul]]
          exact e1
        have kk : σ1.1 136 r = nI n := (c2 _ _ (by omega)).trans g1
        have keep : ∀ a b, (a ≠ 135 ∨ 1804 ≤ b) → (a ≠ 134 ∨ b ≠ 1) → (setI σ1 134 1 (nI n)).1 a b = σ.1 a b := fun a b q1 q3 => by
          rw [setI_1, if_neg (by omega), c2 a b (by omega)]
        have cp : ∀ {f : Nat} {T : Tn}, MT σ (1804 * (1 + r) + f) T → f + 44 ≤ 1804 → MT (setI σ1 134 1 (nI n)) f T := fun {f T} hT hf j hj => by
          have := c1 (f + j) (by omega)
          rw [Nat.zero_add] at this
          rw [setI_1, if_neg (by omega), this, ← Nat.add_assoc]
          exact hT j hj
        refine ⟨setI σ1 134 1 (nI n), ?_, ⟨h.1.kept (fun a j q => keep a j (by omega) (by omega)), h.2.1.kept (fun a j q => keep a j (by omega) (by omega)), h.2.2.1.kept (keep _ _ (by omega) (by omega)) (keep _ _ (by omega) (by omega)) (fun f => keep _ _ (by omega) (by omega)) (by show σ1.2 _ _ = _; rw [c3]) (by show σ1.2 _ _ = _; rw [c3]), cp g2 (by decide), fun d hd => cp (g3 d hd) (by have hd : d < n := hd; omega), ?_, fun k hk => ?_⟩, fun a b q => keep a b (by omega) (by omega), fun a b q => by show σ1.2 _ _ = _; rw [c3]⟩
        · unfold F_X9_on
          rw [kept_yes hr, ob_some, if_neg (by decide), gR_134_2, ob_some, aI_eq sh_136 hr (by decide), ob_some, g1, if_pos (nI_pos' (by omega)), e1', ob_some, ob_some, aI_eq sh_136 hr (by decide), ob_some, kk, pI_134_1, ob_some, gI_134_1, ob_some, setI_1, if_pos ⟨rfl, rfl⟩]
        · rw [setI_1, if_pos ⟨rfl, rfl⟩]; rfl
        · have h2 := u4 k hk
          show match A.2.2.2.2.2.2.1 k with
            | none => (setI σ1 134 1 (nI n)).1 136 k = -1
            | some m => (setI σ1 134 1 (nI n)).1 136 k = nI m ∧ MT (setI σ1 134 1 (nI n)) (1804 * (1 + k)) (runD A.2.2.2.1 (A.2.2.2.2.2.2.2 k) m) ∧ ∀ d, d < m → MT (setI σ1 134 1 (nI n)) (1804 * (1 + k) + 44 * (1 + d)) (runD A.2.2.2.1 (A.2.2.2.2.2.2.2 k) d)
          cases e : A.2.2.2.2.2.2.1 k with
          | none => rw [e] at h2; exact (keep _ _ (by omega) (by omega)).trans h2
          | some m =>
            rw [e] at h2
            exact ⟨(keep _ _ (by omega) (by omega)).trans h2.1, h2.2.1.kept (fun b p1 p2 => keep _ _ (by omega) (by omega)), fun d hd => (h2.2.2 d hd).kept (fun b p1 p2 => keep _ _ (by omega) (by omega))⟩
end
section
/-! ===== mean ===== -/
def accS (f : Nat → Int32) : Nat → Int64
  | 0 => 0
  | n + 1 => accS f n + (f n).toInt64
theorem nz_row {n : Nat} (h0 : 0 < n) (hn : n ≤ 1000) : nzL (nI n).toInt64 = some () := by
  unfold nzL
  rw [if_neg]
  intro z
  have e := congrArg Int64.toInt z
  rw [wide, nI_toInt (by omega)] at e
  have e0 : (0 : Int64).toInt = 0 := rfl
  rw [e0] at e
  omega
theorem sim_mean (a : Int32) : Sim (F_X8_mean 0 a) (F_X9_mean 134 a) := by
  refine sim_of fun A hA => ?_
  rcases ixc a (n := 6) (by decide) with ha | ⟨r, hr, rfl⟩
  · refine ⟨-1, A, hA, C_same fun σ _ => ?_, M_same fun σ _ => ?_⟩
    · unfold F_X8_mean
      rw [gR_0_0, ob_some, Rm_no sf_1 ha, ob_some, if_neg n10]
    · unfold F_X9_mean
      rw [row_no ha, ob_some, if_pos rfl]
  · cases hs : A.1.1 r with
    | none =>
      refine ⟨-3, foundA A 1, hA, fun σ h => ?_, fun σ h => ?_⟩
      · obtain ⟨σ', e, h1, h2⟩ := C_refuse (A := A) (f := 1) (by decide) σ h
        refine ⟨σ', ?_, h1, h2⟩
        unfold F_X8_mean
        rw [gR_0_0, ob_some, Rm_none sf_1 hr (h.1.no hr hs), e, ob_some, if_neg n30]
      · obtain ⟨σ', e, h1, h2⟩ := M_found (A := A) (f := 1) (by decide) σ h
        have e' : F_X9_found 134 (1 : Int32) σ = some (-3, σ') := e
        refine ⟨σ', ?_, h1, h2⟩
        unfold F_X9_mean
        rw [row_yes hr, ob_some, if_neg (by decide), gR_134_4, ob_some, aI_eq sh_138 hr (by decide), ob_some, h.1.no hr hs, if_neg nm1, e', ob_some]
    | some n =>
      rcases Nat.lt_or_ge 40 n with hbig | hsm
      · exact ⟨-1, A, hA, fun σ h => absurd (h.1.row hr hs).1 (by omega), fun σ h => absurd (h.1.row hr hs).1 (by omega)⟩
      by_cases hz : n = 0
      · refine ⟨-3, foundA A 4, hA, fun σ h => ?_, fun σ h => ?_⟩
        · obtain ⟨hn, g1, g2⟩ := h.1.row hr hs
          obtain ⟨σ', e, h1, h2⟩ := C_refuse (A := A) (f := 4) (by decide) σ h
          have e' : F_X8_refuse 0 (4 : Int32) σ = some (-3, σ') := e
          refine ⟨σ', ?_, h1, h2⟩
          unfold F_X8_mean
          rw [gR_0_0, ob_some, Rm_some sf_1 hr hn g1, ob_some, if_pos rfl, ob_some, ck_1, ob_some, S_size sf_1 hr, ob_some, g1, hz, if_neg (by decide), e', ob_some]
        · obtain ⟨hn, g1, g2⟩ := h.1.row hr hs
          obtain ⟨σ', e, h1, h2⟩ := M_found (A := A) (f := 4) (by decide) σ h
          have e' : F_X9_found 134 (4 : Int32) σ = some (-3, σ') := e
          refine ⟨σ', ?_, h1, h2⟩
          unfold F_X9_mean
          rw [row_yes hr, ob_some, if_neg (by decide), gR_134_4, ob_some, aI_eq sh_138 hr (by decide), ob_some, g1, hz, if_pos (by decide), ob_some, aI_eq sh_138 hr (by decide), ob_some, g1, hz, if_pos (show nI 0 = (0 : Int32) from rfl), e', ob_some]
      · refine ⟨1, toldA A (accS (A.1.2 r) n / (nI n).toInt64).toInt32, hA, fun σ h => ?_, fun σ h => ?_⟩
        · obtain ⟨hn, g1, g2⟩ := h.1.row hr hs
          obtain ⟨σ', e, h1, h2⟩ := C_tell (A := A) (v := (accS (A.1.2 r) n / (nI n).toInt64).toInt32) σ h
          refine ⟨σ', ?_, h1, h2⟩
          have key : ∃ q, F_X8_mean_41 0 (nI r) (nI n) σ ((0 : Int64), (0 : Int32)) = some q ∧ q = (1, σ') := by
            unfold F_X8_mean_41
            refine lp_inv (Q := fun q : Int32 × Mem => q = (1, σ')) (fun i (s : Int64 × Int32) => s.1 = accS (A.1.2 r) i ∧ s.2 = nI i) n ?_ ?_ _ ⟨rfl, rfl⟩
            · intro i s hi ⟨a1, a2⟩
              refine ⟨(accS (A.1.2 r) (i + 1), nI (i + 1)), ?_, rfl, rfl⟩
              rw [a2, if_neg (nI_ge hi (by omega)), gR_0_0, ob_some, ck_1, ob_some, S_get sf_1 hr h.1.1 g1 hn hi, ob_some, g2 i hi, a1, nI_1]
              rfl
            · intro s ⟨a1, a2⟩
              exact ⟨(1, σ'), by rw [a2, if_pos (nI_le (Nat.le_refl _) (by omega)), nz_row (by omega) (by omega), ob_some, a1, e, ob_some], rfl⟩
          obtain ⟨q, e2, rfl⟩ := key
          unfold F_X8_mean
          rw [gR_0_0, ob_some, Rm_some sf_1 hr hn g1, ob_some, if_pos rfl, ob_some, ck_1, ob_some, S_size sf_1 hr, ob_some, g1, if_pos (show (0 : Int32) < nI n from nI_lt (a := 0) (b := n) (by omega) (by omega)), e2]
        · obtain ⟨hn, g1, g2⟩ := h.1.row hr hs
          obtain ⟨σ', e, h1, h2⟩ := M_tells (A := A) (v := (accS (A.1.2 r) n / (nI n).toInt64).toInt32) (r := 1) σ h
          refine ⟨σ', ?_, h1, h2⟩
          have key : ∃ q, F_X9_mean_44 134 (nI r) σ ((0 : Int64), (0 : Int32)) = some q ∧ q = (1, σ') := by
            unfold F_X9_mean_44
            refine lp_inv (Q := fun q : Int32 × Mem => q = (1, σ')) (fun i (s : Int64 × Int32) => s.1 = accS (A.1.2 r) i ∧ s.2 = nI i) n ?_ ?_ _ ⟨rfl, rfl⟩
            · intro i s hi ⟨a1, a2⟩
              refine ⟨(accS (A.1.2 r) (i + 1), nI (i + 1)), ?_, rfl, rfl⟩
              rw [gR_134_4, ob_some, aI_eq sh_138 hr (by decide), ob_some, g1, a2, if_neg (nI_ge hi (by omega)), gR_134_3, ob_some, ix40, aI_eq sh_137 (by omega) (by decide), ob_some, g2 i hi, a1, nI_1]
              rfl
            · intro s ⟨a1, a2⟩
              exact ⟨(1, σ'), by rw [gR_134_4, ob_some, aI_eq sh_138 hr (by decide), ob_some, g1, a2, if_pos (nI_le (Nat.le_refl _) (by omega)), ob_some, aI_eq sh_138 hr (by decide), ob_some, g1, nz_row (by omega) (by omega), ob_some, a1, e, ob_some], rfl⟩
          obtain ⟨q, e2, rfl⟩ := key
          unfold F_X9_mean
          rw [row_yes hr, ob_some, if_neg (by decide), gR_134_4, ob_some, aI_eq sh_138 hr (by decide), ob_some, g1, if_pos (nI_pos' (by omega)), ob_some, aI_eq sh_138 hr (by decide), ob_some, g1, if_neg (nI_ne0 (by omega) (by omega)), e2]
end
section
/-! ===== copy ===== -/
theorem sub_pos {n : Nat} {y : Int32} (hn : n ≤ 1000) (hy : 0 ≤ y.toInt) : (nI n - y).toInt = (n : Int) - y.toInt := by
  have h2 := Int32.toInt_lt y
  rw [Int32.toInt_sub, nI_toInt (by omega)]
  exact Int.bmod_eq_of_le (by omega) (by omega)
theorem add64 {x y : Int32} : (x.toInt64 + y.toInt64).toInt = x.toInt + y.toInt := by
  have h1 := Int32.toInt_lt x
  have h2 := Int32.toInt_lt y
  have h3 := Int32.le_toInt x
  have h4 := Int32.le_toInt y
  rw [Int64.toInt_add, wide, wide]
  exact Int.bmod_eq_of_le (by omega) (by omega)
theorem neg_iff {x : Int32} : x < 0 ↔ x.toInt < 0 := by rw [Int32.lt_iff_toInt_lt]; rfl
theorem S_holds {σ : Mem} {b many room r n : Nat} {x y : Int32} (h : Sf b many room) (hr : r < many) (hs : σ.1 (b + 1) r = nI n) (hn : n ≤ room) (hy : 0 ≤ y.toInt) : F_X6_holds b (nI r) x y σ = some (if 0 ≤ x.toInt ∧ x.toInt + y.toInt ≤ n then 1 else 0) := by
  have h9 := h.2.2.2.2.2.2.2.2.1
  unfold F_X6_holds
  by_cases q : x < 0
  · have q' := neg_iff.mp q
    rw [if_pos q, if_neg (by omega)]
  · have q' : ¬ x.toInt < 0 := fun z => q (neg_iff.mpr z)
    rw [if_neg q, if_neg (show ¬ y < 0 from fun z => by have := neg_iff.mp z; omega), S_size h hr, ob_some, hs]
    have e2 := sub_pos (n := n) (y := y) (by omega) hy
    by_cases z : (nI n - y) < x
    · rw [if_pos z]
      rw [Int32.lt_iff_toInt_lt, e2] at z
      rw [if_neg (by omega)]
    · rw [if_neg z]
      rw [Int32.lt_iff_toInt_lt, e2] at z
      rw [if_pos (by omega)]
theorem M_fits {σ : Mem} {n : Nat} {x y : Int32} (hn : n ≤ 1000) (hy : 0 ≤ y.toInt) : F_X9_fits x y (nI n) σ = some (if 0 ≤ x.toInt ∧ x.toInt + y.toInt ≤ n then 1 else 0) := by
  unfold F_X9_fits
  by_cases q : x < 0
  · have q' := neg_iff.mp q
    rw [if_pos q, if_neg (by omega)]
  · have q' : ¬ x.toInt < 0 := fun z => q (neg_iff.mpr z)
    rw [if_neg q]
    have e : (0 < (lg_cmp (x.toInt64 + y.toInt64) (nI n).toInt64)) ↔ (n : Int) < x.toInt + y.toInt := by
      rw [cmp_gt0, Int64.lt_iff_toInt_lt, add64, wide, nI_toInt (by omega)]
    by_cases z : (n : Int) < x.toInt + y.toInt
    · rw [if_pos (e.mpr z), if_neg (by omega)]
    · rw [if_neg (fun w => z (e.mp w)), if_pos (by omega)]
theorem nat_of {x : Int32} (h : 0 ≤ x.toInt) : ∃ i : Nat, (i : Int) = x.toInt ∧ x = nI i := by
  refine ⟨x.toInt.toNat, by omega, ?_⟩
  have h2 := Int32.toInt_lt x
  apply Int32.toInt_inj.mp
  rw [nI_toInt (by omega)]
  omega
theorem cp_eq {a b la lb sp dp n : Nat} {σ : Mem} (ha : shp a = .inr (.inl la)) (hb : shp b = .inr (.inl lb)) (h1 : sp + n ≤ la) (h2 : dp + n ≤ lb) (hl : la ≤ 100000 ∧ lb ≤ 100000) (h3 : a < nW) (h4 : b < nW) : cpI a (nI sp) b (nI dp) (nI n) σ = some (fun x y => if x = b then va_cpy (σ.1 a) (σ.1 b) sp dp n y else σ.1 x y, σ.2) := by
  unfold cpI
  rw [ha, hb]
  dsimp only
  rw [if_pos (by rw [nI_toInt (by omega), nI_toInt (by omega), nI_toInt (by omega)]; omega)]
  have e : ∀ m : Nat, m < 2 ^ 31 → (nI m).toNatClampNeg = m := fun m hm => by
    show (nI m).toInt.toNat = m
    rw [nI_toInt hm]; rfl
  rw [e sp (by omega), e dp (by omega), e n (by omega)]
theorem cp_ex {a b la lb sp dp n : Nat} {σ : Mem} (ha : shp a = .inr (.inl la)) (hb : shp b = .inr (.inl lb)) (h1 : sp + n ≤ la) (h2 : dp + n ≤ lb) (hl : la ≤ 100000 ∧ lb ≤ 100000) (h3 : a < nW) (h4 : b < nW) : ∃ σ', cpI a (nI sp) b (nI dp) (nI n) σ = some σ' ∧ (∀ y, dp ≤ y → y < dp + n → σ'.1 b y = σ.1 a (sp + (y - dp))) ∧ (∀ x y, (x ≠ b ∨ y < dp ∨ dp + n ≤ y) → σ'.1 x y = σ.1 x y) ∧ σ'.2 = σ.2 := by
  refine ⟨_, cp_eq ha hb h1 h2 hl h3 h4, fun y q1 q2 => ?_, fun x y q => ?_, rfl⟩
  · show (if b = b then va_cpy (σ.1 a) (σ.1 b) sp dp n y else _) = _
    rw [if_pos rfl, pk_cpy_in q1 q2]
  · show (if x = b then va_cpy (σ.1 a) (σ.1 b) sp dp n y else σ.1 x y) = _
    by_cases z : x = b
    · rw [if_pos z, z, pk_cpy_out (q.resolve_left (fun w => w z))]
    · rw [if_neg z]
/-- row b with c numbers of row a from i on, from j on -/
def copF (A : Ab) (a b i j c : Nat) : Nat → Int32 := fun y => if j ≤ y ∧ y < j + c then A.1.2 a (i + (y - j)) else A.1.2 b y
theorem rw_bnd {r i n : Nat} (hr : r < 6) (hn : i + n ≤ 40) : r * 40 + i + n ≤ 240 := by omega
theorem C_cop {A : Ab} {a b i j c na nb : Nat} (ha : a < 6) (hb : b < 6) (h1 : A.1.1 a = some na) (h2 : A.1.1 b = some nb) (hi : i + c ≤ na) (hj : j + c ≤ nb) (σ : Mem) (h : RC A σ) : ∃ σ', F_X6_move 1 (nI a) (nI i) (nI b) (nI j) (nI c) σ = some σ' ∧ RC (rowA A b (some nb) (copF A a b i j c)) σ' ∧ FC σ σ' := by
  obtain ⟨n1, g1, g2⟩ := h.1.row ha h1
  obtain ⟨n2, g3, g4⟩ := h.1.row hb h2
  have e40 : ∀ r x : Nat, (nI r * nI 40) + nI x = nI (r * 40 + x) := fun r x => by rw [pk_mul, nI_add]
  obtain ⟨σ', e, k1, k2, k3⟩ := cp_ex (σ := σ) (a := 3) (b := 3) (sp := a * 40 + i) (dp := b * 40 + j) (n := c) sh_3 sh_3 (by omega) (by omega) (by decide) (by decide) (by decide)
  have en : nI 240 - nI c = nI (240 - c) := pk_sub (by omega)
  have keep : ∀ x y, x ≠ 3 → σ'.1 x y = σ.1 x y := fun x y q => k2 x y (Or.inl q)
  refine ⟨σ', ?_, ⟨?_, h.2.1.kept (fun x y p q => keep x y (by omega)), h.2.2.1.kept (keep _ _ (by decide)) (keep _ _ (by decide)) (fun f => keep _ _ (by decide)) (fun f => by rw [k3]), h.2.2.2.kept (keep _ _ (by decide)) (fun x y q => keep x y (by omega))⟩, fun x y q => keep x y (by omega), fun x y q => by rw [k3]⟩
  · unfold F_X6_move
    rw [gR_1_2, ob_some, gI_1_0, ob_some, h.1.1, e40, ob_some, e40]
    unfold F_X8_shift
    rw [aN_eq (by decide) sh_3, ob_some, if_neg (nI_pos (by omega)), if_neg (nI_pos (by omega)), en, if_neg (nI_nlt (by omega) (by omega)), if_neg (nI_pos (by omega)), if_neg (nI_nlt (by omega) (by omega)), e, ob_some, ob_some]
  · refine h.1.make (f := copF A a b i j c) hb n2 ((keep _ _ (by decide)).trans g3) (fun y hy => ?_) ⟨fun x y q1 q2 => k2 x y (by omega), k3⟩
    unfold copF
    by_cases q : j ≤ y ∧ y < j + c
    · rw [if_pos q]
      have := k1 (b * 40 + y) (by omega) (by omega)
      refine this.trans ?_
      rw [show a * 40 + i + (b * 40 + y - (b * 40 + j)) = a * 40 + (i + (y - j)) by omega]
      exact g2 _ (by omega)
    · rw [if_neg q, k2 _ _ (by omega)]
      exact g4 y hy
end
section
/-! ===== copy, the reference's, and both ===== -/
theorem M_put {σ : Mem} {v : Nat → Int32} {b j c : Nat} (hb : b < 6) (hj : j + c ≤ 40) (hv : ∀ k, k < c → σ.1 141 k = v k) : ∃ q, F_X9_copy_128 134 (nI b) (nI j) (nI c) ((0 : Int32), σ) = some q ∧ (q.1 = 1 ∧ (∀ k, k < c → q.2.1 137 (b * 40 + j + k) = v k) ∧ (∀ x y, (x ≠ 137 ∨ y < b * 40 + j ∨ b * 40 + j + c ≤ y) → q.2.1 x y = σ.1 x y) ∧ q.2.2 = σ.2) := by
  unfold F_X9_copy_128
  refine lp_inv (Q := fun q : Int32 × Mem => q.1 = 1 ∧ (∀ k, k < c → q.2.1 137 (b * 40 + j + k) = v k) ∧ (∀ x y, (x ≠ 137 ∨ y < b * 40 + j ∨ b * 40 + j + c ≤ y) → q.2.1 x y = σ.1 x y) ∧ q.2.2 = σ.2) (fun n (s : Int32 × Mem) => s.1 = nI n ∧ (∀ k, k < n → s.2.1 137 (b * 40 + j + k) = v k) ∧ (∀ x y, (x ≠ 137 ∨ y < b * 40 + j ∨ b * 40 + j + c ≤ y) → s.2.1 x y = σ.1 x y) ∧ s.2.2 = σ.2) c ?_ ?_ _ ⟨rfl, fun k hk => absurd hk (Nat.not_lt_zero k), fun x y q => rfl, rfl⟩
  · intro n s hn ⟨a1, a2, a3, a4⟩
    refine ⟨(nI (n + 1), setI s.2 137 (b * 40 + j + n) (v n)), ?_, rfl, fun k hk => ?_, fun x y q => ?_, a4⟩
    · rw [a1, if_neg (nI_ge hn (by omega)), gR_134_3, ob_some, gR_134_7, ob_some, aI_eq sh_141 (by omega) (by decide), ob_some, a3 _ _ (by omega), hv n hn, ix40, nI_add, sI_eq sh_137 (by omega) (by decide), ob_some, nI_1]
    · rw [setI_1]
      by_cases z : k = n
      · subst z; rw [if_pos ⟨rfl, rfl⟩]
      · rw [if_neg (by omega)]; exact a2 k (by omega)
    · show (setI s.2 137 (b * 40 + j + n) (v n)).1 x y = _
      rw [setI_1, if_neg (by omega)]; exact a3 x y q
  · intro s ⟨a1, a2, a3, a4⟩
    exact ⟨(1, s.2), by rw [a1, if_pos (nI_le (Nat.le_refl _) (by omega))], rfl, a2, a3, a4⟩
theorem M_cop1 {σ : Mem} {v : Nat → Int32} {a b i j c : Nat} (ha : a < 6) (hb : b < 6) (hi : i + c ≤ 40) (hj : j + c ≤ 40) (hv : ∀ k, k < c → σ.1 137 (a * 40 + i + k) = v k) : ∃ q, F_X9_copy_91 134 (nI a) (nI i) (nI b) (nI j) (nI c) ((0 : Int32), σ) = some q ∧ (q.1 = 1 ∧ (∀ k, k < c → q.2.1 137 (b * 40 + j + k) = v k) ∧ (∀ x y, x ≠ 141 → (x ≠ 137 ∨ y < b * 40 + j ∨ b * 40 + j + c ≤ y) → q.2.1 x y = σ.1 x y) ∧ q.2.2 = σ.2) := by
  unfold F_X9_copy_91
  refine lp_inv (Q := fun q : Int32 × Mem => q.1 = 1 ∧ (∀ k, k < c → q.2.1 137 (b * 40 + j + k) = v k) ∧ (∀ x y, x ≠ 141 → (x ≠ 137 ∨ y < b * 40 + j ∨ b * 40 + j + c ≤ y) → q.2.1 x y = σ.1 x y) ∧ q.2.2 = σ.2) (fun n (s : Int32 × Mem) => s.1 = nI n ∧ (∀ k, k < n → s.2.1 141 k = v k) ∧ (∀ x y, x ≠ 141 → s.2.1 x y = σ.1 x y) ∧ s.2.2 = σ.2) c ?_ ?_ _ ⟨rfl, fun k hk => absurd hk (Nat.not_lt_zero k), fun x y q => rfl, rfl⟩
  · intro n s hn ⟨a1, a2, a3, a4⟩
    refine ⟨(nI (n + 1), setI s.2 141 n (v n)), ?_, rfl, fun k hk => ?_, fun x y q => ?_, a4⟩
    · rw [a1, if_neg (nI_ge hn (by omega)), gR_134_7, ob_some, gR_134_3, ob_some, ix40, nI_add, aI_eq sh_137 (by omega) (by decide), ob_some, a3 _ _ (by omega), hv n hn, sI_eq sh_141 (by omega) (by decide), ob_some, nI_1]
    · rw [setI_1]
      by_cases z : k = n
      · subst z; rw [if_pos ⟨rfl, rfl⟩]
      · rw [if_neg (by omega)]; exact a2 k (by omega)
    · show (setI s.2 141 n (v n)).1 x y = _
      rw [setI_1, if_neg (by omega)]; exact a3 x y q
  · intro s ⟨a1, a2, a3, a4⟩
    obtain ⟨q, e, b1, b2, b3, b4⟩ := M_put (σ := s.2) hb hj a2
    exact ⟨q, by rw [a1, if_pos (nI_le (Nat.le_refl _) (by omega)), e]; rfl, b1, b2, fun x y q1 q2 => (b3 x y q2).trans (a3 x y q1), b4.trans a4⟩
theorem M_cop {A : Ab} {a b i j c na nb : Nat} (ha : a < 6) (hb : b < 6) (h1 : A.1.1 a = some na) (h2 : A.1.1 b = some nb) (hi : i + c ≤ na) (hj : j + c ≤ nb) (σ : Mem) (h : RM A σ) : ∃ σ', F_X9_copy_91 134 (nI a) (nI i) (nI b) (nI j) (nI c) ((0 : Int32), σ) = some (1, σ') ∧ RM (rowA A b (some nb) (copF A a b i j c)) σ' ∧ FM σ σ' := by
  obtain ⟨n1, g1, g2⟩ := h.1.row ha h1
  obtain ⟨n2, g3, g4⟩ := h.1.row hb h2
  obtain ⟨⟨r, σ'⟩, e, rfl, k1, k2, k3⟩ := M_cop1 (σ := σ) (v := fun k => A.1.2 a (i + k)) (a := a) (b := b) (i := i) (j := j) (c := c) ha hb (by omega) (by omega) (fun k hk => by rw [Nat.add_assoc]; exact g2 _ (by omega))
  have keep : ∀ x y, x ≠ 141 → x ≠ 137 → σ'.1 x y = σ.1 x y := fun x y p q => k2 x y p (Or.inl q)
  have k3 : σ'.2 = σ.2 := k3
  refine ⟨σ', e, ⟨?_, h.2.1.kept (fun x y q => keep x y (by omega) (by omega)), h.2.2.1.kept (keep _ _ (by decide) (by decide)) (keep _ _ (by decide) (by decide)) (fun f => keep _ _ (by decide) (by decide)) (by rw [k3]) (by rw [k3]), h.2.2.2.kept (keep _ _ (by decide) (by decide)) (fun x y q => keep x y (by omega) (by omega))⟩, fun x y q => keep x y (by omega) (by omega), fun x y q => by rw [k3]⟩
  refine h.1.make (f := copF A a b i j c) n2 ((keep _ _ (by decide) (by decide)).trans g3) (fun y hy => ?_) (fun x q => keep _ _ (by decide) (by decide)) (fun y q => k2 _ _ (by decide) (by omega))
  unfold copF
  by_cases q : j ≤ y ∧ y < j + c
  · rw [if_pos q]
    have := k1 (y - j) (by omega)
    rw [show b * 40 + j + (y - j) = b * 40 + y by omega] at this
    exact this
  · rw [if_neg q]
    exact (k2 _ _ (by decide) (by omega)).trans (g4 y hy)
end
section
theorem fnd {A : Ab} (f : Nat) (hf : f < 6) : CAns A (F_X8_refuse 0 (nI f)) (-3) (foundA A f) ∧ MAns A (F_X9_found 134 (nI f)) (-3) (foundA A f) := ⟨C_refuse hf, M_found hf⟩
theorem sim_copy (a x b y c : Int32) : Sim (F_X8_copy 0 a x b y c) (F_X9_copy 134 a x b y c) := by
  refine sim_of fun A hA => ?_
  rcases ixc a (n := 6) (by decide) with ha | ⟨r, hr, rfl⟩
  · refine ⟨-1, A, hA, C_same fun σ _ => ?_, M_same fun σ _ => ?_⟩
    · unfold F_X8_copy
      rw [gR_0_0, ob_some, ck_1, ob_some, S_numno sf_1 ha, ob_some, if_pos rfl]
    · unfold F_X9_copy
      rw [row_no ha, ob_some, if_pos rfl]
  rcases ixc b (n := 6) (by decide) with hb | ⟨t, ht, rfl⟩
  · refine ⟨-1, A, hA, C_same fun σ _ => ?_, M_same fun σ _ => ?_⟩
    · unfold F_X8_copy
      rw [gR_0_0, ob_some, ck_1, ob_some, S_num sf_1 hr, ob_some, if_neg (by decide), ob_some, ck_1, ob_some, S_numno sf_1 hb, ob_some, if_pos rfl]
    · unfold F_X9_copy
      rw [row_yes hr, ob_some, if_neg (by decide), row_no hb, ob_some, if_pos rfl]
  have hp : ∀ σ : Mem, F_X8_copy 0 (nI r) x (nI t) y c σ = if 0 ≤ c then (F_X6_stands 1 (nI r) σ).bind fun q21 => if q21 = 0 then F_X8_copy_57 0 σ else (F_X6_stands 1 (nI t) σ).bind fun q27 => if q27 = 0 then F_X8_copy_57 0 σ else (F_X6_holds 1 (nI r) x c σ).bind fun q33 => if q33 = 0 then F_X8_copy_92 0 σ else (F_X6_holds 1 (nI t) y c σ).bind fun q39 => if q39 = 0 then F_X8_copy_92 0 σ else (F_X6_move 1 (nI r) x (nI t) y c σ).bind fun q45 => some ((1 : Int32), q45) else (F_X8_refuse 0 (5 : Int32) σ).bind fun q47 => some (q47.1, q47.2) := fun σ => by
    unfold F_X8_copy
    rw [gR_0_0, ob_some, ck_1, ob_some, S_num sf_1 hr, ob_some, if_neg (by decide), ob_some, ck_1, ob_some, S_num sf_1 ht, ob_some, if_neg (by decide)]
    rfl
  have hq : ∀ σ : Mem, F_X9_copy 134 (nI r) x (nI t) y c σ = if 0 ≤ c then (if σ.1 138 r < 0 then F_X9_copy_45 134 σ else if 0 ≤ σ.1 138 t then (F_X9_fits x c (σ.1 138 r) σ).bind fun q44 => if q44 = 0 then F_X9_copy_82 134 σ else (F_X9_fits y c (σ.1 138 t) σ).bind fun q51 => if q51 = 0 then F_X9_copy_82 134 σ else F_X9_copy_91 134 (nI r) x (nI t) y c ((0 : Int32), σ) else F_X9_copy_45 134 σ) else (F_X9_found 134 (5 : Int32) σ).bind fun q54 => some (q54.1, q54.2) := fun σ => by
    unfold F_X9_copy
    rw [row_yes hr, ob_some, if_neg (by decide), row_yes ht, ob_some, if_neg (by decide), gR_134_4]
    simp only [ob_some, aI_eq sh_138 hr (show 6 ≤ 100000 by decide), aI_eq sh_138 ht (show 6 ≤ 100000 by decide)]
  have f1 := fnd (A := A) 1 (by decide)
  have f2 := fnd (A := A) 2 (by decide)
  have f5 := fnd (A := A) 5 (by decide)
  have r1 : CAns A (F_X8_copy_57 0) (-3) (foundA A 1) := fun σ h => by
    obtain ⟨σ', e, h1, h2⟩ := f1.1 σ h
    have e' : F_X8_refuse 0 (1 : Int32) σ = some (-3, σ') := e
    exact ⟨σ', by unfold F_X8_copy_57; rw [e', ob_some], h1, h2⟩
  have r2 : CAns A (F_X8_copy_92 0) (-3) (foundA A 2) := fun σ h => by
    obtain ⟨σ', e, h1, h2⟩ := f2.1 σ h
    have e' : F_X8_refuse 0 (2 : Int32) σ = some (-3, σ') := e
    exact ⟨σ', by unfold F_X8_copy_92; rw [e', ob_some], h1, h2⟩
  have m1 : MAns A (F_X9_copy_45 134) (-3) (foundA A 1) := fun σ h => by
    obtain ⟨σ', e, h1, h2⟩ := f1.2 σ h
    have e' : F_X9_found 134 (1 : Int32) σ = some (-3, σ') := e
    exact ⟨σ', by unfold F_X9_copy_45; rw [e', ob_some], h1, h2⟩
  have m2 : MAns A (F_X9_copy_82 134) (-3) (foundA A 2) := fun σ h => by
    obtain ⟨σ', e, h1, h2⟩ := f2.2 σ h
    have e' : F_X9_found 134 (2 : Int32) σ = some (-3, σ') := e
    exact ⟨σ', by unfold F_X9_copy_82; rw [e', ob_some], h1, h2⟩
  by_cases hc : 0 ≤ c
  · have hc' : 0 ≤ c.toInt := by
      rw [Int32.le_iff_toInt_le] at hc; exact hc
    cases hs : A.1.1 r with
    | none =>
      refine ⟨-3, foundA A 1, hA, fun σ h => ?_, fun σ h => ?_⟩
      · rw [hp, if_pos hc, S_stands sf_1 hr, ob_some, h.1.no hr hs, if_pos (m1_lt (n := 0)), if_pos rfl]
        exact r1 σ h
      · rw [hq, if_pos hc, h.1.no hr hs, if_pos (m1_lt (n := 0))]
        exact m1 σ h
    | some n =>
      cases hs2 : A.1.1 t with
      | none =>
        refine ⟨-3, foundA A 1, hA, fun σ h => ?_, fun σ h => ?_⟩
        · obtain ⟨hn, g1, g2⟩ := h.1.row hr hs
          rw [hp, if_pos hc, S_stands sf_1 hr, ob_some, g1, if_neg (nI_pos (by omega)), if_neg (by decide), S_stands sf_1 ht, ob_some, h.1.no ht hs2, if_pos (m1_lt (n := 0)), if_pos rfl]
          exact r1 σ h
        · obtain ⟨hn, g1, g2⟩ := h.1.row hr hs
          rw [hq, if_pos hc, g1, if_neg (nI_pos (by omega)), h.1.no ht hs2, if_neg nm1]
          exact m1 σ h
      | some m =>
        rcases Nat.lt_or_ge 40 n with hbig | hsm
        · exact ⟨-1, A, hA, fun σ h => absurd (h.1.row hr hs).1 (by omega), fun σ h => absurd (h.1.row hr hs).1 (by omega)⟩
        rcases Nat.lt_or_ge 40 m with hbig | hsm2
        · exact ⟨-1, A, hA, fun σ h => absurd (h.1.row ht hs2).1 (by omega), fun σ h => absurd (h.1.row ht hs2).1 (by omega)⟩
        have cp : ∀ σ, RC A σ → F_X8_copy 0 (nI r) x (nI t) y c σ = if 0 ≤ x.toInt ∧ x.toInt + c.toInt ≤ n then (if 0 ≤ y.toInt ∧ y.toInt + c.toInt ≤ m then (F_X6_move 1 (nI r) x (nI t) y c σ).bind fun q45 => some ((1 : Int32), q45) else F_X8_copy_92 0 σ) else F_X8_copy_92 0 σ := fun σ h => by
          obtain ⟨hn, g1, g2⟩ := h.1.row hr hs
          obtain ⟨hm, g3, g4⟩ := h.1.row ht hs2
          rw [hp, if_pos hc, S_stands sf_1 hr, ob_some, g1, if_neg (nI_pos (by omega)), if_neg (by decide), S_stands sf_1 ht, ob_some, g3, if_neg (nI_pos (by omega)), if_neg (by decide), S_holds sf_1 hr g1 hn hc', ob_some]
          by_cases z1 : 0 ≤ x.toInt ∧ x.toInt + c.toInt ≤ n
          · rw [if_pos z1, if_pos z1, if_neg (by decide), S_holds sf_1 ht g3 hm hc', ob_some]
            by_cases z2 : 0 ≤ y.toInt ∧ y.toInt + c.toInt ≤ m
            · rw [if_pos z2, if_pos z2, if_neg (by decide)]
            · rw [if_neg z2, if_neg z2, if_pos rfl]
          · rw [if_neg z1, if_neg z1, if_pos rfl]
        have mp : ∀ σ, RM A σ → F_X9_copy 134 (nI r) x (nI t) y c σ = if 0 ≤ x.toInt ∧ x.toInt + c.toInt ≤ n then (if 0 ≤ y.toInt ∧ y.toInt + c.toInt ≤ m then F_X9_copy_91 134 (nI r) x (nI t) y c ((0 : Int32), σ) else F_X9_copy_82 134 σ) else F_X9_copy_82 134 σ := fun σ h => by
          obtain ⟨hn, g1, g2⟩ := h.1.row hr hs
          obtain ⟨hm, g3, g4⟩ := h.1.row ht hs2
          rw [hq, if_pos hc, g1, if_neg (nI_pos (by omega)), g3, if_pos (nI_pos' (by omega)), M_fits (by omega) hc', ob_some]
          by_cases z1 : 0 ≤ x.toInt ∧ x.toInt + c.toInt ≤ n
          · rw [if_pos z1, if_pos z1, if_neg (by decide), M_fits (by omega) hc', ob_some]
            by_cases z2 : 0 ≤ y.toInt ∧ y.toInt + c.toInt ≤ m
            · rw [if_pos z2, if_pos z2, if_neg (by decide)]
            · rw [if_neg z2, if_neg z2, if_pos rfl]
          · rw [if_neg z1, if_neg z1, if_pos rfl]
        by_cases z1 : 0 ≤ x.toInt ∧ x.toInt + c.toInt ≤ n
        · by_cases z2 : 0 ≤ y.toInt ∧ y.toInt + c.toInt ≤ m
          · obtain ⟨k, hk, rfl⟩ := nat_of hc'
            obtain ⟨i, hi, rfl⟩ := nat_of z1.1
            obtain ⟨j, hj, rfl⟩ := nat_of z2.1
            have q1 : i + k ≤ n := by omega
            have q2 : j + k ≤ m := by omega
            refine ⟨1, rowA A t (some m) (copF A r t i j k), hA, fun σ h => ?_, fun σ h => ?_⟩
            · obtain ⟨σ', e, h1, h2⟩ := C_cop hr ht hs hs2 q1 q2 σ h
              exact ⟨σ', by rw [cp σ h, if_pos z1, if_pos z2, e, ob_some], h1, h2⟩
            · obtain ⟨σ', e, h1, h2⟩ := M_cop hr ht hs hs2 q1 q2 σ h
              exact ⟨σ', by rw [mp σ h, if_pos z1, if_pos z2, e], h1, h2⟩
          · refine ⟨-3, foundA A 2, hA, fun σ h => ?_, fun σ h => ?_⟩
            · rw [cp σ h, if_pos z1, if_neg z2]; exact r2 σ h
            · rw [mp σ h, if_pos z1, if_neg z2]; exact m2 σ h
        · refine ⟨-3, foundA A 2, hA, fun σ h => ?_, fun σ h => ?_⟩
          · rw [cp σ h, if_neg z1]; exact r2 σ h
          · rw [mp σ h, if_neg z1]; exact m2 σ h
  · refine ⟨-3, foundA A 5, hA, fun σ h => ?_, fun σ h => ?_⟩
    · obtain ⟨σ', e, h1, h2⟩ := f5.1 σ h
      have e' : F_X8_refuse 0 (5 : Int32) σ = some (-3, σ') := e
      exact ⟨σ', by rw [hp, if_neg hc, e', ob_some], h1, h2⟩
    · obtain ⟨σ', e, h1, h2⟩ := f5.2 σ h
      have e' : F_X9_found 134 (5 : Int32) σ = some (-3, σ') := e
      exact ⟨σ', by rw [hq, if_neg hc, e', ob_some], h1, h2⟩
end
section
/-! ===== a year by lots ===== -/
def lotC (nb w : Nat) : Nat := if w % 4 = 2 then 100 + 10 * (w / 8 % nb) else if w % 4 = 3 then 200 + 10 * (w / 8 % nb) else 0
def lotR (D : De) (s : Nat) : Nat → Nat × Nat × De
  | 0 => (0, s, D)
  | n + 1 => ((lotR D s n).1 + (if (lotR D s n).2.1 * 48271 % 2147483647 % 4 = 2 then inspS (nowT (lotR D s n).2.2) ((lotR D s n).2.1 * 48271 % 2147483647 / 8 % D.1 0) else 0), (lotR D s n).2.1 * 48271 % 2147483647, pushD (lotR D s n).2.2 (lotC (D.1 0) ((lotR D s n).2.1 * 48271 % 2147483647)))
theorem lotC_ok {nb w : Nat} (h : 0 < nb) : okD nb (lotC nb w) := by
  have := Nat.mod_lt (w / 8) h
  unfold lotC
  split
  · exact Or.inr (Or.inl ⟨_, this, Or.inl rfl⟩)
  · split
    · exact Or.inr (Or.inl ⟨_, this, Or.inr rfl⟩)
    · exact Or.inl ⟨rfl, h⟩
theorem lot_ok {D : De} {s : Nat} (hD : okDe D) (h0 : 0 < D.1 0) (hs : s < 2147483647) : ∀ n, D.2.1 + n ≤ 40 → okDe (lotR D s n).2.2 ∧ (lotR D s n).2.2.1 = D.1 ∧ (lotR D s n).2.2.2.1 = D.2.1 + n ∧ (lotR D s n).2.1 < 2147483647
  | 0, _ => ⟨hD, rfl, rfl, hs⟩
  | n + 1, h => by
    obtain ⟨a1, a2, a3, a4⟩ := lot_ok hD h0 hs n (by omega)
    refine ⟨push_ok a1 (by omega) (by rw [a2]; exact lotC_ok h0), a2, ?_, Nat.mod_lt _ (by decide)⟩
    show (lotR D s n).2.2.2.1 + 1 = _
    rw [a3]; omega
theorem lz {w : Nat} (h : w < 2147483647) : (lN w * (48271 : Int64)) - (lN w * (48271 : Int64)) / (2147483647 : Int64) * (2147483647 : Int64) = lN (w * 48271 % 2147483647) := by
  rw [show (48271 : Int64) = lN 48271 from rfl, show (2147483647 : Int64) = lN 2147483647 from rfl, lN_mul, pk_lRem (by omega) (by decide) (by decide)]
theorem lz4 {w : Nat} (h : w < 2147483647) : (lN w - lN w / (4 : Int64) * (4 : Int64)).toInt32 = nI (w % 4) := by
  rw [show (4 : Int64) = lN 4 from rfl, pk_lRem (by omega) (by decide) (by decide), lN_i]
theorem lz8 {w nb : Nat} (h : w < 2147483647) (h0 : 0 < nb) (hb : nb ≤ 6) : ((lN w / (8 : Int64)) - (lN w / (8 : Int64)) / (nI nb).toInt64 * (nI nb).toInt64).toInt32 = nI (w / 8 % nb) := by
  rw [show (8 : Int64) = lN 8 from rfl, nI_l (by omega), pk_lDiv (by omega) (by decide) (by decide), pk_lRem (by omega) h0 (by omega), lN_i]
theorem C_lots {A : Ab} {n s : Nat} (hA : okDe A.2.2.2) (h0 : 0 < A.2.2.2.1 0) (hs : s < 2147483647) (hn : A.2.2.2.2.1 + n ≤ 40) (σ : Mem) (h : RC A σ) : ∃ q, F_X8_lots_64 0 (nI n) (nI (A.2.2.2.1 0)) ((0 : Int32), lN s, (0 : Int32), σ) = some q ∧ (q.1 = nI (lotR A.2.2.2 s n).1 ∧ RC (deA A (lotR A.2.2.2 s n).2.2) q.2 ∧ FC σ q.2) := by
  have h6 := hA.1.1
  unfold F_X8_lots_64
  refine lp_inv (Q := fun q : Int32 × Mem => q.1 = nI (lotR A.2.2.2 s n).1 ∧ RC (deA A (lotR A.2.2.2 s n).2.2) q.2 ∧ FC σ q.2) (fun i (t : Int32 × Int64 × Int32 × Mem) => t.1 = nI (lotR A.2.2.2 s i).1 ∧ t.2.1 = lN (lotR A.2.2.2 s i).2.1 ∧ t.2.2.1 = nI i ∧ RC (deA A (lotR A.2.2.2 s i).2.2) t.2.2.2 ∧ FC σ t.2.2.2) n ?_ ?_ _ ⟨rfl, rfl, rfl, h, FC.rf⟩
  · intro i t hi ⟨a1, a2, a3, a4, a5⟩
    obtain ⟨b1, b2, b3, b4⟩ := lot_ok hA h0 hs i (by omega)
    have hw : (t.2.1 * (48271 : Int64)) - (t.2.1 * (48271 : Int64)) / (2147483647 : Int64) * (2147483647 : Int64) = lN ((lotR A.2.2.2 s i).2.1 * 48271 % 2147483647) := by rw [a2]; exact lz b4
    have hm := Nat.mod_lt ((lotR A.2.2.2 s i).2.1 * 48271) (show 2147483647 > 0 by decide)
    generalize hwv : (lotR A.2.2.2 s i).2.1 * 48271 % 2147483647 = w at hw hm
    have hk := Nat.mod_lt (w / 8) h0
    have hr : lotR A.2.2.2 s (i + 1) = ((lotR A.2.2.2 s i).1 + (if w % 4 = 2 then inspS (nowT (lotR A.2.2.2 s i).2.2) (w / 8 % A.2.2.2.1 0) else 0), w, pushD (lotR A.2.2.2 s i).2.2 (lotC (A.2.2.2.1 0) w)) := by rw [← hwv]; rfl
    have e2 : (nI (w % 4) = (2 : Int32)) ↔ w % 4 = 2 := nI_eq (b := 2) (by omega) (by decide)
    have e3 : (nI (w % 4) = (3 : Int32)) ↔ w % 4 = 3 := nI_eq (b := 3) (by omega) (by decide)
    have hc := lotC_ok (w := w) h0
    rw [hr]
    by_cases z2 : w % 4 = 2
    · have hl : lotC (A.2.2.2.1 0) w = 100 + 10 * (w / 8 % A.2.2.2.1 0) := by unfold lotC; rw [if_pos z2]
      rw [hl] at hc ⊢
      obtain ⟨σ', e, c1, c2⟩ := C_enact (A := deA A (lotR A.2.2.2 s i).2.2) (w := 1) (i := w / 8 % A.2.2.2.1 0) (j := 0) (c := 100 + 10 * (w / 8 % A.2.2.2.1 0)) b1 (by show (lotR A.2.2.2 s i).2.2.2.1 < 40; omega) (by show okD ((lotR A.2.2.2 s i).2.2.1 0) _; rw [b2]; exact hc) (by omega) t.2.2.2 a4
      rw [an_insp (by omega)] at e
      have e' : F_X8_enact 0 (1 : Int32) (nI (w / 8 % A.2.2.2.1 0)) (0 : Int32) t.2.2.2 = some (nI (inspS (nowT (lotR A.2.2.2 s i).2.2) (w / 8 % A.2.2.2.1 0)), σ') := e
      refine ⟨(nI ((lotR A.2.2.2 s i).1 + inspS (nowT (lotR A.2.2.2 s i).2.2) (w / 8 % A.2.2.2.1 0)), lN w, nI (i + 1), σ'), ?_, by rw [if_pos z2], rfl, rfl, c1, a5.tr c2⟩
      simp only [a3, hw, lz4 hm, lz8 hm h0 h6, nz_row h0 (show A.2.2.2.1 0 ≤ 1000 by omega), ob_some, e']
      rw [if_neg (nI_ge hi (by omega)), if_pos (e2.mpr z2), a1, nI_add, nI_1]
    · by_cases z3 : w % 4 = 3
      · have hl : lotC (A.2.2.2.1 0) w = 200 + 10 * (w / 8 % A.2.2.2.1 0) := by unfold lotC; rw [if_neg z2, if_pos z3]
        rw [hl] at hc ⊢
        obtain ⟨σ', e, c1, c2⟩ := C_enact (A := deA A (lotR A.2.2.2 s i).2.2) (w := 2) (i := w / 8 % A.2.2.2.1 0) (j := 0) (c := 200 + 10 * (w / 8 % A.2.2.2.1 0)) b1 (by show (lotR A.2.2.2 s i).2.2.2.1 < 40; omega) (by show okD ((lotR A.2.2.2 s i).2.2.1 0) _; rw [b2]; exact hc) (by omega) t.2.2.2 a4
        have e' : F_X8_enact 0 (2 : Int32) (nI (w / 8 % A.2.2.2.1 0)) (0 : Int32) t.2.2.2 = some (_, σ') := e
        refine ⟨(nI (lotR A.2.2.2 s i).1, lN w, nI (i + 1), σ'), ?_, by rw [if_neg z2]; rfl, rfl, rfl, c1, a5.tr c2⟩
        simp only [a3, hw, lz4 hm, lz8 hm h0 h6, nz_row h0 (show A.2.2.2.1 0 ≤ 1000 by omega), ob_some, e']
        rw [if_neg (nI_ge hi (by omega)), if_neg (fun q => z2 (e2.mp q)), if_pos (e3.mpr z3), a1, nI_1]
      · have hl : lotC (A.2.2.2.1 0) w = 0 := by unfold lotC; rw [if_neg z2, if_neg z3]
        rw [hl] at hc ⊢
        obtain ⟨σ', e, c1, c2⟩ := C_enact (A := deA A (lotR A.2.2.2 s i).2.2) (w := 0) (i := 0) (j := 0) (c := 0) b1 (by show (lotR A.2.2.2 s i).2.2.2.1 < 40; omega) (by show okD ((lotR A.2.2.2 s i).2.2.1 0) _; rw [b2]; exact hc) (by omega) t.2.2.2 a4
        have e' : F_X8_enact 0 (0 : Int32) (0 : Int32) (0 : Int32) t.2.2.2 = some (_, σ') := e
        refine ⟨(nI (lotR A.2.2.2 s i).1, lN w, nI (i + 1), σ'), ?_, by rw [if_neg z2]; rfl, rfl, rfl, c1, a5.tr c2⟩
        simp only [a3, hw, lz4 hm, lz8 hm h0 h6, nz_row h0 (show A.2.2.2.1 0 ≤ 1000 by omega), ob_some, e']
        rw [if_neg (nI_ge hi (by omega)), if_neg (fun q => z2 (e2.mp q)), if_neg (fun q => z3 (e3.mp q)), a1, nI_1]
  · intro t ⟨a1, a2, a3, a4, a5⟩
    exact ⟨(t.1, t.2.2.2), by rw [a3, if_pos (nI_le (Nat.le_refl _) (by omega))], a1, a4, a5⟩
end
section
theorem M_lots {A : Ab} {n s : Nat} (hA : okDe A.2.2.2) (h0 : 0 < A.2.2.2.1 0) (hs : s < 2147483647) (hn : A.2.2.2.2.1 + n ≤ 40) (σ : Mem) (h : RM A σ) : ∃ q, F_X9_lots_59 134 (nI n) (lN s, (0 : Int32), (0 : Int32), σ) = some q ∧ (q.1 = nI (lotR A.2.2.2 s n).1 ∧ RM (deA A (lotR A.2.2.2 s n).2.2) q.2 ∧ FM σ q.2) := by
  have h6 := hA.1.1
  unfold F_X9_lots_59
  refine lp_inv (Q := fun q : Int32 × Mem => q.1 = nI (lotR A.2.2.2 s n).1 ∧ RM (deA A (lotR A.2.2.2 s n).2.2) q.2 ∧ FM σ q.2) (fun i (t : Int64 × Int32 × Int32 × Mem) => t.2.1 = nI (lotR A.2.2.2 s i).1 ∧ t.1 = lN (lotR A.2.2.2 s i).2.1 ∧ t.2.2.1 = nI i ∧ RM (deA A (lotR A.2.2.2 s i).2.2) t.2.2.2 ∧ FM σ t.2.2.2) n ?_ ?_ _ ⟨rfl, rfl, rfl, h, FM.rf⟩
  · intro i t hi ⟨a1, a2, a3, a4, a5⟩
    obtain ⟨b1, b2, b3, b4⟩ := lot_ok hA h0 hs i (by omega)
    have hw : (t.1 * (48271 : Int64)) - (t.1 * (48271 : Int64)) / (2147483647 : Int64) * (2147483647 : Int64) = lN ((lotR A.2.2.2 s i).2.1 * 48271 % 2147483647) := by rw [a2]; exact lz b4
    have hm := Nat.mod_lt ((lotR A.2.2.2 s i).2.1 * 48271) (show 2147483647 > 0 by decide)
    generalize hwv : (lotR A.2.2.2 s i).2.1 * 48271 % 2147483647 = w at hw hm
    have hk := Nat.mod_lt (w / 8) h0
    have hr : lotR A.2.2.2 s (i + 1) = ((lotR A.2.2.2 s i).1 + (if w % 4 = 2 then inspS (nowT (lotR A.2.2.2 s i).2.2) (w / 8 % A.2.2.2.1 0) else 0), w, pushD (lotR A.2.2.2 s i).2.2 (lotC (A.2.2.2.1 0) w)) := by rw [← hwv]; rfl
    have e2 : (nI (w % 4) = (2 : Int32)) ↔ w % 4 = 2 := nI_eq (b := 2) (by omega) (by decide)
    have e2' : ((2 : Int32) ≤ nI (w % 4)) ↔ 2 ≤ w % 4 := nI_leI (a := 2) (by decide) (by omega)
    obtain ⟨hnw, hn0⟩ := now_wf b1
    rw [b2] at hn0
    have hv0 : t.2.2.2.1 135 0 = nI (A.2.2.2.1 0) := by
      have := a4.now 0 (by decide)
      have this : t.2.2.2.1 135 0 = nI (nowT (lotR A.2.2.2 s i).2.2 0) := this
      rw [this, hn0]
    have hrd : aI 135 (0 : Int32) t.2.2.2 = some (nI (A.2.2.2.1 0)) := (w_rd (j := 0) (by decide)).trans (by rw [hv0])
    have h40 : (lotR A.2.2.2 s i).2.2.2.1 < 40 := by omega
    obtain ⟨σ1, f1, m1, m2, m3, m4⟩ := M_minds a4.dc h40
    have t0 : MT σ1 0 (nowT (lotR A.2.2.2 s i).2.2) := a4.now.kept (fun b p1 p2 => m3 _ _ (Or.inr (Or.inl (by show b < 44 * (1 + (lotR A.2.2.2 s i).2.2.2.1); omega))) (by omega))
    have hi6 : w / 8 % A.2.2.2.1 0 < nowT (lotR A.2.2.2 s i).2.2 0 := by rw [hn0]; exact hk
    rw [hr]
    by_cases z2 : w % 4 = 2
    · have hl : lotC (A.2.2.2.1 0) w = 100 + 10 * (w / 8 % A.2.2.2.1 0) := by unfold lotC; rw [if_pos z2]
      rw [hl]
      obtain ⟨σ2, f2, g1, g2⟩ := M_insp (f := 0) t0 (by decide) hnw hi6
      rw [← ap_insp (by omega)] at g1
      obtain ⟨k1, k2⟩ := M_push2 (A := deA A (lotR A.2.2.2 s i).2.2) a4 h40 m1 m2 m3 m4 g1 g2
      have f2' : F_X9_inspects 134 (0 : Int32) (nI (w / 8 % A.2.2.2.1 0)) σ1 = some (nI (inspS (nowT (lotR A.2.2.2 s i).2.2) (w / 8 % A.2.2.2.1 0)), σ2) := f2
      refine ⟨(lN w, nI ((lotR A.2.2.2 s i).1 + inspS (nowT (lotR A.2.2.2 s i).2.2) (w / 8 % A.2.2.2.1 0)), nI (i + 1), σ2), ?_, by rw [if_pos z2], rfl, rfl, k1, a5.tr k2⟩
      simp only [a3, hw, lz4 hm, wR, hrd, lz8 hm h0 h6, nz_row h0 (show A.2.2.2.1 0 ≤ 1000 by omega), ob_some, f1, f2']
      rw [if_neg (nI_ge hi (by omega)), if_pos (e2'.mpr (by omega)), if_pos (e2.mpr z2), a1, nI_add, nI_1]
    · by_cases z3 : w % 4 = 3
      · have hl : lotC (A.2.2.2.1 0) w = 200 + 10 * (w / 8 % A.2.2.2.1 0) := by unfold lotC; rw [if_neg z2, if_pos z3]
        rw [hl]
        have bb := hnw.2.2.1 _ hi6
        have hv1 := t0 (21 + w / 8 % A.2.2.2.1 0) (by omega)
        rw [Nat.zero_add] at hv1
        have g1 : MT (setI σ1 135 (0 + (21 + w / 8 % A.2.2.2.1 0)) (nI (nowT (lotR A.2.2.2 s i).2.2 (21 + w / 8 % A.2.2.2.1 0) - 1))) 0 (applyD (nowT (lotR A.2.2.2 s i).2.2) (200 + 10 * (w / 8 % A.2.2.2.1 0))) := by
          rw [ap_thin (by omega)]; exact t0.set
        obtain ⟨k1, k2⟩ := M_push2 (A := deA A (lotR A.2.2.2 s i).2.2) a4 h40 m1 m2 m3 m4 g1 (FrM.set (by omega))
        have ea : (21 : Int32) + nI (w / 8 % A.2.2.2.1 0) = nI (21 + w / 8 % A.2.2.2.1 0) := lx rfl
        have er : aI 135 (nI (21 + w / 8 % A.2.2.2.1 0)) σ1 = some (nI (nowT (lotR A.2.2.2 s i).2.2 (21 + w / 8 % A.2.2.2.1 0))) := (w_rd (by omega)).trans (by rw [hv1])
        refine ⟨(lN w, nI (lotR A.2.2.2 s i).1, nI (i + 1), _), ?_, by rw [if_neg z2]; rfl, rfl, rfl, k1, a5.tr k2⟩
        simp only [a3, hw, lz4 hm, wR, hrd, lz8 hm h0 h6, nz_row h0 (show A.2.2.2.1 0 ≤ 1000 by omega), ob_some, f1, ea, er]
        rw [if_neg (nI_ge hi (by omega)), if_pos (e2'.mpr (by omega)), if_neg (fun q => z2 (e2.mp q)), Nat.zero_add]
        unfold F_X9_lots_168
        by_cases zz : nowT (lotR A.2.2.2 s i).2.2 (21 + w / 8 % A.2.2.2.1 0) = 0
        · rw [if_pos (by rw [zz]; decide), show nI (nowT (lotR A.2.2.2 s i).2.2 (21 + w / 8 % A.2.2.2.1 0)) - (0 : Int32) = nI (nowT (lotR A.2.2.2 s i).2.2 (21 + w / 8 % A.2.2.2.1 0) - 1) by rw [zz]; rfl, w_wr (by omega), ob_some, a1, nI_1]
          rfl
        · rw [if_neg (show ¬ nI (nowT (lotR A.2.2.2 s i).2.2 (21 + w / 8 % A.2.2.2.1 0)) ≤ (0 : Int32) from fun q => zz (Nat.le_zero.mp ((nI_leI (b := 0) (by omega) (by decide)).mp q))), show nI (nowT (lotR A.2.2.2 s i).2.2 (21 + w / 8 % A.2.2.2.1 0)) - (1 : Int32) = nI (nowT (lotR A.2.2.2 s i).2.2 (21 + w / 8 % A.2.2.2.1 0) - 1) from pk_sub (b := 1) (by omega), w_wr (by omega), ob_some, a1, nI_1]
          rfl
      · have hl : lotC (A.2.2.2.1 0) w = 0 := by unfold lotC; rw [if_neg z2, if_neg z3]
        rw [hl]
        obtain ⟨σ2, f2, g1, g2⟩ := M_pass (f := 0) t0 t0.col (by decide) (Or.inl rfl) hnw (by decide)
        obtain ⟨k1, k2⟩ := M_push2 (A := deA A (lotR A.2.2.2 s i).2.2) (c := 0) a4 h40 m1 m2 m3 m4 g1 g2
        have f2' : F_X9_passes 134 (0 : Int32) σ1 = some (_, σ2) := f2
        refine ⟨(lN w, nI (lotR A.2.2.2 s i).1, nI (i + 1), σ2), ?_, by rw [if_neg z2]; rfl, rfl, rfl, k1, a5.tr k2⟩
        simp only [a3, hw, lz4 hm, wR, hrd, lz8 hm h0 h6, nz_row h0 (show A.2.2.2.1 0 ≤ 1000 by omega), ob_some, f1, f2']
        rw [if_neg (nI_ge hi (by omega)), if_neg (fun q => by have := e2'.mp q; omega), a1, nI_1]
  · intro t ⟨a1, a2, a3, a4, a5⟩
    exact ⟨(t.2.1, t.2.2.2), by rw [a3, if_pos (nI_le (Nat.le_refl _) (by omega))], a1, a4, a5⟩
end
section
theorem sim_lots (x y : Int32) : Sim (F_X8_lots 0 x y) (F_X9_lots 134 x y) := by
  refine sim_of fun A hA => ?_
  obtain ⟨hnw, hn0⟩ := now_wf hA
  have h6 := hnw.1
  have hdc := hA.2.1
  have c1 : (1 : Int32).toInt = 1 := rfl
  have c20 : (20 : Int32).toInt = 20 := rfl
  have cM : (2147483646 : Int32).toInt = 2147483646 := rfl
  have d1 : (1 : Int64).toInt = 1 := rfl
  have d20 : (20 : Int64).toInt = 20 := rfl
  have dM : (2147483646 : Int64).toInt = 2147483646 := rfl
  have t1 : (x < (1 : Int32)) ↔ x.toInt < 1 := by rw [Int32.lt_iff_toInt_lt, c1]
  have t2 : ((20 : Int32) < x) ↔ 20 < x.toInt := by rw [Int32.lt_iff_toInt_lt, c20]
  have t3 : (y < (1 : Int32)) ↔ y.toInt < 1 := by rw [Int32.lt_iff_toInt_lt, c1]
  have t4 : (y ≤ (2147483646 : Int32)) ↔ y.toInt ≤ 2147483646 := by rw [Int32.le_iff_toInt_le, cM]
  by_cases hx : 1 ≤ x.toInt ∧ x.toInt ≤ 20
  · by_cases hy : 1 ≤ y.toInt ∧ y.toInt ≤ 2147483646
    · obtain ⟨n, hn, rfl⟩ := nat_of (show 0 ≤ x.toInt by omega)
      obtain ⟨s, hs, rfl⟩ := nat_of (show 0 ≤ y.toInt by omega)
      have hC : ∀ σ : Mem, F_X8_lots 0 (nI n) (nI s) σ = (gI 7 8 18 σ).bind fun v20 => if 0 < v20 then (gI 8 7 0 σ).bind fun v23 => if (v23 + nI n) ≤ (40 : Int32) then F_X8_lots_64 0 (nI n) v20 ((0 : Int32), (nI s).toInt64, (0 : Int32), σ) else some ((-2 : Int32), σ) else some ((-4 : Int32), σ) := fun σ => by
        unfold F_X8_lots
        rw [if_neg (fun q => by have := t1.mp q; omega), if_neg (fun q => by have := t2.mp q; omega), if_neg (fun q => by have := t3.mp q; omega), if_pos (t4.mpr hy.2), gR_0_4, ob_some]
      have hM : ∀ σ : Mem, F_X9_lots 134 (nI n) (nI s) σ = (F_X9_isTown 134 σ).bind fun q34 => if q34 = 0 then some ((-4 : Int32), σ) else (gI 9 1 134 σ).bind fun v38 => if (v38 + nI n) ≤ (40 : Int32) then F_X9_lots_59 134 (nI n) ((nI s).toInt64, (0 : Int32), (0 : Int32), σ) else some ((-2 : Int32), σ) := fun σ => by
        unfold F_X9_lots
        rw [in_eq, wide, d1, d20, if_pos hx, ob_some, if_neg (by decide), in_eq, wide, d1, dM, if_pos hy, ob_some, if_neg (by decide)]
      have e40 : ((nI A.2.2.2.2.1 + nI n) ≤ (40 : Int32)) ↔ A.2.2.2.2.1 + n ≤ 40 := by rw [nI_add]; exact nI_leI (b := 40) (by omega) (by decide)
      have e64 : (nI s).toInt64 = lN s := nI_l (by omega)
      by_cases hz : A.2.2.2.1 0 = 0
      · refine ⟨-4, A, hA, C_same fun σ h => ?_, M_same fun σ h => ?_⟩
        · have e : σ.1 18 8 = 0 := by rw [h.now.1, hn0, hz]; rfl
          rw [hC, tI_8 tw_18, ob_some, e, if_neg (by decide)]
        · rw [hM, M_isTown h.now h6, hn0, if_pos hz, ob_some, if_pos rfl]
      · have hp : (0 : Int32) < nI (A.2.2.2.1 0) := nI_lt (a := 0) (b := A.2.2.2.1 0) (by omega) (by omega)
        by_cases h40 : A.2.2.2.2.1 + n ≤ 40
        · have ok := lot_ok (s := s) hA (by omega) (by omega) n h40
          refine ⟨nI (lotR A.2.2.2 s n).1, deA A (lotR A.2.2.2 s n).2.2, ok.1, fun σ h => ?_, fun σ h => ?_⟩
          · obtain ⟨⟨r, σ'⟩, e, rfl, k1, k2⟩ := C_lots (s := s) hA (by omega) (by omega) h40 σ h
            have hb : σ.1 18 8 = nI (A.2.2.2.1 0) := by rw [h.now.1, hn0]
            exact ⟨σ', by rw [hC, tI_8 tw_18, ob_some, hb, if_pos hp, gI_0_7, ob_some, h.dc, if_pos (e40.mpr h40), e64, e], k1, k2⟩
          · obtain ⟨⟨r, σ'⟩, e, rfl, k1, k2⟩ := M_lots (s := s) hA (by omega) (by omega) h40 σ h
            have ht : F_X9_isTown 134 σ = some 1 := by rw [M_isTown h.now h6, hn0, if_neg hz]
            exact ⟨σ', by rw [hM, ht, ob_some, if_neg (by decide), gI_134_1, ob_some, h.dc, if_pos (e40.mpr h40), e64, e], k1, k2⟩
        · refine ⟨-2, A, hA, C_same fun σ h => ?_, M_same fun σ h => ?_⟩
          · have hb : σ.1 18 8 = nI (A.2.2.2.1 0) := by rw [h.now.1, hn0]
            rw [hC, tI_8 tw_18, ob_some, hb, if_pos hp, gI_0_7, ob_some, h.dc, if_neg (fun q => h40 (e40.mp q))]
          · have ht : F_X9_isTown 134 σ = some 1 := by rw [M_isTown h.now h6, hn0, if_neg hz]
            rw [hM, ht, ob_some, if_neg (by decide), gI_134_1, ob_some, h.dc, if_neg (fun q => h40 (e40.mp q))]
    · refine ⟨-1, A, hA, C_same fun σ h => ?_, M_same fun σ h => ?_⟩
      · unfold F_X8_lots
        rw [if_neg (fun q => by have := t1.mp q; omega), if_neg (fun q => by have := t2.mp q; omega)]
        by_cases q : y < (1 : Int32)
        · rw [if_pos q]
        · have q' : ¬ y.toInt < 1 := fun z => q (t3.mpr z)
          rw [if_neg q, if_neg (fun z => by have := t4.mp z; omega)]
      · unfold F_X9_lots
        rw [in_eq, wide, d1, d20, if_pos hx, ob_some, if_neg (by decide), in_eq, wide, d1, dM, if_neg hy, ob_some, if_pos rfl]
  · refine ⟨-1, A, hA, C_same fun σ h => ?_, M_same fun σ h => ?_⟩
    · unfold F_X8_lots
      by_cases q : x < (1 : Int32)
      · rw [if_pos q]
      · have q' : ¬ x.toInt < 1 := fun z => q (t1.mpr z)
        rw [if_neg q, if_pos (t2.mpr (by omega))]
    · unfold F_X9_lots
      rw [in_eq, wide, d1, d20, if_neg hx, ob_some, if_pos rfl]
end
section
/-! ===== cross ===== -/
theorem sim_cross (x y : Int32) : SimP (F_X8_cross 0 x y) (F_X9_cross 134 x y) := by
  intro σ ⟨⟨A, hA, hC, hM⟩, _⟩
  obtain ⟨hnw, hn0⟩ := now_wf hA
  have h6 := hnw.1
  have d0 : (0 : Int64).toInt = 0 := rfl
  have d99 : (99 : Int64).toInt = 99 := rfl
  have c99 : (99 : Int32).toInt = 99 := rfl
  have t4 : (y ≤ (99 : Int32)) ↔ y.toInt ≤ 99 := by rw [Int32.le_iff_toInt_le, c99]
  rcases ixc x (n := nowT A.2.2.2 0) (by omega) with hx | ⟨i, hi, rfl⟩
  · refine ⟨-1, ?_, ?_⟩
    · unfold F_X8_cross
      rw [gR_0_4, ob_some, tC tw_18, ob_some, C_hasno tw_18 hC.now hx, ob_some, if_pos rfl]
    · unfold F_X9_cross
      rw [M_bedno hM.now h6 hx, ob_some, if_pos rfl]
  · by_cases hy : 0 ≤ y.toInt ∧ y.toInt ≤ 99
    · obtain ⟨m, hm, rfl⟩ := nat_of hy.1
      have b := hnw.2.2.1 i hi
      have h4 : m % 4 < 4 := Nat.mod_lt _ (by decide)
      refine ⟨nI (crossT (nowT A.2.2.2) i m), ?_, ?_⟩
      · unfold F_X8_cross
        rw [gR_0_4, ob_some, tC tw_18, ob_some, C_has tw_18 hC.now hnw hi, ob_some, if_neg (by decide), if_neg (show ¬ nI m < 0 from fun q => by have := neg_iff.mp q; omega), if_pos (t4.mpr hy.2), ob_some, tC tw_18, ob_some, C_crossesIn tw_18 hC.now hnw hi (by omega), ob_some]
      · have e3 : (3 : Int32) + nI i = nI (3 + i) := lx rfl
        have e21 : (21 : Int32) + nI i = nI (21 + i) := lx rfl
        have v3 := hM.now (3 + i) (by omega)
        have v21 := hM.now (21 + i) (by omega)
        have v39 := hM.now (39 + m % 4) (by omega)
        rw [Nat.zero_add] at v3 v21 v39
        have eg : F_X9_gapIn 134 (0 : Int32) (nI i) σ = some (nI (gapT (nowT A.2.2.2) i i)) := M_gap (f := 0) hM.now (by decide) hnw hi
        have ec := M_crossBy (kd := nowT A.2.2.2 (3 + i)) (th := nowT A.2.2.2 (21 + i)) (gap := gapT (nowT A.2.2.2) i i) (m := m) v39 b.1 b.2.2.2.1 (gapT_le b.2.1 b.2.2.1) (by omega) (hnw.2.2.2.1 _ h4)
        unfold F_X9_cross
        rw [M_bed hM.now h6 hi, ob_some, if_neg (by decide), in_eq, wide, d0, d99, if_pos hy, ob_some, if_neg (by decide), wR, ob_some, e3, w_rd (by omega), ob_some, ob_some, e21, w_rd (by omega), ob_some, eg, ob_some, v3, v21, ec, ob_some]
        rfl
    · refine ⟨-1, ?_, ?_⟩
      · unfold F_X8_cross
        rw [gR_0_4, ob_some, tC tw_18, ob_some, C_has tw_18 hC.now hnw hi, ob_some, if_neg (by decide)]
        by_cases q : y < 0
        · rw [if_pos q]
        · have q' : ¬ y.toInt < 0 := fun z => q (neg_iff.mpr z)
          rw [if_neg q, if_neg (fun z => by have := t4.mp z; omega)]
      · unfold F_X9_cross
        rw [M_bed hM.now h6 hi, ob_some, if_neg (by decide), in_eq, wide, d0, d99, if_neg hy, ob_some, if_pos rfl]
end
section
/-! ===== bed ===== -/
def bedV (T : Tn) (i f : Nat) : Nat := if f = 0 then T (3 + i) else if f = 1 then T (9 + i) else if f = 2 then T (15 + i) else if f = 3 then T (21 + i) else if f = 4 then T (27 + i) else if f = 5 then crossT T i (T 1) else if f = 6 then barN (T (3 + i)) (T (21 + i)) else T (33 + i)
theorem C_about {σ : Mem} {k i B f : Nat} {T : Tn} (hk : Tw k) (h : CT σ k T) (hw : wfT B T) (hB : B ≤ 100000) (hi : i < T 0) (hf : f < 8) : F_X7_about k (nI i) (nI f) σ = some (nI (bedV T i f)) := by
  have b := hw.2.2.1 i hi
  have h6 := hw.1
  have q := h.2.2.2.2 i hi
  unfold F_X7_about
  rcases (show f = 0 ∨ f = 1 ∨ f = 2 ∨ f = 3 ∨ f = 4 ∨ f = 5 ∨ f = 6 ∨ f = 7 by omega) with rfl | rfl | rfl | rfl | rfl | rfl | rfl | rfl
  · rw [if_pos (by decide), C_kind hk h hw hi, ob_some]; rfl
  · rw [if_neg (by decide), if_pos (by decide), tR_2 hk, ob_some, hk.rd (o := 3) (by decide) (by decide) (by omega), ob_some, q.2.1]; rfl
  · rw [if_neg (by decide), if_neg (by decide), if_pos (by decide), tR_3 hk, ob_some, hk.rd (o := 4) (by decide) (by decide) (by omega), ob_some, q.2.2.1]; rfl
  · rw [if_neg (by decide), if_neg (by decide), if_neg (by decide), if_pos (by decide), C_thick hk h hw hi, ob_some]; rfl
  · rw [if_neg (by decide), if_neg (by decide), if_neg (by decide), if_neg (by decide), if_pos (by decide), C_lies hk h hw hi, ob_some]; rfl
  · rw [if_neg (by decide), if_neg (by decide), if_neg (by decide), if_neg (by decide), if_neg (by decide), if_pos (by decide), tI_9 hk, ob_some, h.2.1, C_crossesIn hk h hw hi (Nat.le_trans hw.2.1 hB), ob_some]; rfl
  · rw [if_neg (by decide), if_neg (by decide), if_neg (by decide), if_neg (by decide), if_neg (by decide), if_neg (by decide), if_pos (by decide), C_kind hk h hw hi, ob_some, C_thick hk h hw hi, ob_some, C_bar b.1 b.2.2.2.1, ob_some]; rfl
  · rw [if_neg (by decide), if_neg (by decide), if_neg (by decide), if_neg (by decide), if_neg (by decide), if_neg (by decide), if_neg (by decide), tR_6 hk, ob_some, hk.rd (o := 7) (by decide) (by decide) (by omega), ob_some, q.2.2.2.2.2]; rfl
theorem M_about {σ : Mem} {i B f : Nat} {T : Tn} (h : MT σ 0 T) (hw : wfT B T) (hB : B ≤ 100000) (hi : i < T 0) (hf : f < 8) : F_X9_bedTells 134 (nI i) (nI f) σ = some (nI (bedV T i f)) := by
  have b := hw.2.2.1 i hi
  have h6 := hw.1
  have rd : ∀ n : Nat, n ≤ 33 → aI 135 (nI n + nI i) σ = some (nI (T (n + i))) := fun n hn => by
    have := h (n + i) (by omega)
    rw [Nat.zero_add] at this
    rw [nI_add, w_rd (by omega), this]
  unfold F_X9_bedTells
  rcases (show f = 0 ∨ f = 1 ∨ f = 2 ∨ f = 3 ∨ f = 4 ∨ f = 5 ∨ f = 6 ∨ f = 7 by omega) with rfl | rfl | rfl | rfl | rfl | rfl | rfl | rfl
  · rw [if_pos (by decide), wR, ob_some, show (3 : Int32) = nI 3 from rfl, rd 3 (by decide), ob_some]; rfl
  · rw [if_neg (by decide), if_pos (by decide), wR, ob_some, show (9 : Int32) = nI 9 from rfl, rd 9 (by decide), ob_some]; rfl
  · rw [if_neg (by decide), if_neg (by decide), if_pos (by decide), wR, ob_some, show (15 : Int32) = nI 15 from rfl, rd 15 (by decide), ob_some]; rfl
  · rw [if_neg (by decide), if_neg (by decide), if_neg (by decide), if_pos (by decide), wR, ob_some, show (21 : Int32) = nI 21 from rfl, rd 21 (by decide), ob_some]; rfl
  · rw [if_neg (by decide), if_neg (by decide), if_neg (by decide), if_neg (by decide), if_pos (by decide), wR, ob_some, show (27 : Int32) = nI 27 from rfl, rd 27 (by decide), ob_some]; rfl
  · have e : F_X9_crossIn 134 (0 : Int32) (nI i) σ = some (nI (crossT T i (T 1))) := M_crossIn (f := 0) h h.col (by decide) hw hB hi
    rw [if_neg (by decide), if_neg (by decide), if_neg (by decide), if_neg (by decide), if_neg (by decide), if_pos (by decide), e, ob_some]; rfl
  · have r3 : aI 135 ((3 : Int32) + nI i) σ = some (nI (T (3 + i))) := rd 3 (by decide)
    have r21 : aI 135 ((21 : Int32) + nI i) σ = some (nI (T (21 + i))) := rd 21 (by decide)
    rw [if_neg (by decide), if_neg (by decide), if_neg (by decide), if_neg (by decide), if_neg (by decide), if_neg (by decide), if_pos (by decide), wR, ob_some, r3, ob_some, ob_some, r21, ob_some, M_bar b.1 b.2.2.2.1, ob_some]; rfl
  · rw [if_neg (by decide), if_neg (by decide), if_neg (by decide), if_neg (by decide), if_neg (by decide), if_neg (by decide), if_neg (by decide), wR, ob_some, show (33 : Int32) = nI 33 from rfl, rd 33 (by decide), ob_some]; rfl
theorem sim_bed (x y : Int32) : Sim (F_X8_bed 0 x y) (F_X9_bed 134 x y) := by
  refine sim_of fun A hA => ?_
  obtain ⟨hnw, hn0⟩ := now_wf hA
  have h6 := hnw.1
  have d0 : (0 : Int64).toInt = 0 := rfl
  have d7 : (7 : Int64).toInt = 7 := rfl
  have c8 : (8 : Int32).toInt = 8 := rfl
  have t4 : (y < (8 : Int32)) ↔ y.toInt < 8 := by rw [Int32.lt_iff_toInt_lt, c8]
  rcases ixc x (n := nowT A.2.2.2 0) (by omega) with hx | ⟨i, hi, rfl⟩
  · refine ⟨-1, A, hA, C_same fun σ h => ?_, M_same fun σ h => ?_⟩
    · unfold F_X8_bed
      rw [gR_0_4, ob_some, tC tw_18, ob_some, C_hasno tw_18 h.now hx, ob_some, if_pos rfl]
    · unfold F_X9_bed
      rw [M_bedno h.now h6 hx, ob_some, if_pos rfl]
  · by_cases hy : 0 ≤ y.toInt ∧ y.toInt ≤ 7
    · obtain ⟨f, hf, rfl⟩ := nat_of hy.1
      refine ⟨1, toldA A (nI (bedV (nowT A.2.2.2) i f)), hA, fun σ h => ?_, fun σ h => ?_⟩
      · obtain ⟨σ', e, h1, h2⟩ := C_tell (A := A) (v := nI (bedV (nowT A.2.2.2) i f)) σ h
        refine ⟨σ', ?_, h1, h2⟩
        unfold F_X8_bed
        rw [gR_0_4, ob_some, tC tw_18, ob_some, C_has tw_18 h.now hnw hi, ob_some, if_neg (by decide), if_neg (show ¬ nI f < 0 from fun q => by have := neg_iff.mp q; omega), if_pos (t4.mpr (by omega)), ob_some, tC tw_18, ob_some, C_about tw_18 h.now hnw (by decide) hi (by omega), ob_some, e, ob_some]
      · obtain ⟨σ', e, h1, h2⟩ := M_tells (A := A) (v := nI (bedV (nowT A.2.2.2) i f)) (r := 1) σ h
        refine ⟨σ', ?_, h1, h2⟩
        unfold F_X9_bed
        rw [M_bed h.now h6 hi, ob_some, if_neg (by decide), in_eq, wide, d0, d7, if_pos hy, ob_some, if_neg (by decide), M_about h.now hnw (by decide) hi (by omega), ob_some, e, ob_some]
    · refine ⟨-1, A, hA, C_same fun σ h => ?_, M_same fun σ h => ?_⟩
      · unfold F_X8_bed
        rw [gR_0_4, ob_some, tC tw_18, ob_some, C_has tw_18 h.now hnw hi, ob_some, if_neg (by decide)]
        by_cases q : y < 0
        · rw [if_pos q]
        · have q' : ¬ y.toInt < 0 := fun z => q (neg_iff.mpr z)
          rw [if_neg q, if_neg (fun z => by have := t4.mp z; omega)]
      · unfold F_X9_bed
        rw [M_bed h.now h6 hi, ob_some, if_neg (by decide), in_eq, wide, d0, d7, if_neg hy, ob_some, if_pos rfl]
end
section
/-! ===== mark ===== -/
abbrev isK' (kd m : Nat) : Prop := kd = m ∨ (kd = 4 ∧ m = 2) ∨ (kd = 5 ∧ m = 1)
theorem C_isOf {kd m : Nat} {σ : Mem} (hk : kd < 6) (h1 : 1 ≤ m) (hm : m < 6) : F_X8_isOfKind (nI kd) (nI m) σ = some (if isK' kd m then 1 else 0) := by
  unfold F_X8_isOfKind F_X8_isOfKind_19 F_X8_isOfKind_29
  rcases (show kd = 0 ∨ kd = 1 ∨ kd = 2 ∨ kd = 3 ∨ kd = 4 ∨ kd = 5 by omega) with rfl | rfl | rfl | rfl | rfl | rfl <;> rcases (show m = 1 ∨ m = 2 ∨ m = 3 ∨ m = 4 ∨ m = 5 by omega) with rfl | rfl | rfl | rfl | rfl <;> rfl
def markV (T : Tn) (i m : Nat) : Int32 :=
  if m = 1 then nI (crN 0 (gapT T i i) (T (21 + i)) (T 1) (T (39 + T 1 % 4))) - nI (crossT T i (T 1))
  else if m = 2 then nI (T (21 + i)) - nI (barN 2 (T (21 + i)))
  else if m = 3 then nI (T 1) - nI (T 1) / (2 : Int32) * (2 : Int32)
  else if m = 4 then nI (crossT T i (T 1)) - nI (crN 2 (gapT T i i) (T (21 + i)) (T 1) (T (39 + T 1 % 4)))
  else nI (crN 1 (gapT T i i) (T (21 + i)) (T 1) (T (39 + T 1 % 4))) - nI (crossT T i (T 1))
theorem M_crossAs {σ : Mem} {i B kd : Nat} {T : Tn} (h : MT σ 0 T) (hw : wfT B T) (hB : B ≤ 100000) (hi : i < T 0) (hk : kd < 6) : F_X9_crossAs 134 (nI i) (nI kd) σ = some (nI (crN kd (gapT T i i) (T (21 + i)) (T 1) (T (39 + T 1 % 4)))) := by
  have b := hw.2.2.1 i hi
  have h6 := hw.1
  have h4 : T 1 % 4 < 4 := Nat.mod_lt _ (by decide)
  have v21 := h (21 + i) (by omega)
  have v1 := h 1 (by decide)
  have v39 := h (39 + T 1 % 4) (by omega)
  rw [Nat.zero_add] at v21 v1 v39
  have e21 : (21 : Int32) + nI i = nI (21 + i) := lx rfl
  have r1 : aI 135 (1 : Int32) σ = some (nI (T 1)) := (w_rd (j := 1) (by decide)).trans (by rw [v1])
  have eg : F_X9_gapIn 134 (0 : Int32) (nI i) σ = some (nI (gapT T i i)) := M_gap (f := 0) h (by decide) hw hi
  unfold F_X9_crossAs
  rw [wR, ob_some, e21, w_rd (by omega), ob_some, eg, ob_some, ob_some, r1, ob_some, v21, M_crossBy v39 hk b.2.2.2.1 (gapT_le b.2.1 b.2.2.1) (Nat.le_trans hw.2.1 hB) (hw.2.2.2.1 _ h4), ob_some]
theorem M_markV {σ : Mem} {i B m kd : Nat} {T : Tn} (h : MT σ 0 T) (hw : wfT B T) (hB : B ≤ 100000) (hi : i < T 0) (h1 : 1 ≤ m) (hm : m < 6) (hk2 : m = 2 → kd = 2 ∨ kd = 4) (hk : kd < 6) : F_X9_mark_61 134 (nI i) (nI m) (nI kd) 1 σ = some (markV T i m, σ) := by
  have b := hw.2.2.1 i hi
  have h6 := hw.1
  have v21 := h (21 + i) (by omega)
  have v1 := h 1 (by decide)
  rw [Nat.zero_add] at v21 v1
  have e21 : (21 : Int32) + nI i = nI (21 + i) := lx rfl
  have r1 : aI 135 (1 : Int32) σ = some (nI (T 1)) := (w_rd (j := 1) (by decide)).trans (by rw [v1])
  have ec : F_X9_crossIn 134 (0 : Int32) (nI i) σ = some (nI (crossT T i (T 1))) := M_crossIn (f := 0) h h.col (by decide) hw hB hi
  have a0 : F_X9_crossAs 134 (nI i) (0 : Int32) σ = _ := M_crossAs (kd := 0) h hw hB hi (by decide)
  have a1 : F_X9_crossAs 134 (nI i) (1 : Int32) σ = _ := M_crossAs (kd := 1) h hw hB hi (by decide)
  have a2 : F_X9_crossAs 134 (nI i) (2 : Int32) σ = _ := M_crossAs (kd := 2) h hw hB hi (by decide)
  unfold F_X9_mark_61
  rw [if_neg (by decide)]
  rcases (show m = 1 ∨ m = 2 ∨ m = 3 ∨ m = 4 ∨ m = 5 by omega) with rfl | rfl | rfl | rfl | rfl
  · rw [if_pos (by decide), a0, ob_some, ec, ob_some]; rfl
  · have eb : barN kd (T (21 + i)) = barN 2 (T (21 + i)) := by rcases hk2 rfl with rfl | rfl <;> rfl
    have r21 : aI 135 (nI (21 + i)) σ = some (nI (T (21 + i))) := (w_rd (by omega)).trans (by rw [v21])
    rw [if_neg (by decide), if_pos (by decide), wR, ob_some, e21, r21, ob_some, ob_some, r21, ob_some, M_bar hk b.2.2.2.1, ob_some, eb]; rfl
  · rw [if_neg (by decide), if_neg (by decide), if_pos (by decide), wR, ob_some, r1, ob_some]; rfl
  · rw [if_neg (by decide), if_neg (by decide), if_neg (by decide), if_pos (by decide), ec, ob_some, a2, ob_some]; rfl
  · rw [if_neg (by decide), if_neg (by decide), if_neg (by decide), if_neg (by decide), a1, ob_some, ec, ob_some]; rfl
theorem M_sel {f : Int32 → Option (Int32 × Mem)} {kd m : Nat} (hk : kd < 6) (h1 : 1 ≤ m) (hm : m < 6) : (if nI m = nI kd then f 1 else if nI m = (1 : Int32) then (if nI kd = (5 : Int32) then f 1 else if nI m = (2 : Int32) then (if nI kd = (4 : Int32) then f 1 else f 0) else f 0) else if nI m = (2 : Int32) then (if nI kd = (4 : Int32) then f 1 else f 0) else f 0) = f (if isK' kd m then 1 else 0) := by
  unfold isK'
  rcases (show kd = 0 ∨ kd = 1 ∨ kd = 2 ∨ kd = 3 ∨ kd = 4 ∨ kd = 5 by omega) with rfl | rfl | rfl | rfl | rfl | rfl <;> rcases (show m = 1 ∨ m = 2 ∨ m = 3 ∨ m = 4 ∨ m = 5 by omega) with rfl | rfl | rfl | rfl | rfl <;> rfl
theorem C_sel {α : Type} {a b c d e : α} {m : Nat} (h1 : 1 ≤ m) (hm : m < 6) : (if nI m = (1 : Int32) then a else if nI m = (2 : Int32) then b else if nI m = (3 : Int32) then c else if nI m = (4 : Int32) then d else e) = if m = 1 then a else if m = 2 then b else if m = 3 then c else if m = 4 then d else e := by
  rcases (show m = 1 ∨ m = 2 ∨ m = 3 ∨ m = 4 ∨ m = 5 by omega) with rfl | rfl | rfl | rfl | rfl <;> rfl
theorem mark_out {T : Tn} {i m : Nat} {σ : Mem} : (if m = 1 then some (nI (crN 0 (gapT T i i) (T (21 + i)) (T 1) (T (39 + T 1 % 4))) - nI (crossT T i (T 1)), σ) else if m = 2 then some (nI (T (21 + i)) - nI (barN 2 (T (21 + i))), σ) else if m = 3 then some (nI (T 1) - nI (T 1) / (2 : Int32) * (2 : Int32), σ) else if m = 4 then some (nI (crossT T i (T 1)) - nI (crN 2 (gapT T i i) (T (21 + i)) (T 1) (T (39 + T 1 % 4))), σ) else some (nI (crN 1 (gapT T i i) (T (21 + i)) (T 1) (T (39 + T 1 % 4))) - nI (crossT T i (T 1)), σ)) = some (markV T i m, σ) := by
  unfold markV
  by_cases m1 : m = 1
  · rw [if_pos m1, if_pos m1]
  rw [if_neg m1, if_neg m1]
  by_cases m2 : m = 2
  · rw [if_pos m2, if_pos m2]
  rw [if_neg m2, if_neg m2]
  by_cases m3 : m = 3
  · rw [if_pos m3, if_pos m3]
  rw [if_neg m3, if_neg m3]
  by_cases m4 : m = 4
  · rw [if_pos m4, if_pos m4]
  rw [if_neg m4, if_neg m4]
theorem sim_mark (x y : Int32) : Sim (F_X8_mark 0 x y) (F_X9_mark 134 x y) := by
  refine sim_of fun A hA => ?_
  obtain ⟨hnw, hn0⟩ := now_wf hA
  have h6 := hnw.1
  have d1 : (1 : Int64).toInt = 1 := rfl
  have d5 : (5 : Int64).toInt = 5 := rfl
  have c6 : (6 : Int32).toInt = 6 := rfl
  have c0 : (0 : Int32).toInt = 0 := rfl
  have t4 : (y < (6 : Int32)) ↔ y.toInt < 6 := by rw [Int32.lt_iff_toInt_lt, c6]
  have t0 : (y ≤ (0 : Int32)) ↔ y.toInt ≤ 0 := by rw [Int32.le_iff_toInt_le, c0]
  rcases ixc x (n := nowT A.2.2.2 0) (by omega) with hx | ⟨i, hi, rfl⟩
  · refine ⟨-1, A, hA, C_same fun σ h => ?_, M_same fun σ h => ?_⟩
    · unfold F_X8_mark
      rw [gR_0_4, ob_some, tC tw_18, ob_some, C_hasno tw_18 h.now hx, ob_some, if_pos rfl]
    · unfold F_X9_mark
      rw [M_bedno h.now h6 hx, ob_some, if_pos rfl]
  · by_cases hy : 1 ≤ y.toInt ∧ y.toInt ≤ 5
    · obtain ⟨m, hm, rfl⟩ := nat_of (show 0 ≤ y.toInt by omega)
      have b := hnw.2.2.1 i hi
      have hm1 : 1 ≤ m := by omega
      have hm6 : m < 6 := by omega
      have e3 : (3 : Int32) + nI i = nI (3 + i) := lx rfl
      have hM : ∀ σ, RM A σ → F_X9_mark 134 (nI i) (nI m) σ = F_X9_mark_61 134 (nI i) (nI m) (nI (nowT A.2.2.2 (3 + i))) (if isK' (nowT A.2.2.2 (3 + i)) m then 1 else 0) σ := fun σ h => by
        have v3 := h.now (3 + i) (by omega)
        rw [Nat.zero_add] at v3
        have r3 : aI 135 (nI (3 + i)) σ = some (nI (nowT A.2.2.2 (3 + i))) := (w_rd (by omega)).trans (by rw [v3])
        unfold F_X9_mark F_X9_mark_46 F_X9_mark_56 F_X9_mark_60
        rw [M_bed h.now h6 hi, ob_some, if_neg (by decide), in_eq, wide, d1, d5, if_pos hy, ob_some, if_neg (by decide), wR, ob_some, e3, r3, ob_some]
        exact M_sel (f := fun z => F_X9_mark_61 134 (nI i) (nI m) (nI (nowT A.2.2.2 (3 + i))) z σ) b.1 hm1 hm6
      by_cases hz : isK' (nowT A.2.2.2 (3 + i)) m
      · refine ⟨markV (nowT A.2.2.2) i m, A, hA, C_same fun σ h => ?_, M_same fun σ h => ?_⟩
        · have hT : nowT A.2.2.2 1 ≤ 100000 := Nat.le_trans hnw.2.1 (by decide)
          have ec : F_X7_crossesIn 18 (nI i) (nI (nowT A.2.2.2 1)) σ = some (nI (crossT (nowT A.2.2.2) i (nowT A.2.2.2 1))) := C_crossesIn tw_18 h.now hnw hi hT
          have a0 : F_X7_crossesAs 18 (nI i) (0 : Int32) (nI (nowT A.2.2.2 (21 + i))) (nI (nowT A.2.2.2 1)) σ = _ := C_crossesAs (kd := 0) tw_18 h.now hnw hi hT (by decide) b.2.2.2.1
          have a1 : F_X7_crossesAs 18 (nI i) (1 : Int32) (nI (nowT A.2.2.2 (21 + i))) (nI (nowT A.2.2.2 1)) σ = _ := C_crossesAs (kd := 1) tw_18 h.now hnw hi hT (by decide) b.2.2.2.1
          have a2 : F_X7_crossesAs 18 (nI i) (2 : Int32) (nI (nowT A.2.2.2 (21 + i))) (nI (nowT A.2.2.2 1)) σ = _ := C_crossesAs (kd := 2) tw_18 h.now hnw hi hT (by decide) b.2.2.2.1
          have ab : F_X8_barOf (2 : Int32) (nI (nowT A.2.2.2 (21 + i))) σ = _ := C_bar (kind := 2) (by decide) b.2.2.2.1
          have hv : gI 7 9 18 σ = some (nI (nowT A.2.2.2 1)) := by rw [tI_9 tw_18, h.now.2.1]
          unfold F_X8_mark
          simp only [gR_0_4, ob_some, tC tw_18, C_has tw_18 h.now hnw hi, C_kind tw_18 h.now hnw hi, C_isOf b.1 hm1 hm6, C_thick tw_18 h.now hnw hi, hv, ec, a0, a1, a2, ab]
          rw [if_neg (by decide), if_neg (fun q => by have := t0.mp q; omega), if_pos (t4.mpr (by omega)), if_pos hz, if_neg (by decide)]
          exact (C_sel hm1 hm6).trans mark_out
        · rw [hM σ h, if_pos hz]
          exact M_markV h.now hnw (by decide) hi hm1 hm6 (fun q => by rcases hz with z | z | z <;> omega) b.1
      · refine ⟨-3, foundA A 3, hA, fun σ h => ?_, fun σ h => ?_⟩
        · obtain ⟨σ', e, h1, h2⟩ := C_refuse (A := A) (f := 3) (by decide) σ h
          have e' : F_X8_refuse 0 (3 : Int32) σ = some (-3, σ') := e
          refine ⟨σ', ?_, h1, h2⟩
          unfold F_X8_mark
          rw [gR_0_4, ob_some, tC tw_18, ob_some, C_has tw_18 h.now hnw hi, ob_some, if_neg (by decide), if_neg (fun q => by have := t0.mp q; omega), if_pos (t4.mpr (by omega)), ob_some, tC tw_18, ob_some, C_kind tw_18 h.now hnw hi, ob_some, C_isOf b.1 hm1 hm6, ob_some, if_neg hz, if_pos rfl, e', ob_some]
        · obtain ⟨σ', e, h1, h2⟩ := M_found (A := A) (f := 3) (by decide) σ h
          have e' : F_X9_found 134 (3 : Int32) σ = some (-3, σ') := e
          refine ⟨σ', ?_, h1, h2⟩
          rw [hM σ h, if_neg hz]
          unfold F_X9_mark_61
          rw [if_pos rfl, e', ob_some]
    · refine ⟨-1, A, hA, C_same fun σ h => ?_, M_same fun σ h => ?_⟩
      · unfold F_X8_mark
        rw [gR_0_4, ob_some, tC tw_18, ob_some, C_has tw_18 h.now hnw hi, ob_some, if_neg (by decide)]
        by_cases q : y ≤ 0
        · rw [if_pos q]
        · have q' : ¬ y.toInt ≤ 0 := fun z => q (t0.mpr z)
          rw [if_neg q, if_neg (fun z => by have := t4.mp z; omega)]
      · unfold F_X9_mark
        rw [M_bed h.now h6 hi, ob_some, if_neg (by decide), in_eq, wide, d1, d5, if_neg hy, ob_some, if_pos rfl]
end
section
/-! ===== one bed alone is as that bed among all ===== -/
def keyB (i a : Nat) : Prop := a = 1 ∨ a = 3 + i ∨ a = 9 + i ∨ a = 15 + i ∨ a = 21 + i ∨ a = 27 + i ∨ 39 ≤ a
def agr (i : Nat) (T U : Tn) : Prop := ∀ a, keyB i a → T a = U a
theorem agr.rf {i : Nat} {T : Tn} : agr i T T := fun _ _ => rfl
theorem agr.tr {i : Nat} {T U V : Tn} (h : agr i T U) (h2 : agr i U V) : agr i T V := fun a q => (h a q).trans (h2 a q)
theorem cross_agr {i m : Nat} {T U : Tn} (h : agr i T U) : crossT T i m = crossT U i m := by
  unfold crossT gapT
  rw [h (3 + i) (by unfold keyB; omega), h (9 + i) (by unfold keyB; omega), h (15 + i) (by unfold keyB; omega), h (21 + i) (by unfold keyB; omega), h (39 + m % 4) (by unfold keyB; omega)]
theorem upd_agr {i j v w : Nat} {T U : Tn} (h : agr i T U) (e : v = w) : agr i (updT T j v) (updT U j w) := fun a q => by
  unfold updT
  by_cases z : a = j
  · rw [if_pos z, if_pos z, e]
  · rw [if_neg z, if_neg z]; exact h a q
theorem sleep_agr {i : Nat} {T U : Tn} (h : agr i T U) : agr i (sleepT T i) (sleepT U i) := by
  have e1 : T 1 = U 1 := h 1 (Or.inl rfl)
  have ec : crossT T i (T 1) = crossT U i (U 1) := by rw [e1]; exact cross_agr h
  have e27 := h (27 + i) (by unfold keyB; omega)
  have e21 := h (21 + i) (by unfold keyB; omega)
  unfold sleepT
  rw [ec, e27, e21]
  by_cases z : 3 ≤ crossT U i (U 1)
  · rw [if_pos z, if_pos z]; exact upd_agr (upd_agr h rfl) rfl
  · rw [if_neg z, if_neg z]; exact upd_agr h rfl
theorem sleep_oth {i j : Nat} {T : Tn} (hi : i < 6) (hj : j < 6) (hn : j ≠ i) : agr i (sleepT T j) T := fun a q => by
  unfold keyB at q
  unfold sleepT
  split
  · rw [upd_ne (by omega), upd_ne (by omega)]
  · rw [upd_ne (by omega)]
theorem passL_agr {i : Nat} {T U : Tn} (h : agr i T U) (hi : i < 6) : ∀ n, n ≤ 6 → agr i (passL T n) (if i < n then sleepT U i else U)
  | 0, _ => by rw [if_neg (by omega)]; exact h
  | n + 1, hn => by
    have ih := passL_agr h hi n (by omega)
    show agr i (sleepT (passL T n) n) _
    by_cases z : n = i
    · subst z
      rw [if_neg (by omega)] at ih
      rw [if_pos (by omega)]
      exact sleep_agr ih
    · refine (sleep_oth hi (by omega) z).tr ?_
      by_cases y : i < n
      · rw [if_pos y] at ih; rw [if_pos (by omega)]; exact ih
      · rw [if_neg y] at ih; rw [if_neg (by omega)]; exact ih
/-- so many nights for all -/
def passN (T : Tn) : Nat → Tn
  | 0 => T
  | n + 1 => passT (passN T n)
theorem passN_0 {T : Tn} : ∀ n, passN T n 0 = T 0
  | 0 => rfl
  | n + 1 => (pass_0 _).trans (passN_0 n)
theorem alone_agr {i : Nat} {T : Tn} (hi : i < T 0) (h6 : T 0 ≤ 6) : ∀ n, agr i (passN T n) (aloneT T i n)
  | 0 => agr.rf
  | n + 1 => by
    have ih := alone_agr hi h6 n
    have h := passL_agr ih (show i < 6 by omega) (passN T n 0) (by rw [passN_0]; exact h6)
    rw [passN_0, if_pos hi] at h
    show agr i (updT (passL (passN T n) (passN T n 0)) 1 (passN T n 1 + 1)) (updT (sleepT (aloneT T i n) i) 1 ((aloneT T i n) 1 + 1))
    rw [passN_0]
    exact upd_agr h (by rw [ih 1 (Or.inl rfl)])
end
section
/-! ===== what lies aside is nobody's ===== -/
theorem RC.aside {A : Ab} {σ σ' : Mem} (h : RC A σ) (f : FrK 26 σ σ') : RC A σ' ∧ FC σ σ' := by
  have keep : ∀ a b, a < 26 → σ'.1 a b = σ.1 a b := fun a b q => f.1 a b (Or.inl q)
  have k34 : ∀ a b, 33 < a → σ'.1 a b = σ.1 a b := fun a b q => f.1 a b (Or.inr q)
  exact ⟨⟨h.1.kept (fun a b p q => keep a b (by omega)), h.2.1.kept (fun a b p q => keep a b (by omega)), h.2.2.1.kept (keep _ _ (by decide)) (keep _ _ (by decide)) (fun j => k34 _ _ (by decide)) (fun j => by rw [f.2]), h.2.2.2.kept (keep _ _ (by decide)) (fun a b q => f.1 a b (by omega))⟩, fun a b q => k34 a b (by omega), fun a b q => by rw [f.2]⟩
theorem RM.aside {A : Ab} {σ σ' : Mem} (hA : okDe A.2.2.2) (h : RM A σ) (f : FrM 7260 σ σ') : RM A σ' ∧ FM σ σ' := by
  have keep : ∀ a b, (a ≠ 135 ∨ b < 7260) → σ'.1 a b = σ.1 a b := fun a b q => f.1 a b (by omega)
  obtain ⟨u1, u2, u3, u4⟩ := h.2.2.2
  have hdc := hA.2.1
  refine ⟨⟨h.1.kept (fun a b q => keep a b (by omega)), h.2.1.kept (fun a b q => keep a b (by omega)), h.2.2.1.kept (keep _ _ (by decide)) (keep _ _ (by decide)) (fun j => keep _ _ (by omega)) (by rw [f.2]) (by rw [f.2]), u1.kept (fun b p1 p2 => keep _ _ (by omega)), fun d hd => (u2 d hd).kept (fun b p1 p2 => keep _ _ (by omega)), (keep _ _ (by decide)).trans u3, fun k hk => ?_⟩, fun a b q => keep a b (by omega), fun a b q => by rw [f.2]⟩
  have h2 := u4 k hk
  cases e : A.2.2.2.2.2.2.1 k with
  | none => rw [e] at h2; exact (keep _ _ (by omega)).trans h2
  | some n =>
    rw [e] at h2
    have hn := (hA.2.2.2.1 k n e).1
    exact ⟨(keep _ _ (by omega)).trans h2.1, h2.2.1.kept (fun b p1 p2 => keep _ _ (by omega)), fun d hd => (h2.2.2 d hd).kept (fun b p1 p2 => keep _ _ (by omega))⟩
end
section
/-! ===== then ===== -/
theorem M_tries {σ : Mem} {T : Tn} (h : MT σ 0 T) : ∃ σ', F_X9_tries 134 σ = some σ' ∧ MT σ' 7260 T ∧ FrM 7260 σ σ' := by
  obtain ⟨σ1, e1, c1, c2, c3⟩ := M_cp (σ := σ) (f := 0) (t := 7260) (n := 44) (by omega) (by omega) (by omega)
  have e1' : F_X9_copyAll 134 (0 : Int32) (7260 : Int32) (44 : Int32) σ = some σ1 := e1
  exact ⟨σ1, by unfold F_X9_tries; rw [e1', ob_some], fun j hj => (c1 j hj).trans (h j hj), fun a b q => c2 a b q, c3⟩
theorem wf_passN {B : Nat} {T : Tn} (hw : wfT B T) : ∀ n, wfT (B + n) (passN T n)
  | 0 => hw
  | n + 1 => wf_pass (wf_passN hw n)
theorem passN_col {T : Tn} (h6 : T 0 ≤ 6) {m : Nat} : ∀ n, passN T n (39 + m) = T (39 + m)
  | 0 => rfl
  | n + 1 => by
    show updT (passL (passN T n) (passN T n 0)) 1 _ (39 + m) = _
    rw [upd_ne (by omega), passL_col _ (by rw [passN_0]; exact h6), passN_col h6 n]
theorem M_nights {σ : Mem} {T : Tn} {B n : Nat} (h : MT σ 7260 T) (hC : COL σ T) (hw : wfT B T) (hB : B + n ≤ 100000) : ∃ σ', F_X9_triesNights 134 (nI n) σ = some σ' ∧ MT σ' 7260 (passN T n) ∧ FrM 7260 σ σ' := by
  have h6 := hw.1
  unfold F_X9_triesNights F_X9_triesNights_2
  refine lp_inv (Q := fun t : Mem => MT t 7260 (passN T n) ∧ FrM 7260 σ t) (fun j (s : Int32 × Mem) => s.1 = nI j ∧ MT s.2 7260 (passN T j) ∧ COL s.2 T ∧ FrM 7260 σ s.2) n ?_ ?_ _ ⟨rfl, h, hC, FrM.rf⟩
  · intro j s hj ⟨a1, a2, a3, a4⟩
    obtain ⟨σ', g1, g2, g3⟩ := M_pass (f := 7260) a2 (a3.ext (fun m _ => passN_col h6 j)) (by decide) (Or.inr (by decide)) (wf_passN hw j) (by omega)
    have g1' : F_X9_passes 134 (7260 : Int32) s.2 = some (_, σ') := g1
    refine ⟨(nI (j + 1), σ'), ?_, rfl, g2, fun m hm => ?_, a4.tr g3⟩
    · rw [a1, if_neg (nI_ge hj (by omega)), g1', ob_some, nI_1]
    · show σ'.1 135 (39 + m) = _
      rw [g3.1 _ _ (by omega)]; exact a3 m hm
  · intro s ⟨a1, a2, a3, a4⟩
    exact ⟨s.2, by rw [a1, if_pos (nI_le (Nat.le_refl _) (by omega))], a2, a4⟩
end
section
theorem sim_then (x y : Int32) : Sim (F_X8_then 0 x y) (F_X9_then 134 x y) := by
  refine sim_of fun A hA => ?_
  obtain ⟨hnw, hn0⟩ := now_wf hA
  have h6 := hnw.1
  have d0 : (0 : Int64).toInt = 0 := rfl
  have d40 : (40 : Int64).toInt = 40 := rfl
  have c40 : (40 : Int32).toInt = 40 := rfl
  have t4 : (y ≤ (40 : Int32)) ↔ y.toInt ≤ 40 := by rw [Int32.le_iff_toInt_le, c40]
  rcases ixc x (n := nowT A.2.2.2 0) (by omega) with hx | ⟨i, hi, rfl⟩
  · refine ⟨-1, A, hA, C_same fun σ h => ?_, M_same fun σ h => ?_⟩
    · unfold F_X8_then
      rw [gR_0_4, ob_some, tC tw_18, ob_some, C_hasno tw_18 h.now hx, ob_some, if_pos rfl]
    · unfold F_X9_then
      rw [M_bedno h.now h6 hx, ob_some, if_pos rfl]
  · by_cases hy : 0 ≤ y.toInt ∧ y.toInt ≤ 40
    · obtain ⟨n, hn, rfl⟩ := nat_of hy.1
      have wa := wf_alone hnw hi n
      have hi2 : i < aloneT (nowT A.2.2.2) i n 0 := by rw [alone_0]; exact hi
      have ag := alone_agr hi h6 n
      refine ⟨nI (aloneT (nowT A.2.2.2) i n (27 + i)), toldA A (nI (aloneT (nowT A.2.2.2) i n (21 + i))), hA, fun σ h => ?_, fun σ h => ?_⟩
      · obtain ⟨σ1, e1, c1, f1⟩ := C_copy tw_26 (k2 := 18) tw_18 (by decide) h6 h.now
        obtain ⟨σ2, e2, c2, f2⟩ := C_alone (n := n) tw_26 c1 hnw (by omega) hi
        obtain ⟨h3, f3⟩ := h.aside (f1.tr f2)
        obtain ⟨σ3, e3, h4, f4⟩ := C_tell (A := A) (v := nI (aloneT (nowT A.2.2.2) i n (21 + i))) σ2 h3
        have es : F_X8_tell 0 (nI (aloneT (nowT A.2.2.2) i n (21 + i))) σ2 = some (1, setI σ2 0 13 (nI (aloneT (nowT A.2.2.2) i n (21 + i)))) := by
          unfold F_X8_tell
          rw [pI_0_13, ob_some]
        have e4 := e3.symm.trans es
        injection e4 with e4
        injection e4 with _ e4
        subst e4
        refine ⟨_, ?_, h4, f3.tr f4⟩
        have c3 : CT (setI σ2 0 13 (nI (aloneT (nowT A.2.2.2) i n (21 + i)))) 26 (aloneT (nowT A.2.2.2) i n) := c2.kept (fun a b p q => by rw [setI_1, if_neg (by omega)])
        unfold F_X8_then
        rw [gR_0_4, ob_some, tC tw_18, ob_some, C_has tw_18 h.now hnw hi, ob_some, if_neg (by decide), if_neg (show ¬ nI n < 0 from fun q => by have := neg_iff.mp q; omega), if_pos (t4.mpr hy.2), gR_0_5, ob_some, ob_some, tC tw_26, ob_some, e1, ob_some, ob_some, tC tw_26, ob_some, e2, ob_some, ob_some, tC tw_26, ob_some, C_thick tw_26 c2 wa hi2, ob_some, pI_0_13, ob_some, ob_some, tC tw_26, ob_some, C_lies tw_26 c3 wa hi2, ob_some]
      · obtain ⟨σ1, e1, c1, f1⟩ := M_tries h.now
        have hC1 : COL σ1 (nowT A.2.2.2) := fun m hm => by rw [f1.1 _ _ (by omega)]; exact h.now.col m hm
        obtain ⟨σ2, e2, c2, f2⟩ := M_nights (n := n) c1 hC1 hnw (by omega)
        obtain ⟨h3, f3⟩ := RM.aside hA h (f1.tr f2)
        obtain ⟨σ3, e3, h4, f4⟩ := M_tells (A := A) (v := nI (aloneT (nowT A.2.2.2) i n (21 + i))) (r := nI (aloneT (nowT A.2.2.2) i n (27 + i))) σ2 h3
        refine ⟨σ3, ?_, h4, f3.tr f4⟩
        have v21 := c2 (21 + i) (by omega)
        have v27 := c2 (27 + i) (by omega)
        rw [ag (21 + i) (by unfold keyB; omega)] at v21
        rw [ag (27 + i) (by unfold keyB; omega)] at v27
        have r21 : aI 135 ((7281 : Int32) + nI i) σ2 = some (nI (aloneT (nowT A.2.2.2) i n (21 + i))) := by
          rw [show (7281 : Int32) + nI i = nI (7260 + (21 + i)) from (lx (a := 7281) rfl).trans (by rw [show 7281 + i = 7260 + (21 + i) by omega]), w_rd (by omega), v21]
        have r27 : aI 135 ((7287 : Int32) + nI i) σ2 = some (nI (aloneT (nowT A.2.2.2) i n (27 + i))) := by
          rw [show (7287 : Int32) + nI i = nI (7260 + (27 + i)) from (lx (a := 7287) rfl).trans (by rw [show 7287 + i = 7260 + (27 + i) by omega]), w_rd (by omega), v27]
        unfold F_X9_then
        rw [M_bed h.now h6 hi, ob_some, if_neg (by decide), in_eq, wide, d0, d40, if_pos hy, ob_some, if_neg (by decide), e1, ob_some, e2, ob_some, wR, ob_some, r21, ob_some, ob_some, r27, ob_some, e3, ob_some]
    · refine ⟨-1, A, hA, C_same fun σ h => ?_, M_same fun σ h => ?_⟩
      · unfold F_X8_then
        rw [gR_0_4, ob_some, tC tw_18, ob_some, C_has tw_18 h.now hnw hi, ob_some, if_neg (by decide)]
        by_cases q : y < 0
        · rw [if_pos q]
        · have q' : ¬ y.toInt < 0 := fun z => q (neg_iff.mpr z)
          rw [if_neg q, if_neg (fun z => by have := t4.mp z; omega)]
      · unfold F_X9_then
        rw [M_bed h.now h6 hi, ob_some, if_neg (by decide), in_eq, wide, d0, d40, if_neg hy, ob_some, if_pos rfl]
end
section
/-! ===== a loop that may end before ===== -/
theorem lp_inv2 {S T : Type} {f : S → Option (S ⊕ T)} {Q : T → Prop} (I : Nat → S → Prop) (n : Nat) (hs : ∀ j s, j < n → I j s → (∃ s', f s = some (.inl s') ∧ I (j + 1) s') ∨ ∃ t, f s = some (.inr t) ∧ Q t) (he : ∀ s, I n s → ∃ t, f s = some (.inr t) ∧ Q t) : ∀ s, I 0 s → ∃ t, lp f s = some t ∧ Q t := by
  have key : ∀ m, m ≤ n → ∀ s, I (n - m) s → ∃ t, lp f s = some t ∧ Q t := by
    intro m
    induction m with
    | zero =>
      intro _ s h
      obtain ⟨t, h1, h2⟩ := he s h
      exact ⟨t, lp_out h1, h2⟩
    | succ m ih =>
      intro hm s h
      rcases hs _ s (by omega) h with ⟨s', h1, h2⟩ | ⟨t, h1, h2⟩
      · rw [show n - (m + 1) + 1 = n - m by omega] at h2
        obtain ⟨t, h3, h4⟩ := ih (by omega) s' h2
        exact ⟨t, by rw [lp_in h1]; exact h3, h4⟩
      · exact ⟨t, lp_out h1, h2⟩
  intro s h
  exact key n (Nat.le_refl n) s (by rw [Nat.sub_self]; exact h)
end
section
/-! ===== the first of some ===== -/
def firV (P : Nat → Prop) [DecidablePred P] : Nat → Nat → Int32
  | 0, _ => -9
  | f + 1, j => if P j then nI j else firV P f (j + 1)
theorem firV_yes {P : Nat → Prop} [DecidablePred P] {f j : Nat} (h : P j) : firV P (f + 1) j = nI j := if_pos h
theorem firV_no {P : Nat → Prop} [DecidablePred P] {f j : Nat} (h : ¬ P j) : firV P (f + 1) j = firV P f (j + 1) := if_neg h
/-- would be found in this town -/
abbrev dueT (T : Tn) (i : Nat) : Prop := T 43 ≤ T (27 + i)
theorem due_agr {i : Nat} {T U : Tn} (h : agr i T U) : dueT T i ↔ dueT U i := by
  unfold dueT
  rw [h 43 (by unfold keyB; omega), h (27 + i) (by unfold keyB; omega)]
theorem sim_when (x : Int32) : Sim (F_X8_when 0 x) (F_X9_when 134 x) := by
  refine sim_of fun A hA => ?_
  obtain ⟨hnw, hn0⟩ := now_wf hA
  have h6 := hnw.1
  rcases ixc x (n := nowT A.2.2.2 0) (by omega) with hx | ⟨i, hi, rfl⟩
  · refine ⟨-1, A, hA, C_same fun σ h => ?_, M_same fun σ h => ?_⟩
    · unfold F_X8_when
      rw [gR_0_4, ob_some, tC tw_18, ob_some, C_hasno tw_18 h.now hx, ob_some, if_pos rfl]
    · unfold F_X9_when
      rw [M_bedno h.now h6 hx, ob_some, if_pos rfl]
  · generalize hT : nowT A.2.2.2 = T at *
    have z40 : ∀ j, j < 41 → ¬ (40 : Int32) < nI j := fun j hj z => by
      have := (nI_ltI (a := 40) (b := j) (by decide) (by omega)).mp z
      omega
    have z41 : (40 : Int32) < nI 41 := by decide
    refine ⟨firV (fun j => dueT (aloneT T i j) i) 41 0, A, hA, fun σ h => ?_, fun σ h => ?_⟩
    · have hnow := h.now
      rw [hT] at hnow
      obtain ⟨σ1, e1, c1, f1⟩ := C_copy tw_26 (k2 := 18) tw_18 (by decide) h6 hnow
      have key : ∃ t, F_X8_when_26 0 (nI i) ((0 : Int32), σ1) = some t ∧ (t.1 = firV (fun j => dueT (aloneT T i j) i) 41 0 ∧ FrK 26 σ t.2) := by
        unfold F_X8_when_26
        refine lp_inv2 (fun j (s : Int32 × Mem) => s.1 = nI j ∧ CT s.2 26 (aloneT T i j) ∧ FrK 26 σ s.2 ∧ firV (fun j => dueT (aloneT T i j) i) (41 - j) j = firV (fun j => dueT (aloneT T i j) i) 41 0) 41 ?_ ?_ _ ⟨rfl, c1, f1, rfl⟩
        · intro j s hj ⟨a1, a2, a3, a4⟩
          have wa := wf_alone hnw hi j
          have hi2 : i < aloneT T i j 0 := by rw [alone_0]; exact hi
          rw [show 41 - j = (41 - (j + 1)) + 1 by omega] at a4
          by_cases hd : dueT (aloneT T i j) i
          · rw [firV_yes (P := fun j => dueT (aloneT T i j) i) hd] at a4
            refine Or.inr ⟨(nI j, s.2), ?_, a4, a3⟩
            rw [a1, if_neg (z40 j hj), gR_0_5, ob_some, tC tw_26, ob_some, C_found tw_26 a2 wa hi2, ob_some, if_pos hd, if_neg (by decide)]
          · rw [firV_no (P := fun j => dueT (aloneT T i j) i) hd] at a4
            obtain ⟨σ', e2, c2, f2⟩ := C_alone (n := 1) tw_26 a2 wa (by omega) hi2
            have e2' : F_X7_passAlone 26 (nI i) (1 : Int32) s.2 = some σ' := e2
            refine Or.inl ⟨(nI (j + 1), σ'), ?_, rfl, c2, a3.tr f2, a4⟩
            rw [a1, if_neg (z40 j hj), gR_0_5, ob_some, tC tw_26, ob_some, C_found tw_26 a2 wa hi2, ob_some, if_neg hd, if_pos rfl, ob_some, tC tw_26, ob_some, e2', ob_some, nI_1]
        · intro s ⟨a1, a2, a3, a4⟩
          exact ⟨((-9 : Int32), s.2), by rw [a1, if_pos z41], a4, a3⟩
      obtain ⟨t, e2, t1, t2⟩ := key
      obtain ⟨h3, f3⟩ := h.aside t2
      refine ⟨t.2, ?_, h3, f3⟩
      unfold F_X8_when
      rw [gR_0_4, ob_some, tC tw_18, ob_some, C_has tw_18 hnow hnw hi, ob_some, if_neg (by decide), gR_0_5, ob_some, ob_some, tC tw_26, ob_some, e1, ob_some, e2, ← t1]
    · have hnow := h.now
      rw [hT] at hnow
      obtain ⟨σ1, e1, c1, f1⟩ := M_tries hnow
      have hC1 : COL σ1 T := fun m hm => by rw [f1.1 _ _ (by omega)]; exact hnow.col m hm
      have key : ∃ t, F_X9_when_16 134 (nI i) ((0 : Int32), σ1) = some t ∧ (t.1 = firV (fun j => dueT (aloneT T i j) i) 41 0 ∧ FrM 7260 σ t.2) := by
        unfold F_X9_when_16
        refine lp_inv2 (fun j (s : Int32 × Mem) => s.1 = nI j ∧ MT s.2 7260 (passN T j) ∧ COL s.2 T ∧ FrM 7260 σ s.2 ∧ firV (fun j => dueT (aloneT T i j) i) (41 - j) j = firV (fun j => dueT (aloneT T i j) i) 41 0) 41 ?_ ?_ _ ⟨rfl, c1, hC1, f1, rfl⟩
        · intro j s hj ⟨a1, a2, aC, a3, a4⟩
          have wa := wf_passN hnw j
          have hi2 : i < passN T j 0 := by rw [passN_0]; exact hi
          have hD := due_agr (alone_agr hi h6 j)
          rw [show 41 - j = (41 - (j + 1)) + 1 by omega] at a4
          have dd := M_due a2 (by decide) wa hi2
          have dd' : F_X9_isDue 134 (7260 : Int32) (nI i) s.2 = some (if dueT (passN T j) i then 1 else 0) := dd
          by_cases hd : dueT (aloneT T i j) i
          · rw [firV_yes (P := fun j => dueT (aloneT T i j) i) hd] at a4
            refine Or.inr ⟨(nI j, s.2), ?_, a4, a3⟩
            rw [a1, if_neg (z40 j hj), dd', ob_some, if_pos (hD.mpr hd), if_neg (by decide)]
          · rw [firV_no (P := fun j => dueT (aloneT T i j) i) hd] at a4
            obtain ⟨σ', g1, g2, g3⟩ := M_pass (f := 7260) a2 (aC.ext (fun m _ => passN_col h6 j)) (by decide) (Or.inr (by decide)) wa (by omega)
            have g1' : F_X9_passes 134 (7260 : Int32) s.2 = some (_, σ') := g1
            refine Or.inl ⟨(nI (j + 1), σ'), ?_, rfl, g2, fun m hm => ?_, a3.tr g3, a4⟩
            · rw [a1, if_neg (z40 j hj), dd', ob_some, if_neg (fun z => hd (hD.mp z)), if_pos rfl, g1', ob_some, nI_1]
            · show σ'.1 135 (39 + m) = _
              rw [g3.1 _ _ (by omega)]; exact aC m hm
        · intro s ⟨a1, a2, aC, a3, a4⟩
          exact ⟨((-9 : Int32), s.2), by rw [a1, if_pos z41], a4, a3⟩
      obtain ⟨t, e2, t1, t2⟩ := key
      obtain ⟨h3, f3⟩ := RM.aside hA h t2
      refine ⟨t.2, ?_, h3, f3⟩
      unfold F_X9_when
      rw [M_bed hnow h6 hi, ob_some, if_neg (by decide), e1, ob_some, e2, ← t1]
end
section
/-! ===== the least thinning ===== -/
def thnT (T : Tn) (i s : Nat) : Tn := updT T (21 + i) (T (21 + i) - s)
theorem wf_thn {B i s : Nat} {T : Tn} (hw : wfT B T) (hi : i < T 0) : wfT B (thnT T i s) := by
  have b := hw.2.2.1 i hi
  exact wf_bed hw hi (Or.inr (Or.inl ⟨rfl, by omega⟩))
theorem thn_0 {i s : Nat} {T : Tn} : thnT T i s 0 = T 0 := upd_ne (by omega)
abbrev lstP (T : Tn) (i n s : Nat) : Prop := dueT (aloneT (thnT T i s) i n) i
theorem sim_least (x y : Int32) : Sim (F_X8_least 0 x y) (F_X9_least 134 x y) := by
  refine sim_of fun A hA => ?_
  obtain ⟨hnw, hn0⟩ := now_wf hA
  have h6 := hnw.1
  have d0 : (0 : Int64).toInt = 0 := rfl
  have d40 : (40 : Int64).toInt = 40 := rfl
  have c40 : (40 : Int32).toInt = 40 := rfl
  have t4 : (y ≤ (40 : Int32)) ↔ y.toInt ≤ 40 := by rw [Int32.le_iff_toInt_le, c40]
  rcases ixc x (n := nowT A.2.2.2 0) (by omega) with hx | ⟨i, hi, rfl⟩
  · refine ⟨-1, A, hA, C_same fun σ h => ?_, M_same fun σ h => ?_⟩
    · unfold F_X8_least
      rw [gR_0_4, ob_some, tC tw_18, ob_some, C_hasno tw_18 h.now hx, ob_some, if_pos rfl]
    · unfold F_X9_least
      rw [M_bedno h.now h6 hx, ob_some, if_pos rfl]
  · by_cases hy : 0 ≤ y.toInt ∧ y.toInt ≤ 40
    · obtain ⟨n, hn, rfl⟩ := nat_of hy.1
      generalize hT : nowT A.2.2.2 = T at *
      have b := hnw.2.2.1 i hi
      have hi6 : i < 6 := by omega
      generalize hK : T (21 + i) = K at *
      refine ⟨firV (lstP T i n) (K + 1) 0, A, hA, fun σ h => ?_, fun σ h => ?_⟩
      · have hnow := h.now
        rw [hT] at hnow
        have key : ∃ t, F_X8_least_35 0 (nI i) (nI n) (nI K) ((0 : Int32), σ) = some t ∧ (t.1 = firV (lstP T i n) (K + 1) 0 ∧ FrK 26 σ t.2) := by
          unfold F_X8_least_35
          refine lp_inv2 (fun j (s : Int32 × Mem) => s.1 = nI j ∧ CT s.2 18 T ∧ FrK 26 σ s.2 ∧ firV (lstP T i n) (K + 1 - j) j = firV (lstP T i n) (K + 1) 0) (K + 1) ?_ ?_ _ ⟨rfl, hnow, FrK.rf, rfl⟩
          · intro j s hj ⟨a1, a2, a3, a4⟩
            obtain ⟨σ1, e1, c1, f1⟩ := C_copy tw_26 (k2 := 18) tw_18 (by decide) h6 a2
            have e2 := C_thin (v := j) tw_26 c1 hnw hi (by omega)
            have c2 : CT (setI σ1 (26 + 5) i (nI (T (21 + i) - j))) 26 (thnT T i j) := c1.set (o := 5) h6 hi (by decide) (by decide) (by omega)
            have f2 : FrK 26 σ1 (setI σ1 (26 + 5) i (nI (T (21 + i) - j))) := FrK.set (by decide) (by decide)
            have w2 := wf_thn (s := j) hnw hi
            obtain ⟨σ3, e3, c3, f3⟩ := C_alone (n := n) tw_26 c2 w2 (by omega) (by rw [thn_0]; exact hi)
            have wa := wf_alone w2 (by rw [thn_0]; exact hi) n
            have hi2 : i < aloneT (thnT T i j) i n 0 := by rw [alone_0, thn_0]; exact hi
            have e4 := C_found tw_26 c3 wa hi2
            have fr := a3.tr ((f1.tr f2).tr f3)
            have hz : ¬ nI K < nI j := fun z => by
              have := (nI_ltI (a := K) (b := j) (by omega) (by omega)).mp z
              omega
            rw [show K + 1 - j = (K + 1 - (j + 1)) + 1 by omega] at a4
            by_cases hd : lstP T i n j
            · rw [firV_yes (P := lstP T i n) hd] at a4
              refine Or.inr ⟨(nI j, σ3), ?_, a4, fr⟩
              rw [a1, if_neg hz, gR_0_5, ob_some, gR_0_4, ob_some, tC tw_26, ob_some, e1, ob_some, ob_some, tC tw_26, ob_some, e2, ob_some, ob_some, tC tw_26, ob_some, e3, ob_some, ob_some, tC tw_26, ob_some, e4, ob_some, if_pos hd, if_neg (by decide)]
            · rw [firV_no (P := lstP T i n) hd] at a4
              refine Or.inl ⟨(nI (j + 1), σ3), ?_, rfl, ?_, fr, a4⟩
              · rw [a1, if_neg hz, gR_0_5, ob_some, gR_0_4, ob_some, tC tw_26, ob_some, e1, ob_some, ob_some, tC tw_26, ob_some, e2, ob_some, ob_some, tC tw_26, ob_some, e3, ob_some, ob_some, tC tw_26, ob_some, e4, ob_some, if_neg hd, if_pos rfl, nI_1]
              · exact hnow.kept (fun a b p q => fr.1 a b (by omega))
          · intro s ⟨a1, a2, a3, a4⟩
            rw [Nat.sub_self] at a4
            exact ⟨((-9 : Int32), s.2), by rw [a1, if_pos (nI_lt (by omega) (by omega))], a4, a3⟩
        obtain ⟨t, e2, t1, t2⟩ := key
        obtain ⟨h3, f3⟩ := h.aside t2
        refine ⟨t.2, ?_, h3, f3⟩
        unfold F_X8_least
        rw [gR_0_4, ob_some, tC tw_18, ob_some, C_has tw_18 hnow hnw hi, ob_some, if_neg (by decide), if_neg (show ¬ nI n < 0 from fun q => by have := neg_iff.mp q; omega), if_pos (t4.mpr hy.2), ob_some, tC tw_18, ob_some, C_thick tw_18 hnow hnw hi, ob_some, hK, e2, ← t1]
      · have hnow := h.now
        rw [hT] at hnow
        have key : ∃ t, F_X9_least_24 134 (nI i) (nI n) ((0 : Int32), σ) = some t ∧ (t.1 = firV (lstP T i n) (K + 1) 0 ∧ FrM 7260 σ t.2) := by
          unfold F_X9_least_24
          refine lp_inv2 (fun j (s : Int32 × Mem) => s.1 = nI j ∧ MT s.2 0 T ∧ FrM 7260 σ s.2 ∧ firV (lstP T i n) (K + 1 - j) j = firV (lstP T i n) (K + 1) 0) (K + 1) ?_ ?_ _ ⟨rfl, hnow, FrM.rf, rfl⟩
          · intro j s hj ⟨a1, a2, a3, a4⟩
            have v0 := a2 (21 + i) (by omega)
            rw [Nat.zero_add, hK] at v0
            have r0 : aI 135 ((21 : Int32) + nI i) s.2 = some (nI K) := by
              rw [show (21 : Int32) + nI i = nI (21 + i) from lx rfl, w_rd (by omega), v0]
            obtain ⟨σ1, e1, c1, f1⟩ := M_tries a2
            have v1 := c1 (21 + i) (by omega)
            rw [hK] at v1
            have i7 : (7281 : Int32) + nI i = nI (7260 + (21 + i)) := (lx (a := 7281) rfl).trans (by rw [show 7281 + i = 7260 + (21 + i) by omega])
            have r1 : aI 135 (nI (7260 + (21 + i))) σ1 = some (nI K) := by rw [w_rd (by omega), v1]
            have es : nI K - nI j = nI (T (21 + i) - j) := by rw [pk_sub (by omega), hK]
            have c2 : MT (setI σ1 135 (7260 + (21 + i)) (nI (T (21 + i) - j))) 7260 (thnT T i j) := c1.set
            have f2 : FrM 7260 σ1 (setI σ1 135 (7260 + (21 + i)) (nI (T (21 + i) - j))) := FrM.set (by omega)
            have hC2 : COL (setI σ1 135 (7260 + (21 + i)) (nI (T (21 + i) - j))) (thnT T i j) := fun m hm => by
              rw [(f1.tr f2).1 _ _ (by omega)]
              show s.2.1 135 (39 + m) = nI (updT T (21 + i) _ (39 + m))
              rw [upd_ne (by omega)]
              exact a2.col m hm
            have w2 := wf_thn (s := j) hnw hi
            obtain ⟨σ3, e3, c3, f3⟩ := M_nights (n := n) c2 hC2 w2 (by omega)
            have wa := wf_passN w2 n
            have hi2 : i < passN (thnT T i j) n 0 := by rw [passN_0, thn_0]; exact hi
            have hD := due_agr (alone_agr (T := thnT T i j) (i := i) (by rw [thn_0]; exact hi) (by rw [thn_0]; exact h6) n)
            have dd : F_X9_isDue 134 (7260 : Int32) (nI i) σ3 = some (if dueT (passN (thnT T i j) n) i then 1 else 0) := M_due c3 (by decide) wa hi2
            have fr := a3.tr ((f1.tr f2).tr f3)
            have hz : ¬ nI K < nI j := fun z => by
              have := (nI_ltI (a := K) (b := j) (by omega) (by omega)).mp z
              omega
            rw [show K + 1 - j = (K + 1 - (j + 1)) + 1 by omega] at a4
            by_cases hd : lstP T i n j
            · rw [firV_yes (P := lstP T i n) hd] at a4
              refine Or.inr ⟨(nI j, σ3), ?_, a4, fr⟩
              rw [a1, wR, ob_some, r0, ob_some, if_neg hz, e1, ob_some, ob_some, i7, r1, ob_some, es, w_wr (by omega), ob_some, e3, ob_some, dd, ob_some, if_pos (hD.mpr hd), if_neg (by decide)]
            · rw [firV_no (P := lstP T i n) hd] at a4
              refine Or.inl ⟨(nI (j + 1), σ3), ?_, rfl, ?_, fr, a4⟩
              · rw [a1, wR, ob_some, r0, ob_some, if_neg hz, e1, ob_some, ob_some, i7, r1, ob_some, es, w_wr (by omega), ob_some, e3, ob_some, dd, ob_some, if_neg (fun z => hd (hD.mp z)), if_pos rfl, nI_1]
              · exact hnow.kept (fun b p1 p2 => fr.1 _ _ (by omega))
          · intro s ⟨a1, a2, a3, a4⟩
            rw [Nat.sub_self] at a4
            have v0 := a2 (21 + i) (by omega)
            rw [Nat.zero_add, hK] at v0
            have r0 : aI 135 ((21 : Int32) + nI i) s.2 = some (nI K) := by
              rw [show (21 : Int32) + nI i = nI (21 + i) from lx rfl, w_rd (by omega), v0]
            exact ⟨((-9 : Int32), s.2), by rw [a1, wR, ob_some, r0, ob_some, if_pos (nI_lt (by omega) (by omega))], a4, a3⟩
        obtain ⟨t, e2, t1, t2⟩ := key
        obtain ⟨h3, f3⟩ := RM.aside hA h t2
        refine ⟨t.2, ?_, h3, f3⟩
        unfold F_X9_least
        rw [M_bed hnow h6 hi, ob_some, if_neg (by decide), in_eq, wide, d0, d40, if_pos hy, ob_some, if_neg (by decide), e2, ← t1]
    · refine ⟨-1, A, hA, C_same fun σ h => ?_, M_same fun σ h => ?_⟩
      · unfold F_X8_least
        rw [gR_0_4, ob_some, tC tw_18, ob_some, C_has tw_18 h.now hnw hi, ob_some, if_neg (by decide)]
        by_cases q : y < 0
        · rw [if_pos q]
        · have q' : ¬ y.toInt < 0 := fun z => q (neg_iff.mpr z)
          rw [if_neg q, if_neg (fun z => by have := t4.mp z; omega)]
      · unfold F_X9_least
        rw [M_bed h.now h6 hi, ob_some, if_neg (by decide), in_eq, wide, d0, d40, if_neg hy, ob_some, if_pos rfl]
end
section
/-! ===== what lies beside is nobody's ===== -/
def FrO (σ σ' : Mem) : Prop := (∀ a b, (a < 26 ∨ a = 34 ∨ (a = 36 ∧ b = 9) ∨ a = 42 ∨ a = 43 ∨ 133 ≤ a) → σ'.1 a b = σ.1 a b) ∧ σ'.2 = σ.2
theorem FrO.rf {σ : Mem} : FrO σ σ := ⟨fun _ _ _ => rfl, rfl⟩
theorem FrO.tr {σ σ' σ'' : Mem} (h : FrO σ σ') (h2 : FrO σ' σ'') : FrO σ σ'' := ⟨fun a b q => (h2.1 a b q).trans (h.1 a b q), h2.2.trans h.2⟩
theorem FrO.set {a j : Nat} {v : Int32} {σ : Mem} (h1 : 26 ≤ a) (h2 : a ≠ 34) (h3 : a < 133) (h4 : a < 36 ∨ 43 < a := by decide) : FrO σ (setI σ a j v) := ⟨fun x y q => by rw [setI_1, if_neg (by omega)], rfl⟩
theorem FrK.o {k : Nat} {σ σ' : Mem} (h : FrK k σ σ') (h1 : 26 ≤ k) (h2 : k + 7 < 34 ∨ 34 < k) (h3 : k + 7 < 133) (h4 : k + 7 < 36 ∨ 43 < k) : FrO σ σ' := ⟨fun a b q => h.1 a b (by omega), h.2⟩
theorem RC.side {A : Ab} {σ σ' : Mem} (h : RC A σ) (f : FrO σ σ') : RC A σ' ∧ FC σ σ' :=
  ⟨⟨h.1.kept (fun a b p q => f.1 a b (by omega)), h.2.1.kept (fun a b p q => f.1 a b (by omega)), h.2.2.1.kept (f.1 _ _ (by decide)) (f.1 _ _ (by decide)) (fun j => f.1 _ _ (by omega)) (fun j => by rw [f.2]), h.2.2.2.kept (f.1 _ _ (by decide)) (fun a b q => f.1 a b (by omega))⟩, fun a b q => f.1 a b (by omega), fun a b q => by rw [f.2]⟩
/-- the reference's: trial, draft, held numbers, parts, values -/
def FrN (σ σ' : Mem) : Prop := (∀ a b, (a < 134 ∨ (a = 134 ∧ b ≠ 13) ∨ (a = 135 ∧ b < 7216) ∨ (136 ≤ a ∧ a ≤ 140) ∨ a = 142) → σ'.1 a b = σ.1 a b) ∧ ∀ a b, (a ≠ 134 ∨ b ≠ 16) → σ'.2 a b = σ.2 a b
theorem FrN.rf {σ : Mem} : FrN σ σ := ⟨fun _ _ _ => rfl, fun _ _ _ => rfl⟩
theorem FrN.tr {σ σ' σ'' : Mem} (h : FrN σ σ') (h2 : FrN σ' σ'') : FrN σ σ'' := ⟨fun a b q => (h2.1 a b q).trans (h.1 a b q), fun a b q => (h2.2 a b q).trans (h.2 a b q)⟩
theorem FrN.set {a j : Nat} {v : Int32} {σ : Mem} (h1 : (a = 134 ∧ j = 13) ∨ (a = 135 ∧ 7216 ≤ j) ∨ a = 141 ∨ 143 ≤ a) : FrN σ (setI σ a j v) := ⟨fun x y q => by rw [setI_1, if_neg (by omega)], fun _ _ _ => rfl⟩
theorem FrM.n {f : Nat} {σ σ' : Mem} (h : FrM f σ σ') (hf : 7216 ≤ f) : FrN σ σ' := ⟨fun a b q => h.1 a b (by omega), fun a b _ => by rw [h.2]⟩
theorem RM.side {A : Ab} {σ σ' : Mem} (hA : okDe A.2.2.2) (h : RM A σ) (f : FrN σ σ') : RM A σ' ∧ FM σ σ' := by
  obtain ⟨u1, u2, u3, u4⟩ := h.2.2.2
  have hdc := hA.2.1
  refine ⟨⟨h.1.kept (fun a b q => f.1 a b (by omega)), h.2.1.kept (fun a b q => f.1 a b (by omega)), h.2.2.1.kept (f.1 _ _ (by decide)) (f.1 _ _ (by decide)) (fun j => f.1 _ _ (by omega)) (f.2 _ _ (by decide)) (f.2 _ _ (by decide)), u1.kept (fun b p1 p2 => f.1 _ _ (by omega)), fun d hd => (u2 d hd).kept (fun b p1 p2 => f.1 _ _ (by omega)), (f.1 _ _ (by decide)).trans u3, fun k hk => ?_⟩, fun a b q => f.1 a b (by omega), fun a b q => f.2 a b (by omega)⟩
  have h2 := u4 k hk
  cases e : A.2.2.2.2.2.2.1 k with
  | none => rw [e] at h2; exact (f.1 _ _ (by omega)).trans h2
  | some n =>
    rw [e] at h2
    have hn := (hA.2.2.2.1 k n e).1
    exact ⟨(f.1 _ _ (by omega)).trans h2.1, h2.2.1.kept (fun b p1 p2 => f.1 _ _ (by omega)), fun d hd => (h2.2.2 d hd).kept (fun b p1 p2 => f.1 _ _ (by omega))⟩
/-! ===== pairs of nights and crossings ===== -/
abbrev goodP (f : Nat → Int32) (k : Nat) : Prop := (0 ≤ (f (2 * k)).toInt ∧ (f (2 * k)).toInt ≤ 99) ∧ 0 ≤ (f (2 * k + 1)).toInt ∧ (f (2 * k + 1)).toInt ≤ 30
def mP (f : Nat → Int32) (k : Nat) : Nat := (f (2 * k)).toInt.toNat
def cP (f : Nat → Int32) (k : Nat) : Nat := (f (2 * k + 1)).toInt.toNat
theorem goodP_m {f : Nat → Int32} {k : Nat} (h : goodP f k) : f (2 * k) = nI (mP f k) ∧ mP f k ≤ 99 := by
  obtain ⟨i, h1, h2⟩ := nat_of h.1.1
  have e : mP f k = i := by unfold mP; omega
  rw [e]
  exact ⟨h2, by have := h.1.2; omega⟩
theorem goodP_c {f : Nat → Int32} {k : Nat} (h : goodP f k) : f (2 * k + 1) = nI (cP f k) ∧ cP f k ≤ 30 := by
  obtain ⟨i, h1, h2⟩ := nat_of h.2.1
  have e : cP f k = i := by unfold cP; omega
  rw [e]
  exact ⟨h2, by have := h.2.2; omega⟩
/-- the pairs as the class holds them -/
def PC (σ : Mem) (f : Nat → Int32) (p : Nat) : Prop := σ.1 93 4 = nI p ∧ ∀ k, k < p → goodP f k ∧ σ.1 94 k = nI (mP f k) ∧ σ.1 95 k = nI (cP f k)
theorem PC.kept {σ σ' : Mem} {f : Nat → Int32} {p : Nat} (h : PC σ f p) (ho : ∀ a b, (a = 94 ∨ a = 95 ∨ (a = 93 ∧ b = 4)) → σ'.1 a b = σ.1 a b) : PC σ' f p := ⟨(ho _ _ (by decide)).trans h.1, fun k hk => ⟨(h.2 k hk).1, (ho _ _ (by omega)).trans (h.2 k hk).2.1, (ho _ _ (by omega)).trans (h.2 k hk).2.2⟩⟩
theorem hi99 {x : Int32} : ((99 : Int32) < x) ↔ ¬ x.toInt ≤ 99 := by
  rw [Int32.lt_iff_toInt_lt, show (99 : Int32).toInt = 99 from rfl]; omega
theorem hi30 {x : Int32} : (x ≤ (30 : Int32)) ↔ x.toInt ≤ 30 := by
  rw [Int32.le_iff_toInt_le, show (30 : Int32).toInt = 30 from rfl]
theorem C_take {σ : Mem} {r n : Nat} {f : Nat → Int32} (hr : r < 6) (hn : n ≤ 40) (h0 : σ.1 1 0 = nI 40) (h1 : σ.1 2 r = nI n) (h2 : ∀ j, j < n → σ.1 3 (r * 40 + j) = f j) : ∃ σ', FrO σ σ' ∧ (((∀ k, k < n / 2 → goodP f k) ∧ F_X0_take 93 1 (nI r) σ = some (1, σ') ∧ PC σ' f (n / 2)) ∨ ((¬ ∀ k, k < n / 2 → goodP f k) ∧ F_X0_take 93 1 (nI r) σ = some (0, σ'))) := by
  have e0 : nI n / (2 : Int32) = nI (n / 2) := pk_div (d := 2) (by omega) (by decide) (by decide)
  have key : ∃ t, F_X0_take_13 93 1 (nI r) ((0 : Int32), setI σ 93 4 (nI (n / 2))) = some t ∧ (FrO σ t.2 ∧ (((∀ k, k < n / 2 → goodP f k) ∧ t.1 = 1 ∧ PC t.2 f (n / 2)) ∨ ((¬ ∀ k, k < n / 2 → goodP f k) ∧ t.1 = 0))) := by
    unfold F_X0_take_13
    refine lp_inv2 (fun j (s : Int32 × Mem) => s.1 = nI j ∧ FrO σ s.2 ∧ s.2.1 93 4 = nI (n / 2) ∧ ∀ k, k < j → goodP f k ∧ s.2.1 94 k = nI (mP f k) ∧ s.2.1 95 k = nI (cP f k)) (n / 2) ?_ ?_ _ ⟨rfl, FrO.set (by decide) (by decide) (by decide), by rw [setI_1, if_pos ⟨rfl, rfl⟩], fun k hk => absurd hk (by omega)⟩
    · intro j s hj ⟨a1, a2, a3, a4⟩
      have i1 : (2 : Int32) * nI j = nI (2 * j) := pk_mul 2 j
      have i2 : ((2 : Int32) * nI j) + (1 : Int32) = nI (2 * j + 1) := by rw [i1, nI_1]
      have k0 : s.2.1 1 0 = nI 40 := (a2.1 _ _ (by decide)).trans h0
      have k1 : s.2.1 (1 + 1) r = nI n := (a2.1 _ _ (by omega)).trans h1
      have g1 : F_X6_get 1 (nI r) ((2 : Int32) * nI j) s.2 = some (f (2 * j)) := by
        rw [i1, S_get sf_1 hr k0 k1 hn (by omega), a2.1 _ _ (by omega), h2 _ (by omega)]
      have g2 : F_X6_get 1 (nI r) (((2 : Int32) * nI j) + (1 : Int32)) s.2 = some (f (2 * j + 1)) := by
        rw [i2, S_get sf_1 hr k0 k1 hn (by omega), a2.1 _ _ (by omega), h2 _ (by omega)]
      have w1 : F_X8_write 94 (nI j) (f (2 * j)) s.2 = some (setI s.2 94 j (f (2 * j))) := wr_eq (by decide) sh_94 (by omega) (by decide)
      have w2 : F_X8_write 95 (nI j) (f (2 * j + 1)) (setI s.2 94 j (f (2 * j))) = some (setI (setI s.2 94 j (f (2 * j))) 95 j (f (2 * j + 1))) := wr_eq (by decide) sh_95 (by omega) (by decide)
      have fr : FrO σ (setI (setI s.2 94 j (f (2 * j))) 95 j (f (2 * j + 1))) := (a2.tr (FrO.set (by decide) (by decide) (by decide))).tr (FrO.set (by decide) (by decide) (by decide))
      have hz : ¬ nI (n / 2) ≤ nI j := nI_ge hj (by omega)
      by_cases q : goodP f j
      · refine Or.inl ⟨(nI (j + 1), setI (setI s.2 94 j (f (2 * j))) 95 j (f (2 * j + 1))), ?_, rfl, fr, ?_, fun k hk => ?_⟩
        · rw [gI_93_4, ob_some, a3, a1, if_neg hz, ck_1, ob_some, g1, ob_some, ob_some, g2, ob_some, gR_93_0, ob_some, w1, ob_some, gR_93_1, ob_some, w2, ob_some, if_neg (fun z => by have := neg_iff.mp z; omega), if_neg (fun z => hi99.mp z q.1.2), if_neg (fun z => by have := neg_iff.mp z; omega), if_pos (hi30.mpr q.2.2), nI_1]
        · show (setI (setI s.2 94 j (f (2 * j))) 95 j (f (2 * j + 1))).1 93 4 = _
          rw [setI_1, if_neg (by omega), setI_1, if_neg (by omega)]; exact a3
        · show goodP f k ∧ (setI (setI s.2 94 j (f (2 * j))) 95 j (f (2 * j + 1))).1 94 k = _ ∧ (setI (setI s.2 94 j (f (2 * j))) 95 j (f (2 * j + 1))).1 95 k = _
          rw [setI_1, if_neg (by omega), setI_1, setI_1, setI_1]
          by_cases y : k = j
          · subst y
            rw [if_pos ⟨rfl, rfl⟩, if_pos ⟨rfl, rfl⟩]
            exact ⟨q, (goodP_m q).1, (goodP_c q).1⟩
          · rw [if_neg (by omega), if_neg (by omega), if_neg (by omega)]
            exact a4 k (by omega)
      · refine Or.inr ⟨((0 : Int32), setI (setI s.2 94 j (f (2 * j))) 95 j (f (2 * j + 1))), ?_, fr, Or.inr ⟨fun z => q (z j hj), rfl⟩⟩
        rw [gI_93_4, ob_some, a3, a1, if_neg hz, ck_1, ob_some, g1, ob_some, ob_some, g2, ob_some, gR_93_0, ob_some, w1, ob_some, gR_93_1, ob_some, w2, ob_some]
        by_cases q1 : f (2 * j) < 0
        · rw [if_pos q1]
        rw [if_neg q1]
        have q1' : ¬ (f (2 * j)).toInt < 0 := fun z => q1 (neg_iff.mpr z)
        by_cases q2 : (99 : Int32) < f (2 * j)
        · rw [if_pos q2]
        rw [if_neg q2]
        have q2' : (f (2 * j)).toInt ≤ 99 := Decidable.byContradiction fun z => q2 (hi99.mpr z)
        by_cases q3 : f (2 * j + 1) < 0
        · rw [if_pos q3]
        have q3' : ¬ (f (2 * j + 1)).toInt < 0 := fun z => q3 (neg_iff.mpr z)
        rw [if_neg q3, if_neg (fun z => q ⟨⟨by omega, q2'⟩, by omega, hi30.mp z⟩)]
    · intro s ⟨a1, a2, a3, a4⟩
      exact ⟨((1 : Int32), s.2), by rw [gI_93_4, ob_some, a3, a1, if_pos (nI_le (Nat.le_refl _) (by omega))], a2, Or.inl ⟨fun k hk => (a4 k hk).1, rfl, a3, a4⟩⟩
  obtain ⟨⟨t1, t2⟩, e, k1, k2⟩ := key
  have eF : F_X0_take 93 1 (nI r) σ = some (t1, t2) := by
    unfold F_X0_take
    rw [ck_1, ob_some, S_size sf_1 hr, h1, ob_some, e0, pI_93_4, ob_some, e]
  refine ⟨t2, k1, ?_⟩
  rcases k2 with ⟨p1, p2, p3⟩ | ⟨p1, p2⟩
  · exact Or.inl ⟨p1, by rw [eF, show t1 = 1 from p2], p3⟩
  · exact Or.inr ⟨p1, by rw [eF, show t1 = 0 from p2]⟩
end
section
theorem in99 {x : Int32} {σ : Mem} : F_X9_in x.toInt64 (0 : Int64) (99 : Int64) σ = some (if 0 ≤ x.toInt ∧ x.toInt ≤ 99 then 1 else 0) := by
  rw [in_eq, wide, show (0 : Int64).toInt = 0 from rfl, show (99 : Int64).toInt = 99 from rfl]
theorem in30 {x : Int32} {σ : Mem} : F_X9_in x.toInt64 (0 : Int64) (30 : Int64) σ = some (if 0 ≤ x.toInt ∧ x.toInt ≤ 30 then 1 else 0) := by
  rw [in_eq, wide, show (0 : Int64).toInt = 0 from rfl, show (30 : Int64).toInt = 30 from rfl]
theorem M_against {σ : Mem} {r n : Nat} {f : Nat → Int32} (hr : r < 6) (hn : n ≤ 40) (he : n % 2 = 0) (h1 : σ.1 138 r = nI n) (h2 : ∀ j, j < n → σ.1 137 (r * 40 + j) = f j) : ((∀ k, k < n / 2 → goodP f k) → F_X9_against_34 134 (nI r) σ (0 : Int32) = some (0, σ)) ∧ ((¬ ∀ k, k < n / 2 → goodP f k) → ∀ z σ', F_X9_found 134 (3 : Int32) σ = some (z, σ') → F_X9_against_34 134 (nI r) σ (0 : Int32) = some (z, σ')) := by
  have stp : ∀ j, j < n / 2 → ∀ s : Int32, s = nI (2 * j) → goodP f j → ∃ s', (gR 9 4 134).bind (fun p2 => (aI p2 (nI r) σ).bind fun v3 => if v3 ≤ s then (some (.inr (((0 : Int32), σ))) : Option (Int32 ⊕ (Int32 × Mem))) else (gR 9 3 134).bind fun p7 => (aI p7 (((40 : Int32) * nI r) + s) σ).bind fun v8 => (F_X9_in v8.toInt64 (0 : Int64) (99 : Int64) σ).bind fun q10 => if q10 = 0 then (F_X9_against_90 134 σ).map fun z => .inr z else (gR 9 3 134).bind fun p14 => (aI p14 ((((40 : Int32) * nI r) + s) + (1 : Int32)) σ).bind fun v15 => (F_X9_in v15.toInt64 (0 : Int64) (30 : Int64) σ).bind fun q17 => if q17 = 0 then (F_X9_against_90 134 σ).map fun z => .inr z else some (.inl (s + (2 : Int32)))) = some (.inl s') ∧ s' = nI (2 * (j + 1)) := by
    intro j hj s hs q
    refine ⟨nI (2 * (j + 1)), ?_, rfl⟩
    rw [hs, gR_134_4, ob_some, aI_eq sh_138 hr (by decide), ob_some, h1, if_neg (nI_ge (by omega) (by omega)), gR_134_3, ob_some, ix40, aI_eq sh_137 (by omega) (by decide), ob_some, h2 _ (by omega), in99, ob_some, if_pos q.1, if_neg (by decide), ob_some, nI_1, aI_eq sh_137 (by omega) (by decide), ob_some, show r * 40 + 2 * j + 1 = r * 40 + (2 * j + 1) by omega, h2 _ (by omega), in30, ob_some, if_pos q.2, if_neg (by decide), show nI (2 * j) + (2 : Int32) = nI (2 * (j + 1)) from nI_add (2 * j) 2]
  have bad : ∀ j, j < n / 2 → ∀ s : Int32, s = nI (2 * j) → ¬ goodP f j → ∀ z σ', F_X9_found 134 (3 : Int32) σ = some (z, σ') → (gR 9 4 134).bind (fun p2 => (aI p2 (nI r) σ).bind fun v3 => if v3 ≤ s then (some (.inr (((0 : Int32), σ))) : Option (Int32 ⊕ (Int32 × Mem))) else (gR 9 3 134).bind fun p7 => (aI p7 (((40 : Int32) * nI r) + s) σ).bind fun v8 => (F_X9_in v8.toInt64 (0 : Int64) (99 : Int64) σ).bind fun q10 => if q10 = 0 then (F_X9_against_90 134 σ).map fun z => .inr z else (gR 9 3 134).bind fun p14 => (aI p14 ((((40 : Int32) * nI r) + s) + (1 : Int32)) σ).bind fun v15 => (F_X9_in v15.toInt64 (0 : Int64) (30 : Int64) σ).bind fun q17 => if q17 = 0 then (F_X9_against_90 134 σ).map fun z => .inr z else some (.inl (s + (2 : Int32)))) = some (.inr (z, σ')) := by
    intro j hj s hs q z σ' ez
    have e9 : F_X9_against_90 134 σ = some (z, σ') := by unfold F_X9_against_90; rw [ez, ob_some]
    rw [hs, gR_134_4, ob_some, aI_eq sh_138 hr (by decide), ob_some, h1, if_neg (nI_ge (by omega) (by omega)), gR_134_3, ob_some, ix40, aI_eq sh_137 (by omega) (by decide), ob_some, h2 _ (by omega), in99, ob_some]
    by_cases q1 : 0 ≤ (f (2 * j)).toInt ∧ (f (2 * j)).toInt ≤ 99
    · rw [if_pos q1, if_neg (by decide), ob_some, nI_1, aI_eq sh_137 (by omega) (by decide), ob_some, show r * 40 + 2 * j + 1 = r * 40 + (2 * j + 1) by omega, h2 _ (by omega), in30, ob_some, if_neg (fun y => q ⟨q1, y⟩), if_pos rfl, e9]
      rfl
    · rw [if_neg q1, if_pos rfl, e9]
      rfl
  have fin : ∀ s : Int32, s = nI (2 * (n / 2)) → (gR 9 4 134).bind (fun p2 => (aI p2 (nI r) σ).bind fun v3 => if v3 ≤ s then (some (.inr (((0 : Int32), σ))) : Option (Int32 ⊕ (Int32 × Mem))) else (gR 9 3 134).bind fun p7 => (aI p7 (((40 : Int32) * nI r) + s) σ).bind fun v8 => (F_X9_in v8.toInt64 (0 : Int64) (99 : Int64) σ).bind fun q10 => if q10 = 0 then (F_X9_against_90 134 σ).map fun z => .inr z else (gR 9 3 134).bind fun p14 => (aI p14 ((((40 : Int32) * nI r) + s) + (1 : Int32)) σ).bind fun v15 => (F_X9_in v15.toInt64 (0 : Int64) (30 : Int64) σ).bind fun q17 => if q17 = 0 then (F_X9_against_90 134 σ).map fun z => .inr z else some (.inl (s + (2 : Int32)))) = some (.inr (0, σ)) := by
    intro s hs
    rw [hs, gR_134_4, ob_some, aI_eq sh_138 hr (by decide), ob_some, h1, if_pos (nI_le (by omega) (by omega))]
  constructor
  · intro hg
    have key : ∃ t, F_X9_against_34 134 (nI r) σ (0 : Int32) = some t ∧ t = (0, σ) := by
      unfold F_X9_against_34
      refine lp_inv (Q := fun t : Int32 × Mem => t = (0, σ)) (fun j (s : Int32) => s = nI (2 * j)) (n / 2) ?_ ?_ _ rfl
      · intro j s hj a1
        exact stp j hj s a1 (hg j hj)
      · intro s a1
        exact ⟨_, fin s a1, rfl⟩
    obtain ⟨t, e, rfl⟩ := key
    exact e
  · intro hb z σ' ez
    have key : ∃ t, F_X9_against_34 134 (nI r) σ (0 : Int32) = some t ∧ t = (z, σ') := by
      unfold F_X9_against_34
      refine lp_inv2 (Q := fun t : Int32 × Mem => t = (z, σ')) (fun j (s : Int32) => s = nI (2 * j) ∧ ∀ k, k < j → goodP f k) (n / 2) ?_ ?_ _ ⟨rfl, fun k hk => absurd hk (by omega)⟩
      · intro j s hj ⟨a1, a2⟩
        by_cases q : goodP f j
        · obtain ⟨s', e1, e2⟩ := stp j hj s a1 q
          refine Or.inl ⟨s', e1, e2, fun k hk => ?_⟩
          by_cases y : k = j
          · rw [y]; exact q
          · exact a2 k (by omega)
        · exact Or.inr ⟨_, bad j hj s a1 q z σ' ez, rfl⟩
      · intro s ⟨a1, a2⟩
        exact absurd a2 hb
    obtain ⟨t, e, rfl⟩ := key
    exact e
/-- the reference's road into it -/
noncomputable def preM (x y : Int32) (K : Mem → Option (Int32 × Mem)) (σ : Mem) : Option (Int32 × Mem) :=
  (F_X9_isBed 134 x σ).bind fun q9 =>
  if q9 = 0 then
  some ((-1 : Int32), σ)
  else
  (F_X9_isRow y σ).bind fun q12 =>
  if q12 = 0 then
  some ((-1 : Int32), σ)
  else
  (F_X9_against 134 y σ).bind fun q15 =>
  if 0 ≤ q15.1 then
  K q15.2
  else
  some (q15.1, q15.2)
theorem m30 : ¬ (0 : Int32) ≤ -3 := by decide
theorem pairs_of {A : Ab} (hA : okDe A.2.2.2) (x y : Int32) : (∃ r A', ¬ r = 0 ∧ okDe A'.2.2.2 ∧ CAns A (F_X8_takePairs 0 x y) r A' ∧ ∀ K, MAns A (preM x y K) r A') ∨ ∃ i r n, x = nI i ∧ i < nowT A.2.2.2 0 ∧ y = nI r ∧ r < 6 ∧ A.1.1 r = some n ∧ n ≤ 40 ∧ n % 2 = 0 ∧ (∀ k, k < n / 2 → goodP (A.1.2 r) k) ∧ (∀ σ, RC A σ → ∃ σ', F_X8_takePairs 0 x y σ = some (0, σ') ∧ RC A σ' ∧ FrO σ σ' ∧ PC σ' (A.1.2 r) (n / 2)) ∧ ∀ K σ, RM A σ → preM x y K σ = K σ := by
  obtain ⟨hnw, hn0⟩ := now_wf hA
  have h6 := hnw.1
  rcases ixc x (n := nowT A.2.2.2 0) (by omega) with hx | ⟨i, hi, rfl⟩
  · refine Or.inl ⟨-1, A, n10, hA, C_same fun σ h => ?_, fun K => M_same fun σ h => ?_⟩
    · unfold F_X8_takePairs
      rw [gR_0_4, ob_some, tC tw_18, ob_some, C_hasno tw_18 h.now hx, ob_some, if_pos rfl]
    · unfold preM
      rw [M_bedno h.now h6 hx, ob_some, if_pos rfl]
  rcases ixc y (n := 6) (by decide) with hy | ⟨r, hr, rfl⟩
  · refine Or.inl ⟨-1, A, n10, hA, C_same fun σ h => ?_, fun K => M_same fun σ h => ?_⟩
    · unfold F_X8_takePairs
      rw [gR_0_4, ob_some, tC tw_18, ob_some, C_has tw_18 h.now hnw hi, ob_some, if_neg (by decide), gR_0_0, ob_some, Rm_no sf_1 hy, ob_some, if_neg n10]
    · unfold preM
      rw [M_bed h.now h6 hi, ob_some, if_neg (by decide), row_no hy, ob_some, if_pos rfl]
  cases hs : A.1.1 r with
  | none =>
    refine Or.inl ⟨-3, foundA A 1, n30, hA, fun σ h => ?_, fun K σ h => ?_⟩
    · obtain ⟨σ', e, h1, h2⟩ := C_refuse (A := A) (f := 1) (by decide) σ h
      refine ⟨σ', ?_, h1, h2⟩
      unfold F_X8_takePairs
      rw [gR_0_4, ob_some, tC tw_18, ob_some, C_has tw_18 h.now hnw hi, ob_some, if_neg (by decide), gR_0_0, ob_some, Rm_none sf_1 hr (h.1.no hr hs), e, ob_some, if_neg n30]
    · obtain ⟨σ', e, h1, h2⟩ := M_found (A := A) (f := 1) (by decide) σ h
      have e' : F_X9_found 134 (1 : Int32) σ = some (-3, σ') := e
      refine ⟨σ', ?_, h1, h2⟩
      unfold preM F_X9_against
      rw [M_bed h.now h6 hi, ob_some, if_neg (by decide), row_yes hr, ob_some, if_neg (by decide), gR_134_4, ob_some, aI_eq sh_138 hr (by decide), ob_some, h.1.no hr hs, if_neg nm1, e', ob_some, ob_some, if_neg m30]
  | some n =>
    rcases Nat.lt_or_ge 40 n with hbig | hsm
    · exact Or.inl ⟨-1, A, n10, hA, fun σ h => absurd (h.1.row hr hs).1 (by omega), fun K σ h => absurd (h.1.row hr hs).1 (by omega)⟩
    have er : nI n - nI n / (2 : Int32) * (2 : Int32) = nI (n % 2) := rem2 (by omega)
    have g0 : (0 : Int32) ≤ nI n := nI_pos' (by omega)
    by_cases he : n % 2 = 0
    · have ez : nI (n % 2) = (0 : Int32) := by rw [he]; rfl
      by_cases hg : ∀ k, k < n / 2 → goodP (A.1.2 r) k
      · refine Or.inr ⟨i, r, n, rfl, hi, rfl, hr, hs, hsm, he, hg, fun σ h => ?_, fun K σ h => ?_⟩
        · obtain ⟨hn, g1, g2⟩ := h.1.row hr hs
          obtain ⟨σ', fr, k⟩ := C_take hr hn h.1.1 g1 g2
          rcases k with ⟨_, k1, k2⟩ | ⟨k0, _⟩
          · refine ⟨σ', ?_, (h.side fr).1, fr, k2⟩
            unfold F_X8_takePairs
            rw [gR_0_4, ob_some, tC tw_18, ob_some, C_has tw_18 h.now hnw hi, ob_some, if_neg (by decide), gR_0_0, ob_some, Rm_some sf_1 hr hn g1, ob_some, if_pos rfl, ob_some, ck_1, ob_some, S_size sf_1 hr, ob_some, g1, er, if_pos ez, gR_0_11, ob_some, ob_some, ck_93, ob_some, k1, ob_some, if_neg (show ¬ (1 : Int32) = 0 by decide)]
          · exact absurd hg k0
        · obtain ⟨hn, g1, g2⟩ := h.1.row hr hs
          unfold preM F_X9_against
          rw [M_bed h.now h6 hi, ob_some, if_neg (by decide), row_yes hr, ob_some, if_neg (by decide), gR_134_4, ob_some, aI_eq sh_138 hr (by decide), ob_some, g1, if_pos g0, ob_some, aI_eq sh_138 hr (by decide), ob_some, g1, er, if_pos ez, (M_against hr hn he g1 g2).1 hg, ob_some, if_pos (show (0 : Int32) ≤ 0 by decide)]
      · refine Or.inl ⟨-3, foundA A 3, n30, hA, fun σ h => ?_, fun K σ h => ?_⟩
        · obtain ⟨hn, g1, g2⟩ := h.1.row hr hs
          obtain ⟨σ1, fr, k⟩ := C_take hr hn h.1.1 g1 g2
          rcases k with ⟨k0, _⟩ | ⟨_, k1⟩
          · exact absurd k0 hg
          · obtain ⟨p1, p2⟩ := h.side fr
            obtain ⟨σ', e, h1, h2⟩ := C_refuse (A := A) (f := 3) (by decide) σ1 p1
            have e' : F_X8_refuse 0 (3 : Int32) σ1 = some (-3, σ') := e
            refine ⟨σ', ?_, h1, p2.tr h2⟩
            unfold F_X8_takePairs
            rw [gR_0_4, ob_some, tC tw_18, ob_some, C_has tw_18 h.now hnw hi, ob_some, if_neg (by decide), gR_0_0, ob_some, Rm_some sf_1 hr hn g1, ob_some, if_pos rfl, ob_some, ck_1, ob_some, S_size sf_1 hr, ob_some, g1, er, if_pos ez, gR_0_11, ob_some, ob_some, ck_93, ob_some, k1, ob_some, if_pos rfl, e', ob_some]
        · obtain ⟨hn, g1, g2⟩ := h.1.row hr hs
          obtain ⟨σ', e, h1, h2⟩ := M_found (A := A) (f := 3) (by decide) σ h
          have e' : F_X9_found 134 (3 : Int32) σ = some (-3, σ') := e
          refine ⟨σ', ?_, h1, h2⟩
          unfold preM F_X9_against
          rw [M_bed h.now h6 hi, ob_some, if_neg (by decide), row_yes hr, ob_some, if_neg (by decide), gR_134_4, ob_some, aI_eq sh_138 hr (by decide), ob_some, g1, if_pos g0, ob_some, aI_eq sh_138 hr (by decide), ob_some, g1, er, if_pos ez, (M_against hr hn he g1 g2).2 hg _ _ e', ob_some, if_neg m30]
    · have ez : ¬ nI (n % 2) = (0 : Int32) := nI_ne0 (by omega) (by omega)
      refine Or.inl ⟨-3, foundA A 5, n30, hA, fun σ h => ?_, fun K σ h => ?_⟩
      · obtain ⟨hn, g1, g2⟩ := h.1.row hr hs
        obtain ⟨σ', e, h1, h2⟩ := C_refuse (A := A) (f := 5) (by decide) σ h
        have e' : F_X8_refuse 0 (5 : Int32) σ = some (-3, σ') := e
        refine ⟨σ', ?_, h1, h2⟩
        unfold F_X8_takePairs
        rw [gR_0_4, ob_some, tC tw_18, ob_some, C_has tw_18 h.now hnw hi, ob_some, if_neg (by decide), gR_0_0, ob_some, Rm_some sf_1 hr hn g1, ob_some, if_pos rfl, ob_some, ck_1, ob_some, S_size sf_1 hr, ob_some, g1, er, if_neg ez, e', ob_some]
      · obtain ⟨hn, g1, g2⟩ := h.1.row hr hs
        obtain ⟨σ', e, h1, h2⟩ := M_found (A := A) (f := 5) (by decide) σ h
        have e' : F_X9_found 134 (5 : Int32) σ = some (-3, σ') := e
        refine ⟨σ', ?_, h1, h2⟩
        unfold preM F_X9_against
        rw [M_bed h.now h6 hi, ob_some, if_neg (by decide), row_yes hr, ob_some, if_neg (by decide), gR_134_4, ob_some, aI_eq sh_138 hr (by decide), ob_some, g1, if_pos g0, ob_some, aI_eq sh_138 hr (by decide), ob_some, g1, er, if_neg ez, e', ob_some, ob_some, if_neg m30]
end
section
/-! ===== what fits: thicks, kinds ===== -/
abbrev fitK (T : Tn) (i kd th : Nat) (f : Nat → Int32) (k : Nat) : Prop := crN kd (gapT T i i) th (mP f k) (T (39 + mP f k % 4)) = cP f k
abbrev fitP (T : Tn) (i kd th : Nat) (f : Nat → Int32) (p : Nat) : Prop := ∀ k, k < p → fitK T i kd th f k
theorem C_fits {σ : Mem} {T : Tn} {B i kd th p : Nat} {f : Nat → Int32} (h : CT σ 18 T) (hw : wfT B T) (hi : i < T 0) (hP : PC σ f p) (hp : p ≤ 20) (h1 : kd < 6) (h2 : th ≤ 9) : F_X0_fits 93 18 (nI i) (nI kd) (nI th) σ = some (if fitP T i kd th f p then 1 else 0) := by
  have b := hw.2.2.1 i hi
  have key : ∃ t, F_X0_fits_3 93 18 (nI i) (nI kd) (nI th) σ (0 : Int32) = some t ∧ t = (if fitP T i kd th f p then 1 else 0) := by
    unfold F_X0_fits_3
    refine lp_inv2 (fun j (s : Int32) => s = nI j ∧ ∀ k, k < j → fitK T i kd th f k) p ?_ ?_ _ ⟨rfl, fun k hk => absurd hk (by omega)⟩
    · intro j s hj ⟨a1, a2⟩
      obtain ⟨hg, h94, h95⟩ := hP.2 j hj
      obtain ⟨gm, gm2⟩ := goodP_m hg
      obtain ⟨gc, gc2⟩ := goodP_c hg
      have r1 : F_X8_read 94 (nI j) σ = some (nI (mP f j)) := by rw [rd_eq (by decide) sh_94 (by omega) (by decide), h94]
      have r2 : F_X8_read 95 (nI j) σ = some (nI (cP f j)) := by rw [rd_eq (by decide) sh_95 (by omega) (by decide), h95]
      have hc : crN kd (gapT T i i) th (mP f j) (T (39 + mP f j % 4)) ≤ 19 := crN_le (gapT_le b.2.1 b.2.2.1) (hw.2.2.2.1 _ (Nat.mod_lt _ (by decide)))
      have iq := nI_eq (a := crN kd (gapT T i i) th (mP f j) (T (39 + mP f j % 4))) (b := cP f j) (by omega) (by omega)
      have e : ∀ (α : Type) (u v : α), (if nI (crN kd (gapT T i i) th (mP f j) (T (39 + mP f j % 4))) = nI (cP f j) then u else v) = if fitK T i kd th f j then u else v := fun α u v => by
        by_cases z : fitK T i kd th f j
        · rw [if_pos z, if_pos (iq.mpr z)]
        · rw [if_neg z, if_neg (fun y => z (iq.mp y))]
      rw [a1, gI_93_4, ob_some, hP.1, if_neg (nI_ge hj (by omega)), gR_93_0, ob_some, r1, ob_some, tC tw_18, ob_some, C_crossesAs tw_18 h hw hi (by omega) h1 h2, ob_some, gR_93_1, ob_some, r2, ob_some, e]
      by_cases z : fitK T i kd th f j
      · rw [if_pos z, nI_1]
        refine Or.inl ⟨_, rfl, rfl, fun k hk => ?_⟩
        by_cases y : k = j
        · rw [y]; exact z
        · exact a2 k (by omega)
      · rw [if_neg z]
        refine Or.inr ⟨_, rfl, ?_⟩
        rw [if_neg (fun y : fitP T i kd th f p => z (y j hj))]
    · intro s ⟨a1, a2⟩
      refine ⟨1, ?_, ?_⟩
      · rw [a1, gI_93_4, ob_some, hP.1, if_pos (nI_le (Nat.le_refl _) (by omega))]
      · rw [if_pos a2]
  obtain ⟨t, e, rfl⟩ := key
  unfold F_X0_fits
  exact e
theorem M_so {σ : Mem} {T : Tn} {B i kd th r n : Nat} {f : Nat → Int32} (h : MT σ 0 T) (hw : wfT B T) (hi : i < T 0) (hr : r < 6) (hn : n ≤ 40) (he : n % 2 = 0) (g1 : σ.1 138 r = nI n) (g2 : ∀ j, j < n → σ.1 137 (r * 40 + j) = f j) (hg : ∀ k, k < n / 2 → goodP f k) (h1 : kd < 6) (h2 : th ≤ 9) : F_X9_crossedSo 134 (nI r) (nI i) (nI kd) (nI th) σ = some (if fitP T i kd th f (n / 2) then 1 else 0) := by
  have b := hw.2.2.1 i hi
  have key : ∃ t, F_X9_crossedSo_6 134 (nI r) (nI i) (nI kd) (nI th) σ ((1 : Int32), (0 : Int32)) = some t ∧ t = (if fitP T i kd th f (n / 2) then 1 else 0) := by
    unfold F_X9_crossedSo_6
    refine lp_inv (fun j (s : Int32 × Int32) => s.2 = nI (2 * j) ∧ s.1 = if fitP T i kd th f j then 1 else 0) (n / 2) ?_ ?_ _ ⟨rfl, by rw [if_pos (fun k hk => absurd hk (by omega))]⟩
    · intro j s hj ⟨a1, a2⟩
      obtain ⟨gm, gm2⟩ := goodP_m (hg j hj)
      obtain ⟨gc, gc2⟩ := goodP_c (hg j hj)
      have ec : F_X9_crossBy 134 (nI kd) (nI th) (nI (gapT T i i)) (nI (mP f j)) σ = some (nI (crN kd (gapT T i i) th (mP f j) (T (39 + mP f j % 4)))) :=
        M_crossBy (h.col (mP f j % 4) (Nat.mod_lt _ (by decide))) h1 h2 (gapT_le b.2.1 b.2.2.1) (by omega) (hw.2.2.2.1 _ (Nat.mod_lt _ (by decide)))
      have eg : F_X9_gapIn 134 (0 : Int32) (nI i) σ = some (nI (gapT T i i)) := M_gap h (by decide) hw hi
      have hc : crN kd (gapT T i i) th (mP f j) (T (39 + mP f j % 4)) ≤ 19 := crN_le (gapT_le b.2.1 b.2.2.1) (hw.2.2.2.1 _ (Nat.mod_lt _ (by decide)))
      have iq := nI_eq (a := crN kd (gapT T i i) th (mP f j) (T (39 + mP f j % 4))) (b := cP f j) (by omega) (by omega)
      have e2 : nI (2 * j) + (2 : Int32) = nI (2 * (j + 1)) := nI_add (2 * j) 2
      have bd : ¬ fitP T i kd th f (j + 1) → (0 : Int32) = if fitP T i kd th f (j + 1) then 1 else 0 := fun z => (if_neg z).symm
      rw [a1, a2, gR_134_4, ob_some, aI_eq sh_138 hr (by decide), ob_some, g1, if_neg (nI_ge (by omega) (by omega))]
      by_cases q : fitP T i kd th f j
      · rw [if_pos q, if_neg (by decide), eg, ob_some, gR_134_3, ob_some, ix40, aI_eq sh_137 (by omega) (by decide), ob_some, g2 _ (by omega), gm, ec, ob_some, ob_some, nI_1, aI_eq sh_137 (by omega) (by decide), ob_some, show r * 40 + 2 * j + 1 = r * 40 + (2 * j + 1) by omega, g2 _ (by omega), gc, e2]
        by_cases z : fitK T i kd th f j
        · rw [if_pos (iq.mpr z)]
          refine ⟨_, rfl, rfl, ?_⟩
          rw [if_pos]
          intro k hk
          by_cases y : k = j
          · rw [y]; exact z
          · exact q k (by omega)
        · rw [if_neg (fun y => z (iq.mp y))]
          unfold F_X9_crossedSo_68
          rw [e2]
          exact ⟨_, rfl, rfl, bd (fun y => z (y j (by omega)))⟩
      · rw [if_neg q, if_pos rfl]
        unfold F_X9_crossedSo_68
        rw [e2]
        exact ⟨_, rfl, rfl, bd (fun y => q (fun k hk => y k (by omega)))⟩
    · intro s ⟨a1, a2⟩
      refine ⟨s.1, ?_, a2⟩
      have eb : bz s.1 = some () := by
        rw [a2]
        by_cases q : fitP T i kd th f (n / 2)
        · rw [if_pos q]; exact bz1
        · rw [if_neg q]; exact bz0
      rw [a1, gR_134_4, ob_some, aI_eq sh_138 hr (by decide), ob_some, g1, if_pos (nI_le (by omega) (by omega)), eb, ob_some]
  obtain ⟨t, e, rfl⟩ := key
  unfold F_X9_crossedSo
  exact e
/-- bits of what holds -/
def bitI (P : Nat → Prop) [DecidablePred P] : Nat → Int32
  | 0 => 0
  | n + 1 => bitI P n ||| (if P n then ((1 : Int32) <<< (nI n &&& 31)) else 0)
theorem C_thicksF {σ : Mem} {T : Tn} {B i kd p : Nat} {f : Nat → Int32} (h : CT σ 18 T) (hw : wfT B T) (hi : i < T 0) (hP : PC σ f p) (hp : p ≤ 20) (h1 : kd < 6) : F_X0_thicksFitting 93 18 (nI i) (nI kd) σ = some (bitI (fun th => fitP T i kd th f p) 10) := by
  have key : ∃ t, F_X0_thicksFitting_6 93 18 (nI i) (nI kd) σ ((0 : Int32), (0 : Int32)) = some t ∧ t = bitI (fun th => fitP T i kd th f p) 10 := by
    unfold F_X0_thicksFitting_6
    refine lp_inv (fun j (s : Int32 × Int32) => s.2 = nI j ∧ s.1 = bitI (fun th => fitP T i kd th f p) j) 10 ?_ ?_ _ ⟨rfl, rfl⟩
    · intro j s hj ⟨a1, a2⟩
      refine ⟨(bitI (fun th => fitP T i kd th f p) (j + 1), nI (j + 1)), ?_, rfl, rfl⟩
      have hz : ¬ (9 : Int32) < nI j := fun z => by
        have := (nI_ltI (a := 9) (b := j) (by decide) (by omega)).mp z
        omega
      rw [a1, a2, if_neg hz, C_fits h hw hi hP hp h1 (by omega), ob_some]
      unfold F_X0_thicksFitting_35
      by_cases q : fitP T i kd j f p
      · rw [if_pos q, if_neg (by decide), nI_1]
        show _ = some (Sum.inl (_ ||| (if fitP T i kd j f p then _ else _), _))
        rw [if_pos q]
      · rw [if_neg q, if_pos rfl, nI_1]
        show _ = some (Sum.inl (_ ||| (if fitP T i kd j f p then _ else _), _))
        rw [if_neg q]
    · intro s ⟨a1, a2⟩
      exact ⟨s.1, by rw [a1, if_pos (show (9 : Int32) < nI 10 by decide)], a2⟩
  obtain ⟨t, e, rfl⟩ := key
  unfold F_X0_thicksFitting
  exact e
theorem C_kindsF {σ : Mem} {T : Tn} {B i th p : Nat} {f : Nat → Int32} (h : CT σ 18 T) (hw : wfT B T) (hi : i < T 0) (hP : PC σ f p) (hp : p ≤ 20) (h2 : th ≤ 9) : F_X0_kindsFitting 93 18 (nI i) (nI th) σ = some (bitI (fun kd => fitP T i kd th f p) 6) := by
  have key : ∃ t, F_X0_kindsFitting_6 93 18 (nI i) (nI th) σ ((0 : Int32), (0 : Int32)) = some t ∧ t = bitI (fun kd => fitP T i kd th f p) 6 := by
    unfold F_X0_kindsFitting_6
    refine lp_inv (fun j (s : Int32 × Int32) => s.2 = nI j ∧ s.1 = bitI (fun kd => fitP T i kd th f p) j) 6 ?_ ?_ _ ⟨rfl, rfl⟩
    · intro j s hj ⟨a1, a2⟩
      refine ⟨(bitI (fun kd => fitP T i kd th f p) (j + 1), nI (j + 1)), ?_, rfl, rfl⟩
      rw [a1, a2, if_neg (show ¬ (6 : Int32) ≤ nI j from nI_ge (b := 6) hj (by decide)), C_fits h hw hi hP hp (by omega) h2, ob_some]
      unfold F_X0_kindsFitting_35
      by_cases q : fitP T i j th f p
      · rw [if_pos q, if_neg (by decide), nI_1]
        show _ = some (Sum.inl (_ ||| (if fitP T i j th f p then _ else _), _))
        rw [if_pos q]
      · rw [if_neg q, if_pos rfl, nI_1]
        show _ = some (Sum.inl (_ ||| (if fitP T i j th f p then _ else _), _))
        rw [if_neg q]
    · intro s ⟨a1, a2⟩
      exact ⟨s.1, by rw [a1, if_pos (show (6 : Int32) ≤ nI 6 by decide)], a2⟩
  obtain ⟨t, e, rfl⟩ := key
  unfold F_X0_kindsFitting
  exact e
end
section
theorem sim_thicks (x y : Int32) : Sim (F_X8_thicks 0 x y) (F_X9_thicks 134 x y) := by
  refine sim_of fun A hA => ?_
  obtain ⟨hnw, hn0⟩ := now_wf hA
  have h6 := hnw.1
  rcases pairs_of hA x y with ⟨r, A', hr, hA', hC, hM⟩ | ⟨i, r, n, rfl, hi, rfl, hr, hs, hn, he, hg, hC, hM⟩
  · refine ⟨r, A', hA', fun σ h => ?_, hM (fun σ' => F_X9_thicks_35 134 x y σ' ((0 : Int32), (0 : Int32)))⟩
    obtain ⟨σ', e, h1, h2⟩ := hC σ h
    exact ⟨σ', by unfold F_X8_thicks; rw [e, ob_some, if_neg hr], h1, h2⟩
  · generalize hT : nowT A.2.2.2 = T at *
    have b := hnw.2.2.1 i hi
    refine ⟨bitI (fun th => fitP T i (T (3 + i)) th (A.1.2 r) (n / 2)) 10, A, hA, fun σ h => ?_, M_same fun σ h => ?_⟩
    · obtain ⟨σ', e, h1, fr, hP⟩ := hC σ h
      have hnow := h1.now
      rw [hT] at hnow
      refine ⟨σ', ?_, (h.side fr).1, (h.side fr).2⟩
      unfold F_X8_thicks
      rw [e, ob_some, if_pos rfl, gR_0_11, ob_some, gR_0_4, ob_some, ob_some, tC tw_18, ob_some, C_kind tw_18 hnow hnw hi, ob_some, ck_93, ob_some, C_thicksF hnow hnw hi hP (by omega) b.1, ob_some]
    · have hnow := h.now
      rw [hT] at hnow
      obtain ⟨_, g1, g2⟩ := h.1.row hr hs
      refine (hM (fun σ' => F_X9_thicks_35 134 (nI i) (nI r) σ' ((0 : Int32), (0 : Int32))) σ h).trans ?_
      have v3 := hnow (3 + i) (by omega)
      rw [Nat.zero_add] at v3
      have key : ∃ t, F_X9_thicks_35 134 (nI i) (nI r) σ ((0 : Int32), (0 : Int32)) = some t ∧ t = (bitI (fun th => fitP T i (T (3 + i)) th (A.1.2 r) (n / 2)) 10, σ) := by
        unfold F_X9_thicks_35
        refine lp_inv (fun j (s : Int32 × Int32) => s.2 = nI j ∧ s.1 = bitI (fun th => fitP T i (T (3 + i)) th (A.1.2 r) (n / 2)) j) 10 ?_ ?_ _ ⟨rfl, rfl⟩
        · intro j s hj ⟨a1, a2⟩
          refine ⟨(bitI (fun th => fitP T i (T (3 + i)) th (A.1.2 r) (n / 2)) (j + 1), nI (j + 1)), ?_, rfl, rfl⟩
          rw [a1, a2, if_neg (show ¬ (10 : Int32) ≤ nI j from nI_ge (b := 10) hj (by decide)), wR, ob_some, show (3 : Int32) + nI i = nI (3 + i) from lx rfl, w_rd (by omega), ob_some, v3, M_so hnow hnw hi hr hn he g1 g2 hg b.1 (by omega), ob_some]
          unfold F_X9_thicks_71
          by_cases q : fitP T i (T (3 + i)) j (A.1.2 r) (n / 2)
          · rw [if_pos q, if_neg (by decide), nI_1]
            show _ = some (Sum.inl (_ ||| (if fitP T i (T (3 + i)) j (A.1.2 r) (n / 2) then _ else _), _))
            rw [if_pos q]
          · rw [if_neg q, if_pos rfl, nI_1]
            show _ = some (Sum.inl (_ ||| (if fitP T i (T (3 + i)) j (A.1.2 r) (n / 2) then _ else _), _))
            rw [if_neg q]
        · intro s ⟨a1, a2⟩
          exact ⟨(s.1, σ), by rw [a1, if_pos (show (10 : Int32) ≤ nI 10 by decide)], by rw [a2]⟩
      obtain ⟨t, e, rfl⟩ := key
      exact e
theorem sim_kinds (x y : Int32) : Sim (F_X8_kinds 0 x y) (F_X9_kinds 134 x y) := by
  refine sim_of fun A hA => ?_
  obtain ⟨hnw, hn0⟩ := now_wf hA
  have h6 := hnw.1
  rcases pairs_of hA x y with ⟨r, A', hr, hA', hC, hM⟩ | ⟨i, r, n, rfl, hi, rfl, hr, hs, hn, he, hg, hC, hM⟩
  · refine ⟨r, A', hA', fun σ h => ?_, hM (fun σ' => F_X9_kinds_35 134 x y σ' ((0 : Int32), (0 : Int32)))⟩
    obtain ⟨σ', e, h1, h2⟩ := hC σ h
    exact ⟨σ', by unfold F_X8_kinds; rw [e, ob_some, if_neg hr], h1, h2⟩
  · generalize hT : nowT A.2.2.2 = T at *
    have b := hnw.2.2.1 i hi
    refine ⟨bitI (fun kd => fitP T i kd (T (21 + i)) (A.1.2 r) (n / 2)) 6, A, hA, fun σ h => ?_, M_same fun σ h => ?_⟩
    · obtain ⟨σ', e, h1, fr, hP⟩ := hC σ h
      have hnow := h1.now
      rw [hT] at hnow
      refine ⟨σ', ?_, (h.side fr).1, (h.side fr).2⟩
      unfold F_X8_kinds
      rw [e, ob_some, if_pos rfl, gR_0_11, ob_some, gR_0_4, ob_some, ob_some, tC tw_18, ob_some, C_thick tw_18 hnow hnw hi, ob_some, ck_93, ob_some, C_kindsF hnow hnw hi hP (by omega) b.2.2.2.1, ob_some]
    · have hnow := h.now
      rw [hT] at hnow
      obtain ⟨_, g1, g2⟩ := h.1.row hr hs
      refine (hM (fun σ' => F_X9_kinds_35 134 (nI i) (nI r) σ' ((0 : Int32), (0 : Int32))) σ h).trans ?_
      have v3 := hnow (21 + i) (by omega)
      rw [Nat.zero_add] at v3
      have key : ∃ t, F_X9_kinds_35 134 (nI i) (nI r) σ ((0 : Int32), (0 : Int32)) = some t ∧ t = (bitI (fun kd => fitP T i kd (T (21 + i)) (A.1.2 r) (n / 2)) 6, σ) := by
        unfold F_X9_kinds_35
        refine lp_inv (fun j (s : Int32 × Int32) => s.2 = nI j ∧ s.1 = bitI (fun kd => fitP T i kd (T (21 + i)) (A.1.2 r) (n / 2)) j) 6 ?_ ?_ _ ⟨rfl, rfl⟩
        · intro j s hj ⟨a1, a2⟩
          have hz : ¬ (5 : Int32) < nI j := fun z => by
            have := (nI_ltI (a := 5) (b := j) (by decide) (by omega)).mp z
            omega
          refine ⟨(bitI (fun kd => fitP T i kd (T (21 + i)) (A.1.2 r) (n / 2)) (j + 1), nI (j + 1)), ?_, rfl, rfl⟩
          rw [a1, a2, if_neg hz, wR, ob_some, show (21 : Int32) + nI i = nI (21 + i) from lx rfl, w_rd (by omega), ob_some, v3, M_so hnow hnw hi hr hn he g1 g2 hg (by omega) b.2.2.2.1, ob_some]
          unfold F_X9_kinds_71
          by_cases q : fitP T i j (T (21 + i)) (A.1.2 r) (n / 2)
          · rw [if_pos q, if_neg (by decide), nI_1]
            show _ = some (Sum.inl (_ ||| (if fitP T i j (T (21 + i)) (A.1.2 r) (n / 2) then _ else _), _))
            rw [if_pos q]
          · rw [if_neg q, if_pos rfl, nI_1]
            show _ = some (Sum.inl (_ ||| (if fitP T i j (T (21 + i)) (A.1.2 r) (n / 2) then _ else _), _))
            rw [if_neg q]
        · intro s ⟨a1, a2⟩
          exact ⟨(s.1, σ), by rw [a1, if_pos (show (5 : Int32) < nI 6 by decide)], by rw [a2]⟩
      obtain ⟨t, e, rfl⟩ := key
      exact e
end
section
/-! ===== test: bits and parts ===== -/
theorem or_and3 (a b c : Int32) : (a ||| b) &&& c = (a &&& c) ||| (b &&& c) := by
  apply Int32.toBitVec_inj.mp
  simp only [Int32.toBitVec_and, Int32.toBitVec_or]
  ext i
  simp [Bool.and_or_distrib_right]
theorem bit_one : ∀ th, th < 10 → ∀ j, j < 10 → ((((1 : Int32) <<< (nI j &&& 31)) >>> (nI th &&& 31)) &&& 1) = if th = j then 1 else 0 := by decide
theorem bit_nz : ∀ j, j < 10 → ¬ ((1 : Int32) <<< (nI j &&& 31)) = 0 := by decide
theorem bit_zero : ∀ th, th < 10 → (((0 : Int32) >>> (nI th &&& 31)) &&& 1) = 0 := by decide
theorem bit_get {P : Nat → Prop} [DecidablePred P] {th : Nat} (ht : th < 10) : ∀ n, n ≤ 10 → ((bitI P n >>> (nI th &&& 31)) &&& 1) = if th < n ∧ P th then 1 else 0
  | 0, _ => by
    rw [if_neg (fun z => absurd z.1 (by omega))]
    exact bit_zero th ht
  | n + 1, hn => by
    have ih := bit_get (P := P) ht n (by omega)
    show (((bitI P n ||| (if P n then ((1 : Int32) <<< (nI n &&& 31)) else 0)) >>> (nI th &&& 31)) &&& 1) = _
    rw [Int32.shiftRight_or, or_and3, ih]
    by_cases q : P n
    · rw [if_pos q, bit_one th ht n (by omega)]
      by_cases z : th = n
      · subst z
        rw [if_neg (fun y => absurd y.1 (by omega)), if_pos rfl, if_pos ⟨by omega, q⟩]; rfl
      · rw [if_neg z]
        by_cases y : th < n ∧ P th
        · rw [if_pos y, if_pos ⟨by omega, y.2⟩]; rfl
        · rw [if_neg y, if_neg (fun x => y ⟨by omega, x.2⟩)]; rfl
    · rw [if_neg q, bit_zero th ht]
      by_cases y : th < n ∧ P th
      · rw [if_pos y, if_pos ⟨by omega, y.2⟩]; rfl
      · rw [if_neg y, if_neg (fun x => y ⟨(by
          rcases Nat.lt_or_ge th n with k | k
          · exact k
          · exact absurd (show P n by rw [show n = th by omega]; exact x.2) q), x.2⟩)]; rfl
theorem bit_any {P : Nat → Prop} [DecidablePred P] : ∀ n, n ≤ 10 → (bitI P n = 0 ↔ ∀ j, j < n → ¬ P j)
  | 0, _ => ⟨fun _ j hj => absurd hj (by omega), fun _ => rfl⟩
  | n + 1, hn => by
    have ih := bit_any (P := P) n (by omega)
    show ((bitI P n ||| (if P n then ((1 : Int32) <<< (nI n &&& 31)) else 0)) = 0) ↔ _
    rw [Int32.or_eq_zero_iff, ih]
    constructor
    · intro ⟨h1, h2⟩ j hj
      by_cases y : j = n
      · intro q
        rw [if_pos (y ▸ q)] at h2
        exact bit_nz n (by omega) h2
      · exact h1 j (by omega)
    · intro h
      exact ⟨fun j hj => h j (by omega), if_neg (h n (by omega))⟩
/-- how many fall on v, the most of them, how many in all -/
def cntE (P : Nat → Prop) [DecidablePred P] (c : Nat → Nat) : Nat → Nat → Nat
  | 0, _ => 0
  | e + 1, v => if P e ∧ c e = v then cntE P c e v + 1 else cntE P c e v
def mosE (P : Nat → Prop) [DecidablePred P] (c : Nat → Nat) : Nat → Nat
  | 0 => 0
  | e + 1 => if P e then (if mosE P c e < cntE P c (e + 1) (c e) then cntE P c (e + 1) (c e) else mosE P c e) else mosE P c e
def numE (P : Nat → Prop) [DecidablePred P] : Nat → Nat
  | 0 => 0
  | e + 1 => if P e then numE P e + 1 else numE P e
theorem cntE_le {P : Nat → Prop} [DecidablePred P] {c : Nat → Nat} : ∀ e v, cntE P c e v ≤ e
  | 0, _ => Nat.le_refl _
  | e + 1, v => by
    have := cntE_le (P := P) (c := c) e v
    show (if P e ∧ c e = v then cntE P c e v + 1 else cntE P c e v) ≤ _
    split <;> omega
theorem mosE_le {P : Nat → Prop} [DecidablePred P] {c : Nat → Nat} : ∀ e, mosE P c e ≤ e
  | 0 => Nat.le_refl _
  | e + 1 => by
    have h1 := mosE_le (P := P) (c := c) e
    have h2 := cntE_le (P := P) (c := c) (e + 1) (c e)
    show (if P e then (if mosE P c e < cntE P c (e + 1) (c e) then cntE P c (e + 1) (c e) else mosE P c e) else mosE P c e) ≤ _
    split
    · split <;> omega
    · omega
theorem numE_le {P : Nat → Prop} [DecidablePred P] : ∀ e, numE P e ≤ e
  | 0 => Nat.le_refl _
  | e + 1 => by
    have := numE_le (P := P) e
    show (if P e then numE P e + 1 else numE P e) ≤ _
    split <;> omega
theorem numE_0 {P : Nat → Prop} [DecidablePred P] : ∀ e, numE P e = 0 ↔ ∀ j, j < e → ¬ P j
  | 0 => ⟨fun _ j hj => absurd hj (by omega), fun _ => rfl⟩
  | e + 1 => by
    have ih := numE_0 (P := P) e
    show (if P e then numE P e + 1 else numE P e) = 0 ↔ _
    by_cases q : P e
    · rw [if_pos q]
      exact ⟨fun z => absurd z (by omega), fun z => absurd q (z e (by omega))⟩
    · rw [if_neg q, ih]
      refine ⟨fun z j hj => ?_, fun z j hj => z j (by omega)⟩
      by_cases y : j = e
      · rw [y]; exact q
      · exact z j (by omega)
theorem cntE_yes {P : Nat → Prop} [DecidablePred P] {c : Nat → Nat} {e : Nat} (h : P e) : cntE P c (e + 1) (c e) = cntE P c e (c e) + 1 := if_pos ⟨h, rfl⟩
theorem cntE_oth {P : Nat → Prop} [DecidablePred P] {c : Nat → Nat} {e v : Nat} (h : c e ≠ v) : cntE P c (e + 1) v = cntE P c e v := if_neg (fun z => h z.2)
theorem cntE_no {P : Nat → Prop} [DecidablePred P] {c : Nat → Nat} {e v : Nat} (h : ¬ P e) : cntE P c (e + 1) v = cntE P c e v := if_neg (fun z => h z.1)
theorem mosE_yes {P : Nat → Prop} [DecidablePred P] {c : Nat → Nat} {e : Nat} (h : P e) : mosE P c (e + 1) = if mosE P c e < cntE P c (e + 1) (c e) then cntE P c (e + 1) (c e) else mosE P c e := if_pos h
theorem mosE_no {P : Nat → Prop} [DecidablePred P] {c : Nat → Nat} {e : Nat} (h : ¬ P e) : mosE P c (e + 1) = mosE P c e := if_neg h
theorem numE_yes {P : Nat → Prop} [DecidablePred P] {e : Nat} (h : P e) : numE P (e + 1) = numE P e + 1 := if_pos h
theorem numE_no {P : Nat → Prop} [DecidablePred P] {e : Nat} (h : ¬ P e) : numE P (e + 1) = numE P e := if_neg h
/-- the best night, and its greatest part -/
def bstE (mo : Nat → Nat) : Nat → Nat × Nat
  | 0 => (0, 1000000)
  | m + 1 => if mo m < (bstE mo m).2 then (m, mo m) else bstE mo m
theorem bstE_yes {mo : Nat → Nat} {m : Nat} (h : mo m < (bstE mo m).2) : bstE mo (m + 1) = (m, mo m) := if_pos h
theorem bstE_no {mo : Nat → Nat} {m : Nat} (h : ¬ mo m < (bstE mo m).2) : bstE mo (m + 1) = bstE mo m := if_neg h
theorem bstE_le {mo : Nat → Nat} (h : ∀ m, mo m ≤ 60) : ∀ m, (bstE mo m).1 ≤ m ∧ (bstE mo m).2 ≤ 1000000 ∧ (0 < m → (bstE mo m).2 ≤ 60)
  | 0 => ⟨Nat.le_refl _, Nat.le_refl _, fun z => absurd z (by omega)⟩
  | m + 1 => by
    have ih := bstE_le h m
    have := h m
    by_cases q : mo m < (bstE mo m).2
    · rw [bstE_yes q]
      exact ⟨by show m ≤ _; omega, by show mo m ≤ _; omega, fun _ => by show mo m ≤ _; omega⟩
    · rw [bstE_no q]
      exact ⟨by omega, ih.2.1, fun _ => by omega⟩
abbrev FE (T : Tn) (i : Nat) (f : Nat → Int32) (p e : Nat) : Prop := fitP T i (e / 10) (e % 10) f p
abbrev crE (T : Tn) (i m e : Nat) : Nat := crN (e / 10) (gapT T i i) (e % 10) m (T (39 + m % 4))
abbrev moE (T : Tn) (i : Nat) (f : Nat → Int32) (p m : Nat) : Nat := mosE (FE T i f p) (crE T i m) 60
end
section
/-! ===== test: the class's side ===== -/
def F97 (σ σ' : Mem) : Prop := (∀ a b, a ≠ 97 → σ'.1 a b = σ.1 a b) ∧ σ'.2 = σ.2
theorem F97.tr {σ σ' σ'' : Mem} (h : F97 σ σ') (h2 : F97 σ' σ'') : F97 σ σ'' := ⟨fun a b q => (h2.1 a b q).trans (h.1 a b q), h2.2.trans h.2⟩
theorem F97.set {j : Nat} {v : Int32} {σ : Mem} : F97 σ (setI σ 97 j v) := ⟨fun x y q => by rw [setI_1, if_neg (by omega)], rfl⟩
theorem fill_97 {σ : Mem} : ∃ σ', F_J7_fill_53178 97 (0 : Int32) σ = some σ' ∧ (∀ v, v < 31 → σ'.1 97 v = nI 0) ∧ F97 σ σ' := by
  have key : ∃ t, F_J7_fill_53178_5 97 (0 : Int32) (nI 31) ((0 : Int32), σ) = some t ∧ ((∀ v, v < 31 → t.1 97 v = nI 0) ∧ F97 σ t) := by
    unfold F_J7_fill_53178_5
    refine lp_inv (fun j (s : Int32 × Mem) => s.1 = nI j ∧ (∀ v, v < j → s.2.1 97 v = nI 0) ∧ F97 σ s.2) 31 ?_ ?_ _ ⟨rfl, fun v hv => absurd hv (by omega), fun _ _ _ => rfl, rfl⟩
    · intro j s hj ⟨a1, a2, a3⟩
      refine ⟨(nI (j + 1), setI s.2 97 j 0), ?_, rfl, fun v hv => ?_, a3.tr F97.set⟩
      · rw [a1, if_neg (nI_ge hj (by omega)), sI_eq sh_97 hj (by decide), ob_some, nI_1]
      · show (setI s.2 97 j 0).1 97 v = _
        rw [setI_1]
        by_cases y : v = j
        · rw [if_pos ⟨rfl, y⟩]; rfl
        · rw [if_neg (by omega)]; exact a2 v (by omega)
    · intro s ⟨a1, a2, a3⟩
      exact ⟨s.2, by rw [a1, if_pos (nI_le (Nat.le_refl _) (by omega))], a2, a3⟩
  obtain ⟨t, e, k1, k2⟩ := key
  exact ⟨t, by unfold F_J7_fill_53178; rw [aN_eq (by decide) sh_97, ob_some, e], k1, k2⟩
theorem C_gp {σ : Mem} {T : Tn} {B i p m : Nat} {f : Nat → Int32} (h : CT σ 18 T) (hw : wfT B T) (hi : i < T 0) (hF : ∀ kd, kd < 6 → σ.1 96 kd = bitI (fun th => fitP T i kd th f p) 10) (hm : m < 8) : ∃ σ', F_X0_greatestPart 93 18 (nI i) (nI m) σ = some (nI (moE T i f p m), σ') ∧ F97 σ σ' := by
  have b := hw.2.2.1 i hi
  obtain ⟨σ1, ef, f1, f2⟩ := fill_97 (σ := σ)
  have key : ∃ t, F_X0_greatestPart_14 93 18 (nI i) (nI m) ((0 : Int32), (0 : Int32), σ1) = some t ∧ (t.1 = nI (moE T i f p m) ∧ F97 σ t.2) := by
    unfold F_X0_greatestPart_14
    refine lp_inv (fun kd (s : Int32 × Int32 × Mem) => s.2.1 = nI kd ∧ s.1 = nI (mosE (FE T i f p) (crE T i m) (10 * kd)) ∧ (∀ v, v < 31 → s.2.2.1 97 v = nI (cntE (FE T i f p) (crE T i m) (10 * kd) v)) ∧ F97 σ s.2.2) 6 ?_ ?_ _ ⟨rfl, rfl, f1, f2⟩
    · intro kd s hk ⟨a1, a2, a3, a4⟩
      rw [a1, a2, if_neg (show ¬ (6 : Int32) ≤ nI kd from nI_ge (b := 6) hk (by decide))]
      have inner : ∃ t, F_X0_greatestPart_24 93 18 (nI i) (nI m) (nI kd) (nI (mosE (FE T i f p) (crE T i m) (10 * kd)), (0 : Int32), s.2.2) = some t ∧ ∃ s', t = Sum.inl s' ∧ s'.2.1 = nI (kd + 1) ∧ s'.1 = nI (mosE (FE T i f p) (crE T i m) (10 * (kd + 1))) ∧ (∀ v, v < 31 → s'.2.2.1 97 v = nI (cntE (FE T i f p) (crE T i m) (10 * (kd + 1)) v)) ∧ F97 σ s'.2.2 := by
        unfold F_X0_greatestPart_24
        refine lp_inv (fun th (s : Int32 × Int32 × Mem) => s.2.1 = nI th ∧ s.1 = nI (mosE (FE T i f p) (crE T i m) (10 * kd + th)) ∧ (∀ v, v < 31 → s.2.2.1 97 v = nI (cntE (FE T i f p) (crE T i m) (10 * kd + th) v)) ∧ F97 σ s.2.2) 10 ?_ ?_ _ ⟨rfl, rfl, a3, a4⟩
        · intro th s ht ⟨c1, c2, c3, c4⟩
          have hz : ¬ (9 : Int32) < nI th := fun z => by
            have := (nI_ltI (a := 9) (b := th) (by decide) (by omega)).mp z
            omega
          have d1 : (10 * kd + th) / 10 = kd := by omega
          have d2 : (10 * kd + th) % 10 = th := by omega
          have hN : CT s.2.2 18 T := h.kept (fun a b p q => c4.1 a b (by omega))
          have r0 : F_X8_read 96 (nI kd) s.2.2 = some (bitI (fun th => fitP T i kd th f p) 10) := by
            rw [rd_eq (by decide) sh_96 hk (by decide), c4.1 _ _ (by decide), hF kd hk]
          have bg := bit_get (P := fun th => fitP T i kd th f p) ht 10 (by omega)
          rw [c1, c2, if_neg hz, gR_93_2, ob_some, r0, ob_some]
          by_cases q : fitP T i kd th f p
          · have qE : FE T i f p (10 * kd + th) := by
              show fitP T i ((10 * kd + th) / 10) ((10 * kd + th) % 10) f p
              rw [d1, d2]; exact q
            have ec : crE T i m (10 * kd + th) = crN kd (gapT T i i) th m (T (39 + m % 4)) := by
              show crN ((10 * kd + th) / 10) _ ((10 * kd + th) % 10) _ _ = _
              rw [d1, d2]
            have hc : crE T i m (10 * kd + th) ≤ 19 := crN_le (gapT_le b.2.1 b.2.2.1) (hw.2.2.2.1 _ (Nat.mod_lt _ (by decide)))
            have l1 := cntE_le (P := FE T i f p) (c := crE T i m) (10 * kd + th) (crE T i m (10 * kd + th))
            have l2 := mosE_le (P := FE T i f p) (c := crE T i m) (10 * kd + th)
            have v0 := c3 (crE T i m (10 * kd + th)) (by omega)
            have cy := cntE_yes (c := crE T i m) qE
            have my := mosE_yes (c := crE T i m) qE
            have r1 : F_X8_read 97 (nI (crE T i m (10 * kd + th))) s.2.2 = some (nI (cntE (FE T i f p) (crE T i m) (10 * kd + th) (crE T i m (10 * kd + th)))) := by
              rw [rd_eq (by decide) sh_97 (by omega) (by decide), v0]
            have w1 : F_X8_write 97 (nI (crE T i m (10 * kd + th))) (nI (cntE (FE T i f p) (crE T i m) (10 * kd + th + 1) (crE T i m (10 * kd + th)))) s.2.2 = some (setI s.2.2 97 (crE T i m (10 * kd + th)) (nI (cntE (FE T i f p) (crE T i m) (10 * kd + th + 1) (crE T i m (10 * kd + th))))) := wr_eq (by decide) sh_97 (by omega) (by decide)
            have r2 : F_X8_read 97 (nI (crE T i m (10 * kd + th))) (setI s.2.2 97 (crE T i m (10 * kd + th)) (nI (cntE (FE T i f p) (crE T i m) (10 * kd + th + 1) (crE T i m (10 * kd + th))))) = some (nI (cntE (FE T i f p) (crE T i m) (10 * kd + th + 1) (crE T i m (10 * kd + th)))) := by
              rw [rd_eq (by decide) sh_97 (by omega) (by decide), setI_1, if_pos ⟨rfl, rfl⟩]
            have emax : (if nI (mosE (FE T i f p) (crE T i m) (10 * kd + th)) < nI (cntE (FE T i f p) (crE T i m) (10 * kd + th + 1) (crE T i m (10 * kd + th))) then nI (cntE (FE T i f p) (crE T i m) (10 * kd + th + 1) (crE T i m (10 * kd + th))) else nI (mosE (FE T i f p) (crE T i m) (10 * kd + th))) = nI (mosE (FE T i f p) (crE T i m) (10 * kd + th + 1)) := by
              rw [my]
              by_cases z : mosE (FE T i f p) (crE T i m) (10 * kd + th) < cntE (FE T i f p) (crE T i m) (10 * kd + th + 1) (crE T i m (10 * kd + th))
              · rw [if_pos z, if_pos (nI_lt z (by omega))]
              · rw [if_neg z, if_neg (nI_nlt (by omega) (by omega))]
            refine ⟨(nI (mosE (FE T i f p) (crE T i m) (10 * kd + th + 1)), nI (th + 1), setI s.2.2 97 (crE T i m (10 * kd + th)) (nI (cntE (FE T i f p) (crE T i m) (10 * kd + th + 1) (crE T i m (10 * kd + th))))), ?_, rfl, rfl, fun v hv => ?_, c4.tr F97.set⟩
            · rw [bg.trans (if_pos ⟨ht, q⟩), if_pos rfl, tC tw_18, ob_some, C_crossesAs tw_18 hN hw hi (by omega) hk (by omega), ob_some, ← ec, gR_93_3, ob_some, ob_some, r1, ob_some, nI_1, ← cy, w1, ob_some, ob_some, r2, ob_some, emax, nI_1]
            · show (setI s.2.2 97 (crE T i m (10 * kd + th)) _).1 97 v = nI (cntE (FE T i f p) (crE T i m) (10 * kd + th + 1) v)
              rw [setI_1]
              by_cases y : v = crE T i m (10 * kd + th)
              · rw [if_pos ⟨rfl, y⟩, y]
              · rw [if_neg (fun z => y z.2), cntE_oth (fun z => y z.symm)]
                exact c3 v hv
          · have qE : ¬ FE T i f p (10 * kd + th) := by
              show ¬ fitP T i ((10 * kd + th) / 10) ((10 * kd + th) % 10) f p
              rw [d1, d2]; exact q
            refine ⟨(nI (mosE (FE T i f p) (crE T i m) (10 * kd + th + 1)), nI (th + 1), s.2.2), ?_, rfl, rfl, fun v hv => ?_, c4⟩
            · rw [bg.trans (if_neg (fun z => q z.2)), if_neg (by decide), mosE_no qE, nI_1]
            · show s.2.2.1 97 v = nI (cntE (FE T i f p) (crE T i m) (10 * kd + th + 1) v)
              rw [cntE_no qE]; exact c3 v hv
        · intro s ⟨c1, c2, c3, c4⟩
          refine ⟨Sum.inl (s.1, nI (kd + 1), s.2.2), ?_, _, rfl, rfl, c2, c3, c4⟩
          rw [c1, if_pos (show (9 : Int32) < nI 10 by decide), nI_1]
      obtain ⟨t, e, s', rfl, k⟩ := inner
      exact ⟨s', e, k⟩
    · intro s ⟨a1, a2, a3, a4⟩
      exact ⟨(s.1, s.2.2), by rw [a1, if_pos (show (6 : Int32) ≤ nI 6 by decide)], a2, a4⟩
  obtain ⟨t, e, k1, k2⟩ := key
  refine ⟨t.2, ?_, k2⟩
  unfold F_X0_greatestPart
  rw [gR_93_3, ob_some, ef, ob_some, e, ← k1]
end
section
theorem nI_n9 {n : Nat} (h : n < 2 ^ 31) : ¬ nI n = (-9 : Int32) := fun z => by
  have := congrArg Int32.toInt z
  rw [nI_toInt h, show (-9 : Int32).toInt = -9 from rfl] at this
  omega
theorem moE_le {T : Tn} {i p m : Nat} {f : Nat → Int32} : moE T i f p m ≤ 60 := mosE_le 60
theorem C_telling {σ : Mem} {T : Tn} {B i p : Nat} {f : Nat → Int32} (h : CT σ 18 T) (hw : wfT B T) (hi : i < T 0) (hP : PC σ f p) (hp : p ≤ 20) : ∃ σ', FrO σ σ' ∧ (((∀ e, e < 60 → ¬ FE T i f p e) ∧ F_X0_tellingNight 93 18 (nI i) σ = some (-9, σ')) ∨ ((¬ ∀ e, e < 60 → ¬ FE T i f p e) ∧ F_X0_tellingNight 93 18 (nI i) σ = some (nI (bstE (moE T i f p) 8).1, σ') ∧ σ'.1 93 5 = nI (bstE (moE T i f p) 8).2)) := by
  have key : ∃ t, F_X0_tellingNight_5 93 18 (nI i) ((0 : Int32), (0 : Int32), σ) = some t ∧ (FrO σ t.2 ∧ (((∀ e, e < 60 → ¬ FE T i f p e) ∧ t.1 = -9) ∨ ((¬ ∀ e, e < 60 → ¬ FE T i f p e) ∧ t.1 = nI (bstE (moE T i f p) 8).1 ∧ t.2.1 93 5 = nI (bstE (moE T i f p) 8).2))) := by
    unfold F_X0_tellingNight_5
    refine lp_inv (fun kd (s : Int32 × Int32 × Mem) => s.2.1 = nI kd ∧ (s.1 = 0 ↔ ∀ e, e < 10 * kd → ¬ FE T i f p e) ∧ (∀ k, k < kd → s.2.2.1 96 k = bitI (fun th => fitP T i k th f p) 10) ∧ (∀ a b, a ≠ 96 → s.2.2.1 a b = σ.1 a b) ∧ s.2.2.2 = σ.2) 6 ?_ ?_ _ ⟨rfl, ⟨fun _ e he => absurd he (by omega), fun _ => rfl⟩, fun v hv => absurd hv (by omega), fun _ _ _ => rfl, rfl⟩
    · intro kd s hk ⟨a1, a2, a3, a4, a5⟩
      have hN : CT s.2.2 18 T := h.kept (fun a b p q => a4 a b (by omega))
      have hP2 : PC s.2.2 f p := hP.kept (fun a b q => a4 a b (by omega))
      have ba := bit_any (P := fun th => fitP T i kd th f p) 10 (by omega)
      refine ⟨(s.1 ||| bitI (fun th => fitP T i kd th f p) 10, nI (kd + 1), setI s.2.2 96 kd (bitI (fun th => fitP T i kd th f p) 10)), ?_, rfl, ?_, fun k hk2 => ?_, fun a b q => ?_, a5⟩
      · rw [a1, if_neg (show ¬ (6 : Int32) ≤ nI kd from nI_ge (b := 6) hk (by decide)), C_thicksF hN hw hi hP2 hp hk, ob_some, gR_93_2, ob_some, wr_eq (by decide) sh_96 hk (by decide), ob_some, nI_1]
      · show (s.1 ||| _) = 0 ↔ _
        rw [Int32.or_eq_zero_iff, a2, ba]
        constructor
        · intro ⟨z1, z2⟩ e he
          rcases Nat.lt_or_ge e (10 * kd) with y | y
          · exact z1 e y
          · show ¬ fitP T i (e / 10) (e % 10) f p
            rw [show e / 10 = kd by omega]
            exact z2 (e % 10) (by omega)
        · intro z
          refine ⟨fun e he => z e (by omega), fun th ht => ?_⟩
          have := z (10 * kd + th) (by omega)
          have d1 : (10 * kd + th) / 10 = kd := by omega
          have d2 : (10 * kd + th) % 10 = th := by omega
          have this : ¬ fitP T i ((10 * kd + th) / 10) ((10 * kd + th) % 10) f p := this
          rw [d1, d2] at this
          exact this
      · show (setI s.2.2 96 kd (bitI (fun th => fitP T i kd th f p) 10)).1 96 k = _
        rw [setI_1]
        by_cases y : k = kd
        · rw [if_pos ⟨rfl, y⟩, y]
        · rw [if_neg (fun z => y z.2)]; exact a3 k (by omega)
      · show (setI s.2.2 96 kd (bitI (fun th => fitP T i kd th f p) 10)).1 a b = _
        rw [setI_1, if_neg (fun z => q z.1)]; exact a4 a b q
    · intro s ⟨a1, a2, a3, a4, a5⟩
      have fr : FrO σ s.2.2 := ⟨fun a b q => a4 a b (by omega), a5⟩
      rw [a1, if_pos (show (6 : Int32) ≤ nI 6 by decide)]
      by_cases z : s.1 = 0
      · exact ⟨((-9 : Int32), s.2.2), by rw [if_pos z], fr, Or.inl ⟨fun e he => a2.mp z e (by omega), rfl⟩⟩
      · have inner : ∃ t, F_X0_tellingNight_63 93 18 (nI i) ((0 : Int32), (0 : Int32), setI s.2.2 93 5 (1000000 : Int32)) = some t ∧ (FrO σ t.2 ∧ t.1 = nI (bstE (moE T i f p) 8).1 ∧ t.2.1 93 5 = nI (bstE (moE T i f p) 8).2) := by
          unfold F_X0_tellingNight_63
          refine lp_inv (fun m (s : Int32 × Int32 × Mem) => s.2.1 = nI m ∧ s.1 = nI (bstE (moE T i f p) m).1 ∧ s.2.2.1 93 5 = nI (bstE (moE T i f p) m).2 ∧ (∀ k, k < 6 → s.2.2.1 96 k = bitI (fun th => fitP T i k th f p) 10) ∧ FrO σ s.2.2) 8 ?_ ?_ _ ⟨rfl, rfl, by rw [setI_1, if_pos ⟨rfl, rfl⟩]; rfl, fun k hk => by rw [setI_1, if_neg (by omega)]; exact a3 k hk, fr.tr (FrO.set (by decide) (by decide) (by decide))⟩
          · intro m u hm ⟨c1, c2, c3, c4, c5⟩
            have hN : CT u.2.2 18 T := h.kept (fun a b p q => c5.1 a b (by omega))
            obtain ⟨σ', e, g1, g2⟩ := C_gp (m := m) hN hw hi c4 hm
            have lb := bstE_le (mo := moE T i f p) (fun _ => moE_le) m
            have lm := moE_le (T := T) (i := i) (p := p) (m := m) (f := f)
            have v5 : σ'.1 93 5 = nI (bstE (moE T i f p) m).2 := (g1 _ _ (by decide)).trans c3
            have fo : FrO u.2.2 σ' := ⟨fun a b q => g1 a b (by omega), g2⟩
            rw [c1, c2, if_neg (show ¬ (8 : Int32) ≤ nI m from nI_ge (b := 8) hm (by decide)), e, ob_some, gI_93_5, ob_some, v5]
            by_cases y : moE T i f p m < (bstE (moE T i f p) m).2
            · rw [if_neg (nI_ge y (by omega)), pI_93_5, ob_some, nI_1]
              refine ⟨_, rfl, rfl, ?_, ?_, fun k hk => ?_, c5.tr (fo.tr (FrO.set (by decide) (by decide) (by decide)))⟩
              · rw [bstE_yes y]
              · rw [bstE_yes y, setI_1, if_pos ⟨rfl, rfl⟩]
              · rw [setI_1, if_neg (by omega), g1 _ _ (by decide)]; exact c4 k hk
            · rw [if_pos (nI_le (by omega) (by omega)), nI_1]
              refine ⟨_, rfl, rfl, ?_, ?_, fun k hk => ?_, c5.tr fo⟩
              · rw [bstE_no y]
              · rw [bstE_no y]; exact v5
              · rw [g1 _ _ (by decide)]; exact c4 k hk
          · intro u ⟨c1, c2, c3, c4, c5⟩
            exact ⟨(u.1, u.2.2), by rw [c1, if_pos (show (8 : Int32) ≤ nI 8 by decide)], c5, c2, c3⟩
        obtain ⟨t, e, k1, k2⟩ := inner
        refine ⟨t, ?_, k1, Or.inr ⟨fun y => z (a2.mpr (fun e he => y e (by omega))), k2⟩⟩
        rw [if_neg z, pI_93_5, ob_some, e]
        rfl
  obtain ⟨⟨t1, t2⟩, e, k1, k2⟩ := key
  have eF : F_X0_tellingNight 93 18 (nI i) σ = some (t1, t2) := by unfold F_X0_tellingNight; exact e
  refine ⟨t2, k1, ?_⟩
  rcases k2 with ⟨p1, p2⟩ | ⟨p1, p2, p3⟩
  · exact Or.inl ⟨p1, by rw [eF, show t1 = -9 from p2]⟩
  · exact Or.inr ⟨p1, by rw [eF, show t1 = _ from p2], p3⟩
end
section
/-! ===== test: the reference's side ===== -/
def F143 (σ σ' : Mem) : Prop := (∀ a b, a ≠ 143 → σ'.1 a b = σ.1 a b) ∧ σ'.2 = σ.2
theorem F143.tr {σ σ' σ'' : Mem} (h : F143 σ σ') (h2 : F143 σ' σ'') : F143 σ σ'' := ⟨fun a b q => (h2.1 a b q).trans (h.1 a b q), h2.2.trans h.2⟩
theorem F143.set {j : Nat} {v : Int32} {σ : Mem} : F143 σ (setI σ 143 j v) := ⟨fun x y q => by rw [setI_1, if_neg (by omega)], rfl⟩
theorem M_part {σ : Mem} {T : Tn} {B i r n m : Nat} {f : Nat → Int32} {x4 : Int32} {ls : Nat} (h : MT σ 0 T) (hw : wfT B T) (hi : i < T 0) (hr : r < 6) (hn : n ≤ 40) (he : n % 2 = 0) (g1 : σ.1 138 r = nI n) (g2 : ∀ j, j < n → σ.1 137 (r * 40 + j) = f j) (hg : ∀ k, k < n / 2 → goodP f k) (hm : m < 8) (hl : ls ≤ 1000000) (hv : ∀ v, v < 32 → σ.1 143 v = nI 0) : ∃ σ', F143 σ σ' ∧ F_X9_test_83 134 (nI i) (nI r) x4 (nI ls) (nI m) ((0 : Int32), (0 : Int32), (0 : Int32), σ) = some (Sum.inl (if ls ≤ moE T i f (n / 2) m then x4 else nI m, nI (if ls ≤ moE T i f (n / 2) m then ls else moE T i f (n / 2) m), nI (numE (FE T i f (n / 2)) 60), nI (m + 1), σ')) := by
  have b := hw.2.2.1 i hi
  have key : ∃ t, F_X9_test_83 134 (nI i) (nI r) x4 (nI ls) (nI m) ((0 : Int32), (0 : Int32), (0 : Int32), σ) = some t ∧ ∃ σ', F143 σ σ' ∧ t = Sum.inl (if ls ≤ moE T i f (n / 2) m then x4 else nI m, nI (if ls ≤ moE T i f (n / 2) m then ls else moE T i f (n / 2) m), nI (numE (FE T i f (n / 2)) 60), nI (m + 1), σ') := by
    unfold F_X9_test_83
    refine lp_inv (fun e (s : Int32 × Int32 × Int32 × Mem) => s.2.2.1 = nI e ∧ s.1 = nI (numE (FE T i f (n / 2)) e) ∧ s.2.1 = nI (mosE (FE T i f (n / 2)) (crE T i m) e) ∧ (∀ v, v < 32 → s.2.2.2.1 143 v = nI (cntE (FE T i f (n / 2)) (crE T i m) e v)) ∧ F143 σ s.2.2.2) 60 ?_ ?_ _ ⟨rfl, rfl, rfl, hv, fun _ _ _ => rfl, rfl⟩
    · intro e s he60 ⟨a1, a2, a3, a4, a5⟩
      have hN : MT s.2.2.2 0 T := h.kept (fun b _ _ => a5.1 _ _ (by decide))
      have k1 : s.2.2.2.1 138 r = nI n := (a5.1 _ _ (by decide)).trans g1
      have k2 : ∀ j, j < n → s.2.2.2.1 137 (r * 40 + j) = f j := fun j hj => (a5.1 _ _ (by decide)).trans (g2 j hj)
      have hkd : e / 10 < 6 := by omega
      have hth : e % 10 ≤ 9 := by omega
      rw [a1, a2, a3, if_neg (show ¬ (60 : Int32) ≤ nI e from nI_ge (b := 60) he60 (by decide)), rm10 (c := e) (by omega), dv10 (c := e) (by omega), M_so hN hw hi hr hn he k1 k2 hg hkd hth, ob_some]
      by_cases q : FE T i f (n / 2) e
      · have hc : crE T i m e ≤ 19 := crN_le (gapT_le b.2.1 b.2.2.1) (hw.2.2.2.1 _ (Nat.mod_lt _ (by decide)))
        have eg : F_X9_gapIn 134 (0 : Int32) (nI i) s.2.2.2 = some (nI (gapT T i i)) := M_gap hN (by decide) hw hi
        have ec : F_X9_crossBy 134 (nI (e / 10)) (nI (e % 10)) (nI (gapT T i i)) (nI m) s.2.2.2 = some (nI (crE T i m e)) := M_crossBy (hN.col (m % 4) (Nat.mod_lt _ (by decide))) hkd hth (gapT_le b.2.1 b.2.2.1) (by omega) (hw.2.2.2.1 _ (Nat.mod_lt _ (by decide)))
        have l1 := cntE_le (P := FE T i f (n / 2)) (c := crE T i m) e (crE T i m e)
        have l2 := mosE_le (P := FE T i f (n / 2)) (c := crE T i m) e
        have cy := cntE_yes (c := crE T i m) q
        have my := mosE_yes (c := crE T i m) q
        have ny := numE_yes q
        have fr := a5.tr (F143.set (j := crE T i m e) (v := nI (cntE (FE T i f (n / 2)) (crE T i m) (e + 1) (crE T i m e))))
        have v2 : (setI s.2.2.2 143 (crE T i m e) (nI (cntE (FE T i f (n / 2)) (crE T i m) (e + 1) (crE T i m e)))).1 143 (crE T i m e) = nI (cntE (FE T i f (n / 2)) (crE T i m) (e + 1) (crE T i m e)) := by rw [setI_1, if_pos ⟨rfl, rfl⟩]
        have vv : ∀ v, v < 32 → (setI s.2.2.2 143 (crE T i m e) (nI (cntE (FE T i f (n / 2)) (crE T i m) (e + 1) (crE T i m e)))).1 143 v = nI (cntE (FE T i f (n / 2)) (crE T i m) (e + 1) v) := fun v hv => by
          rw [setI_1]
          by_cases y : v = crE T i m e
          · rw [if_pos ⟨rfl, y⟩, y]
          · rw [if_neg (fun z => y z.2), cntE_oth (fun z => y z.symm)]
            exact a4 v hv
        rw [if_pos q, if_neg (by decide), eg, ob_some, ec, ob_some, gR_134_14, ob_some, aI_eq sh_143 (by omega) (by decide), ob_some, a4 _ (by omega), nI_1, ← cy, sI_eq sh_143 (by omega) (by decide), ob_some, ob_some, aI_eq sh_143 (by omega) (by decide), ob_some, v2]
        unfold F_X9_test_168
        by_cases z : mosE (FE T i f (n / 2)) (crE T i m) e < cntE (FE T i f (n / 2)) (crE T i m) (e + 1) (crE T i m e)
        · rw [if_neg (nI_ge z (by omega)), ob_some, aI_eq sh_143 (by omega) (by decide), ob_some, v2, nI_1, nI_1]
          exact ⟨_, rfl, rfl, by rw [ny], by rw [my, if_pos z], vv, fr⟩
        · rw [if_pos (nI_le (by omega) (by omega)), nI_1, nI_1]
          exact ⟨_, rfl, rfl, by rw [ny], by rw [my, if_neg z], vv, fr⟩
      · rw [if_neg q, if_pos rfl, nI_1]
        exact ⟨_, rfl, rfl, by rw [numE_no q], by rw [mosE_no q], fun v hv => by rw [cntE_no q]; exact a4 v hv, a5⟩
    · intro s ⟨a1, a2, a3, a4, a5⟩
      refine ⟨Sum.inl (if ls ≤ moE T i f (n / 2) m then x4 else nI m, nI (if ls ≤ moE T i f (n / 2) m then ls else moE T i f (n / 2) m), nI (numE (FE T i f (n / 2)) 60), nI (m + 1), s.2.2.2), ?_, s.2.2.2, a5, rfl⟩
      have lm := moE_le (T := T) (i := i) (p := n / 2) (m := m) (f := f)
      have a3' : s.2.1 = nI (moE T i f (n / 2) m) := a3
      rw [a1, if_pos (show (60 : Int32) ≤ nI 60 by decide), a2, a3']
      unfold F_X9_test_193
      by_cases z : ls ≤ moE T i f (n / 2) m
      · rw [if_pos (nI_le z (by omega)), if_pos (nI_le z (by omega)), if_pos z, if_pos z, nI_1]
        rfl
      · rw [if_neg (nI_ge (by omega) (by omega)), if_neg (nI_ge (by omega) (by omega)), if_neg z, if_neg z, nI_1]
        rfl
  obtain ⟨t, e, σ', fr, rfl⟩ := key
  exact ⟨σ', fr, e⟩
theorem M_part2 {σ : Mem} {T : Tn} {B i r n m : Nat} {f : Nat → Int32} {x4 : Int32} {ls : Nat} (h : MT σ 0 T) (hw : wfT B T) (hi : i < T 0) (hr : r < 6) (hn : n ≤ 40) (he : n % 2 = 0) (g1 : σ.1 138 r = nI n) (g2 : ∀ j, j < n → σ.1 137 (r * 40 + j) = f j) (hg : ∀ k, k < n / 2 → goodP f k) (hm : m < 8) (hl : ls ≤ 1000000) : ∃ σ', F143 σ σ' ∧ F_X9_test_59 134 (nI i) (nI r) x4 (nI ls) (0 : Int32) (nI m) (0 : Int32) ((0 : Int32), σ) = some (Sum.inl (if ls ≤ moE T i f (n / 2) m then x4 else nI m, nI (if ls ≤ moE T i f (n / 2) m then ls else moE T i f (n / 2) m), nI (numE (FE T i f (n / 2)) 60), nI (m + 1), σ')) := by
  have key : ∃ t, F_X9_test_59 134 (nI i) (nI r) x4 (nI ls) (0 : Int32) (nI m) (0 : Int32) ((0 : Int32), σ) = some t ∧ ∃ σ', F143 σ σ' ∧ t = Sum.inl (if ls ≤ moE T i f (n / 2) m then x4 else nI m, nI (if ls ≤ moE T i f (n / 2) m then ls else moE T i f (n / 2) m), nI (numE (FE T i f (n / 2)) 60), nI (m + 1), σ') := by
    unfold F_X9_test_59
    refine lp_inv (fun e (s : Int32 × Mem) => s.1 = nI e ∧ (∀ v, v < e → s.2.1 143 v = nI 0) ∧ F143 σ s.2) 32 ?_ ?_ _ ⟨rfl, fun v hv => absurd hv (by omega), fun _ _ _ => rfl, rfl⟩
    · intro e s he2 ⟨a1, a2, a3⟩
      refine ⟨(nI (e + 1), setI s.2 143 e 0), ?_, rfl, fun v hv => ?_, a3.tr F143.set⟩
      · rw [a1, if_neg (show ¬ (32 : Int32) ≤ nI e from nI_ge (b := 32) he2 (by decide)), gR_134_14, ob_some, sI_eq sh_143 he2 (by decide), ob_some, nI_1]
      · show (setI s.2 143 e 0).1 143 v = _
        rw [setI_1]
        by_cases y : v = e
        · rw [if_pos ⟨rfl, y⟩]; rfl
        · rw [if_neg (fun z => y z.2)]; exact a2 v (by omega)
    · intro s ⟨a1, a2, a3⟩
      have hN : MT s.2 0 T := h.kept (fun b _ _ => a3.1 _ _ (by decide))
      have k1 : s.2.1 138 r = nI n := (a3.1 _ _ (by decide)).trans g1
      have k2 : ∀ j, j < n → s.2.1 137 (r * 40 + j) = f j := fun j hj => (a3.1 _ _ (by decide)).trans (g2 j hj)
      obtain ⟨σ', fr, e⟩ := M_part (x4 := x4) hN hw hi hr hn he k1 k2 hg hm hl a2
      refine ⟨_, ?_, σ', a3.tr fr, rfl⟩
      rw [a1, if_pos (show (32 : Int32) ≤ nI 32 by decide), e]
      rfl
  obtain ⟨t, e, σ', fr, rfl⟩ := key
  exact ⟨σ', fr, e⟩
theorem M_testL {σ : Mem} {T : Tn} {B i r n : Nat} {f : Nat → Int32} (h : MT σ 0 T) (hw : wfT B T) (hi : i < T 0) (hr : r < 6) (hn : n ≤ 40) (he : n % 2 = 0) (g1 : σ.1 138 r = nI n) (g2 : ∀ j, j < n → σ.1 137 (r * 40 + j) = f j) (hg : ∀ k, k < n / 2 → goodP f k) : ∃ σ', F143 σ σ' ∧ (((∀ e, e < 60 → ¬ FE T i f (n / 2) e) ∧ F_X9_test_43 134 (nI i) (nI r) ((-9 : Int32), (1000000 : Int32), (0 : Int32), (0 : Int32), σ) = some (-9, σ')) ∨ ((¬ ∀ e, e < 60 → ¬ FE T i f (n / 2) e) ∧ ∀ z σ2, F_X9_tells 134 (nI (bstE (moE T i f (n / 2)) 8).2) (nI (bstE (moE T i f (n / 2)) 8).1) σ' = some (z, σ2) → F_X9_test_43 134 (nI i) (nI r) ((-9 : Int32), (1000000 : Int32), (0 : Int32), (0 : Int32), σ) = some (z, σ2))) := by
  have key : ∀ (Q : Int32 × Mem → Prop), (∀ σ', F143 σ σ' → ∃ t, (if nI (numE (FE T i f (n / 2)) 60) = 0 then (some (Sum.inr ((-9 : Int32), σ')) : Option ((Int32 × Int32 × Int32 × Int32 × Mem) ⊕ (Int32 × Mem))) else (F_X9_tells 134 (nI (bstE (moE T i f (n / 2)) 8).2) (nI (bstE (moE T i f (n / 2)) 8).1) σ').bind fun q3 => some (.inr ((q3.1, q3.2)))) = some (.inr t) ∧ Q t) → ∃ t, F_X9_test_43 134 (nI i) (nI r) ((-9 : Int32), (1000000 : Int32), (0 : Int32), (0 : Int32), σ) = some t ∧ Q t := by
    intro Q hQ
    unfold F_X9_test_43
    refine lp_inv (fun m (s : Int32 × Int32 × Int32 × Int32 × Mem) => s.2.2.2.1 = nI m ∧ s.1 = (if m = 0 then (-9 : Int32) else nI (bstE (moE T i f (n / 2)) m).1) ∧ s.2.1 = nI (bstE (moE T i f (n / 2)) m).2 ∧ s.2.2.1 = (if m = 0 then (0 : Int32) else nI (numE (FE T i f (n / 2)) 60)) ∧ F143 σ s.2.2.2.2) 8 ?_ ?_ _ ⟨rfl, rfl, rfl, rfl, fun _ _ _ => rfl, rfl⟩
    · intro m s hm ⟨a1, a2, a3, a4, a5⟩
      have hN : MT s.2.2.2.2 0 T := h.kept (fun b _ _ => a5.1 _ _ (by decide))
      have k1 : s.2.2.2.2.1 138 r = nI n := (a5.1 _ _ (by decide)).trans g1
      have k2 : ∀ j, j < n → s.2.2.2.2.1 137 (r * 40 + j) = f j := fun j hj => (a5.1 _ _ (by decide)).trans (g2 j hj)
      have lb := bstE_le (mo := moE T i f (n / 2)) (fun _ => moE_le) m
      have lm := moE_le (T := T) (i := i) (p := n / 2) (m := m) (f := f)
      obtain ⟨σ', fr, e⟩ := M_part2 (x4 := s.1) (m := m) (ls := (bstE (moE T i f (n / 2)) m).2) hN hw hi hr hn he k1 k2 hg hm (by omega)
      rw [a1, if_neg (show ¬ (8 : Int32) ≤ nI m from nI_ge (b := 8) hm (by decide)), a3, e]
      refine ⟨_, rfl, rfl, ?_, ?_, ?_, a5.tr fr⟩
      · show (if (bstE (moE T i f (n / 2)) m).2 ≤ moE T i f (n / 2) m then s.1 else nI m) = if m + 1 = 0 then (-9 : Int32) else nI (bstE (moE T i f (n / 2)) (m + 1)).1
        rw [if_neg (show ¬ m + 1 = 0 by omega), a2]
        by_cases y : moE T i f (n / 2) m < (bstE (moE T i f (n / 2)) m).2
        · rw [if_neg (by omega), bstE_yes y]
        · have hm0 : m ≠ 0 := fun z => by
            rw [z] at y
            have e0 : (bstE (moE T i f (n / 2)) 0).2 = 1000000 := rfl
            rw [e0] at y
            have := moE_le (T := T) (i := i) (p := n / 2) (m := 0) (f := f)
            omega
          rw [if_pos (by omega), if_neg hm0, bstE_no y]
      · show nI (if (bstE (moE T i f (n / 2)) m).2 ≤ moE T i f (n / 2) m then (bstE (moE T i f (n / 2)) m).2 else moE T i f (n / 2) m) = nI (bstE (moE T i f (n / 2)) (m + 1)).2
        by_cases y : moE T i f (n / 2) m < (bstE (moE T i f (n / 2)) m).2
        · rw [if_neg (by omega), bstE_yes y]
        · rw [if_pos (by omega), bstE_no y]
      · show nI (numE (FE T i f (n / 2)) 60) = if m + 1 = 0 then (0 : Int32) else nI (numE (FE T i f (n / 2)) 60)
        rw [if_neg (show ¬ m + 1 = 0 by omega)]
    · intro s ⟨a1, a2, a3, a4, a5⟩
      obtain ⟨t, e, q⟩ := hQ s.2.2.2.2 a5
      refine ⟨t, ?_, q⟩
      have a2' : s.1 = nI (bstE (moE T i f (n / 2)) 8).1 := a2
      have a4' : s.2.2.1 = nI (numE (FE T i f (n / 2)) 60) := a4
      rw [a1, if_pos (show (8 : Int32) ≤ nI 8 by decide), a2', a3, a4', e]
  have n0 := numE_0 (P := FE T i f (n / 2)) 60
  have nl := numE_le (P := FE T i f (n / 2)) 60
  by_cases hz : ∀ e, e < 60 → ¬ FE T i f (n / 2) e
  · have hN := n0.mpr hz
    obtain ⟨t, e, σ', fr, rfl⟩ := key (fun t => ∃ σ', F143 σ σ' ∧ t = (-9, σ')) (fun σ' fr => ⟨_, by rw [hN, if_pos (show nI 0 = (0 : Int32) from rfl)], σ', fr, rfl⟩)
    exact ⟨σ', fr, Or.inl ⟨hz, e⟩⟩
  · have hN : ¬ nI (numE (FE T i f (n / 2)) 60) = (0 : Int32) := nI_ne0 (Nat.pos_of_ne_zero fun z => hz (n0.mp z)) (by omega)
    by_cases hx : ∀ σ', F143 σ σ' → ∃ z σ2, F_X9_tells 134 (nI (bstE (moE T i f (n / 2)) 8).2) (nI (bstE (moE T i f (n / 2)) 8).1) σ' = some (z, σ2)
    · obtain ⟨t, e, σ', fr, q⟩ := key (fun t => ∃ σ', F143 σ σ' ∧ F_X9_tells 134 (nI (bstE (moE T i f (n / 2)) 8).2) (nI (bstE (moE T i f (n / 2)) 8).1) σ' = some t) (fun σ' fr => by
        obtain ⟨z, σ2, e⟩ := hx σ' fr
        exact ⟨(z, σ2), by rw [if_neg hN, e, ob_some], σ', fr, e⟩)
      refine ⟨σ', fr, Or.inr ⟨hz, fun z σ2 e2 => ?_⟩⟩
      rw [e, ← q, e2]
    · exfalso
      apply hx
      intro σ' fr
      unfold F_X9_tells
      rw [pI_134_10, ob_some]
      exact ⟨_, _, rfl⟩
end
section
theorem sim_test (x y : Int32) : Sim (F_X8_test 0 x y) (F_X9_test 134 x y) := by
  refine sim_of fun A hA => ?_
  obtain ⟨hnw, hn0⟩ := now_wf hA
  have h6 := hnw.1
  rcases pairs_of hA x y with ⟨r, A', hr, hA', hC, hM⟩ | ⟨i, r, n, rfl, hi, rfl, hr, hs, hn, he, hg, hC, hM⟩
  · refine ⟨r, A', hA', fun σ h => ?_, hM (fun σ' => F_X9_test_43 134 x y ((-9 : Int32), (1000000 : Int32), (0 : Int32), (0 : Int32), σ'))⟩
    obtain ⟨σ', e, h1, h2⟩ := hC σ h
    exact ⟨σ', by unfold F_X8_test; rw [e, ob_some, if_neg hr], h1, h2⟩
  · generalize hT : nowT A.2.2.2 = T at *
    by_cases hz : ∀ e, e < 60 → ¬ FE T i (A.1.2 r) (n / 2) e
    · refine ⟨-9, A, hA, fun σ h => ?_, fun σ h => ?_⟩
      · obtain ⟨σ1, e, h1, fr, hP⟩ := hC σ h
        have hnow := h1.now
        rw [hT] at hnow
        obtain ⟨σ2, fr2, k⟩ := C_telling hnow hnw hi hP (by omega)
        rcases k with ⟨_, k⟩ | ⟨k0, _⟩
        · refine ⟨σ2, ?_, (h.side (fr.tr fr2)).1, (h.side (fr.tr fr2)).2⟩
          unfold F_X8_test
          rw [e, ob_some, if_pos rfl, gR_0_11, ob_some, gR_0_4, ob_some, ck_93, ob_some, k, ob_some, if_pos rfl]
        · exact absurd hz k0
      · have hnow := h.now
        rw [hT] at hnow
        obtain ⟨_, g1, g2⟩ := h.1.row hr hs
        obtain ⟨σ', fr, k⟩ := M_testL hnow hnw hi hr hn he g1 g2 hg
        have fn : FrN σ σ' := ⟨fun a b q => fr.1 a b (by omega), fun a b _ => by rw [fr.2]⟩
        rcases k with ⟨_, k⟩ | ⟨k0, _⟩
        · exact ⟨σ', (hM (fun σ' => F_X9_test_43 134 (nI i) (nI r) ((-9 : Int32), (1000000 : Int32), (0 : Int32), (0 : Int32), σ')) σ h).trans k, (h.side hA fn).1, (h.side hA fn).2⟩
        · exact absurd hz k0
    · have lb := bstE_le (mo := moE T i (A.1.2 r) (n / 2)) (fun _ => moE_le) 8
      obtain ⟨bb, hb⟩ : ∃ bb, bstE (moE T i (A.1.2 r) (n / 2)) 8 = bb := ⟨_, rfl⟩
      rw [hb] at lb
      refine ⟨nI bb.1, toldA A (nI bb.2), hA, fun σ h => ?_, fun σ h => ?_⟩
      · obtain ⟨σ1, e, h1, fr, hP⟩ := hC σ h
        have hnow := h1.now
        rw [hT] at hnow
        obtain ⟨σ2, fr2, k⟩ := C_telling hnow hnw hi hP (by omega)
        rw [hb] at k
        rcases k with ⟨k0, _⟩ | ⟨_, k, k2⟩
        · exact absurd k0 hz
        · obtain ⟨h3, f3⟩ := h.side (fr.tr fr2)
          obtain ⟨σ3, e3, h4, f4⟩ := C_tell (A := A) (v := nI bb.2) σ2 h3
          have es : F_X8_tell 0 (nI bb.2) σ2 = some (1, setI σ2 0 13 (nI bb.2)) := by
            unfold F_X8_tell
            rw [pI_0_13, ob_some]
          have e4 := e3.symm.trans es
          injection e4 with e4
          injection e4 with _ e4
          subst e4
          refine ⟨_, ?_, h4, f3.tr f4⟩
          unfold F_X8_test
          rw [e, ob_some, if_pos rfl, gR_0_11, ob_some, gR_0_4, ob_some, ck_93, ob_some, k, ob_some, if_neg (nI_n9 (by omega)), ob_some, gI_93_5, ob_some, k2, pI_0_13, ob_some]
      · have hnow := h.now
        rw [hT] at hnow
        obtain ⟨_, g1, g2⟩ := h.1.row hr hs
        obtain ⟨σ', fr, k⟩ := M_testL hnow hnw hi hr hn he g1 g2 hg
        rw [hb] at k
        have fn : FrN σ σ' := ⟨fun a b q => fr.1 a b (by omega), fun a b _ => by rw [fr.2]⟩
        rcases k with ⟨k0, _⟩ | ⟨_, k⟩
        · exact absurd k0 hz
        · obtain ⟨h3, f3⟩ := h.side hA fn
          obtain ⟨σ3, e3, h4, f4⟩ := M_tells (A := A) (v := nI bb.2) (r := nI bb.1) σ' h3
          exact ⟨σ3, (hM (fun σ' => F_X9_test_43 134 (nI i) (nI r) ((-9 : Int32), (1000000 : Int32), (0 : Int32), (0 : Int32), σ')) σ h).trans (k _ _ e3), h4, f3.tr f4⟩
end
section
/-! ===== chances: bits of six ===== -/
def bN (o j : Nat) : Nat := o / 2 ^ j % 2
def popN (o : Nat) : Nat := o % 2 + o / 2 % 2 + o / 4 % 2 + o / 8 % 2 + o / 16 % 2 + o / 32 % 2
def subN (R o : Nat) : Bool := (R % 2 ≤ o % 2) && (R / 2 % 2 ≤ o / 2 % 2) && (R / 4 % 2 ≤ o / 4 % 2) && (R / 8 % 2 ≤ o / 8 % 2) && (R / 16 % 2 ≤ o / 16 % 2) && (R / 32 % 2 ≤ o / 32 % 2)
theorem sub_iff : ∀ o, o < 64 → ∀ R, R < 64 → (nI R &&& (nI o ^^^ (-1)) = 0 ↔ subN R o = true) := by decide
theorem sub_get : ∀ o, o < 64 → ∀ R, R < 64 → subN R o = true → (nI o &&& (nI R ^^^ (-1)) = nI (o - R) ∧ popN (o - R) + popN R = popN o ∧ nI R &&& nI o = nI R) := by decide
theorem or_bit : ∀ n, n < 6 → ∀ o, o < 2 ^ n → (nI o ||| ((1 : Int32) <<< (nI n &&& 31))) = nI (o + 2 ^ n) := by decide
theorem get_bN : ∀ o, o < 64 → ∀ j, j < 6 → ((nI o >>> (nI j &&& 31)) &&& 1) = nI (bN o j) := by decide
theorem bc_pop {σ : Mem} {o : Nat} (h : o < 64) : F_J6_bitCount_0f7a4 (nI o) σ = some (nI (popN o)) := by
  unfold F_J6_bitCount_0f7a4
  have key : ∀ o, o < 64 → (let x0 := nI o
  let w1 := (x0 - ((x0.toUInt32 >>> ((1 : Int32).toUInt32 &&& Int32.toUInt32 31)).toInt32 &&& (1431655765 : Int32)))
  let w2 := ((w1 &&& (858993459 : Int32)) + ((w1.toUInt32 >>> ((2 : Int32).toUInt32 &&& Int32.toUInt32 31)).toInt32 &&& (858993459 : Int32)))
  let w3 := ((w2 + (w2.toUInt32 >>> ((4 : Int32).toUInt32 &&& Int32.toUInt32 31)).toInt32) &&& (252645135 : Int32))
  let w4 := (w3 + (w3.toUInt32 >>> ((8 : Int32).toUInt32 &&& Int32.toUInt32 31)).toInt32)
  let w5 := (w4 + (w4.toUInt32 >>> ((16 : Int32).toUInt32 &&& Int32.toUInt32 31)).toInt32)
  (w5 &&& (63 : Int32))) = nI (popN o) := by decide
  exact congrArg some (key o h)
theorem pop_le (o : Nat) : popN o ≤ 6 := by unfold popN; omega
theorem bN_le (o j : Nat) : bN o j ≤ 1 := by unfold bN; omega
def sumB (o : Nat) : Nat → Nat
  | 0 => 0
  | n + 1 => sumB o n + bN o n
theorem sumB_6 (o : Nat) : sumB o 6 = popN o := by
  show 0 + o / 2 ^ 0 % 2 + o / 2 ^ 1 % 2 + o / 2 ^ 2 % 2 + o / 2 ^ 3 % 2 + o / 2 ^ 4 % 2 + o / 2 ^ 5 % 2 = popN o
  unfold popN
  omega
theorem M_ones {σ : Mem} {o : Nat} (h : o < 64) : F_X9_ones (nI o) σ = some (nI (popN o)) := by
  have key : ∃ t, F_X9_ones_4 (nI o) σ ((0 : Int32), (0 : Int32)) = some t ∧ t = nI (popN o) := by
    unfold F_X9_ones_4
    refine lp_inv (fun j (s : Int32 × Int32) => s.2 = nI j ∧ s.1 = nI (sumB o j)) 6 ?_ ?_ _ ⟨rfl, rfl⟩
    · intro j s hj ⟨a1, a2⟩
      refine ⟨(nI (sumB o (j + 1)), nI (j + 1)), ?_, rfl, rfl⟩
      rw [a1, a2, if_neg (show ¬ (6 : Int32) ≤ nI j from nI_ge (b := 6) hj (by decide)), get_bN o h j hj, nI_add, nI_1]
      rfl
    · intro s ⟨a1, a2⟩
      exact ⟨s.1, by rw [a1, if_pos (show (6 : Int32) ≤ nI 6 by decide)], by rw [a2, sumB_6]⟩
  obtain ⟨t, e, rfl⟩ := key
  unfold F_X9_ones
  exact e
theorem M_has {σ : Mem} {o j : Nat} (h : o < 64) (hj : j < 6) : F_X9_has (nI o) (nI j) σ = some (nI (bN o j)) := by
  have b := bN_le o j
  unfold F_X9_has
  rw [get_bN o h j hj]
  by_cases q : bN o j = 1
  · rw [q, if_pos (show nI 1 = (1 : Int32) from rfl)]; rfl
  · rw [show bN o j = 0 by omega, if_neg (show ¬ nI 0 = (1 : Int32) by decide)]; rfl
/-- the bits of what holds, as a number -/
def bitN (P : Nat → Prop) [DecidablePred P] : Nat → Nat
  | 0 => 0
  | n + 1 => if P n then bitN P n + 2 ^ n else bitN P n
theorem bitN_lt {P : Nat → Prop} [DecidablePred P] : ∀ n, bitN P n < 2 ^ n
  | 0 => by show 0 < 2 ^ 0; decide
  | n + 1 => by
    have ih := bitN_lt (P := P) n
    show (if P n then bitN P n + 2 ^ n else bitN P n) < _
    rw [Nat.pow_succ]
    split <;> omega
theorem bit_N {P : Nat → Prop} [DecidablePred P] : ∀ n, n ≤ 6 → bitI P n = nI (bitN P n)
  | 0, _ => rfl
  | n + 1, hn => by
    have ih := bit_N (P := P) n (by omega)
    have hl := bitN_lt (P := P) n
    show (bitI P n ||| (if P n then ((1 : Int32) <<< (nI n &&& 31)) else 0)) = nI (if P n then bitN P n + 2 ^ n else bitN P n)
    rw [ih]
    by_cases q : P n
    · rw [if_pos q, if_pos q, or_bit n (by omega) _ hl]
    · rw [if_neg q, if_neg q, Int32.or_zero]
theorem bitN_64 {P : Nat → Prop} [DecidablePred P] {n : Nat} (hn : n ≤ 6) : bitN P n < 64 := by
  have := bitN_lt (P := P) n
  have h2 : 2 ^ n ≤ 2 ^ 6 := Nat.pow_le_pow_right (by decide) hn
  omega
theorem bitN_get {P : Nat → Prop} [DecidablePred P] {n j : Nat} (hn : n ≤ 6) (hj : j < 6) : bN (bitN P n) j = if j < n ∧ P j then 1 else 0 := by
  have h1 := bit_get (P := P) (th := j) (by omega) n (by omega)
  rw [bit_N n hn, get_bN _ (bitN_64 hn) j hj] at h1
  have b := bN_le (bitN P n) j
  by_cases q : j < n ∧ P j
  · rw [if_pos q] at h1 ⊢
    exact (nI_eq (a := bN (bitN P n) j) (b := 1) (by omega) (by decide)).mp h1
  · rw [if_neg q] at h1 ⊢
    exact (nI_eq (a := bN (bitN P n) j) (b := 0) (by omega) (by decide)).mp h1
/-- the beds that would be found -/
abbrev dueN (T : Tn) : Nat := bitN (fun j => dueT T j) (T 0)
theorem C_bits {σ : Mem} {k B : Nat} {T : Tn} (hk : Tw k) (h : CT σ k T) (hw : wfT B T) : F_X7_wouldBeFoundBits k σ = some (nI (dueN T)) := by
  have h6 := hw.1
  have key : ∃ t, F_X7_wouldBeFoundBits_4 k σ ((0 : Int32), (0 : Int32)) = some t ∧ t = nI (dueN T) := by
    unfold F_X7_wouldBeFoundBits_4
    refine lp_inv (fun j (s : Int32 × Int32) => s.2 = nI j ∧ s.1 = bitI (fun j => dueT T j) j) (T 0) ?_ ?_ _ ⟨rfl, rfl⟩
    · intro j s hj ⟨a1, a2⟩
      refine ⟨(bitI (fun j => dueT T j) (j + 1), nI (j + 1)), ?_, rfl, rfl⟩
      rw [a1, a2, tI_8 hk, ob_some, h.1, if_neg (nI_ge hj (by omega)), C_found hk h hw hj, ob_some]
      unfold F_X7_wouldBeFoundBits_28
      by_cases q : dueT T j
      · rw [if_pos q, if_neg (by decide), nI_1]
        show _ = some (Sum.inl (_ ||| (if dueT T j then _ else _), _))
        rw [if_pos q]
      · rw [if_neg q, if_pos rfl, nI_1]
        show _ = some (Sum.inl (_ ||| (if dueT T j then _ else _), _))
        rw [if_neg q]
    · intro s ⟨a1, a2⟩
      exact ⟨s.1, by rw [a1, tI_8 hk, ob_some, h.1, if_pos (nI_le (Nat.le_refl _) (by omega))], by rw [a2, bit_N _ h6]⟩
  obtain ⟨t, e, rfl⟩ := key
  unfold F_X7_wouldBeFoundBits
  exact e
theorem M_dueNow {σ : Mem} {B : Nat} {T : Tn} (h : MT σ 0 T) (hw : wfT B T) : F_X9_dueNow 134 σ = some (nI (dueN T)) := by
  have h6 := hw.1
  have v0 : σ.1 135 0 = nI (T 0) := h 0 (by decide)
  have r0 : aI 135 (0 : Int32) σ = some (nI (T 0)) := (w_rd (j := 0) (by decide)).trans (by rw [v0])
  have key : ∃ t, F_X9_dueNow_4 134 σ ((0 : Int32), (0 : Int32)) = some t ∧ t = nI (dueN T) := by
    unfold F_X9_dueNow_4
    refine lp_inv (fun j (s : Int32 × Int32) => s.2 = nI j ∧ s.1 = bitI (fun j => dueT T j) j) (T 0) ?_ ?_ _ ⟨rfl, rfl⟩
    · intro j s hj ⟨a1, a2⟩
      refine ⟨(bitI (fun j => dueT T j) (j + 1), nI (j + 1)), ?_, rfl, rfl⟩
      have dd : F_X9_isDue 134 (0 : Int32) (nI j) σ = some (if dueT T j then 1 else 0) := M_due h (by decide) hw hj
      rw [a1, a2, wR, ob_some, r0, ob_some, if_neg (nI_ge hj (by omega)), dd, ob_some]
      unfold F_X9_dueNow_31
      by_cases q : dueT T j
      · rw [if_pos q, if_neg (by decide), nI_1]
        show _ = some (Sum.inl (_ ||| (if dueT T j then _ else _), _))
        rw [if_pos q]
      · rw [if_neg q, if_pos rfl, nI_1]
        show _ = some (Sum.inl (_ ||| (if dueT T j then _ else _), _))
        rw [if_neg q]
    · intro s ⟨a1, a2⟩
      exact ⟨s.1, by rw [a1, wR, ob_some, r0, ob_some, if_pos (nI_le (Nat.le_refl _) (by omega))], by rw [a2, bit_N _ h6]⟩
  obtain ⟨t, e, rfl⟩ := key
  unfold F_X9_dueNow
  exact e
end
section
/-! ===== chances: ways, divisors ===== -/
theorem cmp_eq0 (x y : Int64) : (lg_cmp x y) = 0 ↔ x = y := by
  constructor
  · intro h
    have h1 : ¬ x < y := fun q => by have := (cmp_lt0 x y).mpr q; rw [h] at this; exact absurd this (by decide)
    have h2 : ¬ y < x := fun q => by have := (cmp_gt0 x y).mpr q; rw [h] at this; exact absurd this (by decide)
    exact Int64.le_antisymm (Int64.not_lt.mp h2) (Int64.not_lt.mp h1)
  · intro h
    have h1 : ¬ (lg_cmp x y) < 0 := fun q => by have := (cmp_lt0 x y).mp q; rw [h] at this; exact Int64.lt_irrefl this
    have h2 : ¬ 0 < (lg_cmp x y) := fun q => by have := (cmp_gt0 x y).mp q; rw [h] at this; exact Int64.lt_irrefl this
    exact Int32.le_antisymm (Int32.not_lt.mp h2) (Int32.not_lt.mp h1)
theorem cmp_l0 {b : Nat} (h : b < 2 ^ 63) : (lg_cmp (lN b) (0 : Int64)) = 0 ↔ b = 0 := by
  rw [cmp_eq0]
  exact pk_lEQ (a := b) (b := 0) h (by decide)
theorem nzL_N {b : Nat} (h : b < 2 ^ 63) (h0 : b ≠ 0) : nzL (lN b) = some () := if_neg (fun z => h0 ((pk_lEQ (a := b) (b := 0) h (by decide)).mp z))
theorem gcd_step {a b : Nat} : Nat.gcd b (a % b) = Nat.gcd a b := by
  rw [Nat.gcd_comm a b, Nat.gcd_rec b a, Nat.gcd_comm]
theorem halve {b r : Nat} (h0 : 0 < r) (hr : r < b) : 2 * (b % r) < b := by
  have h1 := Nat.mod_lt b h0
  have h2 := Nat.div_add_mod b r
  have h3 : 0 < b / r := Nat.div_pos (by omega) h0
  have h4 : r ≤ r * (b / r) := Nat.le_mul_of_pos_right r h3
  omega
theorem C_gcd {σ : Mem} : ∀ k a b c, a < 2 ^ 63 → b < 2 ^ 63 → b < 2 ^ k → c + 2 * k ≤ 1000 → F_X8_commonDivisor_3 σ (lN a, lN b, nI c) = some (lN (Nat.gcd a b)) := by
  have z0 : ∀ a c, a < 2 ^ 63 → F_X8_commonDivisor_3 σ (lN a, lN 0, nI c) = some (lN (Nat.gcd a 0)) := by
    intro a c ha
    rw [Nat.gcd_zero_right]
    unfold F_X8_commonDivisor_3
    apply lp_out
    dsimp only
    by_cases q : (1000 : Int32) ≤ nI c
    · rw [if_pos q]
    · rw [if_neg q, if_pos ((cmp_l0 (by decide)).mpr rfl)]
  have st : ∀ a b c, a < 2 ^ 63 → b < 2 ^ 63 → b ≠ 0 → c < 1000 → F_X8_commonDivisor_3 σ (lN a, lN b, nI c) = F_X8_commonDivisor_3 σ (lN b, lN (a % b), nI (c + 1)) := by
    intro a b c ha hb h0 hc
    unfold F_X8_commonDivisor_3
    apply lp_in
    dsimp only
    rw [if_neg (show ¬ (1000 : Int32) ≤ nI c from nI_ge (b := 1000) hc (by decide)), if_neg (fun z => h0 ((cmp_l0 hb).mp z)), nzL_N hb h0, ob_some, pk_lRem ha (Nat.pos_of_ne_zero h0) hb, nI_1]
  intro k
  induction k with
  | zero =>
    intro a b c ha hb hk hc
    rw [show b = 0 by omega]
    exact z0 a c ha
  | succ k ih =>
    intro a b c ha hb hk hc
    by_cases h0 : b = 0
    · rw [h0]; exact z0 a c ha
    · rw [st a b c ha hb h0 (by omega), ← gcd_step]
      have hr := Nat.mod_lt a (Nat.pos_of_ne_zero h0)
      by_cases h1 : a % b = 0
      · rw [h1]; exact z0 b (c + 1) hb
      · rw [st b (a % b) (c + 1) hb (by omega) h1 (by omega), ← gcd_step]
        have h2 := halve (Nat.pos_of_ne_zero h1) hr
        have h3 := Nat.mod_lt b (Nat.pos_of_ne_zero h1)
        exact ih (a % b) (b % (a % b)) (c + 1 + 1) (by omega) (by omega) (by rw [Nat.pow_succ] at hk; omega) (by omega)
theorem C_gcd' {σ : Mem} {a b : Nat} (ha : a < 2 ^ 63) (hb : b < 2 ^ 63) : F_X8_commonDivisor (lN a) (lN b) σ = some (lN (Nat.gcd a b)) := by
  unfold F_X8_commonDivisor
  exact C_gcd 63 a b 0 ha hb hb (by decide)
/-- what both sides do with a chance -/
def toldL (A : Ab) (x y : Int64) : Ab := (A.1, A.2.1, (A.2.2.1.1, x, y, A.2.2.1.2.2.2.1, A.2.2.1.2.2.2.2), A.2.2.2)
theorem C_chance {A : Ab} {a b : Nat} (ha : a < 2 ^ 62) (hb : b < 2 ^ 62) (h0 : b ≠ 0) : CAns A (F_X8_tellChance 0 (lN a) (lN b)) 1 (toldL A (lN (a / Nat.gcd a b)) (lN (b / Nat.gcd a b))) := by
  intro σ h
  have hg0 : 0 < Nat.gcd a b := Nat.gcd_pos_of_pos_right _ (Nat.pos_of_ne_zero h0)
  have hg1 : Nat.gcd a b ≤ b := Nat.gcd_le_right _ (Nat.pos_of_ne_zero h0)
  have hc : ¬ (lg_cmp (lN (Nat.gcd a b)) (0 : Int64)) ≤ 0 := fun z => by
    have h1 : (0 : Int64) < lN (Nat.gcd a b) := (pk_lLT (a := 0) (b := Nat.gcd a b) (by decide) (by omega)).mpr hg0
    have h2 := (cmp_gt0 (lN (Nat.gcd a b)) (0 : Int64)).mpr h1
    exact Int32.lt_irrefl (Int32.lt_of_lt_of_le h2 z)
  have e : F_X8_tellChance 0 (lN a) (lN b) σ = some (1, setL (setL σ 0 14 (lN (a / Nat.gcd a b))) 0 15 (lN (b / Nat.gcd a b))) := by
    unfold F_X8_tellChance
    rw [C_gcd' (by omega) (by omega), ob_some, if_neg hc, nzL_N (by omega) (by omega), ob_some, pk_lDiv (by omega) hg0 (by omega), pL_0_14, ob_some, ob_some, pk_lDiv (by omega) hg0 (by omega), pL_0_15, ob_some]
  refine ⟨_, e, ⟨h.1.kept (fun a b _ _ => rfl), h.2.1.kept (fun a b _ _ => rfl), ⟨?_, ?_, ?_, ?_, fun x hx => ?_⟩, h.2.2.2.kept rfl (fun a b _ => rfl)⟩, fun a b q => rfl, fun a b q => ?_⟩
  · exact h.2.2.1.1
  · rw [setL_2, if_neg (by decide), setL_2, if_pos ⟨rfl, rfl⟩]; rfl
  · rw [setL_2, if_pos ⟨rfl, rfl⟩]; rfl
  · exact h.2.2.1.2.2.2.1
  · exact h.2.2.1.2.2.2.2 x hx
  · rw [setL_2, if_neg (by omega), setL_2, if_neg (by omega)]
theorem M_parts {A : Ab} {a b : Nat} (ha : a < 2 ^ 62) (hb : b < 2 ^ 62) (h0 : b ≠ 0) : MAns A (F_X9_tellsParts 134 (lN a) (lN b)) 1 (toldL A (lN (a / Nat.gcd a b)) (lN (b / Nat.gcd a b))) := by
  intro σ h
  have hg0 : 0 < Nat.gcd a b := Nat.gcd_pos_of_pos_right _ (Nat.pos_of_ne_zero h0)
  have hg1 : Nat.gcd a b ≤ b := Nat.gcd_le_right _ (Nat.pos_of_ne_zero h0)
  have key : ∀ y x, x < 2 ^ 63 → y < 2 ^ 63 → Nat.gcd x y = Nat.gcd a b → F_X9_tellsParts_6 134 (lN a) (lN b) σ (lN x, lN y) = some (1, setL (setL σ 134 11 (lN (a / Nat.gcd a b))) 134 12 (lN (b / Nat.gcd a b))) := by
    intro y
    induction y using Nat.strongRecOn with
    | ind y ih =>
      intro x hx hy hg
      by_cases z : y = 0
      · rw [z, Nat.gcd_zero_right] at hg
        rw [z]
        unfold F_X9_tellsParts_6
        apply lp_out
        dsimp only
        rw [if_pos ((cmp_l0 (by decide)).mpr rfl), hg, nzL_N (by omega) (by omega), ob_some, pk_lDiv (by omega) hg0 (by omega), pL_134_11, ob_some, ob_some, pk_lDiv (by omega) hg0 (by omega), pL_134_12, ob_some]
      · have hr := Nat.mod_lt x (Nat.pos_of_ne_zero z)
        have st : F_X9_tellsParts_6 134 (lN a) (lN b) σ (lN x, lN y) = F_X9_tellsParts_6 134 (lN a) (lN b) σ (lN y, lN (x % y)) := by
          unfold F_X9_tellsParts_6
          apply lp_in
          dsimp only
          rw [if_neg (fun q => z ((cmp_l0 hy).mp q)), nzL_N hy z, ob_some, pk_lRem hx (Nat.pos_of_ne_zero z) hy]
        rw [st]
        exact ih (x % y) hr y hy (by omega) (by rw [gcd_step]; exact hg)
  have e : F_X9_tellsParts 134 (lN a) (lN b) σ = some (1, setL (setL σ 134 11 (lN (a / Nat.gcd a b))) 134 12 (lN (b / Nat.gcd a b))) := by
    unfold F_X9_tellsParts
    exact key b a (by omega) (by omega) rfl
  refine ⟨_, e, ⟨h.1.kept (fun a b _ => rfl), h.2.1.kept (fun a b _ => rfl), ⟨?_, ?_, ?_, ?_, fun x hx => ?_⟩, h.2.2.2.kept rfl (fun a b _ => rfl)⟩, fun a b q => rfl, fun a b q => ?_⟩
  · exact h.2.2.1.1
  · rw [setL_2, if_neg (by decide), setL_2, if_pos ⟨rfl, rfl⟩]; rfl
  · rw [setL_2, if_pos ⟨rfl, rfl⟩]; rfl
  · exact h.2.2.1.2.2.2.1
  · exact h.2.2.1.2.2.2.2 x hx
  · rw [setL_2, if_neg (by omega), setL_2, if_neg (by omega)]
end
section
theorem C_power {σ : Mem} {a k : Nat} (ha : a ≤ 12) (hk : k ≤ 6) : F_X8_power (nI a) (nI k) σ = some (lN (a ^ k)) := by
  have key : ∃ t, F_X8_power_5 (nI a) (nI k) σ ((1 : Int64), (0 : Int32)) = some t ∧ t = lN (a ^ k) := by
    unfold F_X8_power_5
    refine lp_inv (fun j (s : Int64 × Int32) => s.2 = nI j ∧ s.1 = lN (a ^ j)) k ?_ ?_ _ ⟨rfl, rfl⟩
    · intro j s hj ⟨a1, a2⟩
      exact ⟨(lN (a ^ (j + 1)), nI (j + 1)), by rw [a1, a2, if_neg (nI_ge hj (by omega)), nI_l (by omega), lN_mul, nI_1, Nat.pow_succ], rfl, rfl⟩
    · intro s ⟨a1, a2⟩
      exact ⟨s.1, by rw [a1, if_pos (nI_le (Nat.le_refl _) (by omega))], a2⟩
  obtain ⟨t, e, rfl⟩ := key
  unfold F_X8_power
  exact e
/-- how many ways a report has -/
def wayN (p o R : Nat) : Nat := p ^ popN R * (12 - p) ^ popN (o - R)
theorem way_le {p o R : Nat} (hp : p ≤ 12) : wayN p o R ≤ 12 ^ 12 := by
  have h1 : p ^ popN R ≤ 12 ^ 6 := Nat.le_trans (Nat.pow_le_pow_left hp _) (Nat.pow_le_pow_right (by decide) (pop_le R))
  have h2 : (12 - p) ^ popN (o - R) ≤ 12 ^ 6 := Nat.le_trans (Nat.pow_le_pow_left (by omega) _) (Nat.pow_le_pow_right (by decide) (pop_le _))
  exact Nat.le_trans (Nat.mul_le_mul h1 h2) (by decide)
theorem C_ways {σ : Mem} {p o R : Nat} (hp : p ≤ 12) (ho : o < 64) (hR : R < 64) (hs : subN R o = true) : F_X8_waysOfReport (nI R) (nI o) (nI p) σ = some (lN (wayN p o R)) := by
  unfold F_X8_waysOfReport
  rw [bc_pop hR, ob_some, C_power hp (pop_le R), ob_some, (sub_get o ho R hR hs).1, bc_pop (by omega), ob_some, show (12 : Int32) - nI p = nI (12 - p) from pk_sub (a := 12) hp, C_power (by omega) (pop_le _), ob_some, lN_mul]
  unfold wayN
  rfl
def facN (p o R j : Nat) : Nat := if bN o j = 0 then 1 else if bN R j = 0 then 12 - p else p
def prodN (p o R : Nat) : Nat → Nat
  | 0 => 1
  | n + 1 => prodN p o R n * facN p o R n
theorem sub_bits {o R : Nat} (hs : subN R o = true) : ∀ j, j < 6 → bN R j ≤ bN o j := by
  unfold subN at hs
  simp only [Bool.and_eq_true, decide_eq_true_eq] at hs
  obtain ⟨⟨⟨⟨⟨a0, a1⟩, a2⟩, a3⟩, a4⟩, a5⟩ := hs
  intro j hj
  unfold bN
  have c : j = 0 ∨ j = 1 ∨ j = 2 ∨ j = 3 ∨ j = 4 ∨ j = 5 := by clear a0 a1 a2 a3 a4 a5; omega
  rcases c with c | c | c | c | c | c
  · rw [c, Nat.pow_zero, Nat.div_one, Nat.div_one]; exact a0
  · rw [c]; exact a1
  · rw [c]; exact a2
  · rw [c]; exact a3
  · rw [c]; exact a4
  · rw [c]; exact a5
theorem sum_le {o R : Nat} (hs : ∀ j, j < 6 → bN R j ≤ bN o j) : ∀ n, n ≤ 6 → sumB R n ≤ sumB o n
  | 0, _ => Nat.le_refl _
  | n + 1, hn => Nat.add_le_add (sum_le hs n (by omega)) (hs n (by omega))
theorem prod_eq {p o R : Nat} (hs : ∀ j, j < 6 → bN R j ≤ bN o j) : ∀ n, n ≤ 6 → prodN p o R n = p ^ sumB R n * (12 - p) ^ (sumB o n - sumB R n)
  | 0, _ => rfl
  | n + 1, hn => by
    have ih := prod_eq (p := p) hs n (by omega)
    have h1 := hs n (by omega)
    have h2 := bN_le o n
    have h3 := sum_le hs n (by omega)
    show prodN p o R n * facN p o R n = p ^ (sumB R n + bN R n) * (12 - p) ^ (sumB o n + bN o n - (sumB R n + bN R n))
    rw [ih]
    unfold facN
    by_cases q : bN o n = 0
    · rw [if_pos q, q, show bN R n = 0 by omega, Nat.mul_one, Nat.add_zero, Nat.add_zero]
    · rw [if_neg q, show bN o n = 1 by omega]
      by_cases z : bN R n = 0
      · rw [if_pos z, z, Nat.add_zero, show sumB o n + 1 - sumB R n = (sumB o n - sumB R n) + 1 by omega, Nat.pow_succ, Nat.mul_assoc]
      · rw [if_neg z, show bN R n = 1 by omega, show sumB o n + 1 - (sumB R n + 1) = sumB o n - sumB R n by omega, Nat.pow_succ, Nat.mul_right_comm]
theorem prod_ways {p o R : Nat} (ho : o < 64) (hR : R < 64) (hs : subN R o = true) : prodN p o R 6 = wayN p o R := by
  have h := (sub_get o ho R hR hs).2.1
  rw [prod_eq (sub_bits hs) 6 (by decide), sumB_6, sumB_6]
  unfold wayN
  rw [show popN o - popN R = popN (o - R) by omega]
theorem bN_top {o n j : Nat} (h : o < 2 ^ n) (hj : n ≤ j) : bN o j = 0 := by
  unfold bN
  have h2 : 2 ^ n ≤ 2 ^ j := Nat.pow_le_pow_right (by decide) hj
  rw [Nat.div_eq_of_lt (by omega)]
theorem prod_top {p o R n : Nat} (h : o < 2 ^ n) : ∀ k, prodN p o R (n + k) = prodN p o R n
  | 0 => rfl
  | k + 1 => by
    show prodN p o R (n + k) * facN p o R (n + k) = _
    rw [prod_top h k]
    unfold facN
    rw [if_pos (bN_top h (by omega)), Nat.mul_one]
theorem M_ways {σ : Mem} {T : Tn} {p o R : Nat} (h : MT σ 0 T) (h6 : T 0 ≤ 6) (hp : p ≤ 12) (ho : o < 2 ^ T 0) (hR : R < 64) (hs : subN R o = true) : F_X9_waysOf 134 (nI o) (nI R) (nI p) σ = some (lN (wayN p o R)) := by
  have o64 : o < 64 := by
    have h2 : 2 ^ T 0 ≤ 2 ^ 6 := Nat.pow_le_pow_right (by decide) h6
    omega
  have v0 : σ.1 135 0 = nI (T 0) := h 0 (by decide)
  have r0 : aI 135 (0 : Int32) σ = some (nI (T 0)) := (w_rd (j := 0) (by decide)).trans (by rw [v0])
  have key : ∃ t, F_X9_waysOf_6 134 (nI o) (nI R) (nI p) σ ((1 : Int64), (0 : Int32)) = some t ∧ t = lN (wayN p o R) := by
    unfold F_X9_waysOf_6
    refine lp_inv (fun j (s : Int64 × Int32) => s.2 = nI j ∧ s.1 = lN (prodN p o R j)) (T 0) ?_ ?_ _ ⟨rfl, rfl⟩
    · intro j s hj ⟨a1, a2⟩
      refine ⟨(lN (prodN p o R (j + 1)), nI (j + 1)), ?_, rfl, rfl⟩
      have b1 := bN_le o j
      have b2 := bN_le R j
      have e12 : ((12 : Int32) - nI p).toInt64 = lN (12 - p) := by rw [show (12 : Int32) - nI p = nI (12 - p) from pk_sub (a := 12) hp, nI_l (by omega)]
      rw [a1, a2, wR, ob_some, r0, ob_some, if_neg (nI_ge hj (by omega)), M_has o64 (by omega), ob_some]
      unfold F_X9_waysOf_51
      show _ = some (Sum.inl (lN (prodN p o R j * facN p o R j), nI (j + 1)))
      unfold facN
      by_cases q : bN o j = 0
      · rw [if_pos q, q, if_pos (show nI 0 = (0 : Int32) from rfl), show (1 : Int64) = lN 1 from rfl, lN_mul, nI_1]
      · rw [if_neg q, if_neg (nI_ne0 (by omega) (by omega)), M_has hR (by omega), ob_some]
        by_cases z : bN R j = 0
        · rw [if_pos z, z, if_pos (show nI 0 = (0 : Int32) from rfl), e12, lN_mul, nI_1]
        · rw [if_neg z, if_neg (nI_ne0 (by omega) (by omega)), nI_l (by omega), lN_mul, nI_1]
    · intro s ⟨a1, a2⟩
      refine ⟨s.1, by rw [a1, wR, ob_some, r0, ob_some, if_pos (nI_le (Nat.le_refl _) (by omega))], ?_⟩
      rw [a2, ← prod_ways o64 hR hs, show (6 : Nat) = T 0 + (6 - T 0) by omega, prod_top ho]
  obtain ⟨t, e, rfl⟩ := key
  unfold F_X9_waysOf
  exact e
theorem nI_m1 (k : Nat) : nI (k + 1) + (-1 : Int32) = nI k := by
  rw [← nI_1, Int32.add_assoc, show (1 : Int32) + (-1) = 0 from rfl, Int32.add_zero]
theorem M_all {σ : Mem} {o : Nat} (ho : o < 64) : F_X9_allWays 134 (nI o) σ = some (lN (12 ^ popN o)) := by
  have hp := pop_le o
  have key : ∃ t, F_X9_allWays_8 σ ((1 : Int64), nI (popN o)) = some t ∧ t = lN (12 ^ popN o) := by
    unfold F_X9_allWays_8
    refine lp_inv (fun j (s : Int64 × Int32) => s.2 = nI (popN o - j) ∧ s.1 = lN (12 ^ j)) (popN o) ?_ ?_ _ ⟨rfl, rfl⟩
    · intro j s hj ⟨a1, a2⟩
      refine ⟨(lN (12 ^ (j + 1)), nI (popN o - (j + 1))), ?_, rfl, rfl⟩
      rw [a1, a2, show popN o - j = (popN o - (j + 1)) + 1 by omega, if_neg (show ¬ nI (popN o - (j + 1) + 1) ≤ 0 from nI_ge (a := 0) (by omega) (by omega)), show (12 : Int64) = lN 12 from rfl, lN_mul, nI_m1, Nat.pow_succ]
    · intro s ⟨a1, a2⟩
      exact ⟨s.1, by rw [a1, Nat.sub_self, if_pos (by decide)], a2⟩
  obtain ⟨t, e, rfl⟩ := key
  unfold F_X9_allWays
  rw [M_ones ho, ob_some]
  exact e
/-- odds: the ways of all reports of at least v -/
def oddS (p o v : Nat) : Nat → Nat
  | 0 => 0
  | R + 1 => if subN R o = true ∧ v ≤ popN R then oddS p o v R + wayN p o R else oddS p o v R
theorem oddS_le {p o v W : Nat} (hW : ∀ R, wayN p o R ≤ W) : ∀ R, oddS p o v R ≤ R * W
  | 0 => Nat.zero_le _
  | R + 1 => by
    have ih := oddS_le (p := p) (o := o) (v := v) hW R
    have h := hW R
    show (if subN R o = true ∧ v ≤ popN R then oddS p o v R + wayN p o R else oddS p o v R) ≤ _
    rw [Nat.succ_mul]
    split <;> omega
end
section
theorem oddS_yes {p o v R : Nat} (h : subN R o = true ∧ v ≤ popN R) : oddS p o v (R + 1) = oddS p o v R + wayN p o R := if_pos h
theorem oddS_no {p o v R : Nat} (h : ¬ (subN R o = true ∧ v ≤ popN R)) : oddS p o v (R + 1) = oddS p o v R := if_neg h
theorem pow_lt62 : ∀ k, k ≤ 6 → 12 ^ k < 2 ^ 62 ∧ 12 ^ k ≠ 0 := by decide
theorem odd_lt62 {p o v : Nat} (hp : p ≤ 12) : oddS p o v 64 < 2 ^ 62 := by
  have h := oddS_le (p := p) (o := o) (v := v) (fun R => way_le hp) 64
  exact Nat.lt_of_le_of_lt h (by decide)
theorem C_isT {σ : Mem} {T : Tn} (h : CT σ 18 T) : gI 7 8 18 σ = some (nI (T 0)) := by rw [tI_8 tw_18, h.1]
theorem C_oddL {A : Ab} {T : Tn} {v p o : Nat} (hv : v ≤ 6) (hp : p ≤ 12) (ho : o < 64) (σ : Mem) (h : RC A σ) : ∃ σ', F_X8_odds_49 0 (nI v) (nI p) (nI o) σ ((0 : Int64), (0 : Int32)) = some (1, σ') ∧ RC (toldL A (lN (oddS p o v 64 / Nat.gcd (oddS p o v 64) (12 ^ popN o))) (lN (12 ^ popN o / Nat.gcd (oddS p o v 64) (12 ^ popN o)))) σ' ∧ FC σ σ' := by
  have hpo := pow_lt62 (popN o) (pop_le o)
  obtain ⟨σ', e, h1, h2⟩ := C_chance (A := A) (odd_lt62 (o := o) (v := v) hp) hpo.1 hpo.2 σ h
  have key : ∃ t, F_X8_odds_49 0 (nI v) (nI p) (nI o) σ ((0 : Int64), (0 : Int32)) = some t ∧ t = (1, σ') := by
    unfold F_X8_odds_49
    refine lp_inv (Q := fun t : Int32 × Mem => t = (1, σ')) (fun R (s : Int64 × Int32) => s.2 = nI R ∧ s.1 = lN (oddS p o v R)) 64 ?_ ?_ _ ⟨rfl, rfl⟩
    · intro R s hR ⟨a1, a2⟩
      refine ⟨(lN (oddS p o v (R + 1)), nI (R + 1)), ?_, rfl, rfl⟩
      rw [a1, a2, if_neg (show ¬ (64 : Int32) ≤ nI R from nI_ge (b := 64) hR (by decide))]
      have hpR := pop_le R
      by_cases q : subN R o = true
      · rw [if_pos ((sub_iff o ho R hR).mpr q), bc_pop hR, ob_some]
        by_cases z : v ≤ popN R
        · rw [if_neg (nI_nlt z (by omega)), C_ways hp ho hR q, ob_some, lN_add, nI_1, oddS_yes ⟨q, z⟩]
        · rw [if_pos (nI_lt (by omega) (by omega)), nI_1, oddS_no (fun y => z y.2)]
      · rw [if_neg (fun z => q ((sub_iff o ho R hR).mp z)), nI_1, oddS_no (fun y => q y.1)]
    · intro s ⟨a1, a2⟩
      refine ⟨_, ?_, rfl⟩
      rw [a1, if_pos (show (64 : Int32) ≤ nI 64 by decide), bc_pop ho, ob_some, show (12 : Int32) = nI 12 from rfl, C_power (by decide) (pop_le o), ob_some, a2, e, ob_some]
  obtain ⟨t, e2, rfl⟩ := key
  exact ⟨σ', e2, h1, h2⟩
theorem M_oddL {A : Ab} {T : Tn} {v p o : Nat} (hv : v ≤ 6) (hp : p ≤ 12) (h6 : T 0 ≤ 6) (ho : o < 2 ^ T 0) (hT : nowT A.2.2.2 = T) (σ : Mem) (h : RM A σ) : ∃ σ', F_X9_odds_47 134 (nI v) (nI p) (nI o) σ ((0 : Int64), (0 : Int32)) = some (1, σ') ∧ RM (toldL A (lN (oddS p o v 64 / Nat.gcd (oddS p o v 64) (12 ^ popN o))) (lN (12 ^ popN o / Nat.gcd (oddS p o v 64) (12 ^ popN o)))) σ' ∧ FM σ σ' := by
  have o64 : o < 64 := by
    have h2 : 2 ^ T 0 ≤ 2 ^ 6 := Nat.pow_le_pow_right (by decide) h6
    omega
  have hnow := h.now
  rw [hT] at hnow
  have hpo := pow_lt62 (popN o) (pop_le o)
  obtain ⟨σ', e, h1, h2⟩ := M_parts (A := A) (odd_lt62 (o := o) (v := v) hp) hpo.1 hpo.2 σ h
  have key : ∃ t, F_X9_odds_47 134 (nI v) (nI p) (nI o) σ ((0 : Int64), (0 : Int32)) = some t ∧ t = (1, σ') := by
    unfold F_X9_odds_47
    refine lp_inv (Q := fun t : Int32 × Mem => t = (1, σ')) (fun R (s : Int64 × Int32) => s.2 = nI R ∧ s.1 = lN (oddS p o v R)) 64 ?_ ?_ _ ⟨rfl, rfl⟩
    · intro R s hR ⟨a1, a2⟩
      refine ⟨(lN (oddS p o v (R + 1)), nI (R + 1)), ?_, rfl, rfl⟩
      rw [a1, a2, if_neg (show ¬ (64 : Int32) ≤ nI R from nI_ge (b := 64) hR (by decide))]
      unfold F_X9_odds_85 F_X9_odds_86
      have hpR := pop_le R
      have e0 : lN (oddS p o v R) + (0 : Int64) = lN (oddS p o v R) := lN_add (oddS p o v R) 0
      by_cases q : subN R o = true
      · rw [if_pos ((sub_iff o o64 R hR).mpr q), M_ones hR, ob_some]
        by_cases z : v ≤ popN R
        · rw [if_neg (nI_nlt z (by omega)), M_ways hnow h6 hp ho hR q, ob_some, lN_add, nI_1, oddS_yes ⟨q, z⟩]
        · rw [if_pos (nI_lt (by omega) (by omega)), nI_1, oddS_no (fun y => z y.2), e0]
      · rw [if_neg (fun z => q ((sub_iff o o64 R hR).mp z)), nI_1, oddS_no (fun y => q y.1), e0]
    · intro s ⟨a1, a2⟩
      refine ⟨_, ?_, rfl⟩
      rw [a1, if_pos (show (64 : Int32) ≤ nI 64 by decide), M_all o64, ob_some, a2, e, ob_some]
  obtain ⟨t, e2, rfl⟩ := key
  exact ⟨σ', e2, h1, h2⟩
theorem sim_odds (x y : Int32) : Sim (F_X8_odds 0 x y) (F_X9_odds 134 x y) := by
  refine sim_of fun A hA => ?_
  obtain ⟨hnw, hn0⟩ := now_wf hA
  have h6 := hnw.1
  have d0 : (0 : Int64).toInt = 0 := rfl
  have d6 : (6 : Int64).toInt = 6 := rfl
  have d12 : (12 : Int64).toInt = 12 := rfl
  have t6 : ((6 : Int32) < x) ↔ 6 < x.toInt := by rw [Int32.lt_iff_toInt_lt]; rfl
  have t12 : (y ≤ (12 : Int32)) ↔ y.toInt ≤ 12 := by rw [Int32.le_iff_toInt_le]; rfl
  by_cases hx : 0 ≤ x.toInt ∧ x.toInt ≤ 6
  · obtain ⟨v, hv, rfl⟩ := nat_of hx.1
    have nx : ¬ nI v < 0 := fun q => by have := neg_iff.mp q; omega
    have nx6 : ¬ (6 : Int32) < nI v := fun q => by have := t6.mp q; omega
    by_cases hy : 0 ≤ y.toInt ∧ y.toInt ≤ 12
    · obtain ⟨p, hp, rfl⟩ := nat_of hy.1
      have ny : ¬ nI p < 0 := fun q => by have := neg_iff.mp q; omega
      by_cases hz : nowT A.2.2.2 0 = 0
      · refine ⟨-4, A, hA, C_same fun σ h => ?_, M_same fun σ h => ?_⟩
        · unfold F_X8_odds
          rw [if_neg nx, if_neg nx6, if_neg ny, if_pos (t12.mpr hy.2), gR_0_4, ob_some, C_isT h.now, ob_some, hz, if_pos (show nI 0 = (0 : Int32) from rfl)]
        · unfold F_X9_odds
          rw [in_eq, wide, d0, d6, if_pos hx, ob_some, if_neg (by decide), in_eq, wide, d0, d12, if_pos hy, ob_some, if_neg (by decide), M_isTown h.now h6, if_pos hz, ob_some, if_pos rfl]
      · have o64 := bitN_64 (P := fun j => dueT (nowT A.2.2.2) j) h6
        obtain ⟨X, Y, kC, kM⟩ : ∃ X Y, (∀ σ, RC A σ → ∃ σ', F_X8_odds_49 0 (nI v) (nI p) (nI (dueN (nowT A.2.2.2))) σ ((0 : Int64), (0 : Int32)) = some (1, σ') ∧ RC (toldL A X Y) σ' ∧ FC σ σ') ∧ ∀ σ, RM A σ → ∃ σ', F_X9_odds_47 134 (nI v) (nI p) (nI (dueN (nowT A.2.2.2))) σ ((0 : Int64), (0 : Int32)) = some (1, σ') ∧ RM (toldL A X Y) σ' ∧ FM σ σ' := ⟨_, _, C_oddL (T := nowT A.2.2.2) (by omega) (by omega) o64, M_oddL (T := nowT A.2.2.2) (by omega) (by omega) h6 (bitN_lt _) rfl⟩
        refine ⟨1, toldL A X Y, hA, fun σ h => ?_, fun σ h => ?_⟩
        · obtain ⟨σ', e, h1, h2⟩ := kC σ h
          refine ⟨σ', ?_, h1, h2⟩
          unfold F_X8_odds
          rw [if_neg nx, if_neg nx6, if_neg ny, if_pos (t12.mpr hy.2), gR_0_4, ob_some, C_isT h.now, ob_some, if_neg (nI_ne0 (by omega) (by omega)), ob_some, tC tw_18, ob_some, C_bits tw_18 h.now hnw, ob_some, e]
        · obtain ⟨σ', e, h1, h2⟩ := kM σ h
          refine ⟨σ', ?_, h1, h2⟩
          unfold F_X9_odds
          rw [in_eq, wide, d0, d6, if_pos hx, ob_some, if_neg (by decide), in_eq, wide, d0, d12, if_pos hy, ob_some, if_neg (by decide), M_isTown h.now h6, if_neg hz, ob_some, if_neg (by decide), M_dueNow h.now hnw, ob_some, e]
    · refine ⟨-1, A, hA, C_same fun σ h => ?_, M_same fun σ h => ?_⟩
      · unfold F_X8_odds
        rw [if_neg nx, if_neg nx6]
        by_cases q : y < 0
        · rw [if_pos q]
        · have q' : ¬ y.toInt < 0 := fun z => q (neg_iff.mpr z)
          rw [if_neg q, if_neg (fun z => by have := t12.mp z; omega)]
      · unfold F_X9_odds
        rw [in_eq, wide, d0, d6, if_pos hx, ob_some, if_neg (by decide), in_eq, wide, d0, d12, if_neg hy, ob_some, if_pos rfl]
  · refine ⟨-1, A, hA, C_same fun σ h => ?_, M_same fun σ h => ?_⟩
    · unfold F_X8_odds
      by_cases q : x < 0
      · rw [if_pos q]
      · have q' : ¬ x.toInt < 0 := fun z => q (neg_iff.mpr z)
        rw [if_neg q, if_pos (t6.mpr (by omega))]
    · unfold F_X9_odds
      rw [in_eq, wide, d0, d6, if_neg hx, ob_some, if_pos rfl]
end
section
/-! ===== mid ===== -/
abbrev getI (m : Int32) (j : Nat) : Prop := ((m >>> (nI j &&& 31)) &&& (1 : Int32)) = 1
def mxI (T : Tn) (m : Int32) : Nat → Nat
  | 0 => 0
  | j + 1 => if getI m j then (if mxI T m j < T (27 + j) then T (27 + j) else mxI T m j) else mxI T m j
theorem mxI_yes {T : Tn} {m : Int32} {j : Nat} (h : getI m j) : mxI T m (j + 1) = if mxI T m j < T (27 + j) then T (27 + j) else mxI T m j := if_pos h
theorem mxI_no {T : Tn} {m : Int32} {j : Nat} (h : ¬ getI m j) : mxI T m (j + 1) = mxI T m j := if_neg h
theorem mxI_le {B : Nat} {T : Tn} {m : Int32} (hw : wfT B T) : ∀ j, j ≤ T 0 → mxI T m j ≤ 99
  | 0, _ => by show 0 ≤ 99; omega
  | j + 1, hj => by
    have ih := mxI_le (m := m) hw j (by omega)
    have b := (hw.2.2.1 j (by omega)).2.2.2.2.1
    by_cases q : getI m j
    · rw [mxI_yes q]
      split <;> omega
    · rw [mxI_no q]; exact ih
theorem C_most {σ : Mem} {B : Nat} {T : Tn} {m : Int32} (h : CT σ 18 T) (hw : wfT B T) : F_X7_mostLying 18 m σ = some (nI (mxI T m (T 0))) := by
  have h6 := hw.1
  have key : ∃ t, F_X7_mostLying_4 18 m σ ((0 : Int32), (0 : Int32)) = some t ∧ t = nI (mxI T m (T 0)) := by
    unfold F_X7_mostLying_4
    refine lp_inv (fun j (s : Int32 × Int32) => s.2 = nI j ∧ s.1 = nI (mxI T m j)) (T 0) ?_ ?_ _ ⟨rfl, rfl⟩
    · intro j s hj ⟨a1, a2⟩
      refine ⟨(nI (mxI T m (j + 1)), nI (j + 1)), ?_, rfl, rfl⟩
      have b := (hw.2.2.1 j hj).2.2.2.2.1
      have l := mxI_le (m := m) hw j (by omega)
      rw [a1, a2, C_isT h, ob_some, if_neg (nI_ge hj (by omega))]
      by_cases q : getI m j
      · rw [if_pos q, C_lies tw_18 h hw hj, ob_some, mxI_yes q, nI_1]
        by_cases z : mxI T m j < T (27 + j)
        · rw [if_pos (nI_lt z (by omega)), if_pos z]
        · rw [if_neg (nI_nlt (by omega) (by omega)), if_neg z]
      · rw [if_neg q, mxI_no q, nI_1]
    · intro s ⟨a1, a2⟩
      exact ⟨s.1, by rw [a1, C_isT h, ob_some, if_pos (nI_le (Nat.le_refl _) (by omega))], a2⟩
  obtain ⟨t, e, rfl⟩ := key
  unfold F_X7_mostLying
  exact e
def midS (T : Tn) (p o : Nat) : Nat → Nat
  | 0 => 0
  | R + 1 => if subN R o = true then midS T p o R + mxI T (nI R) (T 0) * wayN p o R else midS T p o R
theorem midS_yes {T : Tn} {p o R : Nat} (h : subN R o = true) : midS T p o (R + 1) = midS T p o R + mxI T (nI R) (T 0) * wayN p o R := if_pos h
theorem midS_no {T : Tn} {p o R : Nat} (h : ¬ subN R o = true) : midS T p o (R + 1) = midS T p o R := if_neg h
theorem midS_le {T : Tn} {B p o W : Nat} (hw : wfT B T) (hW : ∀ R, wayN p o R ≤ W) : ∀ R, midS T p o R ≤ R * (99 * W)
  | 0 => Nat.zero_le _
  | R + 1 => by
    have ih := midS_le (p := p) (o := o) hw hW R
    have h1 := mxI_le (m := nI R) hw (T 0) (Nat.le_refl _)
    have h2 := Nat.mul_le_mul h1 (hW R)
    rw [Nat.succ_mul]
    by_cases q : subN R o = true
    · rw [midS_yes q]; omega
    · rw [midS_no q]; omega
theorem mid_lt62 {T : Tn} {B p o : Nat} (hw : wfT B T) (hp : p ≤ 12) : midS T p o 64 < 2 ^ 62 := by
  have h := midS_le (p := p) (o := o) hw (fun R => way_le hp) 64
  exact Nat.lt_of_le_of_lt h (by decide)
theorem C_midL {A : Ab} {T : Tn} {B p o : Nat} (hp : p ≤ 12) (ho : o < 64) (hw : wfT B T) (hT : nowT A.2.2.2 = T) (σ : Mem) (h : RC A σ) : ∃ σ', F_X8_mid_38 0 (nI p) (nI o) σ ((0 : Int64), (0 : Int32)) = some (1, σ') ∧ RC (toldL A (lN (midS T p o 64 / Nat.gcd (midS T p o 64) (12 ^ popN o))) (lN (12 ^ popN o / Nat.gcd (midS T p o 64) (12 ^ popN o)))) σ' ∧ FC σ σ' := by
  have hnow := h.now
  rw [hT] at hnow
  have hpo := pow_lt62 (popN o) (pop_le o)
  obtain ⟨σ', e, h1, h2⟩ := C_chance (A := A) (mid_lt62 (o := o) hw hp) hpo.1 hpo.2 σ h
  have key : ∃ t, F_X8_mid_38 0 (nI p) (nI o) σ ((0 : Int64), (0 : Int32)) = some t ∧ t = (1, σ') := by
    unfold F_X8_mid_38
    refine lp_inv (Q := fun t : Int32 × Mem => t = (1, σ')) (fun R (s : Int64 × Int32) => s.2 = nI R ∧ s.1 = lN (midS T p o R)) 64 ?_ ?_ _ ⟨rfl, rfl⟩
    · intro R s hR ⟨a1, a2⟩
      refine ⟨(lN (midS T p o (R + 1)), nI (R + 1)), ?_, rfl, rfl⟩
      have l := mxI_le (m := nI R) hw (T 0) (Nat.le_refl _)
      rw [a1, a2, if_neg (show ¬ (64 : Int32) ≤ nI R from nI_ge (b := 64) hR (by decide))]
      by_cases q : subN R o = true
      · rw [if_pos ((sub_iff o ho R hR).mpr q), gR_0_4, ob_some, tC tw_18, ob_some, C_most hnow hw, ob_some, C_ways hp ho hR q, ob_some, nI_l (by omega), lN_mul, lN_add, nI_1, midS_yes q]
      · rw [if_neg (fun z => q ((sub_iff o ho R hR).mp z)), nI_1, midS_no q]
    · intro s ⟨a1, a2⟩
      refine ⟨_, ?_, rfl⟩
      rw [a1, if_pos (show (64 : Int32) ≤ nI 64 by decide), bc_pop ho, ob_some, show (12 : Int32) = nI 12 from rfl, C_power (by decide) (pop_le o), ob_some, a2, e, ob_some]
  obtain ⟨t, e2, rfl⟩ := key
  exact ⟨σ', e2, h1, h2⟩
theorem M_midI {σ : Mem} {T : Tn} {B p o R S : Nat} (h : MT σ 0 T) (hw : wfT B T) (hp : p ≤ 12) (ho : o < 2 ^ T 0) (o64 : o < 64) (hR : R < 64) : F_X9_mid_47 134 (nI p) (nI o) (lN S) (nI R) σ ((0 : Int32), (0 : Int32)) = some (.inl (lN (if subN R o = true then S + mxI T (nI R) (T 0) * wayN p o R else S), nI (R + 1))) := by
  have h6 := hw.1
  have v0 : σ.1 135 0 = nI (T 0) := h 0 (by decide)
  have r0 : aI 135 (0 : Int32) σ = some (nI (T 0)) := (w_rd (j := 0) (by decide)).trans (by rw [v0])
  have key : ∃ t, F_X9_mid_47 134 (nI p) (nI o) (lN S) (nI R) σ ((0 : Int32), (0 : Int32)) = some t ∧ t = .inl (lN (if subN R o = true then S + mxI T (nI R) (T 0) * wayN p o R else S), nI (R + 1)) := by
    unfold F_X9_mid_47
    refine lp_inv (fun j (s : Int32 × Int32) => s.2 = nI j ∧ s.1 = nI (mxI T (nI R &&& nI o) j)) (T 0) ?_ ?_ _ ⟨rfl, rfl⟩
    · intro j s hj ⟨a1, a2⟩
      refine ⟨(nI (mxI T (nI R &&& nI o) (j + 1)), nI (j + 1)), ?_, rfl, rfl⟩
      have b := (hw.2.2.1 j hj).2.2.2.2.1
      have l := mxI_le (m := nI R &&& nI o) hw j (by omega)
      have rv : aI 135 ((27 : Int32) + nI j) σ = some (nI (T (27 + j))) := by
        have v := h (27 + j) (by omega)
        rw [Nat.zero_add] at v
        rw [show (27 : Int32) + nI j = nI (27 + j) from lx rfl, w_rd (by omega), v]
      unfold F_X9_mid_98 F_X9_has
      rw [a1, a2, wR, ob_some, r0, ob_some, if_neg (nI_ge hj (by omega))]
      by_cases q : getI (nI R &&& nI o) j
      · rw [if_pos q, ob_some, if_neg (by decide), ob_some, rv, ob_some, mxI_yes q, nI_1]
        by_cases z : mxI T (nI R &&& nI o) j < T (27 + j)
        · rw [if_neg (nI_ge z (by omega)), if_pos z, ob_some, rv, ob_some]
        · rw [if_pos (nI_le (by omega) (by omega)), if_neg z]
      · rw [if_neg q, ob_some, if_pos rfl, mxI_no q, nI_1]
    · intro s ⟨a1, a2⟩
      have l := mxI_le (m := nI R &&& nI o) hw (T 0) (Nat.le_refl _)
      refine ⟨_, ?_, rfl⟩
      unfold F_X9_mid_134
      rw [a1, a2, wR, ob_some, r0, ob_some, if_pos (nI_le (Nat.le_refl _) (by omega))]
      by_cases q : subN R o = true
      · have em := (sub_get o o64 R hR q).2.2
        rw [em] at l ⊢
        rw [if_pos ((sub_iff o o64 R hR).mpr q), M_ways h h6 hp ho hR q, ob_some, nI_l (by omega), lN_mul, lN_add, if_pos q, nI_1]
        rfl
      · rw [if_neg (fun z => q ((sub_iff o o64 R hR).mp z)), if_neg q, show lN S + (0 : Int64) = lN S from lN_add S 0, nI_1]
        rfl
  obtain ⟨t, e, rfl⟩ := key
  exact e
theorem M_midL {A : Ab} {T : Tn} {B p o : Nat} (hp : p ≤ 12) (ho : o < 2 ^ T 0) (hw : wfT B T) (hT : nowT A.2.2.2 = T) (σ : Mem) (h : RM A σ) : ∃ σ', F_X9_mid_34 134 (nI p) (nI o) σ ((0 : Int64), (0 : Int32)) = some (1, σ') ∧ RM (toldL A (lN (midS T p o 64 / Nat.gcd (midS T p o 64) (12 ^ popN o))) (lN (12 ^ popN o / Nat.gcd (midS T p o 64) (12 ^ popN o)))) σ' ∧ FM σ σ' := by
  have h6 := hw.1
  have o64 : o < 64 := by
    have h2 : 2 ^ T 0 ≤ 2 ^ 6 := Nat.pow_le_pow_right (by decide) h6
    omega
  have hnow := h.now
  rw [hT] at hnow
  have hpo := pow_lt62 (popN o) (pop_le o)
  obtain ⟨σ', e, h1, h2⟩ := M_parts (A := A) (mid_lt62 (o := o) hw hp) hpo.1 hpo.2 σ h
  have key : ∃ t, F_X9_mid_34 134 (nI p) (nI o) σ ((0 : Int64), (0 : Int32)) = some t ∧ t = (1, σ') := by
    unfold F_X9_mid_34
    refine lp_inv (Q := fun t : Int32 × Mem => t = (1, σ')) (fun R (s : Int64 × Int32) => s.2 = nI R ∧ s.1 = lN (midS T p o R)) 64 ?_ ?_ _ ⟨rfl, rfl⟩
    · intro R s hR ⟨a1, a2⟩
      refine ⟨(lN (midS T p o (R + 1)), nI (R + 1)), ?_, rfl, rfl⟩
      rw [a1, a2, if_neg (show ¬ (64 : Int32) ≤ nI R from nI_ge (b := 64) hR (by decide)), M_midI hnow hw hp ho o64 hR]
      rfl
    · intro s ⟨a1, a2⟩
      refine ⟨_, ?_, rfl⟩
      rw [a1, if_pos (show (64 : Int32) ≤ nI 64 by decide), M_all o64, ob_some, a2, e, ob_some]
  obtain ⟨t, e2, rfl⟩ := key
  exact ⟨σ', e2, h1, h2⟩
theorem sim_mid (y : Int32) : Sim (F_X8_mid 0 y) (F_X9_mid 134 y) := by
  refine sim_of fun A hA => ?_
  obtain ⟨hnw, hn0⟩ := now_wf hA
  have h6 := hnw.1
  have d0 : (0 : Int64).toInt = 0 := rfl
  have d12 : (12 : Int64).toInt = 12 := rfl
  have t12 : (y ≤ (12 : Int32)) ↔ y.toInt ≤ 12 := by rw [Int32.le_iff_toInt_le]; rfl
  by_cases hy : 0 ≤ y.toInt ∧ y.toInt ≤ 12
  · obtain ⟨p, hp, rfl⟩ := nat_of hy.1
    have ny : ¬ nI p < 0 := fun q => by have := neg_iff.mp q; omega
    by_cases hz : nowT A.2.2.2 0 = 0
    · refine ⟨-4, A, hA, C_same fun σ h => ?_, M_same fun σ h => ?_⟩
      · unfold F_X8_mid
        rw [if_neg ny, if_pos (t12.mpr hy.2), gR_0_4, ob_some, C_isT h.now, ob_some, hz, if_pos (show nI 0 = (0 : Int32) from rfl)]
      · unfold F_X9_mid
        rw [in_eq, wide, d0, d12, if_pos hy, ob_some, if_neg (by decide), M_isTown h.now h6, if_pos hz, ob_some, if_pos rfl]
    · have o64 := bitN_64 (P := fun j => dueT (nowT A.2.2.2) j) h6
      obtain ⟨X, Y, kC, kM⟩ : ∃ X Y, (∀ σ, RC A σ → ∃ σ', F_X8_mid_38 0 (nI p) (nI (dueN (nowT A.2.2.2))) σ ((0 : Int64), (0 : Int32)) = some (1, σ') ∧ RC (toldL A X Y) σ' ∧ FC σ σ') ∧ ∀ σ, RM A σ → ∃ σ', F_X9_mid_34 134 (nI p) (nI (dueN (nowT A.2.2.2))) σ ((0 : Int64), (0 : Int32)) = some (1, σ') ∧ RM (toldL A X Y) σ' ∧ FM σ σ' := ⟨_, _, C_midL (T := nowT A.2.2.2) (by omega) o64 hnw rfl, M_midL (T := nowT A.2.2.2) (by omega) (bitN_lt _) hnw rfl⟩
      refine ⟨1, toldL A X Y, hA, fun σ h => ?_, fun σ h => ?_⟩
      · obtain ⟨σ', e, h1, h2⟩ := kC σ h
        refine ⟨σ', ?_, h1, h2⟩
        unfold F_X8_mid
        rw [if_neg ny, if_pos (t12.mpr hy.2), gR_0_4, ob_some, C_isT h.now, ob_some, if_neg (nI_ne0 (by omega) (by omega)), ob_some, tC tw_18, ob_some, C_bits tw_18 h.now hnw, ob_some, e]
      · obtain ⟨σ', e, h1, h2⟩ := kM σ h
        refine ⟨σ', ?_, h1, h2⟩
        unfold F_X9_mid
        rw [in_eq, wide, d0, d12, if_pos hy, ob_some, if_neg (by decide), M_isTown h.now h6, if_neg hz, ob_some, if_neg (by decide), M_dueNow h.now hnw, ob_some, e]
  · refine ⟨-1, A, hA, C_same fun σ h => ?_, M_same fun σ h => ?_⟩
    · unfold F_X8_mid
      by_cases q : y < 0
      · rw [if_pos q]
      · have q' : ¬ y.toInt < 0 := fun z => q (neg_iff.mpr z)
        rw [if_neg q, if_neg (fun z => by have := t12.mp z; omega)]
    · unfold F_X9_mid
      rw [in_eq, wide, d0, d12, if_neg hy, ob_some, if_pos rfl]
end
section
/-! ===== count ===== -/
def sumF (g : Nat → Nat) : Nat → Nat
  | 0 => 0
  | n + 1 => sumF g n + g n
def stdG (rs : Nat → Option Nat) (r : Nat) : Nat := match rs r with
  | none => 0
  | some _ => 1
def qltG (T : Tn) (j : Nat) : Nat := if T (3 + j) = 2 ∨ T (3 + j) = 4 then 1 else 0
theorem stdG_n {rs : Nat → Option Nat} {r : Nat} (h : rs r = none) : stdG rs r = 0 := by unfold stdG; rw [h]
theorem stdG_s {rs : Nat → Option Nat} {r n : Nat} (h : rs r = some n) : stdG rs r = 1 := by unfold stdG; rw [h]
theorem C_standing {σ : Mem} {b many room : Nat} {rs : Nat → Option Nat} {rv : Nat → Nat → Int32} (hf : Sf b many room) (h : CSh σ b many room rs rv) : F_X6_standing b σ = some (nI (sumF (stdG rs) many)) := by
  obtain ⟨q1, q2, q3, q4, q5, q6, q7, q8, q9, q10, q11⟩ := hf
  have hf : Sf b many room := ⟨q1, q2, q3, q4, q5, q6, q7, q8, q9, q10, q11⟩
  have key : ∃ t, F_X6_standing_13 (b + 1) (nI many) σ ((0 : Int32), (0 : Int32)) = some t ∧ t = nI (sumF (stdG rs) many) := by
    unfold F_X6_standing_13
    refine lp_inv (fun j (s : Int32 × Int32) => s.2 = nI j ∧ s.1 = nI (sumF (stdG rs) j)) many ?_ ?_ _ ⟨rfl, rfl⟩
    · intro j s hj ⟨a1, a2⟩
      refine ⟨(nI (sumF (stdG rs) (j + 1)), nI (j + 1)), ?_, rfl, rfl⟩
      rw [a1, a2, if_neg (nI_ge hj (by omega)), aI_eq q5 hj (by omega), ob_some]
      unfold F_X6_standing_36
      show _ = some (Sum.inl (nI (sumF (stdG rs) j + stdG rs j), nI (j + 1)))
      cases e : rs j with
      | none => rw [h.no hj e, if_pos (by decide), stdG_n e, show (0 : Int32) = nI 0 from rfl, nI_add, nI_1]
      | some n =>
        obtain ⟨g0, g1, _⟩ := h.row hj e
        rw [g1, if_neg (nI_pos (by omega)), stdG_s e, nI_1, nI_1]
    · intro s ⟨a1, a2⟩
      exact ⟨s.1, by rw [a1, if_pos (nI_le (Nat.le_refl _) (by omega))], a2⟩
  obtain ⟨t, e, rfl⟩ := key
  unfold F_X6_standing
  rw [q1, ob_some, aN_eq (by omega) q5, ob_some, e]
theorem M_std {σ : Mem} {ms n : Nat} {rs : Nat → Option Nat} {g : Int32 → Option (Int32 × Int32)} (h : ∀ r, r < n → (rs r = none → σ.1 ms r = -1) ∧ ∀ m, rs r = some m → m ≤ 60 ∧ σ.1 ms r = nI m) {r : Nat} (hr : r < n) {α : Type} {u v : α} : (if 0 ≤ σ.1 ms r then u else v) = if stdG rs r = 1 then u else v := by
  cases e : rs r with
  | none => rw [(h r hr).1 e, if_neg (by decide), stdG_n e, if_neg (by decide)]
  | some m =>
    obtain ⟨g0, g1⟩ := (h r hr).2 m e
    rw [g1, if_pos (nI_pos' (by omega)), stdG_s e, if_pos rfl]
section CNS
variable {σ : Mem} {B : Nat} {T : Tn}
theorem C_finesA (h : CT σ 18 T) (hw : wfT B T) : F_X7_fines 18 σ = some (nI (T 2)) := by
  have h6 := hw.1
  have key : ∃ t, F_X7_fines_4 18 σ ((0 : Int32), (0 : Int32)) = some t ∧ t = nI (T 2) := by
    unfold F_X7_fines_4
    refine lp_inv (fun j (s : Int32 × Int32) => s.2 = nI j ∧ s.1 = nI (sumT T j)) (T 0) ?_ ?_ _ ⟨rfl, rfl⟩
    · intro j s hj ⟨a1, a2⟩
      refine ⟨(nI (sumT T (j + 1)), nI (j + 1)), ?_, rfl, rfl⟩
      rw [a1, a2, C_isT h, ob_some, if_neg (nI_ge hj (by omega)), tR_6 tw_18, ob_some, tw_18.rd (o := 7) (by decide) (by decide) (by omega), ob_some, (h.2.2.2.2 j hj).2.2.2.2.2, nI_add, nI_1]
      rfl
    · intro s ⟨a1, a2⟩
      exact ⟨s.1, by rw [a1, C_isT h, ob_some, if_pos (nI_le (Nat.le_refl _) (by omega))], by rw [a2, hw.2.2.2.2.2]⟩
  obtain ⟨t, e, rfl⟩ := key
  unfold F_X7_fines
  exact e
theorem C_liesA (h : CT σ 18 T) (hw : wfT B T) : F_X7_liesInAll 18 σ = some (nI (sumF (fun j => T (27 + j)) (T 0))) := by
  have h6 := hw.1
  have key : ∃ t, F_X7_liesInAll_4 18 σ ((0 : Int32), (0 : Int32)) = some t ∧ t = nI (sumF (fun j => T (27 + j)) (T 0)) := by
    unfold F_X7_liesInAll_4
    refine lp_inv (fun j (s : Int32 × Int32) => s.2 = nI j ∧ s.1 = nI (sumF (fun j => T (27 + j)) j)) (T 0) ?_ ?_ _ ⟨rfl, rfl⟩
    · intro j s hj ⟨a1, a2⟩
      refine ⟨(nI (sumF (fun j => T (27 + j)) (j + 1)), nI (j + 1)), ?_, rfl, rfl⟩
      rw [a1, a2, C_isT h, ob_some, if_neg (nI_ge hj (by omega)), C_lies tw_18 h hw hj, ob_some, nI_add, nI_1]
      rfl
    · intro s ⟨a1, a2⟩
      exact ⟨s.1, by rw [a1, C_isT h, ob_some, if_pos (nI_le (Nat.le_refl _) (by omega))], a2⟩
  obtain ⟨t, e, rfl⟩ := key
  unfold F_X7_liesInAll
  exact e
theorem C_quilts (h : CT σ 18 T) (hw : wfT B T) : F_X7_quilts 18 σ = some (nI (sumF (qltG T) (T 0))) := by
  have h6 := hw.1
  have key : ∃ t, F_X7_quilts_4 18 σ ((0 : Int32), (0 : Int32)) = some t ∧ t = nI (sumF (qltG T) (T 0)) := by
    unfold F_X7_quilts_4
    refine lp_inv (fun j (s : Int32 × Int32) => s.2 = nI j ∧ s.1 = nI (sumF (qltG T) j)) (T 0) ?_ ?_ _ ⟨rfl, rfl⟩
    · intro j s hj ⟨a1, a2⟩
      refine ⟨(nI (sumF (qltG T) (j + 1)), nI (j + 1)), ?_, rfl, rfl⟩
      have b := (hw.2.2.1 j hj).1
      have ei : F_X8_isOfKind (nI (T (3 + j))) (2 : Int32) σ = some (if isK' (T (3 + j)) 2 then 1 else 0) := C_isOf b (by decide) (by decide)
      rw [a1, a2, C_isT h, ob_some, if_neg (nI_ge hj (by omega)), C_kind tw_18 h hw hj, ob_some, ei, ob_some]
      unfold F_X7_quilts_30
      show _ = some (Sum.inl (nI (sumF (qltG T) j + qltG T j), nI (j + 1)))
      unfold qltG
      by_cases q : T (3 + j) = 2 ∨ T (3 + j) = 4
      · rw [if_pos q, if_pos (show isK' (T (3 + j)) 2 by unfold isK'; omega), if_neg (by decide), nI_1, nI_1]
      · rw [if_neg q, if_neg (show ¬ isK' (T (3 + j)) 2 by unfold isK'; omega), if_pos rfl, show (0 : Int32) = nI 0 from rfl, nI_add, nI_1]
    · intro s ⟨a1, a2⟩
      exact ⟨s.1, by rw [a1, C_isT h, ob_some, if_pos (nI_le (Nat.le_refl _) (by omega))], a2⟩
  obtain ⟨t, e, rfl⟩ := key
  unfold F_X7_quilts
  exact e
theorem M_r0 (h : MT σ 0 T) : aI 135 (0 : Int32) σ = some (nI (T 0)) := (w_rd (j := 0) (by decide)).trans (by rw [show σ.1 135 0 = nI (T 0) from h 0 (by decide)])
theorem M_liesA (h : MT σ 0 T) (hw : wfT B T) : F_X9_countOf_84 134 σ ((0 : Int32), (0 : Int32)) = some (nI (sumF (fun j => T (27 + j)) (T 0))) := by
  have h6 := hw.1
  have key : ∃ t, F_X9_countOf_84 134 σ ((0 : Int32), (0 : Int32)) = some t ∧ t = nI (sumF (fun j => T (27 + j)) (T 0)) := by
    unfold F_X9_countOf_84
    refine lp_inv (fun j (s : Int32 × Int32) => s.2 = nI j ∧ s.1 = nI (sumF (fun j => T (27 + j)) j)) (T 0) ?_ ?_ _ ⟨rfl, rfl⟩
    · intro j s hj ⟨a1, a2⟩
      refine ⟨(nI (sumF (fun j => T (27 + j)) (j + 1)), nI (j + 1)), ?_, rfl, rfl⟩
      have v := h (27 + j) (by omega)
      rw [Nat.zero_add] at v
      rw [a1, a2, wR, ob_some, M_r0 h, ob_some, if_neg (nI_ge hj (by omega)), ob_some, show (27 : Int32) + nI j = nI (27 + j) from lx rfl, w_rd (by omega), ob_some, v, nI_add, nI_1]
      rfl
    · intro s ⟨a1, a2⟩
      exact ⟨s.1, by rw [a1, wR, ob_some, M_r0 h, ob_some, if_pos (nI_le (Nat.le_refl _) (by omega))], a2⟩
  obtain ⟨t, e, rfl⟩ := key
  exact e
theorem M_quilts (h : MT σ 0 T) (hw : wfT B T) : F_X9_countOf_149 134 σ ((0 : Int32), (0 : Int32)) = some (nI (sumF (qltG T) (T 0))) := by
  have h6 := hw.1
  have key : ∃ t, F_X9_countOf_149 134 σ ((0 : Int32), (0 : Int32)) = some t ∧ t = nI (sumF (qltG T) (T 0)) := by
    unfold F_X9_countOf_149
    refine lp_inv (fun j (s : Int32 × Int32) => s.2 = nI j ∧ s.1 = nI (sumF (qltG T) j)) (T 0) ?_ ?_ _ ⟨rfl, rfl⟩
    · intro j s hj ⟨a1, a2⟩
      refine ⟨(nI (sumF (qltG T) (j + 1)), nI (j + 1)), ?_, rfl, rfl⟩
      have b := (hw.2.2.1 j hj).1
      have v := h (3 + j) (by omega)
      rw [Nat.zero_add] at v
      have rv : aI 135 ((3 : Int32) + nI j) σ = some (nI (T (3 + j))) := by rw [show (3 : Int32) + nI j = nI (3 + j) from lx rfl, w_rd (by omega), v]
      have i2 := nI_eq (a := T (3 + j)) (b := 2) (by omega) (by decide)
      have i4 := nI_eq (a := T (3 + j)) (b := 4) (by omega) (by decide)
      have j2 : nI (T (3 + j)) = (2 : Int32) ↔ T (3 + j) = 2 := i2
      have j4 : nI (T (3 + j)) = (4 : Int32) ↔ T (3 + j) = 4 := i4
      rw [a1, a2, wR, ob_some, M_r0 h, ob_some, if_neg (nI_ge hj (by omega)), ob_some, rv, ob_some]
      unfold F_X9_countOf_184 F_X9_countOf_189
      show _ = some (Sum.inl (nI (sumF (qltG T) j + qltG T j), nI (j + 1)))
      unfold qltG
      by_cases q : T (3 + j) = 2
      · rw [if_pos (Or.inl q), if_pos (j2.mpr q), nI_1, nI_1]
      · rw [if_neg (fun z => q (j2.mp z)), ob_some, rv, ob_some]
        by_cases q4 : T (3 + j) = 4
        · rw [if_pos (Or.inr q4), if_pos (j4.mpr q4), nI_1, nI_1]
        · rw [if_neg (fun z => q4 (j4.mp z)), if_neg (fun z => z.elim q q4), show (0 : Int32) = nI 0 from rfl, nI_add, nI_1]
    · intro s ⟨a1, a2⟩
      exact ⟨s.1, by rw [a1, wR, ob_some, M_r0 h, ob_some, if_pos (nI_le (Nat.le_refl _) (by omega))], a2⟩
  obtain ⟨t, e, rfl⟩ := key
  exact e
end CNS
theorem std01 {rs : Nat → Option Nat} {r : Nat} : stdG rs r = 1 ∨ stdG rs r = 0 := by
  cases e : rs r with
  | none => exact Or.inr (stdG_n e)
  | some m => exact Or.inl (stdG_s e)
theorem M_rowsN {σ : Mem} {rs : Nat → Option Nat} (h : ∀ r, r < 6 → (rs r = none → σ.1 138 r = -1) ∧ ∀ m, rs r = some m → m ≤ 60 ∧ σ.1 138 r = nI m) : F_X9_countOf_201 134 σ ((0 : Int32), (0 : Int32)) = some (nI (sumF (stdG rs) 6)) := by
  have key : ∃ t, F_X9_countOf_201 134 σ ((0 : Int32), (0 : Int32)) = some t ∧ t = nI (sumF (stdG rs) 6) := by
    unfold F_X9_countOf_201
    refine lp_inv (fun j (s : Int32 × Int32) => s.2 = nI j ∧ s.1 = nI (sumF (stdG rs) j)) 6 ?_ ?_ _ ⟨rfl, rfl⟩
    · intro j s hj ⟨a1, a2⟩
      refine ⟨(nI (sumF (stdG rs) (j + 1)), nI (j + 1)), ?_, rfl, rfl⟩
      rw [a1, a2, if_neg (show ¬ (6 : Int32) ≤ nI j from nI_ge (b := 6) hj (by decide)), gR_134_4, ob_some, aI_eq sh_138 hj (by decide), ob_some, M_std (g := fun _ => none) h hj]
      unfold F_X9_countOf_222
      show _ = some (Sum.inl (nI (sumF (stdG rs) j + stdG rs j), nI (j + 1)))
      rcases std01 (rs := rs) (r := j) with q | q
      · rw [if_pos q, q, nI_1, nI_1]
      · rw [if_neg (by omega), q, show (0 : Int32) = nI 0 from rfl, nI_add, nI_1]
    · intro s ⟨a1, a2⟩
      exact ⟨s.1, by rw [a1, if_pos (show (6 : Int32) ≤ nI 6 by decide)], a2⟩
  obtain ⟨t, e, rfl⟩ := key
  exact e
theorem M_textsN {σ : Mem} {rs : Nat → Option Nat} (h : ∀ r, r < 4 → (rs r = none → σ.1 140 r = -1) ∧ ∀ m, rs r = some m → m ≤ 60 ∧ σ.1 140 r = nI m) : F_X9_countOf_234 134 σ ((0 : Int32), (0 : Int32)) = some (nI (sumF (stdG rs) 4)) := by
  have key : ∃ t, F_X9_countOf_234 134 σ ((0 : Int32), (0 : Int32)) = some t ∧ t = nI (sumF (stdG rs) 4) := by
    unfold F_X9_countOf_234
    refine lp_inv (fun j (s : Int32 × Int32) => s.2 = nI j ∧ s.1 = nI (sumF (stdG rs) j)) 4 ?_ ?_ _ ⟨rfl, rfl⟩
    · intro j s hj ⟨a1, a2⟩
      refine ⟨(nI (sumF (stdG rs) (j + 1)), nI (j + 1)), ?_, rfl, rfl⟩
      rw [a1, a2, if_neg (show ¬ (4 : Int32) ≤ nI j from nI_ge (b := 4) hj (by decide)), gR_134_6, ob_some, aI_eq sh_140 hj (by decide), ob_some, M_std (g := fun _ => none) h hj]
      unfold F_X9_countOf_254
      show _ = some (Sum.inl (nI (sumF (stdG rs) j + stdG rs j), nI (j + 1)))
      rcases std01 (rs := rs) (r := j) with q | q
      · rw [if_pos q, q, nI_1, nI_1]
      · rw [if_neg (by omega), q, show (0 : Int32) = nI 0 from rfl, nI_add, nI_1]
    · intro s ⟨a1, a2⟩
      exact ⟨s.1, by rw [a1, if_pos (show (4 : Int32) ≤ nI 4 by decide)], a2⟩
  obtain ⟨t, e, rfl⟩ := key
  exact e
theorem M_keptN {σ : Mem} {rs : Nat → Option Nat} (h : ∀ r, r < 3 → (rs r = none → σ.1 136 r = -1) ∧ ∀ m, rs r = some m → m ≤ 60 ∧ σ.1 136 r = nI m) : F_X9_countOf_266 134 σ ((0 : Int32), (0 : Int32)) = some (nI (sumF (stdG rs) 3)) := by
  have key : ∃ t, F_X9_countOf_266 134 σ ((0 : Int32), (0 : Int32)) = some t ∧ t = nI (sumF (stdG rs) 3) := by
    unfold F_X9_countOf_266
    refine lp_inv (fun j (s : Int32 × Int32) => s.2 = nI j ∧ s.1 = nI (sumF (stdG rs) j)) 3 ?_ ?_ _ ⟨rfl, rfl⟩
    · intro j s hj ⟨a1, a2⟩
      refine ⟨(nI (sumF (stdG rs) (j + 1)), nI (j + 1)), ?_, rfl, rfl⟩
      rw [a1, a2, if_neg (show ¬ (3 : Int32) ≤ nI j from nI_ge (b := 3) hj (by decide)), gR_134_2, ob_some, aI_eq sh_136 hj (by decide), ob_some, M_std (g := fun _ => none) h hj]
      unfold F_X9_countOf_286
      show _ = some (Sum.inl (nI (sumF (stdG rs) j + stdG rs j), nI (j + 1)))
      rcases std01 (rs := rs) (r := j) with q | q
      · rw [if_pos q, q, nI_1, nI_1]
      · rw [if_neg (by omega), q, show (0 : Int32) = nI 0 from rfl, nI_add, nI_1]
    · intro s ⟨a1, a2⟩
      exact ⟨s.1, by rw [a1, if_pos (show (3 : Int32) ≤ nI 3 by decide)], a2⟩
  obtain ⟨t, e, rfl⟩ := key
  exact e
end
section
def cntA (A : Ab) (f : Nat) : Nat :=
  if f = 0 then nowT A.2.2.2 0 else if f = 1 then nowT A.2.2.2 1 else if f = 2 then A.2.2.2.2.1 else if f = 3 then nowT A.2.2.2 2 else if f = 4 then sumF (fun j => nowT A.2.2.2 (27 + j)) (nowT A.2.2.2 0) else if f = 5 then dueN (nowT A.2.2.2) else if f = 6 then nowT A.2.2.2 (39 + nowT A.2.2.2 1 % 4) else if f = 7 then sumF (qltG (nowT A.2.2.2)) (nowT A.2.2.2 0) else if f = 8 then sumF (stdG A.1.1) 6 else if f = 9 then sumF (stdG A.2.1.1) 4 else sumF (stdG A.2.2.2.2.2.2.1) 3
theorem no_cold {D : De} (hD : okDe D) (h0 : nowT D 0 = 0) {m : Nat} (hm : m < 4) : nowT D (39 + m) = 0 := by
  have h1 := (now_wf hD).2
  have h2 := hD.2.2.2.2 (by omega)
  show runD D.1 D.2.2.1 D.2.1 (39 + m) = 0
  rw [h2.1]
  exact h2.2 m hm
theorem C_count {A : Ab} {σ : Mem} {f : Nat} (hA : okDe A.2.2.2) (h : RC A σ) (hf : f < 11) : F_X8_count 0 (nI f) σ = some (nI (cntA A f)) := by
  obtain ⟨hnw, hn0⟩ := now_wf hA
  have hnow := h.now
  have hm : nowT A.2.2.2 1 ≤ 100000 := Nat.le_trans hnw.2.1 (by decide)
  unfold F_X8_count
  have c : f = 0 ∨ f = 1 ∨ f = 2 ∨ f = 3 ∨ f = 4 ∨ f = 5 ∨ f = 6 ∨ f = 7 ∨ f = 8 ∨ f = 9 ∨ f = 10 := by omega
  rcases c with rfl | rfl | rfl | rfl | rfl | rfl | rfl | rfl | rfl | rfl | rfl
  · rw [if_pos (by decide), gR_0_4, ob_some, C_isT hnow, ob_some]; rfl
  · rw [if_neg (by decide), if_pos (by decide), gR_0_4, ob_some, tI_9 tw_18, hnow.2.1, ob_some]; rfl
  · rw [if_neg (by decide), if_neg (by decide), if_pos (by decide), gI_0_7, ob_some, h.dc]; rfl
  · rw [if_neg (by decide), if_neg (by decide), if_neg (by decide), if_pos (by decide), gR_0_4, ob_some, tC tw_18, ob_some, C_finesA hnow hnw, ob_some]; rfl
  · rw [if_neg (by decide), if_neg (by decide), if_neg (by decide), if_neg (by decide), if_pos (by decide), gR_0_4, ob_some, tC tw_18, ob_some, C_liesA hnow hnw, ob_some]; rfl
  · rw [if_neg (by decide), if_neg (by decide), if_neg (by decide), if_neg (by decide), if_neg (by decide), if_pos (by decide), gR_0_4, ob_some, tC tw_18, ob_some, C_bits tw_18 hnow hnw, ob_some]; rfl
  · rw [if_neg (by decide), if_neg (by decide), if_neg (by decide), if_neg (by decide), if_neg (by decide), if_neg (by decide), if_pos (by decide), gR_0_4, ob_some, ob_some, tI_9 tw_18, hnow.2.1, ob_some, tC tw_18, ob_some, C_cold tw_18 hnow hm, ob_some]; rfl
  · rw [if_neg (by decide), if_neg (by decide), if_neg (by decide), if_neg (by decide), if_neg (by decide), if_neg (by decide), if_neg (by decide), if_pos (by decide), gR_0_4, ob_some, tC tw_18, ob_some, C_quilts hnow hnw, ob_some]; rfl
  · rw [if_neg (by decide), if_neg (by decide), if_neg (by decide), if_neg (by decide), if_neg (by decide), if_neg (by decide), if_neg (by decide), if_neg (by decide), if_pos (by decide), gR_0_0, ob_some, ck_1, ob_some, C_standing sf_1 h.1, ob_some]; rfl
  · rw [if_neg (by decide), if_neg (by decide), if_neg (by decide), if_neg (by decide), if_neg (by decide), if_neg (by decide), if_neg (by decide), if_neg (by decide), if_neg (by decide), if_pos (by decide), gR_0_1, ob_some, ck_4, ob_some, C_standing sf_4 h.2.1, ob_some]; rfl
  · rw [if_neg (by decide), if_neg (by decide), if_neg (by decide), if_neg (by decide), if_neg (by decide), if_neg (by decide), if_neg (by decide), if_neg (by decide), if_neg (by decide), if_neg (by decide), if_pos (by decide), gR_0_2, ob_some, ck_7, ob_some, C_standing sf_7 h.2.2.2.2.2.2.2, ob_some]; rfl
theorem M_countOf {A : Ab} {σ : Mem} {f : Nat} (hA : okDe A.2.2.2) (h : RM A σ) (hf : f < 11) : F_X9_countOf 134 (nI f) σ = some (nI (cntA A f)) := by
  obtain ⟨hnw, hn0⟩ := now_wf hA
  have hnow := h.now
  have hm : nowT A.2.2.2 1 ≤ 100000 := Nat.le_trans hnw.2.1 (by decide)
  have r1 : aI 135 (1 : Int32) σ = some (nI (nowT A.2.2.2 1)) := (w_rd (j := 1) (by decide)).trans (by rw [show σ.1 135 1 = _ from hnow 1 (by decide)])
  have r2 : aI 135 (2 : Int32) σ = some (nI (nowT A.2.2.2 2)) := (w_rd (j := 2) (by decide)).trans (by rw [show σ.1 135 2 = _ from hnow 2 (by decide)])
  unfold F_X9_countOf
  have c : f = 0 ∨ f = 1 ∨ f = 2 ∨ f = 3 ∨ f = 4 ∨ f = 5 ∨ f = 6 ∨ f = 7 ∨ f = 8 ∨ f = 9 ∨ f = 10 := by omega
  rcases c with rfl | rfl | rfl | rfl | rfl | rfl | rfl | rfl | rfl | rfl | rfl
  · rw [if_pos (by decide), wR, ob_some, M_r0 hnow, ob_some]; rfl
  · rw [if_neg (by decide), if_pos (by decide), wR, ob_some, r1, ob_some]; rfl
  · rw [if_neg (by decide), if_neg (by decide), if_pos (by decide), gI_134_1, ob_some, h.dc]; rfl
  · rw [if_neg (by decide), if_neg (by decide), if_neg (by decide), if_pos (by decide), wR, ob_some, r2, ob_some]; rfl
  · rw [if_neg (by decide), if_neg (by decide), if_neg (by decide), if_neg (by decide), if_pos (by decide), M_liesA hnow hnw]; rfl
  · rw [if_neg (by decide), if_neg (by decide), if_neg (by decide), if_neg (by decide), if_neg (by decide), if_pos (by decide), M_dueNow hnow hnw, ob_some]; rfl
  · rw [if_neg (by decide), if_neg (by decide), if_neg (by decide), if_neg (by decide), if_neg (by decide), if_neg (by decide), if_pos (by decide), M_isTown hnow hnw.1, ob_some]
    show _ = some (nI (nowT A.2.2.2 (39 + nowT A.2.2.2 1 % 4)))
    by_cases z : nowT A.2.2.2 0 = 0
    · rw [if_pos z, if_pos rfl, no_cold hA z (Nat.mod_lt _ (by decide))]; rfl
    · rw [if_neg z, if_neg (by decide), wR, ob_some, ob_some, r1, ob_some, rem4 hm, iz_39, w_rd (by omega), ob_some, hnow.col _ (Nat.mod_lt _ (by decide))]
  · rw [if_neg (by decide), if_neg (by decide), if_neg (by decide), if_neg (by decide), if_neg (by decide), if_neg (by decide), if_neg (by decide), if_pos (by decide), M_quilts hnow hnw]; rfl
  · rw [if_neg (by decide), if_neg (by decide), if_neg (by decide), if_neg (by decide), if_neg (by decide), if_neg (by decide), if_neg (by decide), if_neg (by decide), if_pos (by decide), M_rowsN (fun r hr => ⟨fun e => h.1.no hr e, fun m e => ⟨by have := (h.1.row hr e).1; omega, (h.1.row hr e).2.1⟩⟩)]; rfl
  · rw [if_neg (by decide), if_neg (by decide), if_neg (by decide), if_neg (by decide), if_neg (by decide), if_neg (by decide), if_neg (by decide), if_neg (by decide), if_neg (by decide), if_pos (by decide), M_textsN (fun r hr => ⟨fun e => h.2.1.no hr e, fun m e => ⟨(h.2.1.row hr e).1, (h.2.1.row hr e).2.1⟩⟩)]; rfl
  · rw [if_neg (by decide), if_neg (by decide), if_neg (by decide), if_neg (by decide), if_neg (by decide), if_neg (by decide), if_neg (by decide), if_neg (by decide), if_neg (by decide), if_neg (by decide), M_keptN (rs := A.2.2.2.2.2.2.1) (fun r hr => by
      have q := h.2.2.2.2.2.2 r hr
      refine ⟨fun e => ?_, fun m e => ?_⟩
      · rw [e] at q; exact q
      · rw [e] at q
        exact ⟨by have := (hA.2.2.2.1 r m e).1; omega, q.1⟩)]; rfl
theorem sim_count (x : Int32) : SimP (F_X8_count 0 x) (F_X9_count 134 x) := by
  intro σ ⟨⟨A, hA, hC, hM⟩, _⟩
  have d0 : (0 : Int64).toInt = 0 := rfl
  have d10 : (10 : Int64).toInt = 10 := rfl
  by_cases hx : 0 ≤ x.toInt ∧ x.toInt ≤ 10
  · obtain ⟨f, hf, rfl⟩ := nat_of hx.1
    refine ⟨nI (cntA A f), C_count hA hC (by omega), ?_⟩
    unfold F_X9_count
    rw [in_eq, wide, d0, d10, if_pos hx, ob_some, if_neg (by decide), M_countOf hA hM (by omega), ob_some]
  · refine ⟨-1, ?_, ?_⟩
    · have ne : ∀ f : Nat, f < 11 → ¬ x = nI f := fun f hf e => by
        rw [e, nI_toInt (by omega)] at hx
        omega
      unfold F_X8_count
      rw [if_neg (show ¬ x = (0 : Int32) from ne 0 (by decide)), if_neg (show ¬ x = (1 : Int32) from ne 1 (by decide)), if_neg (show ¬ x = (2 : Int32) from ne 2 (by decide)), if_neg (show ¬ x = (3 : Int32) from ne 3 (by decide)), if_neg (show ¬ x = (4 : Int32) from ne 4 (by decide)), if_neg (show ¬ x = (5 : Int32) from ne 5 (by decide)), if_neg (show ¬ x = (6 : Int32) from ne 6 (by decide)), if_neg (show ¬ x = (7 : Int32) from ne 7 (by decide)), if_neg (show ¬ x = (8 : Int32) from ne 8 (by decide)), if_neg (show ¬ x = (9 : Int32) from ne 9 (by decide)), if_neg (show ¬ x = (10 : Int32) from ne 10 (by decide))]
    · unfold F_X9_count
      rw [in_eq, wide, d0, d10, if_neg hx, ob_some, if_pos rfl]
end
section
/-! ===== digest ===== -/
def mixL (a : Int64) (x : Int32) : Int64 := ((31 : Int64) * a) + x.toInt64
def foldL (g : Nat → Int32) (a : Int64) : Nat → Int64
  | 0 => a
  | n + 1 => mixL (foldL g a n) (g n)
def sizeV (rs : Nat → Option Nat) (r : Nat) : Int32 := match rs r with
  | none => -1
  | some n => nI n
def rowN (rs : Nat → Option Nat) (r : Nat) : Nat := match rs r with
  | none => 0
  | some n => n
theorem sizeV_n {rs : Nat → Option Nat} {r : Nat} (h : rs r = none) : sizeV rs r = -1 := by unfold sizeV; rw [h]
theorem sizeV_s {rs : Nat → Option Nat} {r n : Nat} (h : rs r = some n) : sizeV rs r = nI n := by unfold sizeV; rw [h]
theorem rowN_n {rs : Nat → Option Nat} {r : Nat} (h : rs r = none) : rowN rs r = 0 := by unfold rowN; rw [h]
theorem rowN_s {rs : Nat → Option Nat} {r n : Nat} (h : rs r = some n) : rowN rs r = n := by unfold rowN; rw [h]
def shF (rs : Nat → Option Nat) (rv : Nat → Nat → Int32) (a : Int64) : Nat → Int64
  | 0 => a
  | r + 1 => foldL (rv r) (mixL (shF rs rv a r) (sizeV rs r)) (rowN rs r)
def bedF (T : Tn) (a : Int64) : Nat → Int64
  | 0 => a
  | j + 1 => foldL (fun f => nI (bedV T j f)) (bedF T a j) 8
theorem C_sizeV {σ : Mem} {b many room r : Nat} {rs : Nat → Option Nat} {rv : Nat → Nat → Int32} (hf : Sf b many room) (h : CSh σ b many room rs rv) (hr : r < many) : F_X6_size b (nI r) σ = some (sizeV rs r) := by
  rw [S_size hf hr]
  cases e : rs r with
  | none => rw [h.no hr e, sizeV_n e]
  | some n => rw [(h.row hr e).2.1, sizeV_s e]
theorem C_dRow {σ : Mem} {b many room r : Nat} {a : Int64} {rs : Nat → Option Nat} {rv : Nat → Nat → Int32} (hf : Sf b many room) (h : CSh σ b many room rs rv) (hr : r < many) : F_X6_digestOn_27 b (nI r) σ (a, (0 : Int32)) = some (.inl (foldL (rv r) a (rowN rs r), nI (r + 1))) := by
  obtain ⟨q1, q2, q3, q4, q5, q6, q7, q8, q9, q10, q11⟩ := hf
  have hf : Sf b many room := ⟨q1, q2, q3, q4, q5, q6, q7, q8, q9, q10, q11⟩
  cases e : rs r with
  | none =>
    unfold F_X6_digestOn_27
    apply lp_out
    dsimp only
    rw [C_sizeV hf h hr, ob_some, sizeV_n e, if_pos (by decide), rowN_n e, nI_1]
    rfl
  | some n =>
    obtain ⟨g0, g1, g2⟩ := h.row hr e
    have key : ∃ t, F_X6_digestOn_27 b (nI r) σ (a, (0 : Int32)) = some t ∧ t = .inl (foldL (rv r) a n, nI (r + 1)) := by
      unfold F_X6_digestOn_27
      refine lp_inv (fun j (s : Int64 × Int32) => s.2 = nI j ∧ s.1 = foldL (rv r) a j) n ?_ ?_ _ ⟨rfl, rfl⟩
      · intro j s hj ⟨a1, a2⟩
        refine ⟨(foldL (rv r) a (j + 1), nI (j + 1)), ?_, rfl, rfl⟩
        rw [a1, a2, C_sizeV hf h hr, ob_some, sizeV_s e, if_neg (nI_ge hj (by omega)), S_get hf hr h.1 g1 g0 hj, ob_some, g2 j hj, nI_1]
        rfl
      · intro s ⟨a1, a2⟩
        exact ⟨_, by rw [a1, C_sizeV hf h hr, ob_some, sizeV_s e, if_pos (nI_le (Nat.le_refl _) (by omega)), a2, nI_1], rfl⟩
    obtain ⟨t, e2, rfl⟩ := key
    rw [e2, rowN_s e]
theorem C_dShelf {σ : Mem} {b many room : Nat} {a : Int64} {rs : Nat → Option Nat} {rv : Nat → Nat → Int32} (hf : Sf b many room) (h : CSh σ b many room rs rv) : F_X6_digestOn b a σ = some (shF rs rv a many) := by
  obtain ⟨q1, q2, q3, q4, q5, q6, q7, q8, q9, q10, q11⟩ := hf
  have hf : Sf b many room := ⟨q1, q2, q3, q4, q5, q6, q7, q8, q9, q10, q11⟩
  have key : ∃ t, F_X6_digestOn_2 b σ (a, (0 : Int32)) = some t ∧ t = shF rs rv a many := by
    unfold F_X6_digestOn_2
    refine lp_inv (fun j (s : Int64 × Int32) => s.2 = nI j ∧ s.1 = shF rs rv a j) many ?_ ?_ _ ⟨rfl, rfl⟩
    · intro j s hj ⟨a1, a2⟩
      refine ⟨(shF rs rv a (j + 1), nI (j + 1)), ?_, rfl, rfl⟩
      rw [a1, a2, q1, ob_some, aN_eq (by omega) q5, ob_some, if_neg (nI_ge hj (by omega)), C_sizeV hf h hj, ob_some, C_dRow hf h hj]
      rfl
    · intro s ⟨a1, a2⟩
      exact ⟨s.1, by rw [a1, q1, ob_some, aN_eq (by omega) q5, ob_some, if_pos (nI_le (Nat.le_refl _) (by omega))], a2⟩
  obtain ⟨t, e, rfl⟩ := key
  unfold F_X6_digestOn
  exact e
/-- after beds: kept sizes, rows, texts -/
def tailF (A : Ab) (a : Int64) : Int64 := shF A.2.1.1 A.2.1.2 (shF A.1.1 A.1.2 (foldL (sizeV A.2.2.2.2.2.2.1) a 3) 6) 4
def digF (A : Ab) : Int64 := tailF A (bedF (nowT A.2.2.2) (foldL (fun f => nI (cntA A f)) 17 11) (nowT A.2.2.2 0))
theorem C_digest {A : Ab} {σ : Mem} (hA : okDe A.2.2.2) (h : RC A σ) : F_X8_digest 0 σ = some (digF A) := by
  obtain ⟨hnw, hn0⟩ := now_wf hA
  have hnow := h.now
  have h6 := hnw.1
  have k86 : ∀ a, F_X8_digest_86 0 σ (a, (0 : Int32)) = some (tailF A a) := by
    intro a
    have key : ∃ t, F_X8_digest_86 0 σ (a, (0 : Int32)) = some t ∧ t = tailF A a := by
      unfold F_X8_digest_86
      refine lp_inv (fun j (s : Int64 × Int32) => s.2 = nI j ∧ s.1 = foldL (sizeV A.2.2.2.2.2.2.1) a j) 3 ?_ ?_ _ ⟨rfl, rfl⟩
      · intro j s hj ⟨a1, a2⟩
        refine ⟨(foldL (sizeV A.2.2.2.2.2.2.1) a (j + 1), nI (j + 1)), ?_, rfl, rfl⟩
        rw [a1, a2, if_neg (show ¬ (3 : Int32) ≤ nI j from nI_ge (b := 3) hj (by decide)), gR_0_2, ob_some, ck_7, ob_some, C_sizeV sf_7 h.2.2.2.2.2.2.2 hj, ob_some, nI_1]
        rfl
      · intro s ⟨a1, a2⟩
        exact ⟨_, by rw [a1, a2, if_pos (show (3 : Int32) ≤ nI 3 by decide), gR_0_1, ob_some, gR_0_0, ob_some, ck_1, ob_some, C_dShelf sf_1 h.1, ob_some, ck_4, ob_some, C_dShelf sf_4 h.2.1, ob_some]; rfl, rfl⟩
    obtain ⟨t, e, rfl⟩ := key
    exact e
  have k47 : ∀ a i, i < nowT A.2.2.2 0 → F_X8_digest_47 0 (nI i) σ (a, (0 : Int32)) = some (.inl (foldL (fun f => nI (bedV (nowT A.2.2.2) i f)) a 8, nI (i + 1))) := by
    intro a i hi
    have key : ∃ t, F_X8_digest_47 0 (nI i) σ (a, (0 : Int32)) = some t ∧ t = .inl (foldL (fun f => nI (bedV (nowT A.2.2.2) i f)) a 8, nI (i + 1)) := by
      unfold F_X8_digest_47
      refine lp_inv (fun j (s : Int64 × Int32) => s.2 = nI j ∧ s.1 = foldL (fun f => nI (bedV (nowT A.2.2.2) i f)) a j) 8 ?_ ?_ _ ⟨rfl, rfl⟩
      · intro j s hj ⟨a1, a2⟩
        refine ⟨(foldL (fun f => nI (bedV (nowT A.2.2.2) i f)) a (j + 1), nI (j + 1)), ?_, rfl, rfl⟩
        rw [a1, a2, if_neg (show ¬ (8 : Int32) ≤ nI j from nI_ge (b := 8) hj (by decide)), gR_0_4, ob_some, tC tw_18, ob_some, C_about tw_18 hnow hnw (by decide) hi hj, ob_some, nI_1]
        rfl
      · intro s ⟨a1, a2⟩
        exact ⟨_, by rw [a1, a2, if_pos (show (8 : Int32) ≤ nI 8 by decide), nI_1], rfl⟩
    obtain ⟨t, e, rfl⟩ := key
    exact e
  have k33 : ∀ a, F_X8_digest_33 0 σ (a, (0 : Int32)) = some (tailF A (bedF (nowT A.2.2.2) a (nowT A.2.2.2 0))) := by
    intro a
    have key : ∃ t, F_X8_digest_33 0 σ (a, (0 : Int32)) = some t ∧ t = tailF A (bedF (nowT A.2.2.2) a (nowT A.2.2.2 0)) := by
      unfold F_X8_digest_33
      refine lp_inv (fun j (s : Int64 × Int32) => s.2 = nI j ∧ s.1 = bedF (nowT A.2.2.2) a j) (nowT A.2.2.2 0) ?_ ?_ _ ⟨rfl, rfl⟩
      · intro j s hj ⟨a1, a2⟩
        refine ⟨(bedF (nowT A.2.2.2) a (j + 1), nI (j + 1)), ?_, rfl, rfl⟩
        rw [a1, a2, gR_0_4, ob_some, C_isT hnow, ob_some, if_neg (nI_ge hj (by omega)), k47 _ j hj]
        rfl
      · intro s ⟨a1, a2⟩
        exact ⟨_, by rw [a1, a2, gR_0_4, ob_some, C_isT hnow, ob_some, if_pos (nI_le (Nat.le_refl _) (by omega)), k86]; rfl, rfl⟩
    obtain ⟨t, e, rfl⟩ := key
    exact e
  have key : ∃ t, F_X8_digest_6 0 σ ((17 : Int64), (0 : Int32)) = some t ∧ t = digF A := by
    unfold F_X8_digest_6
    refine lp_inv (fun j (s : Int64 × Int32) => s.2 = nI j ∧ s.1 = foldL (fun f => nI (cntA A f)) 17 j) 11 ?_ ?_ _ ⟨rfl, rfl⟩
    · intro j s hj ⟨a1, a2⟩
      refine ⟨(foldL (fun f => nI (cntA A f)) 17 (j + 1), nI (j + 1)), ?_, rfl, rfl⟩
      rw [a1, a2, if_neg (show ¬ (11 : Int32) ≤ nI j from nI_ge (b := 11) hj (by decide)), C_count hA h hj, ob_some, nI_1]
      rfl
    · intro s ⟨a1, a2⟩
      exact ⟨_, by rw [a1, a2, if_pos (show (11 : Int32) ≤ nI 11 by decide), k33]; rfl, rfl⟩
  obtain ⟨t, e, rfl⟩ := key
  unfold F_X8_digest
  exact e
end
section
/-! ===== digest: the reference's side ===== -/
def gS (σ : Mem) (a : Int64) : Mem := setL σ 134 16 a
theorem gS_1 (σ : Mem) (a : Int64) : (gS σ a).1 = σ.1 := rfl
theorem gS_2 (σ : Mem) (a : Int64) : (gS σ a).2 134 16 = a := by unfold gS; rw [setL_2, if_pos ⟨rfl, rfl⟩]
theorem gS_set (σ : Mem) (a b : Int64) : setL (gS σ a) 134 16 b = gS σ b := by
  unfold gS setL
  refine Prod.ext rfl ?_
  funext x y
  dsimp only
  by_cases z : x = 134 ∧ y = 16
  · rw [if_pos z, if_pos z]
  · rw [if_neg z, if_neg z, if_neg z]
theorem M_mix {σ : Mem} {a : Int64} {x : Int32} : F_X9_mix 134 x.toInt64 (gS σ a) = some (gS σ (mixL a x)) := by
  unfold F_X9_mix
  rw [gL_134_16, ob_some, pL_134_16, ob_some, gS_2, gS_set]
  rfl
theorem gS_n {σ : Mem} {a : Int64} : FrN σ (gS σ a) := ⟨fun _ _ _ => rfl, fun x y q => if_neg (fun z => q.elim (fun k => k z.1) (fun k => k z.2))⟩
theorem M_szV {σ : Mem} {ms mp many room r : Nat} {rs : Nat → Option Nat} {rv : Nat → Nat → Int32} (h : MSh σ ms mp many room rs rv) (hr : r < many) : σ.1 ms r = sizeV rs r := by
  cases e : rs r with
  | none => rw [h.no hr e, sizeV_n e]
  | some n => rw [(h.row hr e).2.1, sizeV_s e]
theorem M_dRow {σ : Mem} {a : Int64} {r : Nat} {rs : Nat → Option Nat} {rv : Nat → Nat → Int32} (h : MSh σ 138 137 6 40 rs rv) (hr : r < 6) : F_X9_digest_119 134 (nI r) ((0 : Int32), gS σ a) = some (.inl (nI (r + 1), gS σ (foldL (rv r) a (rowN rs r)))) := by
  have hv : ∀ b, aI 138 (nI r) (gS σ b) = some (sizeV rs r) := fun b => by rw [aI_eq sh_138 hr (by decide), gS_1, M_szV h hr]
  cases e : rs r with
  | none =>
    unfold F_X9_digest_119
    apply lp_out
    dsimp only
    rw [gR_134_4, ob_some, hv, ob_some, sizeV_n e, if_pos (by decide), rowN_n e, nI_1]
    rfl
  | some n =>
    obtain ⟨g0, g1, g2⟩ := h.row hr e
    have key : ∃ t, F_X9_digest_119 134 (nI r) ((0 : Int32), gS σ a) = some t ∧ t = .inl (nI (r + 1), gS σ (foldL (rv r) a n)) := by
      unfold F_X9_digest_119
      refine lp_inv (fun j (s : Int32 × Mem) => s.1 = nI j ∧ s.2 = gS σ (foldL (rv r) a j)) n ?_ ?_ _ ⟨rfl, rfl⟩
      · intro j s hj ⟨a1, a2⟩
        refine ⟨(nI (j + 1), gS σ (foldL (rv r) a (j + 1))), ?_, rfl, rfl⟩
        rw [a1, a2, gR_134_4, ob_some, hv, ob_some, sizeV_s e, if_neg (nI_ge hj (by omega)), gR_134_3, ob_some, ix40, aI_eq sh_137 (by omega) (by decide), ob_some, gS_1, g2 j hj, M_mix, ob_some, nI_1]
        rfl
      · intro s ⟨a1, a2⟩
        exact ⟨_, by rw [a1, a2, gR_134_4, ob_some, hv, ob_some, sizeV_s e, if_pos (nI_le (Nat.le_refl _) (by omega)), nI_1], rfl⟩
    obtain ⟨t, e2, rfl⟩ := key
    rw [e2, rowN_s e]
theorem M_dText {σ : Mem} {a : Int64} {r : Nat} {rs : Nat → Option Nat} {rv : Nat → Nat → Int32} (h : MSh σ 140 139 4 60 rs rv) (hr : r < 4) : F_X9_digest_177 134 (nI r) ((0 : Int32), gS σ a) = some (.inl (nI (r + 1), gS σ (foldL (rv r) a (rowN rs r)))) := by
  have hv : ∀ b, aI 140 (nI r) (gS σ b) = some (sizeV rs r) := fun b => by rw [aI_eq sh_140 hr (by decide), gS_1, M_szV h hr]
  cases e : rs r with
  | none =>
    unfold F_X9_digest_177
    apply lp_out
    dsimp only
    rw [gR_134_6, ob_some, hv, ob_some, sizeV_n e, if_pos (by decide), rowN_n e, nI_1]
    rfl
  | some n =>
    obtain ⟨g0, g1, g2⟩ := h.row hr e
    have key : ∃ t, F_X9_digest_177 134 (nI r) ((0 : Int32), gS σ a) = some t ∧ t = .inl (nI (r + 1), gS σ (foldL (rv r) a n)) := by
      unfold F_X9_digest_177
      refine lp_inv (fun j (s : Int32 × Mem) => s.1 = nI j ∧ s.2 = gS σ (foldL (rv r) a j)) n ?_ ?_ _ ⟨rfl, rfl⟩
      · intro j s hj ⟨a1, a2⟩
        refine ⟨(nI (j + 1), gS σ (foldL (rv r) a (j + 1))), ?_, rfl, rfl⟩
        rw [a1, a2, gR_134_6, ob_some, hv, ob_some, sizeV_s e, if_neg (nI_ge hj (by omega)), gR_134_5, ob_some, ix60, aI_eq sh_139 (by omega) (by decide), ob_some, gS_1, g2 j hj, M_mix, ob_some, nI_1]
        rfl
      · intro s ⟨a1, a2⟩
        exact ⟨_, by rw [a1, a2, gR_134_6, ob_some, hv, ob_some, sizeV_s e, if_pos (nI_le (Nat.le_refl _) (by omega)), nI_1], rfl⟩
    obtain ⟨t, e2, rfl⟩ := key
    rw [e2, rowN_s e]
theorem M_digest {A : Ab} {σ : Mem} (hA : okDe A.2.2.2) (h : RM A σ) : F_X9_digest 134 σ = some (digF A, gS σ (digF A)) := by
  obtain ⟨hnw, hn0⟩ := now_wf hA
  have hnow := h.now
  have h6 := hnw.1
  have hG : ∀ a, RM A (gS σ a) := fun a => (h.side hA gS_n).1
  have kText : ∀ a, F_X9_digest_159 134 ((0 : Int32), gS σ a) = some (shF A.2.1.1 A.2.1.2 a 4, gS σ (shF A.2.1.1 A.2.1.2 a 4)) := by
    intro a
    have key : ∃ t, F_X9_digest_159 134 ((0 : Int32), gS σ a) = some t ∧ t = (shF A.2.1.1 A.2.1.2 a 4, gS σ (shF A.2.1.1 A.2.1.2 a 4)) := by
      unfold F_X9_digest_159
      refine lp_inv (fun j (s : Int32 × Mem) => s.1 = nI j ∧ s.2 = gS σ (shF A.2.1.1 A.2.1.2 a j)) 4 ?_ ?_ _ ⟨rfl, rfl⟩
      · intro j s hj ⟨a1, a2⟩
        refine ⟨(nI (j + 1), gS σ (shF A.2.1.1 A.2.1.2 a (j + 1))), ?_, rfl, rfl⟩
        rw [a1, a2, if_neg (show ¬ (4 : Int32) ≤ nI j from nI_ge (b := 4) hj (by decide)), gR_134_6, ob_some, aI_eq sh_140 hj (by decide), ob_some, gS_1, M_szV h.2.1 hj, M_mix, ob_some, M_dText h.2.1 hj]
        rfl
      · intro s ⟨a1, a2⟩
        exact ⟨_, by rw [a1, a2, if_pos (show (4 : Int32) ≤ nI 4 by decide), gL_134_16, ob_some, gS_2], rfl⟩
    obtain ⟨t, e, rfl⟩ := key
    exact e
  have kRow : ∀ a, F_X9_digest_100 134 ((0 : Int32), gS σ a) = some (shF A.2.1.1 A.2.1.2 (shF A.1.1 A.1.2 a 6) 4, gS σ (shF A.2.1.1 A.2.1.2 (shF A.1.1 A.1.2 a 6) 4)) := by
    intro a
    have key : ∃ t, F_X9_digest_100 134 ((0 : Int32), gS σ a) = some t ∧ t = (shF A.2.1.1 A.2.1.2 (shF A.1.1 A.1.2 a 6) 4, gS σ (shF A.2.1.1 A.2.1.2 (shF A.1.1 A.1.2 a 6) 4)) := by
      unfold F_X9_digest_100
      refine lp_inv (fun j (s : Int32 × Mem) => s.1 = nI j ∧ s.2 = gS σ (shF A.1.1 A.1.2 a j)) 6 ?_ ?_ _ ⟨rfl, rfl⟩
      · intro j s hj ⟨a1, a2⟩
        refine ⟨(nI (j + 1), gS σ (shF A.1.1 A.1.2 a (j + 1))), ?_, rfl, rfl⟩
        rw [a1, a2, if_neg (show ¬ (6 : Int32) ≤ nI j from nI_ge (b := 6) hj (by decide)), gR_134_4, ob_some, aI_eq sh_138 hj (by decide), ob_some, gS_1, M_szV h.1 hj, M_mix, ob_some, M_dRow h.1 hj]
        rfl
      · intro s ⟨a1, a2⟩
        exact ⟨_, by rw [a1, a2, if_pos (show (6 : Int32) ≤ nI 6 by decide), kText]; rfl, rfl⟩
    obtain ⟨t, e, rfl⟩ := key
    exact e
  have kKept : ∀ a, F_X9_digest_76 134 ((0 : Int32), gS σ a) = some (tailF A a, gS σ (tailF A a)) := by
    intro a
    have key : ∃ t, F_X9_digest_76 134 ((0 : Int32), gS σ a) = some t ∧ t = (tailF A a, gS σ (tailF A a)) := by
      unfold F_X9_digest_76
      refine lp_inv (fun j (s : Int32 × Mem) => s.1 = nI j ∧ s.2 = gS σ (foldL (sizeV A.2.2.2.2.2.2.1) a j)) 3 ?_ ?_ _ ⟨rfl, rfl⟩
      · intro j s hj ⟨a1, a2⟩
        have q := h.2.2.2.2.2.2 j hj
        have hz : σ.1 136 j = sizeV A.2.2.2.2.2.2.1 j := by
          cases e : A.2.2.2.2.2.2.1 j with
          | none => rw [e] at q; rw [sizeV_n e]; exact q
          | some n => rw [e] at q; rw [sizeV_s e]; exact q.1
        refine ⟨(nI (j + 1), gS σ (foldL (sizeV A.2.2.2.2.2.2.1) a (j + 1))), ?_, rfl, rfl⟩
        rw [a1, a2, if_neg (show ¬ (3 : Int32) ≤ nI j from nI_ge (b := 3) hj (by decide)), gR_134_2, ob_some, aI_eq sh_136 hj (by decide), ob_some, gS_1, hz, M_mix, ob_some, nI_1]
        rfl
      · intro s ⟨a1, a2⟩
        exact ⟨_, by rw [a1, a2, if_pos (show (3 : Int32) ≤ nI 3 by decide), kRow]; rfl, rfl⟩
    obtain ⟨t, e, rfl⟩ := key
    exact e
  have kBed : ∀ a i, i < nowT A.2.2.2 0 → F_X9_digest_45 134 (nI i) ((0 : Int32), gS σ a) = some (.inl (nI (i + 1), gS σ (foldL (fun f => nI (bedV (nowT A.2.2.2) i f)) a 8))) := by
    intro a i hi
    have key : ∃ t, F_X9_digest_45 134 (nI i) ((0 : Int32), gS σ a) = some t ∧ t = .inl (nI (i + 1), gS σ (foldL (fun f => nI (bedV (nowT A.2.2.2) i f)) a 8)) := by
      unfold F_X9_digest_45
      refine lp_inv (fun j (s : Int32 × Mem) => s.1 = nI j ∧ s.2 = gS σ (foldL (fun f => nI (bedV (nowT A.2.2.2) i f)) a j)) 8 ?_ ?_ _ ⟨rfl, rfl⟩
      · intro j s hj ⟨a1, a2⟩
        refine ⟨(nI (j + 1), gS σ (foldL (fun f => nI (bedV (nowT A.2.2.2) i f)) a (j + 1))), ?_, rfl, rfl⟩
        rw [a1, a2, if_neg (show ¬ (8 : Int32) ≤ nI j from nI_ge (b := 8) hj (by decide)), M_about (hG _).now hnw (by decide) hi hj, ob_some, M_mix, ob_some, nI_1]
        rfl
      · intro s ⟨a1, a2⟩
        exact ⟨_, by rw [a1, a2, if_pos (show (8 : Int32) ≤ nI 8 by decide), nI_1], rfl⟩
    obtain ⟨t, e, rfl⟩ := key
    exact e
  have kBeds : ∀ a, F_X9_digest_33 134 ((0 : Int32), gS σ a) = some (tailF A (bedF (nowT A.2.2.2) a (nowT A.2.2.2 0)), gS σ (tailF A (bedF (nowT A.2.2.2) a (nowT A.2.2.2 0)))) := by
    intro a
    have key : ∃ t, F_X9_digest_33 134 ((0 : Int32), gS σ a) = some t ∧ t = (tailF A (bedF (nowT A.2.2.2) a (nowT A.2.2.2 0)), gS σ (tailF A (bedF (nowT A.2.2.2) a (nowT A.2.2.2 0)))) := by
      unfold F_X9_digest_33
      refine lp_inv (fun j (s : Int32 × Mem) => s.1 = nI j ∧ s.2 = gS σ (bedF (nowT A.2.2.2) a j)) (nowT A.2.2.2 0) ?_ ?_ _ ⟨rfl, rfl⟩
      · intro j s hj ⟨a1, a2⟩
        refine ⟨(nI (j + 1), gS σ (bedF (nowT A.2.2.2) a (j + 1))), ?_, rfl, rfl⟩
        rw [a1, a2, wR, ob_some, M_r0 (hG _).now, ob_some, if_neg (nI_ge hj (by omega)), kBed _ j hj]
        rfl
      · intro s ⟨a1, a2⟩
        exact ⟨_, by rw [a1, a2, wR, ob_some, M_r0 (hG _).now, ob_some, if_pos (nI_le (Nat.le_refl _) (by omega)), kKept]; rfl, rfl⟩
    obtain ⟨t, e, rfl⟩ := key
    exact e
  have key : ∃ t, F_X9_digest_9 134 ((0 : Int32), gS σ 17) = some t ∧ t = (digF A, gS σ (digF A)) := by
    unfold F_X9_digest_9
    refine lp_inv (fun j (s : Int32 × Mem) => s.1 = nI j ∧ s.2 = gS σ (foldL (fun f => nI (cntA A f)) 17 j)) 11 ?_ ?_ _ ⟨rfl, rfl⟩
    · intro j s hj ⟨a1, a2⟩
      refine ⟨(nI (j + 1), gS σ (foldL (fun f => nI (cntA A f)) 17 (j + 1))), ?_, rfl, rfl⟩
      rw [a1, a2, if_neg (show ¬ (11 : Int32) ≤ nI j from nI_ge (b := 11) hj (by decide)), M_countOf hA (hG _) hj, ob_some, M_mix, ob_some, nI_1]
      rfl
    · intro s ⟨a1, a2⟩
      exact ⟨_, by rw [a1, a2, if_pos (show (11 : Int32) ≤ nI 11 by decide), kBeds]; rfl, rfl⟩
  obtain ⟨t, e, rfl⟩ := key
  unfold F_X9_digest
  rw [pL_134_16, ob_some]
  exact e
theorem sim_digest (σ : Mem) (h : Inv σ) : ∃ r σ', F_X8_digest 0 σ = some r ∧ F_X9_digest 134 σ = some (r, σ') ∧ Inv σ' := by
  obtain ⟨⟨A, hA, hC, hM⟩, hD⟩ := h
  obtain ⟨k1, k2⟩ := hM.side hA (gS_n (a := digF A))
  exact ⟨_, _, C_digest hA hC, M_digest hA hM, ⟨A, hA, hC.kept k2, k1⟩, hD.keptM k2⟩
end
section
/-! ===== rather ===== -/
abbrev wnt (T : Tn) (i j : Nat) : Prop := gapT T i j < gapT T i i ∧ gapT T j i < gapT T j j
def ratS (T : Tn) (i j : Nat) (s : Nat × Int32) : Nat × Int32 := if wnt T i j then (s.1 + 1, if s.1 = 0 then nI (10 * i + j) else s.2) else s
def ratJ (T : Tn) (i : Nat) (s : Nat × Int32) : Nat → Nat × Int32
  | 0 => s
  | d + 1 => ratS T i (i + 1 + d) (ratJ T i s d)
def ratI (T : Tn) : Nat → Nat × Int32
  | 0 => (0, -9)
  | i + 1 => ratJ T i (ratI T i) (T 0 - (i + 1))
/-- what a count and its first pair are together -/
def ratK (b : Nat) (s : Nat × Int32) : Prop := s.1 ≤ b ∧ (s.1 = 0 ↔ s.2 = -9)
theorem ratK_S {T : Tn} {i j b : Nat} {s : Nat × Int32} (hi : i < 6) (hj : j < 6) (h : ratK b s) : ratK (b + 1) (ratS T i j s) := by
  unfold ratS
  by_cases q : wnt T i j
  · rw [if_pos q]
    refine ⟨by show s.1 + 1 ≤ _; have := h.1; omega, fun z => absurd (show s.1 + 1 = 0 from z) (by omega), fun z => ?_⟩
    have z : (if s.1 = 0 then nI (10 * i + j) else s.2) = -9 := z
    by_cases y : s.1 = 0
    · rw [if_pos y] at z
      exact absurd z (nI_n9 (by omega))
    · rw [if_neg y] at z
      exact absurd (h.2.mpr z) y
  · rw [if_neg q]
    exact ⟨by have := h.1; omega, h.2⟩
theorem ratK_J {T : Tn} {i b : Nat} {s : Nat × Int32} (h6 : T 0 ≤ 6) (h : ratK b s) : ∀ d, i + 1 + d ≤ T 0 → ratK (b + d) (ratJ T i s d)
  | 0, _ => h
  | d + 1, hd => ratK_S (by omega) (by omega) (ratK_J h6 h d (by omega))
theorem ratK_I {T : Tn} (h6 : T 0 ≤ 6) : ∀ i, i ≤ T 0 → ratK (6 * i) (ratI T i)
  | 0, _ => ⟨Nat.le_refl _, fun _ => rfl, fun _ => rfl⟩
  | i + 1, hi => by
    have h := ratK_J (i := i) h6 (ratK_I h6 i (by omega)) (T 0 - (i + 1)) (by omega)
    exact ⟨by have := h.1; show (ratJ T i (ratI T i) (T 0 - (i + 1))).1 ≤ _; omega, h.2⟩
theorem C_ratS {σ : Mem} {T : Tn} {B i b : Nat} {s : Nat × Int32} (h : CT σ 18 T) (hw : wfT B T) (hi : i < T 0) (hs : ratK b s) (hb : b ≤ 100) : F_X8_rather_36 0 (nI i) σ (nI s.1, s.2, nI (i + 1)) = some (.inl (nI (ratJ T i s (T 0 - (i + 1))).1, (ratJ T i s (T 0 - (i + 1))).2, nI (i + 1))) := by
  have h6 := hw.1
  have key : ∃ t, F_X8_rather_36 0 (nI i) σ (nI s.1, s.2, nI (i + 1)) = some t ∧ t = .inl (nI (ratJ T i s (T 0 - (i + 1))).1, (ratJ T i s (T 0 - (i + 1))).2, nI (i + 1)) := by
    unfold F_X8_rather_36
    refine lp_inv (fun d (u : Int32 × Int32 × Int32) => u.2.2 = nI (i + 1 + d) ∧ u.1 = nI (ratJ T i s d).1 ∧ u.2.1 = (ratJ T i s d).2) (T 0 - (i + 1)) ?_ ?_ _ ⟨rfl, rfl, rfl⟩
    · intro d u hd ⟨a1, a2, a3⟩
      refine ⟨(nI (ratJ T i s (d + 1)).1, (ratJ T i s (d + 1)).2, nI (i + 1 + (d + 1))), ?_, rfl, rfl, rfl⟩
      have hK := ratK_J (i := i) h6 hs d (by omega)
      have hj : i + 1 + d < T 0 := by omega
      have bi := hw.2.2.1 i hi
      have bj := hw.2.2.1 (i + 1 + d) hj
      have g1 := gapT_le (T := T) (i := i) (j := i + 1 + d) bi.2.1 bj.2.2.1
      have g2 := gapT_le (T := T) (i := i) (j := i) bi.2.1 bi.2.2.1
      have g3 := gapT_le (T := T) (i := i + 1 + d) (j := i) bj.2.1 bi.2.2.1
      have g4 := gapT_le (T := T) (i := i + 1 + d) (j := i + 1 + d) bj.2.1 bj.2.2.1
      have e10 : ((10 : Int32) * nI i) + nI (i + 1 + d) = nI (10 * i + (i + 1 + d)) := by rw [show (10 : Int32) = nI 10 from rfl, pk_mul, nI_add]
      have eN : ratJ T i s (d + 1) = ratS T i (i + 1 + d) (ratJ T i s d) := rfl
      rw [a1, a2, a3, gR_0_4, ob_some, C_isT h, ob_some, if_neg (nI_ge hj (by omega)), ob_some, tC tw_18, ob_some, C_gap tw_18 h hw hi hj, ob_some, ob_some, tC tw_18, ob_some, C_gap tw_18 h hw hi hi, ob_some, eN]
      unfold ratS
      by_cases q1 : gapT T i (i + 1 + d) < gapT T i i
      · rw [if_neg (nI_ge q1 (by omega)), ob_some, tC tw_18, ob_some, C_gap tw_18 h hw hj hi, ob_some, ob_some, tC tw_18, ob_some, C_gap tw_18 h hw hj hj, ob_some]
        by_cases q2 : gapT T (i + 1 + d) i < gapT T (i + 1 + d) (i + 1 + d)
        · rw [if_neg (nI_ge q2 (by omega)), if_pos (show wnt T i (i + 1 + d) from ⟨q1, q2⟩), e10]
          unfold F_X8_rather_109
          by_cases z : (ratJ T i s d).1 = 0
          · rw [z, if_pos (show nI 0 = (0 : Int32) from rfl), nI_1, nI_1]
            rfl
          · rw [if_neg (nI_ne0 (by omega) (by have := hK.1; omega)), if_neg z, nI_1, nI_1]
            rfl
        · rw [if_pos (nI_le (by omega) (by omega)), if_neg (fun z => q2 z.2), nI_1]
          rfl
      · rw [if_pos (nI_le (by omega) (by omega)), if_neg (fun z => q1 z.1), nI_1]
        rfl
    · intro u ⟨a1, a2, a3⟩
      refine ⟨_, ?_, rfl⟩
      rw [a1, a2, a3, gR_0_4, ob_some, C_isT h, ob_some, if_pos (nI_le (by omega) (by omega)), nI_1]
  obtain ⟨t, e, rfl⟩ := key
  exact e
theorem M_wants {σ : Mem} {T : Tn} {B i j : Nat} (h : MT σ 0 T) (hw : wfT B T) (hi : i < T 0) (hj : j < T 0) : F_X9_wantsRight 134 (nI i) (nI j) σ = some (if gapT T i j < gapT T i i then 1 else 0) := by
  have h6 := hw.1
  have bi := hw.2.2.1 i hi
  have bj := hw.2.2.1 j hj
  have g1 := gapT_le (T := T) (i := i) (j := j) bi.2.1 bj.2.2.1
  have g2 := gapT_le (T := T) (i := i) (j := i) bi.2.1 bi.2.2.1
  have v9 := h (9 + i) (by omega)
  have v15 := h (15 + j) (by omega)
  rw [Nat.zero_add] at v9 v15
  have eg : F_X9_gapIn 134 (0 : Int32) (nI i) σ = some (nI (gapT T i i)) := M_gap h (by decide) hw hi
  have eo : F_X9_off (nI (T (9 + i))) (nI (T (15 + j))) σ = some (nI (gapT T i j)) := off_eq bi.2.1 bj.2.2.1
  unfold F_X9_wantsRight
  rw [wR, ob_some, show (9 : Int32) + nI i = nI (9 + i) from lx rfl, w_rd (by omega), ob_some, ob_some, show (15 : Int32) + nI j = nI (15 + j) from lx rfl, w_rd (by omega), ob_some, v9, v15, eo, ob_some, eg, ob_some]
  by_cases q : gapT T i j < gapT T i i
  · rw [if_neg (nI_ge q (by omega)), if_pos q]
  · rw [if_pos (nI_le (by omega) (by omega)), if_neg q]
theorem M_ratS {σ : Mem} {T : Tn} {B i b : Nat} {s : Nat × Int32} (h : MT σ 0 T) (hw : wfT B T) (hi : i < T 0) (hs : ratK b s) (hb : b ≤ 100) : F_X9_rather_32 134 (nI i) σ (nI s.1, s.2, nI (i + 1)) = some (.inl (nI (ratJ T i s (T 0 - (i + 1))).1, (ratJ T i s (T 0 - (i + 1))).2, nI (i + 1))) := by
  have h6 := hw.1
  have key : ∃ t, F_X9_rather_32 134 (nI i) σ (nI s.1, s.2, nI (i + 1)) = some t ∧ t = .inl (nI (ratJ T i s (T 0 - (i + 1))).1, (ratJ T i s (T 0 - (i + 1))).2, nI (i + 1)) := by
    unfold F_X9_rather_32
    refine lp_inv (fun d (u : Int32 × Int32 × Int32) => u.2.2 = nI (i + 1 + d) ∧ u.1 = nI (ratJ T i s d).1 ∧ u.2.1 = (ratJ T i s d).2) (T 0 - (i + 1)) ?_ ?_ _ ⟨rfl, rfl, rfl⟩
    · intro d u hd ⟨a1, a2, a3⟩
      refine ⟨(nI (ratJ T i s (d + 1)).1, (ratJ T i s (d + 1)).2, nI (i + 1 + (d + 1))), ?_, rfl, rfl, rfl⟩
      have hK := ratK_J (i := i) h6 hs d (by omega)
      have hj : i + 1 + d < T 0 := by omega
      have e10 : ((10 : Int32) * nI i) + nI (i + 1 + d) = nI (10 * i + (i + 1 + d)) := by rw [show (10 : Int32) = nI 10 from rfl, pk_mul, nI_add]
      have eN : ratJ T i s (d + 1) = ratS T i (i + 1 + d) (ratJ T i s d) := rfl
      have zz : nI (ratJ T i s d).1 + (0 : Int32) = nI (ratJ T i s d).1 := Int32.add_zero _
      unfold F_X9_rather_67 F_X9_rather_68 F_X9_rather_91 F_X9_rather_92 F_X9_rather_104
      rw [a1, a2, a3, wR, ob_some, M_r0 h, ob_some, if_neg (nI_ge hj (by omega)), M_wants h hw hi hj, ob_some, eN]
      unfold ratS
      by_cases q1 : gapT T i (i + 1 + d) < gapT T i i
      · rw [if_pos q1, if_neg (by decide), M_wants h hw hj hi, ob_some]
        by_cases q2 : gapT T (i + 1 + d) i < gapT T (i + 1 + d) (i + 1 + d)
        · rw [if_pos q2, if_neg (by decide), if_pos (show wnt T i (i + 1 + d) from ⟨q1, q2⟩), if_neg (by decide), e10]
          by_cases z : (ratJ T i s d).1 = 0
          · rw [if_pos (hK.2.mp z), if_neg (by decide), z, nI_1, nI_1]
            rfl
          · rw [if_neg (fun y => z (hK.2.mpr y)), if_neg (by decide), if_neg z, nI_1, nI_1]
            rfl
        · rw [if_neg q2, if_pos rfl, if_pos rfl, if_pos rfl, if_neg (fun z => q2 z.2), nI_1, zz]
          rfl
      · rw [if_neg q1, if_pos rfl, if_pos rfl, if_pos rfl, if_neg (fun z => q1 z.1), nI_1, zz]
        rfl
    · intro u ⟨a1, a2, a3⟩
      refine ⟨_, ?_, rfl⟩
      rw [a1, a2, a3, wR, ob_some, M_r0 h, ob_some, if_pos (nI_le (by omega) (by omega)), nI_1]
  obtain ⟨t, e, rfl⟩ := key
  exact e
theorem sim_rather : Sim (F_X8_rather 0) (F_X9_rather 134) := by
  refine sim_of fun A hA => ?_
  obtain ⟨hnw, hn0⟩ := now_wf hA
  have h6 := hnw.1
  by_cases hz : nowT A.2.2.2 0 = 0
  · refine ⟨-4, A, hA, C_same fun σ h => ?_, M_same fun σ h => ?_⟩
    · unfold F_X8_rather
      rw [gR_0_4, ob_some, C_isT h.now, ob_some, hz, if_pos (show nI 0 = (0 : Int32) from rfl)]
    · unfold F_X9_rather
      rw [M_isTown h.now h6, if_pos hz, ob_some, if_pos rfl]
  · generalize hT : nowT A.2.2.2 = T at *
    obtain ⟨R, hR⟩ : ∃ R, ratI T (T 0) = R := ⟨_, rfl⟩
    refine ⟨nI R.1, toldA A R.2, hA, fun σ h => ?_, fun σ h => ?_⟩
    · have hnow := h.now
      rw [hT] at hnow
      obtain ⟨σ3, e3, h4, f4⟩ := C_tell (A := A) (v := R.2) σ h
      have es : F_X8_tell 0 R.2 σ = some (1, setI σ 0 13 R.2) := by
        unfold F_X8_tell
        rw [pI_0_13, ob_some]
      have e4 := e3.symm.trans es
      injection e4 with e4
      injection e4 with _ e4
      subst e4
      refine ⟨_, ?_, h4, f4⟩
      have key : ∃ t, F_X8_rather_20 0 σ ((0 : Int32), (-9 : Int32), (0 : Int32)) = some t ∧ t = (nI R.1, setI σ 0 13 R.2) := by
        unfold F_X8_rather_20
        refine lp_inv (Q := fun t : Int32 × Mem => t = (nI R.1, setI σ 0 13 R.2)) (fun i (u : Int32 × Int32 × Int32) => u.2.2 = nI i ∧ u.1 = nI (ratI T i).1 ∧ u.2.1 = (ratI T i).2) (T 0) ?_ ?_ _ ⟨rfl, rfl, rfl⟩
        · intro i u hi ⟨a1, a2, a3⟩
          refine ⟨(nI (ratI T (i + 1)).1, (ratI T (i + 1)).2, nI (i + 1)), ?_, rfl, rfl, rfl⟩
          rw [a1, a2, a3, gR_0_4, ob_some, C_isT hnow, ob_some, if_neg (nI_ge hi (by omega)), nI_1, C_ratS hnow hnw hi (ratK_I h6 i (by omega)) (by omega)]
          rfl
        · intro u ⟨a1, a2, a3⟩
          rw [hR] at a2 a3
          exact ⟨_, by rw [a1, a2, a3, gR_0_4, ob_some, C_isT hnow, ob_some, if_pos (nI_le (Nat.le_refl _) (by omega)), pI_0_13, ob_some], rfl⟩
      obtain ⟨t, e, rfl⟩ := key
      unfold F_X8_rather
      rw [gR_0_4, ob_some, C_isT hnow, ob_some, if_neg (nI_ne0 (by omega) (by omega)), e]
    · have hnow := h.now
      rw [hT] at hnow
      obtain ⟨σ3, e3, h4, f4⟩ := M_tells (A := A) (v := R.2) (r := nI R.1) σ h
      refine ⟨_, ?_, h4, f4⟩
      have key : ∃ t, F_X9_rather_17 134 σ ((0 : Int32), (-9 : Int32), (0 : Int32)) = some t ∧ t = (nI R.1, σ3) := by
        unfold F_X9_rather_17
        refine lp_inv (Q := fun t : Int32 × Mem => t = (nI R.1, σ3)) (fun i (u : Int32 × Int32 × Int32) => u.2.2 = nI i ∧ u.1 = nI (ratI T i).1 ∧ u.2.1 = (ratI T i).2) (T 0) ?_ ?_ _ ⟨rfl, rfl, rfl⟩
        · intro i u hi ⟨a1, a2, a3⟩
          refine ⟨(nI (ratI T (i + 1)).1, (ratI T (i + 1)).2, nI (i + 1)), ?_, rfl, rfl, rfl⟩
          rw [a1, a2, a3, wR, ob_some, M_r0 hnow, ob_some, if_neg (nI_ge hi (by omega)), nI_1, M_ratS hnow hnw hi (ratK_I h6 i (by omega)) (by omega)]
          rfl
        · intro u ⟨a1, a2, a3⟩
          rw [hR] at a2 a3
          exact ⟨_, by rw [a1, a2, a3, wR, ob_some, M_r0 hnow, ob_some, if_pos (nI_le (Nat.le_refl _) (by omega)), e3, ob_some], rfl⟩
      obtain ⟨t, e, rfl⟩ := key
      unfold F_X9_rather
      rw [M_isTown hnow h6, if_neg hz, ob_some, if_neg (by decide), e]
end
section
/-! ===== marry: codes, what they give, the best of some ===== -/
def ins (s d : Nat) : Nat := if bN s d = 1 then s else s + 2 ^ d
theorem ins_get : ∀ s, s < 64 → ∀ d, d < 6 → (nI s ||| ((1 : Int32) <<< (nI d &&& 31))) = nI (ins s d) ∧ popN (ins s d) = (if bN s d = 1 then popN s else popN s + 1) ∧ ins s d < 64 := by decide
theorem ins_lt : ∀ n, n ≤ 6 → ∀ s, s < 2 ^ n → ∀ d, d < n → ins s d < 2 ^ n := by decide
theorem full_iff : ∀ n, n ≤ 6 → ∀ s, s < 2 ^ n → (nI s = ((1 : Int32) <<< (nI n &&& 31)) - 1 ↔ popN s = n) := by decide
def gN (n : Nat) : Nat → Nat → Nat
  | 0, _ => 0
  | L + 1, C => ins (gN n L (C / n)) (C % n)
def gs (n : Nat) (c : Nat → Nat → Nat) : Nat → Nat → Nat
  | 0, _ => 0
  | L + 1, C => gs n c L (C / n) + c L (C % n)
def dg (n : Nat) : Nat → Nat → Nat → Nat
  | 0, _, _ => 0
  | L + 1, C, k => if k = L then C % n else dg n L (C / n) k
theorem dv_pow {n C D : Nat} : C / n / n ^ D = C / n ^ (D + 1) := by rw [Nat.div_div_eq_div_mul, Nat.mul_comm, ← Nat.pow_succ]
theorem gN_lt {n : Nat} (h0 : 0 < n) (h6 : n ≤ 6) : ∀ L C, gN n L C < 2 ^ n
  | 0, _ => Nat.two_pow_pos n
  | L + 1, C => ins_lt n h6 _ (gN_lt h0 h6 L (C / n)) _ (Nat.mod_lt _ h0)
theorem gN_64 {n : Nat} (h0 : 0 < n) (h6 : n ≤ 6) (L C : Nat) : gN n L C < 64 := by
  have h := gN_lt h0 h6 L C
  have h2 : 2 ^ n ≤ 2 ^ 6 := Nat.pow_le_pow_right (by decide) h6
  omega
theorem gN_step {n L C : Nat} (h0 : 0 < n) (h6 : n ≤ 6) : popN (gN n (L + 1) C) = (if bN (gN n L (C / n)) (C % n) = 1 then popN (gN n L (C / n)) else popN (gN n L (C / n)) + 1) := (ins_get _ (gN_64 h0 h6 L (C / n)) _ (by have := Nat.mod_lt C h0; omega)).2.1
theorem gN_pop {n : Nat} (h0 : 0 < n) (h6 : n ≤ 6) (L : Nat) : ∀ D C, popN (gN n (L + D) C) ≤ popN (gN n L (C / n ^ D)) + D
  | 0, C => by rw [Nat.pow_zero, Nat.div_one]; exact Nat.le_refl _
  | D + 1, C => by
    have ih := gN_pop h0 h6 L D (C / n)
    rw [dv_pow] at ih
    have h := gN_step (L := L + D) (C := C) h0 h6
    rw [show L + (D + 1) = L + D + 1 by omega, h]
    split <;> omega
theorem gs_mono {n : Nat} {c : Nat → Nat → Nat} (L : Nat) : ∀ D C, gs n c L (C / n ^ D) ≤ gs n c (L + D) C
  | 0, C => by rw [Nat.pow_zero, Nat.div_one]; exact Nat.le_refl _
  | D + 1, C => by
    have ih := gs_mono (c := c) (n := n) L D (C / n)
    rw [dv_pow] at ih
    show _ ≤ gs n c (L + D) (C / n) + c (L + D) (C % n)
    omega
theorem gs_le {n : Nat} {c : Nat → Nat → Nat} (h0 : 0 < n) (hc : ∀ i j, i < n → j < n → c i j ≤ 19) : ∀ L C, L ≤ n → gs n c L C ≤ 19 * L
  | 0, _, _ => Nat.le_refl _
  | L + 1, C, hL => by
    have ih := gs_le h0 hc L (C / n) (by omega)
    have h := hc L (C % n) (by omega) (Nat.mod_lt _ h0)
    show gs n c L (C / n) + c L (C % n) ≤ _
    omega
theorem dg_lt {n : Nat} (h0 : 0 < n) : ∀ L C k, dg n L C k < n
  | 0, _, _ => h0
  | L + 1, C, k => by
    show (if k = L then C % n else dg n L (C / n) k) < n
    split
    · exact Nat.mod_lt _ h0
    · exact dg_lt h0 L _ k
theorem dg_up {n : Nat} (L : Nat) : ∀ D C k, k < L → dg n (L + D) C k = dg n L (C / n ^ D) k
  | 0, C, k, _ => by rw [Nat.pow_zero, Nat.div_one]; rfl
  | D + 1, C, k, hk => by
    have ih := dg_up (n := n) L D (C / n) k hk
    rw [dv_pow] at ih
    show (if k = L + D then C % n else dg n (L + D) (C / n) k) = _
    rw [if_neg (by omega), ih]
/-- one code after another: the first of the least -/
def okC (n : Nat) (c : Nat → Nat → Nat) (s : Nat × Nat) (C : Nat) : Prop := popN (gN n n C) = n ∧ gs n c n C < s.2
def stp (n : Nat) (c : Nat → Nat → Nat) (s : Nat × Nat) (C : Nat) : Nat × Nat := if popN (gN n n C) = n ∧ gs n c n C < s.2 then (C, gs n c n C) else s
theorem stp_yes {n : Nat} {c : Nat → Nat → Nat} {s : Nat × Nat} {C : Nat} (h : okC n c s C) : stp n c s C = (C, gs n c n C) := if_pos h
theorem stp_no {n : Nat} {c : Nat → Nat → Nat} {s : Nat × Nat} {C : Nat} (h : ¬ okC n c s C) : stp n c s C = s := if_neg h
def fo (n : Nat) (c : Nat → Nat → Nat) (s : Nat × Nat) (a : Nat) : Nat → Nat × Nat
  | 0 => s
  | k + 1 => stp n c (fo n c s a k) (a + k)
theorem fo_split {n : Nat} {c : Nat → Nat → Nat} {s : Nat × Nat} {a k : Nat} : ∀ m, fo n c s a (k + m) = fo n c (fo n c s a k) (a + k) m
  | 0 => rfl
  | m + 1 => by
    show stp n c (fo n c s a (k + m)) (a + (k + m)) = stp n c (fo n c (fo n c s a k) (a + k) m) (a + k + m)
    rw [fo_split m, Nat.add_assoc]
theorem fo_same {n : Nat} {c : Nat → Nat → Nat} {s : Nat × Nat} {a : Nat} : ∀ k, (∀ C, a ≤ C → C < a + k → ¬ okC n c s C) → fo n c s a k = s
  | 0, _ => rfl
  | k + 1, h => by
    have ih := fo_same (n := n) (c := c) (s := s) (a := a) k (fun C h1 h2 => h C h1 (by omega))
    show stp n c (fo n c s a k) (a + k) = s
    rw [ih, stp_no (h (a + k) (by omega) (by omega))]
theorem fo_min {n : Nat} {c : Nat → Nat → Nat} {s : Nat × Nat} {a : Nat} : ∀ k, (fo n c s a k).2 ≤ s.2 ∧ ∀ C, a ≤ C → C < a + k → popN (gN n n C) = n → (fo n c s a k).2 ≤ gs n c n C
  | 0 => ⟨Nat.le_refl _, fun C h1 h2 => absurd h2 (by omega)⟩
  | k + 1 => by
    obtain ⟨i1, i2⟩ := fo_min (n := n) (c := c) (s := s) (a := a) k
    by_cases q : okC n c (fo n c s a k) (a + k)
    · have e : fo n c s a (k + 1) = (a + k, gs n c n (a + k)) := stp_yes q
      have hq : gs n c n (a + k) < (fo n c s a k).2 := q.2
      rw [e]
      refine ⟨by show gs n c n (a + k) ≤ _; omega, fun C h1 h2 h3 => ?_⟩
      show gs n c n (a + k) ≤ _
      by_cases y : C = a + k
      · rw [y]; exact Nat.le_refl _
      · have := i2 C h1 (by omega) h3; omega
    · have e : fo n c s a (k + 1) = fo n c s a k := stp_no q
      rw [e]
      refine ⟨i1, fun C h1 h2 h3 => ?_⟩
      by_cases y : C = a + k
      · rw [y] at h3 ⊢
        rcases Nat.lt_or_ge (gs n c n (a + k)) (fo n c s a k).2 with z | z
        · exact absurd ⟨h3, z⟩ q
        · exact z
      · exact i2 C h1 (by omega) h3
/-- all to whom they are married now -/
def idC (n : Nat) : Nat := if n = 1 then 0 else if n = 2 then 1 else if n = 3 then 5 else if n = 4 then 27 else if n = 5 then 194 else 1865
theorem idC_ok : ∀ n, n ≤ 6 → 0 < n → popN (gN n n (idC n)) = n ∧ idC n < n ^ n := by decide
theorem fo_end {n : Nat} {c : Nat → Nat → Nat} (h0 : 0 < n) (h6 : n ≤ 6) (hc : ∀ i j, i < n → j < n → c i j ≤ 19) : (fo n c (0, 1000000) 0 (n ^ n)).2 ≤ 114 := by
  obtain ⟨k1, k2⟩ := idC_ok n h6 h0
  have h := (fo_min (n := n) (c := c) (s := (0, 1000000)) (a := 0) (n ^ n)).2 (idC n) (Nat.zero_le _) (by omega) k1
  have h2 := gs_le h0 hc n (idC n) (Nat.le_refl _)
  omega
/-- a block of codes with one beginning -/
theorem blk_div {n D P C : Nat} (h0 : 0 < n) (h1 : P * n ^ D ≤ C) (h2 : C < P * n ^ D + n ^ D) : C / n ^ D = P := by
  have hp : 0 < n ^ D := Nat.pow_pos h0
  exact Nat.div_eq_of_lt_le h1 (by rw [Nat.succ_mul]; exact h2)
theorem blk_cut {n : Nat} {c : Nat → Nat → Nat} {s : Nat × Nat} {i D P : Nat} (h0 : 0 < n) (hn : i + D = n) (hs : s.2 ≤ gs n c i P) : fo n c s (P * n ^ D) (n ^ D) = s := by
  refine fo_same _ (fun C h1 h2 h3 => ?_)
  have e := blk_div h0 h1 h2
  have h := gs_mono (c := c) (n := n) i D C
  rw [e, hn] at h
  have := h3.2
  omega
theorem blk_twice {n : Nat} {c : Nat → Nat → Nat} {s : Nat × Nat} {i D P : Nat} (h0 : 0 < n) (h6 : n ≤ 6) (hn : i + D = n) (hs : popN (gN n i P) < i) : fo n c s (P * n ^ D) (n ^ D) = s := by
  refine fo_same _ (fun C h1 h2 h3 => ?_)
  have e := blk_div h0 h1 h2
  have h := gN_pop h0 h6 i D C
  rw [e, hn] at h
  have := h3.1
  omega
theorem blk_one {n : Nat} {c : Nat → Nat → Nat} {s : Nat × Nat} {P : Nat} (hp : popN (gN n n P) = n) (hs : gs n c n P < s.2) : fo n c s (P * n ^ 0) (n ^ 0) = (P, gs n c n P) := by
  rw [Nat.pow_zero, Nat.mul_one]
  exact stp_yes ⟨hp, hs⟩
theorem blk_next {n : Nat} {c : Nat → Nat → Nat} {s : Nat × Nat} {D P w : Nat} : fo n c s (P * n ^ (D + 1)) ((w + 1) * n ^ D) = fo n c (fo n c s (P * n ^ (D + 1)) (w * n ^ D)) ((P * n + w) * n ^ D) (n ^ D) := by
  rw [Nat.succ_mul, fo_split, Nat.add_mul, Nat.pow_succ, Nat.mul_assoc P n, Nat.mul_comm n]
end
section
/-! ===== marry: the class's side ===== -/
def costT (T : Tn) (i j : Nat) : Nat := crN (T (3 + i)) (gapT T i j) (T (21 + i)) (T 1) (T (39 + T 1 % 4))
theorem cost_le {B : Nat} {T : Tn} (hw : wfT B T) : ∀ i j, i < T 0 → j < T 0 → costT T i j ≤ 19 := fun i j hi hj => crN_le (gapT_le (hw.2.2.1 i hi).2.1 (hw.2.2.1 j hj).2.2.1) (hw.2.2.2.1 _ (Nat.mod_lt _ (by decide)))
def FrW (σ σ' : Mem) : Prop := (∀ a b, (a < 90 ∨ 92 < a) → σ'.1 a b = σ.1 a b) ∧ σ'.2 = σ.2
theorem FrW.rf {σ : Mem} : FrW σ σ := ⟨fun _ _ _ => rfl, rfl⟩
theorem FrW.tr {σ σ' σ'' : Mem} (h : FrW σ σ') (h2 : FrW σ' σ'') : FrW σ σ'' := ⟨fun a b q => (h2.1 a b q).trans (h.1 a b q), h2.2.trans h.2⟩
theorem FrW.set {a j : Nat} {v : Int32} {σ : Mem} (h1 : 90 ≤ a) (h2 : a ≤ 92) : FrW σ (setI σ a j v) := ⟨fun x y q => by rw [setI_1, if_neg (by omega)], rfl⟩
theorem FrW.o {σ σ' : Mem} (h : FrW σ σ') : FrO σ σ' := ⟨fun a b q => h.1 a b (by omega), h.2⟩
/-- the fewest, the first of them, the way so far -/
def WM (σ : Mem) (n : Nat) (s : Nat × Nat) (i P : Nat) : Prop := s.2 ≤ 1000000 ∧ σ.1 90 2 = nI s.2 ∧ (s.2 = 1000000 ∨ ∀ k, k < n → σ.1 91 k = nI (dg n n s.1 k)) ∧ ∀ k, k < i → σ.1 92 k = nI (dg n i P k)
theorem C_give {T : Tn} {B n : Nat} (hw : wfT B T) (hB : B ≤ 100000) (hn : n = T 0) (h0 : 0 < n) : ∀ D dep, D < dep → ∀ i P s σ, i + D = n → popN (gN n i P) = i → CT σ 18 T → WM σ n s i P → ∃ σ', F_X3_give dep 90 18 (nI i) (nI (gN n i P)) (nI (gs n (costT T) i P)) σ = some σ' ∧ WM σ' n (fo n (costT T) s (P * n ^ D) (n ^ D)) i P ∧ FrW σ σ' := by
  have h6 : n ≤ 6 := by rw [hn]; exact hw.1
  have hc : ∀ i j, i < n → j < n → costT T i j ≤ 19 := by rw [hn]; exact cost_le hw
  intro D
  induction D with
  | zero =>
    intro dep hd i P s σ hi hp h hW
    obtain ⟨w1, w2, w3, w4⟩ := hW
    have hgs := gs_le h0 hc i P (by omega)
    obtain ⟨m, rfl⟩ : ∃ m, dep = m + 1 := ⟨dep - 1, by omega⟩
    have hin : i = n := by omega
    subst hin
    show ∃ σ', B_X3_give (F_X3_give m) 90 18 (nI i) (nI (gN i i P)) (nI (gs i (costT T) i P)) σ = some σ' ∧ _
    unfold B_X3_give
    rw [gI_90_2, ob_some, w2]
    by_cases q : gs i (costT T) i P < s.2
    · rw [if_pos (nI_lt q (by omega)), C_isT h, ob_some, if_neg (nI_nlt (by omega) (by omega)), pI_90_2, ob_some, gR_90_1, ob_some, gR_90_0, ob_some, blk_one hp q]
      obtain ⟨σ', e, c1, c2, c3⟩ := cp_step (σ := setI σ 90 2 (nI (gs i (costT T) i P))) sh_92 sh_91 (by decide) (by decide) (by decide)
      rw [e, ob_some]
      refine ⟨σ', rfl, ⟨by show gs i (costT T) i P ≤ _; omega, ?_, Or.inr (fun k hk => ?_), fun k hk => ?_⟩, fun a b q2 => ?_, ?_⟩
      · show σ'.1 90 2 = nI (gs i (costT T) i P)
        rw [c2 _ _ (by omega), setI_1, if_pos ⟨rfl, rfl⟩]
      · rw [c1 k (by omega), setI_1, if_neg (by omega)]; exact w4 k hk
      · rw [c2 _ _ (by omega), setI_1, if_neg (by omega)]; exact w4 k hk
      · rw [c2 _ _ (by omega), setI_1, if_neg (by omega)]
      · rw [c3]; rfl
    · rw [if_neg (nI_nlt (by omega) (by omega)), blk_cut (i := i) h0 (Nat.add_zero i) (by omega)]
      exact ⟨σ, rfl, ⟨w1, w2, w3, w4⟩, FrW.rf⟩
  | succ D ih =>
    intro dep hd i P s σ hi hp h hW
    obtain ⟨w1, w2, w3, w4⟩ := hW
    have hgs := gs_le h0 hc i P (by omega)
    have g64 := gN_64 h0 h6 i P
    obtain ⟨m, rfl⟩ : ∃ m, dep = m + 1 := ⟨dep - 1, by omega⟩
    show ∃ σ', B_X3_give (F_X3_give m) 90 18 (nI i) (nI (gN n i P)) (nI (gs n (costT T) i P)) σ = some σ' ∧ _
    unfold B_X3_give
    rw [gI_90_2, ob_some, w2]
    by_cases q : gs n (costT T) i P < s.2
    · rw [if_pos (nI_lt q (by omega)), C_isT h, ob_some, if_pos (nI_lt (by omega) (by omega))]
      have key : ∃ t, F_X3_give_39 (F_X3_give m) 90 18 (nI i) (nI (gN n i P)) (nI (gs n (costT T) i P)) ((0 : Int32), σ) = some t ∧ WM t n (fo n (costT T) s (P * n ^ (D + 1)) (n ^ (D + 1))) i P ∧ FrW σ t := by
        unfold F_X3_give_39
        refine lp_inv (fun w (u : Int32 × Mem) => u.1 = nI w ∧ WM u.2 n (fo n (costT T) s (P * n ^ (D + 1)) (w * n ^ D)) i P ∧ FrW σ u.2) n ?_ ?_ _ ⟨rfl, ?_, FrW.rf⟩
        · intro w u hwn ⟨a1, a2, a3⟩
          have hu : CT u.2 18 T := h.kept (fun a b p q => a3.1 a b (by omega))
          obtain ⟨x1, x2, x3, x4⟩ := a2
          have eQ : (P * n + w) / n = P := by rw [Nat.add_comm, Nat.add_mul_div_right _ _ h0, Nat.div_eq_of_lt hwn, Nat.zero_add]
          have eM : (P * n + w) % n = w := by rw [Nat.add_comm, Nat.add_mul_mod_self_right, Nat.mod_eq_of_lt hwn]
          have eG : gN n (i + 1) (P * n + w) = ins (gN n i P) w := by
            show ins (gN n i ((P * n + w) / n)) ((P * n + w) % n) = _
            rw [eQ, eM]
          have eS : gs n (costT T) (i + 1) (P * n + w) = gs n (costT T) i P + costT T i w := by
            show gs n (costT T) i ((P * n + w) / n) + costT T i ((P * n + w) % n) = _
            rw [eQ, eM]
          have hin := ins_get (gN n i P) g64 w (by omega)
          have b1 := bN_le (gN n i P) w
          rw [a1, C_isT hu, ob_some, if_neg (nI_ge (by omega) (by omega)), get_bN _ g64 w (by omega), blk_next]
          by_cases z : bN (gN n i P) w = 1
          · rw [z, if_neg (by decide), nI_1]
            have eF : fo n (costT T) (fo n (costT T) s (P * n ^ (D + 1)) (w * n ^ D)) ((P * n + w) * n ^ D) (n ^ D) = fo n (costT T) s (P * n ^ (D + 1)) (w * n ^ D) := blk_twice (i := i + 1) h0 h6 (by omega) (by rw [eG, hin.2.1, if_pos z]; omega)
            rw [eF]
            exact ⟨_, rfl, rfl, ⟨x1, x2, x3, x4⟩, a3⟩
          · rw [show bN (gN n i P) w = 0 by omega, if_pos (show nI 0 = (0 : Int32) from rfl), gR_90_1, ob_some, wr_eq (by decide) sh_92 (by omega) (by decide), ob_some, tC tw_18, ob_some]
            have fr2 : FrW u.2 (setI u.2 92 i (nI w)) := FrW.set (by decide) (by decide)
            have hu2 : CT (setI u.2 92 i (nI w)) 18 T := hu.kept (fun a b p q => fr2.1 a b (by omega))
            have ec := C_crossesWith (σ := setI u.2 92 i (nI w)) tw_18 hu2 hw hB (show i < T 0 by omega) (show w < T 0 by omega)
            have hW2 : WM (setI u.2 92 i (nI w)) n (fo n (costT T) s (P * n ^ (D + 1)) (w * n ^ D)) (i + 1) (P * n + w) := by
              refine ⟨x1, ?_, ?_, fun k hk => ?_⟩
              · rw [setI_1, if_neg (by omega)]; exact x2
              · rcases x3 with x3 | x3
                · exact Or.inl x3
                · exact Or.inr (fun k hk => by rw [setI_1, if_neg (by omega)]; exact x3 k hk)
              · show (setI u.2 92 i (nI w)).1 92 k = nI (if k = i then (P * n + w) % n else dg n i ((P * n + w) / n) k)
                rw [setI_1, eQ, eM]
                by_cases y : k = i
                · rw [if_pos ⟨rfl, y⟩, if_pos y]
                · rw [if_neg (fun v => y v.2), if_neg y]; exact x4 k (by omega)
            obtain ⟨σ', e, r1, r2⟩ := ih m (by omega) (i + 1) (P * n + w) (fo n (costT T) s (P * n ^ (D + 1)) (w * n ^ D)) (setI u.2 92 i (nI w)) (by omega) (by rw [eG, hin.2.1, if_neg z]; omega) hu2 hW2
            rw [eG, eS] at e
            have ec' : F_X7_crossesWith 18 (nI i) (nI w) (setI u.2 92 i (nI w)) = some (nI (costT T i w)) := ec
            rw [ec', ob_some, nI_1, hin.1, nI_add, e, ob_some, nI_1]
            refine ⟨_, rfl, rfl, ⟨r1.1, r1.2.1, r1.2.2.1, fun k hk => ?_⟩, a3.tr (fr2.tr r2)⟩
            have r4 := r1.2.2.2 k (by omega)
            have r4 : σ'.1 92 k = nI (if k = i then (P * n + w) % n else dg n i ((P * n + w) / n) k) := r4
            rw [if_neg (by omega), eQ] at r4
            exact r4
        · intro u ⟨a1, a2, a3⟩
          have hu : CT u.2 18 T := h.kept (fun a b p q => a3.1 a b (by omega))
          rw [show n * n ^ D = n ^ (D + 1) by rw [Nat.pow_succ, Nat.mul_comm]] at a2
          exact ⟨u.2, by rw [a1, C_isT hu, ob_some, if_pos (nI_le (by omega) (by omega))], a2, a3⟩
        · show WM σ n (fo n (costT T) s (P * n ^ (D + 1)) (0 * n ^ D)) i P
          rw [Nat.zero_mul]
          exact ⟨w1, w2, w3, w4⟩
      exact key
    · rw [if_neg (nI_nlt (by omega) (by omega)), blk_cut h0 (by omega) (by omega)]
      exact ⟨σ, rfl, ⟨w1, w2, w3, w4⟩, FrW.rf⟩
end
section
/-! ===== marry: both sides ===== -/
theorem RC.putR {A : Ab} {σ σ' : Mem} {r n : Nat} {f : Nat → Int32} (h : RC A σ) (hr : r < 6) (hn : n ≤ 40) (e1 : σ'.1 2 r = nI n) (e2 : ∀ i, i < n → σ'.1 3 (r * 40 + i) = f i) (fr : FrS 1 r 40 σ σ') : RC (rowA A r (some n) f) σ' ∧ FC σ σ' := by
  have keep : ∀ a j, (a < 2 ∨ 3 < a) → σ'.1 a j = σ.1 a j := fun a j q => fr.1 a j (Or.inl (by omega)) (Or.inl (by omega))
  exact ⟨⟨h.1.make hr hn e1 e2 fr, h.2.1.kept (fun a j _ _ => keep a j (by omega)), h.2.2.1.kept (keep _ _ (by decide)) (keep _ _ (by decide)) (fun f => keep _ _ (by decide)) (fun j => by rw [fr.2]), h.2.2.2.kept (keep _ _ (by decide)) (fun a j q => keep a j (by omega))⟩, fun a j q => keep a j (by omega), fun a j q => by rw [fr.2]⟩
theorem RM.putR {A : Ab} {σ σ' : Mem} {r n : Nat} {f : Nat → Int32} (h : RM A σ) (hr : r < 6) (hn : n ≤ 40) (e1 : σ'.1 138 r = nI n) (e2 : ∀ i, i < n → σ'.1 137 (r * 40 + i) = f i) (fr : ∀ x y, (x ≠ 138 ∨ y ≠ r) → (x ≠ 137 ∨ y < r * 40 ∨ r * 40 + 40 ≤ y) → σ'.1 x y = σ.1 x y) (f2 : σ'.2 = σ.2) : RM (rowA A r (some n) f) σ' ∧ FM σ σ' := by
  have keep : ∀ a j, (a < 137 ∨ 138 < a) → σ'.1 a j = σ.1 a j := fun a j q => fr a j (Or.inl (by omega)) (Or.inl (by omega))
  exact ⟨⟨h.1.make hn e1 e2 (fun x q => fr _ _ (Or.inr q) (Or.inl (by decide))) (fun y q => fr _ _ (Or.inl (by decide)) (Or.inr q)), h.2.1.kept (fun a j q => keep a j (by omega)), h.2.2.1.kept (keep _ _ (by decide)) (keep _ _ (by decide)) (fun f => keep _ _ (by decide)) (by rw [f2]) (by rw [f2]), h.2.2.2.kept (keep _ _ (by decide)) (fun a j q => keep a j (by omega))⟩, fun a j q => keep a j (by omega), fun a j q => by rw [f2]⟩
theorem M_crossWith {σ : Mem} {T : Tn} {B i j : Nat} (h : MT σ 0 T) (hw : wfT B T) (hB : B ≤ 100000) (hi : i < T 0) (hj : j < T 0) : F_X9_crossWith 134 (nI i) (nI j) σ = some (nI (costT T i j)) := by
  have h6 := hw.1
  have bi := hw.2.2.1 i hi
  have bj := hw.2.2.1 j hj
  have g1 := gapT_le (T := T) (i := i) (j := j) bi.2.1 bj.2.2.1
  have hm : T 1 ≤ 100000 := Nat.le_trans hw.2.1 hB
  have v1 := h 1 (by decide)
  have v3 := h (3 + i) (by omega)
  have v21 := h (21 + i) (by omega)
  have v9 := h (9 + i) (by omega)
  have v15 := h (15 + j) (by omega)
  rw [Nat.zero_add] at v1 v3 v9 v15 v21
  have r1 : aI 135 (1 : Int32) σ = some (nI (T 1)) := (w_rd (j := 1) (by decide)).trans (by rw [v1])
  have eo : F_X9_off (nI (T (9 + i))) (nI (T (15 + j))) σ = some (nI (gapT T i j)) := off_eq bi.2.1 bj.2.2.1
  have ec : F_X9_crossBy 134 (nI (T (3 + i))) (nI (T (21 + i))) (nI (gapT T i j)) (nI (T 1)) σ = some (nI (costT T i j)) := M_crossBy (h.col _ (Nat.mod_lt _ (by decide))) bi.1 bi.2.2.2.1 g1 hm (hw.2.2.2.1 _ (Nat.mod_lt _ (by decide)))
  unfold F_X9_crossWith
  rw [wR, ob_some, show (3 : Int32) + nI i = nI (3 + i) from lx rfl, w_rd (by omega), ob_some, v3, ob_some, show (21 : Int32) + nI i = nI (21 + i) from lx rfl, w_rd (by omega), ob_some, v21, ob_some, show (9 : Int32) + nI i = nI (9 + i) from lx rfl, w_rd (by omega), ob_some, v9, ob_some, show (15 : Int32) + nI j = nI (15 + j) from lx rfl, w_rd (by omega), ob_some, v15, eo, ob_some, ob_some, r1, ob_some, ec, ob_some]
theorem nz_N {n : Nat} (h0 : 0 < n) (h : n < 2 ^ 31) : nz (nI n) = some () := if_neg (nI_ne0 h0 h)
theorem pow66 {n : Nat} (h6 : n ≤ 6) : n ^ n ≤ 46656 := by
  have h : ∀ n, n ≤ 6 → n ^ n ≤ 46656 := by decide
  exact h n h6
theorem M_code {σ : Mem} {T : Tn} {B n C : Nat} {s : Nat × Nat} {x1 x2 : Int32} (h : MT σ 0 T) (hw : wfT B T) (hB : B ≤ 100000) (hn : n = T 0) (h0 : 0 < n) (hC : C < n ^ n) (hs : s.2 ≤ 1000000) : F_X9_marry_83 134 x1 x2 (nI s.1) (nI s.2) (nI C) σ (nI C, (0 : Int32), (0 : Int32), nI n - (1 : Int32)) = some (.inl (nI (stp n (costT T) s C).1, nI (stp n (costT T) s C).2, nI (C + 1))) := by
  have h6 : n ≤ 6 := by rw [hn]; exact hw.1
  have p66 := pow66 h6
  have hc : ∀ i j, i < n → j < n → costT T i j ≤ 19 := by rw [hn]; exact cost_le hw
  have r0 : aI 135 (0 : Int32) σ = some (nI n) := by rw [hn]; exact M_r0 h
  have g64 := gN_64 h0 h6 n C
  have hgl := gs_le h0 hc n C (Nat.le_refl _)
  have key : ∃ t, F_X9_marry_83 134 x1 x2 (nI s.1) (nI s.2) (nI C) σ (nI C, (0 : Int32), (0 : Int32), nI n - (1 : Int32)) = some t ∧ t = .inl (nI (stp n (costT T) s C).1, nI (stp n (costT T) s C).2, nI (C + 1)) := by
    unfold F_X9_marry_83
    refine lp_inv (fun j (u : Int32 × Int32 × Int32 × Int32) => u.1 = nI (C / n ^ j) ∧ (u.2.1 ||| nI (gN n (n - j) (C / n ^ j))) = nI (gN n n C) ∧ (∃ x, u.2.2.1 = nI x ∧ x + gs n (costT T) (n - j) (C / n ^ j) = gs n (costT T) n C) ∧ u.2.2.2 = nI (n - j) + (-1 : Int32)) n ?_ ?_ _ ⟨?_, ?_, ⟨0, rfl, ?_⟩, ?_⟩
    · intro j u hj ⟨a1, a2, ⟨x, a3, a4⟩, a5⟩
      obtain ⟨m, hm⟩ : ∃ m, n - j = m + 1 := ⟨n - j - 1, by omega⟩
      rw [hm] at a2 a4 a5
      have a5' : u.2.2.2 = nI m := a5.trans (nI_m1 m)
      have hD : C / n ^ j / n = C / n ^ (j + 1) := by rw [Nat.div_div_eq_div_mul, ← Nat.pow_succ]
      have hl : C / n ^ j ≤ C := Nat.div_le_self _ _
      have hq : C / n ^ j % n < n := Nat.mod_lt _ h0
      have a2 : (u.2.1 ||| nI (ins (gN n m (C / n ^ j / n)) (C / n ^ j % n))) = nI (gN n n C) := a2
      have a4 : x + (gs n (costT T) m (C / n ^ j / n) + costT T m (C / n ^ j % n)) = gs n (costT T) n C := a4
      have hI := (ins_get (gN n m (C / n ^ j / n)) (gN_64 h0 h6 _ _) (C / n ^ j % n) (by omega)).1
      rw [hD] at a2 a4 hI
      have ecw := M_crossWith (i := m) (j := C / n ^ j % n) h hw hB (by omega) (by omega)
      refine ⟨(nI (C / n ^ (j + 1)), u.2.1 ||| ((1 : Int32) <<< (nI (C / n ^ j % n) &&& 31)), nI (x + costT T m (C / n ^ j % n)), nI m + (-1 : Int32)), ?_, rfl, ?_, ⟨_, rfl, ?_⟩, ?_⟩
      · rw [a1, a3, a5', if_neg (nI_pos (by omega)), wR, ob_some, r0, ob_some, nz_N h0 (by omega), ob_some, pk_rem (by omega) h0 (by omega)]
        dsimp only
        rw [ob_some, r0, ob_some, nz_N h0 (by omega), ob_some, pk_rem (by omega) h0 (by omega), ecw, ob_some, ob_some, r0, ob_some, nz_N h0 (by omega), ob_some, pk_div (by omega) h0 (by omega), nI_add, hD]
      · show ((u.2.1 ||| _) ||| nI (gN n (n - (j + 1)) (C / n ^ (j + 1)))) = _
        rw [show n - (j + 1) = m by omega, Int32.or_assoc, Int32.or_comm ((1 : Int32) <<< (nI (C / n ^ j % n) &&& 31)), hI, a2]
      · rw [show n - (j + 1) = m by omega]; omega
      · show nI m + (-1 : Int32) = nI (n - (j + 1)) + (-1)
        rw [show n - (j + 1) = m by omega]
    · intro u ⟨a1, a2, ⟨x, a3, a4⟩, a5⟩
      rw [Nat.sub_self] at a2 a4 a5
      have a2' : u.2.1 = nI (gN n n C) := by
        rw [← a2]
        show u.2.1 = (u.2.1 ||| (0 : Int32))
        rw [Int32.or_zero]
      have a4' : x = gs n (costT T) n C := a4
      have a5' : u.2.2.2 = -1 := a5
      have hf := full_iff n h6 (gN n n C) (gN_lt h0 h6 n C)
      refine ⟨_, ?_, rfl⟩
      unfold F_X9_marry_167 F_X9_marry_168 F_X9_marry_181
      rw [a5', if_pos (by decide), wR, ob_some, r0, ob_some, a2', a3, a4']
      by_cases q1 : popN (gN n n C) = n
      · rw [if_pos (hf.mpr q1)]
        by_cases q2 : gs n (costT T) n C < s.2
        · rw [if_neg (nI_ge q2 (by omega)), if_neg (by decide), if_neg (by decide), stp_yes ⟨q1, q2⟩, nI_1]
          rfl
        · rw [if_pos (nI_le (by omega) (by omega)), if_pos rfl, if_pos rfl, stp_no (fun z => q2 z.2), nI_1]
          rfl
      · rw [if_neg (fun z => q1 (hf.mp z)), if_pos rfl, if_pos rfl, stp_no (fun z => q1 z.1), nI_1]
        rfl
    · rw [Nat.pow_zero, Nat.div_one]
    · rw [Nat.pow_zero, Nat.div_one, Nat.sub_zero]
      show ((0 : Int32) ||| _) = _
      rw [Int32.zero_or]
    · rw [Nat.pow_zero, Nat.div_one, Nat.sub_zero, Nat.zero_add]
    · show nI n - (1 : Int32) = nI (n - 0) + (-1 : Int32)
      rw [Nat.sub_zero, show nI n = nI (n - 1 + 1) by rw [show n - 1 + 1 = n by omega], nI_m1, ← nI_1]
      exact Int32.add_sub_cancel _ _
  obtain ⟨t, e, rfl⟩ := key
  exact e
end
section
theorem M_digits {A : Ab} {n C r : Nat} {x : Int32} (h0 : 0 < n) (h6 : n ≤ 6) (hC : C < n ^ n) (hr : r < 6) (hn : nowT A.2.2.2 0 = n) (σ : Mem) (h : RM A σ) : ∃ σ', (F_X9_anew 134 (nI r) (nI n) σ).bind (fun q15 => (gR 9 0 134).bind fun p18 => (aI p18 (0 : Int32) q15).bind fun v19 => (F_X9_marry_226 134 (nI r) x (nI C, (v19 - (1 : Int32)), q15)).map fun z => (Sum.inr z : (Int32 × Int32 × Int32) ⊕ (Int32 × Mem))) = some (.inr (x, σ')) ∧ RM (rowA A r (some n) (fun k => nI (dg n n C k))) σ' ∧ FM σ σ' := by
  have p66 := pow66 h6
  obtain ⟨σ1, e1, s1, _, f1, f2⟩ := M_anew (n := n) (σ := σ) hr
  have hnow := h.now
  have m1 : ∀ u : Mem, (∀ b, u.1 135 b = σ.1 135 b) → aI 135 (0 : Int32) u = some (nI n) := fun u hu => by
    have e : u.1 135 0 = nI (nowT A.2.2.2 0) := (hu 0).trans (hnow 0 (by decide))
    exact (w_rd (j := 0) (by decide)).trans (by rw [e, hn])
  have key : ∃ t, F_X9_marry_226 134 (nI r) x (nI C, (nI n - (1 : Int32)), σ1) = some t ∧ ∃ σ', t = (x, σ') ∧ σ'.1 138 r = nI n ∧ (∀ k, k < n → σ'.1 137 (r * 40 + k) = nI (dg n n C k)) ∧ (∀ x y, (x ≠ 138 ∨ y ≠ r) → (x ≠ 137 ∨ y < r * 40 ∨ r * 40 + 40 ≤ y) → σ'.1 x y = σ.1 x y) ∧ σ'.2 = σ.2 := by
    unfold F_X9_marry_226
    refine lp_inv (fun j (u : Int32 × Int32 × Mem) => u.1 = nI (C / n ^ j) ∧ u.2.1 = nI (n - j) + (-1 : Int32) ∧ u.2.2.1 138 r = nI n ∧ (∀ k, n - j ≤ k → k < n → u.2.2.1 137 (r * 40 + k) = nI (dg n n C k)) ∧ (∀ x y, (x ≠ 138 ∨ y ≠ r) → (x ≠ 137 ∨ y < r * 40 ∨ r * 40 + 40 ≤ y) → u.2.2.1 x y = σ.1 x y) ∧ u.2.2.2 = σ.2) n ?_ ?_ _ ⟨?_, ?_, s1, fun k h1 h2 => absurd h2 (by omega), f1, f2⟩
    · intro j u hj ⟨a1, a2, a3, a4, a5, a6⟩
      obtain ⟨m, hm⟩ : ∃ m, n - j = m + 1 := ⟨n - j - 1, by omega⟩
      rw [hm] at a2
      have a2' : u.2.1 = nI m := a2.trans (nI_m1 m)
      have hD : C / n ^ j / n = C / n ^ (j + 1) := by rw [Nat.div_div_eq_div_mul, ← Nat.pow_succ]
      have hl : C / n ^ j ≤ C := Nat.div_le_self _ _
      have r0 := m1 u.2.2 (fun b => a5 _ _ (by omega) (by omega))
      have r1 := m1 (setI u.2.2 137 (r * 40 + m) (nI (C / n ^ j % n))) (fun b => by rw [setI_1, if_neg (by omega)]; exact a5 _ _ (by omega) (by omega))
      refine ⟨(nI (C / n ^ (j + 1)), nI m + (-1 : Int32), setI u.2.2 137 (r * 40 + m) (nI (C / n ^ j % n))), ?_, rfl, ?_, ?_, fun k h1 h2 => ?_, fun x y q1 q2 => ?_, a6⟩
      · rw [a1, a2', if_neg (nI_pos (by omega)), gR_134_3, ob_some, wR, ob_some, r0, ob_some, nz_N h0 (by omega), ob_some, pk_rem (by omega) h0 (by omega), ix40, sI_eq sh_137 (by omega) (by decide), ob_some, ob_some, r1, ob_some, nz_N h0 (by omega), ob_some, pk_div (by omega) h0 (by omega), hD]
      · show nI m + (-1 : Int32) = nI (n - (j + 1)) + (-1)
        rw [show n - (j + 1) = m by omega]
      · show (setI u.2.2 137 (r * 40 + m) _).1 138 r = _
        rw [setI_1, if_neg (by omega)]; exact a3
      · show (setI u.2.2 137 (r * 40 + m) _).1 137 (r * 40 + k) = _
        rw [setI_1]
        by_cases y : k = m
        · rw [if_pos ⟨rfl, by omega⟩, y]
          have e := dg_up (n := n) (m + 1) j C m (by omega)
          rw [show m + 1 + j = n by omega] at e
          rw [e]
          show _ = nI (if m = m then C / n ^ j % n else _)
          rw [if_pos rfl]
        · rw [if_neg (by omega)]; exact a4 k (by omega) h2
      · show (setI u.2.2 137 (r * 40 + m) _).1 x y = _
        rw [setI_1, if_neg (by omega)]; exact a5 x y q1 q2
    · intro u ⟨a1, a2, a3, a4, a5, a6⟩
      rw [Nat.sub_self] at a2 a4
      have a2' : u.2.1 = -1 := a2
      exact ⟨_, by rw [a2', if_pos (by decide)], u.2.2, rfl, a3, fun k hk => a4 k (Nat.zero_le _) hk, a5, a6⟩
    · rw [Nat.pow_zero, Nat.div_one]
    · show nI n - (1 : Int32) = nI (n - 0) + (-1 : Int32)
      rw [Nat.sub_zero, show nI n = nI (n - 1 + 1) by rw [show n - 1 + 1 = n by omega], nI_m1, ← nI_1]
      exact Int32.add_sub_cancel _ _
  obtain ⟨t, e, σ', rfl, k1, k2, k3, k4⟩ := key
  obtain ⟨p1, p2⟩ := h.putR (f := fun k => nI (dg n n C k)) hr (by omega) k1 k2 k3 k4
  refine ⟨σ', ?_, p1, p2⟩
  rw [e1, ob_some, wR, ob_some, m1 σ1 (fun b => f1 _ _ (by omega) (by omega)), ob_some, e]
  rfl
theorem sim_marry (x : Int32) : Sim (F_X8_marry 0 x) (F_X9_marry 134 x) := by
  refine sim_of fun A hA => ?_
  obtain ⟨hnw, hn0⟩ := now_wf hA
  have h6 := hnw.1
  rcases ixc x (n := 6) (by decide) with hx | ⟨r, hr, rfl⟩
  · refine ⟨-1, A, hA, C_same fun σ h => ?_, M_same fun σ h => ?_⟩
    · unfold F_X8_marry
      rw [gR_0_0, ob_some, ck_1, ob_some, S_numno sf_1 hx, ob_some, if_pos rfl]
    · unfold F_X9_marry
      rw [row_no hx, ob_some, if_pos rfl]
  · by_cases hz : nowT A.2.2.2 0 = 0
    · refine ⟨-4, A, hA, C_same fun σ h => ?_, M_same fun σ h => ?_⟩
      · unfold F_X8_marry
        rw [gR_0_0, ob_some, ck_1, ob_some, S_num sf_1 hr, ob_some, if_neg (by decide), gR_0_4, ob_some, C_isT h.now, ob_some, hz, if_pos (show nI 0 = (0 : Int32) from rfl)]
      · unfold F_X9_marry
        rw [row_yes hr, ob_some, if_neg (by decide), M_isTown h.now h6, if_pos hz, ob_some, if_pos rfl]
    · obtain ⟨n, hn⟩ : ∃ n, nowT A.2.2.2 0 = n := ⟨_, rfl⟩
      have h0 : 0 < n := by omega
      have n6 : n ≤ 6 := by omega
      have p66 := pow66 n6
      have hc : ∀ i j, i < n → j < n → costT (nowT A.2.2.2) i j ≤ 19 := by rw [← hn]; exact cost_le hnw
      have hend := fo_end h0 n6 hc
      obtain ⟨R, hR⟩ : ∃ R, fo n (costT (nowT A.2.2.2)) (0, 1000000) 0 (n ^ n) = R := ⟨_, rfl⟩
      have hlt : ∀ k, k ≤ n ^ n → (fo n (costT (nowT A.2.2.2)) (0, 1000000) 0 k).1 < n ^ n := by
        intro k
        induction k with
        | zero => intro _; exact Nat.pow_pos h0
        | succ k ih =>
          intro hk
          show (stp n (costT (nowT A.2.2.2)) (fo n (costT (nowT A.2.2.2)) (0, 1000000) 0 k) (0 + k)).1 < _
          by_cases q : okC n (costT (nowT A.2.2.2)) (fo n (costT (nowT A.2.2.2)) (0, 1000000) 0 k) (0 + k)
          · rw [stp_yes q]; show 0 + k < _; omega
          · rw [stp_no q]; exact ih (by omega)
      have hRl := hlt (n ^ n) (Nat.le_refl _)
      rw [hR] at hend hRl
      refine ⟨nI R.2, rowA A r (some n) (fun k => nI (dg n n R.1 k)), hA, fun σ h => ?_, fun σ h => ?_⟩
      · have hnow := h.now
        have fr0 : FrW σ (setI σ 90 2 (1000000 : Int32)) := FrW.set (by decide) (by decide)
        have hW : WM (setI σ 90 2 (1000000 : Int32)) n (0, 1000000) 0 0 := ⟨Nat.le_refl _, by rw [setI_1, if_pos ⟨rfl, rfl⟩]; rfl, Or.inl rfl, fun k hk => absurd hk (by omega)⟩
        have hp : popN (gN n 0 0) = 0 := by show popN 0 = 0; decide
        obtain ⟨σ2, e2, w2, fr2⟩ := C_give hnw (by decide) hn.symm h0 n 8 (by omega) 0 0 (0, 1000000) (setI σ 90 2 (1000000 : Int32)) (Nat.zero_add n) hp (hnow.kept (fun a b p q => fr0.1 a b (by omega))) hW
        rw [Nat.zero_mul, hR] at w2
        obtain ⟨y1, y2, y3, y4⟩ := w2
        have y3' : ∀ k, k < n → σ2.1 91 k = nI (dg n n R.1 k) := y3.resolve_left (by omega)
        have e2' : F_X3_give 8 90 18 (0 : Int32) (0 : Int32) (0 : Int32) (setI σ 90 2 (1000000 : Int32)) = some σ2 := e2
        obtain ⟨h2, f2⟩ := h.side (fr0.tr fr2).o
        obtain ⟨σ3, e3, m1, m2, m3⟩ := S_makeOf (n := n) (src := 91) sf_1 hr h2.1.1 (by omega) (by decide) sh_91 (by omega) (by decide) (by decide)
        obtain ⟨h3, f3⟩ := h2.putR (f := fun k => nI (dg n n R.1 k)) hr (by omega) m1 (fun i hi => (m2 i hi).trans (y3' i hi)) m3
        refine ⟨σ3, ?_, h3, f2.tr f3⟩
        have hn2 := h2.now
        unfold F_X8_marry F_X3_fewestCrossing
        rw [gR_0_0, ob_some, ck_1, ob_some, S_num sf_1 hr, ob_some, if_neg (by decide), gR_0_4, ob_some, C_isT hnow, ob_some, hn, if_neg (nI_ne0 h0 (by omega)), gR_0_10, ob_some, ob_some, ck_90, ob_some, pI_90_2, ob_some, e2', ob_some, gI_90_2, ob_some, ob_some, y2, ob_some, ob_some, C_isT hn2, ob_some, ob_some, gR_90_0, ob_some, ck_1, ob_some, hn, e3, ob_some]
      · have hnow := h.now
        have r0 : aI 135 (0 : Int32) σ = some (nI n) := by rw [← hn]; exact M_r0 hnow
        obtain ⟨σ2, e2, h2, f2⟩ := M_digits (A := A) (C := R.1) (x := nI R.2) h0 n6 hRl hr hn σ h
        refine ⟨σ2, ?_, h2, f2⟩
        have k57 : F_X9_marry_57 134 (nI r) (nI (n ^ n)) σ ((0 : Int32), (1000000 : Int32), (0 : Int32)) = some (nI R.2, σ2) := by
          have key : ∃ t, F_X9_marry_57 134 (nI r) (nI (n ^ n)) σ ((0 : Int32), (1000000 : Int32), (0 : Int32)) = some t ∧ t = (nI R.2, σ2) := by
            unfold F_X9_marry_57
            refine lp_inv (Q := fun t : Int32 × Mem => t = (nI R.2, σ2)) (fun C (u : Int32 × Int32 × Int32) => u.2.2 = nI C ∧ u.1 = nI (fo n (costT (nowT A.2.2.2)) (0, 1000000) 0 C).1 ∧ u.2.1 = nI (fo n (costT (nowT A.2.2.2)) (0, 1000000) 0 C).2) (n ^ n) ?_ ?_ _ ⟨rfl, rfl, rfl⟩
            · intro C u hC ⟨a1, a2, a3⟩
              have hm := (fo_min (n := n) (c := costT (nowT A.2.2.2)) (s := (0, 1000000)) (a := 0) C).1
              refine ⟨(nI (fo n (costT (nowT A.2.2.2)) (0, 1000000) 0 (C + 1)).1, nI (fo n (costT (nowT A.2.2.2)) (0, 1000000) 0 (C + 1)).2, nI (C + 1)), ?_, rfl, rfl, rfl⟩
              · rw [a1, a2, a3, if_neg (nI_ge hC (by omega)), wR, ob_some, r0, ob_some, M_code hnow hnw (by decide) hn.symm h0 hC hm]
                show _ = some (Sum.inl (nI (stp n (costT (nowT A.2.2.2)) (fo n (costT (nowT A.2.2.2)) (0, 1000000) 0 C) (0 + C)).1, nI (stp n (costT (nowT A.2.2.2)) (fo n (costT (nowT A.2.2.2)) (0, 1000000) 0 C) (0 + C)).2, nI (C + 1)))
                rw [Nat.zero_add]
            · intro u ⟨a1, a2, a3⟩
              rw [hR] at a2 a3
              exact ⟨_, by rw [a1, a2, a3, if_pos (nI_le (Nat.le_refl _) (by omega)), wR, ob_some, r0, ob_some]; exact e2, rfl⟩
          obtain ⟨t, e, rfl⟩ := key
          exact e
        have k23 : F_X9_marry_23 134 (nI r) σ ((1 : Int32), (0 : Int32)) = some (nI R.2, σ2) := by
          have key : ∃ t, F_X9_marry_23 134 (nI r) σ ((1 : Int32), (0 : Int32)) = some t ∧ t = (nI R.2, σ2) := by
            unfold F_X9_marry_23
            refine lp_inv (Q := fun t : Int32 × Mem => t = (nI R.2, σ2)) (fun k (u : Int32 × Int32) => u.2 = nI k ∧ u.1 = nI (n ^ k)) n ?_ ?_ _ ⟨rfl, rfl⟩
            · intro k u hk ⟨a1, a2⟩
              refine ⟨(nI (n ^ (k + 1)), nI (k + 1)), ?_, rfl, rfl⟩
              rw [a1, a2, wR, ob_some, r0, ob_some, if_neg (nI_ge hk (by omega)), ob_some, r0, ob_some, pk_mul, Nat.pow_succ, nI_1]
            · intro u ⟨a1, a2⟩
              exact ⟨_, by rw [a1, a2, wR, ob_some, r0, ob_some, if_pos (nI_le (Nat.le_refl _) (by omega)), k57]; rfl, rfl⟩
          obtain ⟨t, e, rfl⟩ := key
          exact e
        unfold F_X9_marry
        rw [row_yes hr, ob_some, if_neg (by decide), M_isTown hnow h6, if_neg hz, ob_some, if_neg (by decide), k23]
end
section
/-! ===== duel: the game ===== -/
/-- the upholsterer's turn, the inspector's turn; 0: nothing, else one more than the bed -/
def mvE (U : Tn) (a : Nat) : Tn := passT (if a = 0 then U else thinT U (a - 1))
def mvO (U : Tn) (a : Nat) : Tn := if a = 0 then U else inspT U (a - 1)
def gnO (U : Tn) (a : Nat) : Nat := if a = 0 then 0 else inspS U (a - 1)
abbrev mayE (U : Tn) (a : Nat) : Prop := a = 0 ∨ 0 < U (21 + (a - 1))
abbrev mayO (U : Tn) (a : Nat) : Prop := a = 0 ∨ dueT U (a - 1)
def minF (P : Nat → Prop) [DecidablePred P] (v : Nat → Nat) : Nat → Nat
  | 0 => 1000000
  | a + 1 => if P a then (if v a < minF P v a then v a else minF P v a) else minF P v a
def maxF (P : Nat → Prop) [DecidablePred P] (v : Nat → Nat) : Nat → Nat
  | 0 => 0
  | a + 1 => if P a then (if maxF P v a < v a then v a else maxF P v a) else maxF P v a
theorem minF_yes {P : Nat → Prop} [DecidablePred P] {v : Nat → Nat} {a : Nat} (h : P a) : minF P v (a + 1) = if v a < minF P v a then v a else minF P v a := if_pos h
theorem minF_no {P : Nat → Prop} [DecidablePred P] {v : Nat → Nat} {a : Nat} (h : ¬ P a) : minF P v (a + 1) = minF P v a := if_neg h
theorem maxF_yes {P : Nat → Prop} [DecidablePred P] {v : Nat → Nat} {a : Nat} (h : P a) : maxF P v (a + 1) = if maxF P v a < v a then v a else maxF P v a := if_pos h
theorem maxF_no {P : Nat → Prop} [DecidablePred P] {v : Nat → Nat} {a : Nat} (h : ¬ P a) : maxF P v (a + 1) = maxF P v a := if_neg h
def gmF : Nat → Nat → Tn → Nat
  | 0, _, _ => 0
  | D + 1, k, U => if k % 2 = 0 then minF (mayE U) (fun a => gmF D (k + 1) (mvE U a)) (U 0 + 1) else maxF (mayO U) (fun a => gnO U a + gmF D (k + 1) (mvO U a)) (U 0 + 1)
theorem gmF_E {D k : Nat} {U : Tn} (h : k % 2 = 0) : gmF (D + 1) k U = minF (mayE U) (fun a => gmF D (k + 1) (mvE U a)) (U 0 + 1) := if_pos h
theorem gmF_O {D k : Nat} {U : Tn} (h : ¬ k % 2 = 0) : gmF (D + 1) k U = maxF (mayO U) (fun a => gnO U a + gmF D (k + 1) (mvO U a)) (U 0 + 1) := if_neg h
theorem mvE_0 {U : Tn} {a : Nat} : mvE U a 0 = U 0 := by
  unfold mvE
  rw [pass_0]
  by_cases h : a = 0
  · rw [if_pos h]
  · rw [if_neg h]; exact upd_ne (by omega)
theorem mvO_0 {U : Tn} {a : Nat} : mvO U a 0 = U 0 := by
  unfold mvO
  by_cases h : a = 0
  · rw [if_pos h]
  · rw [if_neg h]; exact insp_0
theorem wf_E {B : Nat} {U : Tn} {a : Nat} (hw : wfT B U) (ha : a < U 0 + 1) : wfT (B + 1) (mvE U a) := by
  unfold mvE
  by_cases h : a = 0
  · rw [if_pos h]; exact wf_pass hw
  · rw [if_neg h]
    have b := hw.2.2.1 (a - 1) (by omega)
    exact wf_pass (wf_bed hw (show a - 1 < U 0 by omega) (Or.inr (Or.inl ⟨rfl, by omega⟩)))
theorem wf_O {B : Nat} {U : Tn} {a : Nat} (hw : wfT B U) (ha : a < U 0 + 1) : wfT (B + 1) (mvO U a) := by
  unfold mvO
  by_cases h : a = 0
  · rw [if_pos h]; exact wf_mono (by omega) hw
  · rw [if_neg h]; exact wf_insp hw (by omega)
theorem gn_le {B : Nat} {U : Tn} {a : Nat} (hw : wfT B U) (ha : a < U 0 + 1) : gnO U a ≤ 99 := by
  unfold gnO
  by_cases h : a = 0
  · rw [if_pos h]; omega
  · rw [if_neg h]
    have b := hw.2.2.1 (a - 1) (by omega)
    unfold inspS
    split <;> omega
theorem minF_le {P : Nat → Prop} [DecidablePred P] {v : Nat → Nat} {b : Nat} (h0 : P 0) (hv : v 0 ≤ b) (hb : b < 1000000) : ∀ a, minF P v (a + 1) ≤ b
  | 0 => by
    rw [minF_yes h0]
    show (if v 0 < 1000000 then v 0 else 1000000) ≤ b
    rw [if_pos (by omega)]; exact hv
  | a + 1 => by
    have ih := minF_le (v := v) h0 hv hb a
    by_cases q : P (a + 1)
    · rw [minF_yes q]; split <;> omega
    · rw [minF_no q]; exact ih
theorem maxF_le {P : Nat → Prop} [DecidablePred P] {v : Nat → Nat} {b : Nat} : ∀ a, (∀ j, j < a → v j ≤ b) → maxF P v a ≤ b
  | 0, _ => Nat.zero_le _
  | a + 1, h => by
    have ih := maxF_le (P := P) (v := v) (b := b) a (fun j hj => h j (by omega))
    have h1 := h a (by omega)
    by_cases q : P a
    · rw [maxF_yes q]; split <;> omega
    · rw [maxF_no q]; exact ih
theorem gmF_le : ∀ D k B U, D ≤ 4 → wfT B U → gmF D k U ≤ 99 * D
  | 0, _, _, _, _, _ => Nat.le_refl _
  | D + 1, k, B, U, hD, hw => by
    by_cases q : k % 2 = 0
    · rw [gmF_E q]
      exact minF_le (Or.inl rfl) (Nat.le_trans (gmF_le D (k + 1) (B + 1) (mvE U 0) (by omega) (wf_E hw (by omega))) (by omega)) (by omega) (U 0)
    · rw [gmF_O q]
      refine maxF_le _ (fun j hj => ?_)
      have h1 := gn_le hw hj
      have h2 := gmF_le D (k + 1) (B + 1) (mvO U j) (by omega) (wf_O hw hj)
      show gnO U j + gmF D (k + 1) (mvO U j) ≤ _
      omega
/-- the reference's plays: town, sum, whether it may be -/
abbrev Pl : Type := Tn × Nat × Bool
def stepP (k : Nat) (s : Pl) (a : Nat) : Pl :=
  if k % 2 = 1 then (mvO s.1 a, s.2.1 + gnO s.1 a, s.2.2) else (if (s.2.2 && decide (mayE s.1 a)) = true then mvE s.1 a else passT s.1, s.2.1, s.2.2 && decide (mayE s.1 a))
def runP (m : Nat) (T : Tn) : Nat → Nat → Pl
  | 0, _ => (T, 0, true)
  | k + 1, e => stepP k (runP m T k (e / m)) (e % m)
def endP (s : Pl) : Option Nat := if s.2.2 = true then some s.2.1 else none
/-- the better of what may be -/
def btr (odd : Bool) (p q : Option Nat) : Option Nat := match q with
  | none => p
  | some x => match p with
    | none => some x
    | some y => if odd = true then (if y < x then some x else some y) else (if x < y then some x else some y)
def bstP (odd : Bool) (v : Nat → Option Nat) : Nat → Option Nat
  | 0 => none
  | a + 1 => btr odd (bstP odd v a) (v a)
def valP (m : Nat) (T : Tn) (n : Nat) : Nat → Nat → Option Nat
  | 0, e => endP (runP m T n e)
  | D + 1, e => bstP (decide ((n - (D + 1)) % 2 = 1)) (fun a => valP m T n D (m * e + a)) m
theorem bstP_none {odd : Bool} {v : Nat → Option Nat} : ∀ a, (∀ j, j < a → v j = none) → bstP odd v a = none
  | 0, _ => rfl
  | a + 1, h => by
    show btr odd (bstP odd v a) (v a) = none
    rw [h a (by omega), bstP_none a (fun j hj => h j (by omega))]; rfl
theorem bstP_min {P : Nat → Prop} [DecidablePred P] {v : Nat → Option Nat} {u : Nat → Nat} {s : Nat} (h0 : P 0) (hb : u 0 < 1000000) : ∀ a, (∀ j, j < a + 1 → v j = if P j then some (s + u j) else none) → bstP false v (a + 1) = some (s + minF P u (a + 1))
  | 0, h => by
    show btr false none (v 0) = _
    rw [h 0 (by omega), if_pos h0, minF_yes h0]
    show some (s + u 0) = some (s + (if u 0 < 1000000 then u 0 else 1000000))
    rw [if_pos hb]
  | a + 1, h => by
    have ih := bstP_min (v := v) (u := u) (s := s) h0 hb a (fun j hj => h j (by omega))
    show btr false (bstP false v (a + 1)) (v (a + 1)) = _
    rw [ih, h (a + 1) (by omega)]
    by_cases q : P (a + 1)
    · rw [if_pos q, minF_yes q]
      show (if s + u (a + 1) < s + minF P u (a + 1) then some (s + u (a + 1)) else some (s + minF P u (a + 1))) = _
      by_cases z : u (a + 1) < minF P u (a + 1)
      · rw [if_pos (by omega), if_pos z]
      · rw [if_neg (by omega), if_neg z]
    · rw [if_neg q, minF_no q]; rfl
theorem bstP_max {P : Nat → Prop} [DecidablePred P] {v : Nat → Option Nat} {u : Nat → Nat} {s : Nat} (h0 : P 0) (hn : ∀ j, ¬ P j → u j = u 0) : ∀ a, (∀ j, j < a + 1 → v j = some (s + u j)) → bstP true v (a + 1) = some (s + maxF P u (a + 1)) ∧ u 0 ≤ maxF P u (a + 1)
  | 0, h => by
    constructor
    · show btr true none (v 0) = _
      rw [h 0 (by omega), maxF_yes h0]
      show some (s + u 0) = some (s + (if 0 < u 0 then u 0 else 0))
      by_cases z : 0 < u 0
      · rw [if_pos z]
      · rw [if_neg z, show u 0 = 0 by omega]
    · rw [maxF_yes h0]
      show u 0 ≤ if 0 < u 0 then u 0 else 0
      split <;> omega
  | a + 1, h => by
    obtain ⟨ih, hl⟩ := bstP_max (v := v) (u := u) (s := s) h0 hn a (fun j hj => h j (by omega))
    have e : bstP true v (a + 1 + 1) = (if s + maxF P u (a + 1) < s + u (a + 1) then some (s + u (a + 1)) else some (s + maxF P u (a + 1))) := by
      show btr true (bstP true v (a + 1)) (v (a + 1)) = _
      rw [ih, h (a + 1) (by omega)]
      rfl
    rw [e]
    by_cases q : P (a + 1)
    · rw [maxF_yes q]
      by_cases z : maxF P u (a + 1) < u (a + 1)
      · rw [if_pos (by omega), if_pos z]; exact ⟨rfl, by omega⟩
      · rw [if_neg (by omega), if_neg z]; exact ⟨rfl, hl⟩
    · have := hn (a + 1) q
      rw [maxF_no q, if_neg (by omega)]; exact ⟨rfl, hl⟩
end
section
theorem stepP_O {k a : Nat} {s : Pl} (h : k % 2 = 1) : stepP k s a = (mvO s.1 a, s.2.1 + gnO s.1 a, s.2.2) := if_pos h
theorem stepP_E {k a : Nat} {s : Pl} (h : ¬ k % 2 = 1) : stepP k s a = (if (s.2.2 && decide (mayE s.1 a)) = true then mvE s.1 a else passT s.1, s.2.1, s.2.2 && decide (mayE s.1 a)) := if_neg h
theorem wf_stepP {B k a : Nat} {s : Pl} (hw : wfT B s.1) (ha : a < s.1 0 + 1) : wfT (B + 1) (stepP k s a).1 ∧ (stepP k s a).1 0 = s.1 0 := by
  by_cases q : k % 2 = 1
  · rw [stepP_O q]
    exact ⟨wf_O hw ha, mvO_0⟩
  · rw [stepP_E q]
    show wfT (B + 1) (if (s.2.2 && decide (mayE s.1 a)) = true then mvE s.1 a else passT s.1) ∧ (if (s.2.2 && decide (mayE s.1 a)) = true then mvE s.1 a else passT s.1) 0 = s.1 0
    by_cases z : (s.2.2 && decide (mayE s.1 a)) = true
    · rw [if_pos z]; exact ⟨wf_E hw ha, mvE_0⟩
    · rw [if_neg z]; exact ⟨wf_pass hw, pass_0 _⟩
theorem wf_runP {B m : Nat} {T : Tn} (hw : wfT B T) (hm : m = T 0 + 1) : ∀ k e, wfT (B + k) (runP m T k e).1 ∧ (runP m T k e).1 0 = T 0
  | 0, _ => ⟨hw, rfl⟩
  | k + 1, e => by
    obtain ⟨h1, h2⟩ := wf_runP hw hm k (e / m)
    obtain ⟨h3, h4⟩ := wf_stepP (k := k) (a := e % m) h1 (by rw [h2, ← hm]; exact Nat.mod_lt _ (by omega))
    exact ⟨h3, h4.trans h2⟩
theorem valP_eq {B m n : Nat} {T : Tn} (hw : wfT B T) (hm : m = T 0 + 1) (hn : n ≤ 4) : ∀ D e, D ≤ n → valP m T n D e = if (runP m T (n - D) e).2.2 = true then some ((runP m T (n - D) e).2.1 + gmF D (n - D) (runP m T (n - D) e).1) else none
  | 0, e, _ => rfl
  | D + 1, e, hD => by
    have ih := fun e => valP_eq hw hm hn D e (by omega)
    obtain ⟨k, hk⟩ : ∃ k, n - (D + 1) = k := ⟨_, rfl⟩
    have hk1 : n - D = k + 1 := by omega
    rw [hk1] at ih
    rw [hk]
    obtain ⟨h1, h2⟩ := wf_runP hw hm k e
    obtain ⟨s, hs⟩ : ∃ s, runP m T k e = s := ⟨_, rfl⟩
    rw [hs] at h1 h2 ⊢
    have hR : ∀ a, a < m → runP m T (k + 1) (m * e + a) = stepP k s a := fun a ha => by
      show stepP k (runP m T k ((m * e + a) / m)) ((m * e + a) % m) = _
      have e1 : (m * e + a) / m = e := by rw [Nat.add_comm, Nat.add_mul_div_left _ _ (by omega), Nat.div_eq_of_lt ha, Nat.zero_add]
      have e2 : (m * e + a) % m = a := by rw [Nat.add_comm, Nat.add_mul_mod_self_left, Nat.mod_eq_of_lt ha]
      rw [e1, e2, hs]
    have hV : ∀ a, a < m → valP m T n D (m * e + a) = if (stepP k s a).2.2 = true then some ((stepP k s a).2.1 + gmF D (k + 1) (stepP k s a).1) else none := fun a ha => by rw [ih, hR a ha]
    show bstP (decide ((n - (D + 1)) % 2 = 1)) (fun a => valP m T n D (m * e + a)) m = _
    rw [hk]
    have hmU : m = s.1 0 + 1 := by rw [h2]; exact hm
    by_cases c : s.2.2 = true
    · rw [if_pos c]
      by_cases q : k % 2 = 1
      · rw [decide_eq_true q, gmF_O (by omega), hmU]
        refine (bstP_max (P := mayO s.1) (u := fun a => gnO s.1 a + gmF D (k + 1) (mvO s.1 a)) (s := s.2.1) (Or.inl rfl) (fun j hj => ?_) (s.1 0) (fun j hj => ?_)).1
        · have j0 : j ≠ 0 := fun z => hj (Or.inl z)
          have jd : ¬ dueT s.1 (j - 1) := fun z => hj (Or.inr z)
          show gnO s.1 j + gmF D (k + 1) (mvO s.1 j) = gnO s.1 0 + gmF D (k + 1) (mvO s.1 0)
          have e1 : gnO s.1 j = 0 := by
            unfold gnO inspS
            rw [if_neg j0, if_neg jd]
          have e2 : mvO s.1 j = mvO s.1 0 := by
            unfold mvO inspT
            rw [if_neg j0, if_neg jd, if_pos rfl]
          have e3 : gnO s.1 0 = 0 := rfl
          rw [e1, e2, e3]
        · rw [← hmU]
          show valP m T n D (m * e + j) = _
          rw [hV j (by omega), stepP_O q, if_pos c, Nat.add_assoc]
      · rw [decide_eq_false q, gmF_E (by omega), hmU]
        have hb := gmF_le D (k + 1) (B + k + 1) (mvE s.1 0) (by omega) (wf_E h1 (by omega))
        refine bstP_min (P := mayE s.1) (u := fun a => gmF D (k + 1) (mvE s.1 a)) (s := s.2.1) (Or.inl rfl) (by show gmF D (k + 1) (mvE s.1 0) < 1000000; omega) (s.1 0) (fun j hj => ?_)
        rw [← hmU]
        show valP m T n D (m * e + j) = _
        rw [hV j (by omega), stepP_E q]
        show (if (s.2.2 && decide (mayE s.1 j)) = true then some (s.2.1 + gmF D (k + 1) (if (s.2.2 && decide (mayE s.1 j)) = true then mvE s.1 j else passT s.1)) else none) = _
        by_cases z : mayE s.1 j
        · have e3 : (s.2.2 && decide (mayE s.1 j)) = true := by rw [c, decide_eq_true z]; rfl
          rw [if_pos e3, if_pos e3, if_pos z]
        · have e3 : ¬ (s.2.2 && decide (mayE s.1 j)) = true := by rw [c, decide_eq_false z]; decide
          rw [if_neg e3, if_neg z]
    · rw [if_neg c]
      refine bstP_none m (fun j hj => ?_)
      show valP m T n D (m * e + j) = none
      rw [hV j hj]
      have e3 : ¬ (stepP k s j).2.2 = true := by
        by_cases q : k % 2 = 1
        · rw [stepP_O q]; exact c
        · rw [stepP_E q]
          show ¬ (s.2.2 && decide (mayE s.1 j)) = true
          intro z
          rw [Bool.and_eq_true] at z
          exact c z.1
      rw [if_neg e3]
end
section
/-! ===== duel: the class's side ===== -/
def lvP (k : Nat) : Nat := if k = 0 then 18 else 93 + 8 * k
theorem lv_tw {k : Nat} (h : k ≤ 4) : Tw (lvP k) := by
  have c : k = 0 ∨ k = 1 ∨ k = 2 ∨ k = 3 ∨ k = 4 := by omega
  rcases c with rfl | rfl | rfl | rfl | rfl
  · exact tw_18
  · exact tw_101
  · exact tw_109
  · exact tw_117
  · exact tw_125
def FrD (k : Nat) (σ σ' : Mem) : Prop := (∀ a b, (a < 101 + 8 * k ∨ 133 ≤ a) → σ'.1 a b = σ.1 a b) ∧ σ'.2 = σ.2
theorem FrD.rf {k : Nat} {σ : Mem} : FrD k σ σ := ⟨fun _ _ _ => rfl, rfl⟩
theorem FrD.tr {k : Nat} {σ σ' σ'' : Mem} (h : FrD k σ σ') (h2 : FrD k σ' σ'') : FrD k σ σ'' := ⟨fun a b q => (h2.1 a b q).trans (h.1 a b q), h2.2.trans h.2⟩
theorem FrD.up {k : Nat} {σ σ' : Mem} (h : FrD (k + 1) σ σ') : FrD k σ σ' := ⟨fun a b q => h.1 a b (by omega), h.2⟩
theorem FrK.d {k : Nat} {σ σ' : Mem} (h : FrK (lvP (k + 1)) σ σ') (hk : k < 4) : FrD k σ σ' := ⟨fun a b q => h.1 a b (by unfold lvP; rw [if_neg (by omega)]; omega), h.2⟩
theorem FrD.ct {k : Nat} {σ σ' : Mem} {U : Tn} (f : FrD k σ σ') (h : CT σ (lvP k) U) (hk : k ≤ 4) : CT σ' (lvP k) U := h.kept (fun a b p q => f.1 a b (by
  unfold lvP at p q
  by_cases z : k = 0
  · rw [if_pos z] at q; omega
  · rw [if_neg z] at q; omega))
theorem aR_100 {k : Nat} (h : k < 4) : aR 100 (nI k) = some (lvP (k + 1)) := by
  have c : k = 0 ∨ k = 1 ∨ k = 2 ∨ k = 3 := by omega
  rcases c with rfl | rfl | rfl | rfl <;> rfl
theorem C_copyAt {σ : Mem} {k : Nat} {U : Tn} (hk : k < 4) (h : CT σ (lvP k) U) (h6 : U 0 ≤ 6) : ∃ σ', F_X2_copyAt 99 (nI k) (lvP k) σ = some (some (lvP (k + 1)), σ') ∧ CT σ' (lvP (k + 1)) U ∧ FrK (lvP (k + 1)) σ σ' := by
  obtain ⟨σ', e, c, f⟩ := C_copy (lv_tw (k := k + 1) (by omega)) (lv_tw (k := k) (by omega)) (by unfold lvP; rw [if_neg (by omega)]; split <;> omega) h6 h
  refine ⟨σ', ?_, c, f⟩
  have eN : aN 100 = some (nI 4) := rfl
  unfold F_X2_copyAt
  rw [if_neg (nI_pos (by omega)), gR_99_0, ob_some, eN, ob_some, if_neg (nI_ge hk (by omega)), ob_some, aR_100 hk, ob_some, tC (lv_tw (k := k + 1) (by omega)), ob_some, e, ob_some]
theorem C_thinno {σ : Mem} {k : Nat} {x v : Int32} (hk : Tw k) (hx : x < 0) : F_X7_thinBed k x v σ = some σ := by
  have hs := hk.ar (o := 5) (by decide) (by decide)
  have hl := hk.lt
  unfold F_X7_thinBed
  rw [tR_4 hk, ob_some, ob_some, rd_no (by omega) hs (Or.inl hx), ob_some, wr_no (by omega) hs (Or.inl hx), ob_some]
theorem m1_neg : (-1 : Int32) < 0 := by decide
/-- a bed's number from a move's: -1 for none -/
def mvI (a : Nat) : Int32 := nI a + (-1 : Int32)
theorem mvI_0 : mvI 0 = -1 := rfl
theorem mvI_s (i : Nat) : mvI (i + 1) = nI i := nI_m1 i
theorem mvI_1 (a : Nat) : mvI a + (1 : Int32) = mvI (a + 1) := by
  rw [mvI_s]
  unfold mvI
  rw [Int32.add_assoc, show (-1 : Int32) + 1 = 0 from rfl, Int32.add_zero]
theorem C_mvE {σ : Mem} {k B a : Nat} {U : Tn} (hk : Tw k) (h : CT σ k U) (hw : wfT B U) (hB : B ≤ 1000) (ha : a < U 0 + 1) : ∃ q σ', (∀ (β : Type) (g : Int32 × Mem → Option β), ((F_X7_thinBed k (mvI a) (1 : Int32) σ).bind fun q18 => (chk 7 k).bind fun _ => (F_X7_passNight k q18).bind g) = g (q, σ')) ∧ CT σ' k (mvE U a) ∧ FrK k σ σ' := by
  unfold mvE
  by_cases z : a = 0
  · rw [if_pos z]
    obtain ⟨σ', e, c, f⟩ := C_pass hk h hw (by omega)
    exact ⟨_, σ', fun β g => by rw [z, mvI_0, C_thinno hk m1_neg, ob_some, tC hk, ob_some, e, ob_some], c, f⟩
  · obtain ⟨i, rfl⟩ : ∃ i, a = i + 1 := ⟨a - 1, by omega⟩
    have hi : i < U 0 := by omega
    have b := hw.2.2.1 i hi
    have e1 : F_X7_thinBed k (nI i) (1 : Int32) σ = some (setI σ (k + 5) i (nI (U (21 + i) - 1))) := C_thin (v := 1) hk h hw hi (by decide)
    have c1 : CT (setI σ (k + 5) i (nI (U (21 + i) - 1))) k (thinT U i) := h.set (o := 5) hw.1 hi (by decide) (by decide) (by omega)
    have f1 : FrK k σ (setI σ (k + 5) i (nI (U (21 + i) - 1))) := FrK.set (by omega) (by omega)
    have w1 : wfT B (thinT U i) := wf_bed hw hi (Or.inr (Or.inl ⟨rfl, by omega⟩))
    obtain ⟨σ', e, c, f⟩ := C_pass hk c1 w1 (by omega)
    rw [if_neg z, Nat.add_sub_cancel]
    exact ⟨_, σ', fun β g => by rw [mvI_s, e1, ob_some, tC hk, ob_some, e, ob_some], c, f1.tr f⟩
theorem C_mvO {σ : Mem} {k B a : Nat} {U : Tn} (hk : Tw k) (h : CT σ k U) (hw : wfT B U) (hB : B ≤ 1000) (ha : a < U 0 + 1) : ∃ σ', F_X7_inspectBed k (mvI a) σ = some (nI (gnO U a), σ') ∧ CT σ' k (mvO U a) ∧ FrK k σ σ' := by
  unfold mvO gnO
  by_cases z : a = 0
  · rw [if_pos z, if_pos z, z, mvI_0, C_inspno hk h (Or.inl m1_neg)]
    exact ⟨σ, rfl, h, FrK.rf⟩
  · obtain ⟨i, rfl⟩ : ∃ i, a = i + 1 := ⟨a - 1, by omega⟩
    obtain ⟨σ', e, c, f⟩ := C_insp hk h hw (by omega) (show i < U 0 by omega)
    rw [if_neg z, if_neg z, mvI_s, e, Nat.add_sub_cancel]
    exact ⟨σ', rfl, c, f⟩
end
section
theorem minF_6 {P : Nat → Prop} [DecidablePred P] {v : Nat → Nat} : ∀ a, minF P v a ≤ 1000000
  | 0 => Nat.le_refl _
  | a + 1 => by
    have ih := minF_6 (P := P) (v := v) a
    by_cases q : P a
    · rw [minF_yes q]; split <;> omega
    · rw [minF_no q]; exact ih
theorem minF_0 {P : Nat → Prop} [DecidablePred P] {v : Nat → Nat} : minF P v 0 = 1000000 := rfl
theorem maxF_0 {P : Nat → Prop} [DecidablePred P] {v : Nat → Nat} : maxF P v 0 = 0 := rfl
theorem mv_lt {n a : Nat} (hn : n ≤ 6) (ha : a < n + 1) : ¬ nI n ≤ mvI a := by
  have h : ∀ n, n ≤ 6 → ∀ a, a < n + 1 → ¬ nI n ≤ mvI a := by decide
  exact h n hn a ha
theorem mv_neg {a : Nat} (ha : a ≤ 6) : mvI a < 0 ↔ a = 0 := by
  have h : ∀ a, a ≤ 6 → (mvI a < 0 ↔ a = 0) := by decide
  exact h a ha
theorem C_fewS {rec : Nat → Nat → Int32 → Int32 → Mem → Option (Int32 × Mem)} {n D k B : Nat} {U : Tn} {σ : Mem} (hn : n ≤ 4) (hk : k + (D + 1) = n) (h : CT σ (lvP k) U) (hw : wfT B U) (hB : B + D ≤ 900) (rs : ∀ U' σ', CT σ' (lvP (k + 1)) U' → wfT (B + 1) U' → ∃ σ2, rec 98 (lvP (k + 1)) (nI (k + 1)) (nI n) σ' = some (nI (gmF D (k + 1) U'), σ2) ∧ FrD (k + 1) σ' σ2) : ∃ σ', F_X1_fewestFrom rec 98 (lvP k) (nI k) (nI n) σ = some (nI (minF (mayE U) (fun a => gmF D (k + 1) (mvE U a)) (U 0 + 1)), σ') ∧ FrD k σ σ' := by
  have h6 := hw.1
  have tk := lv_tw (k := k) (by omega)
  have tk1 := lv_tw (k := k + 1) (by omega)
  have key : ∃ t, F_X1_fewestFrom_7 rec 98 (lvP k) (nI k) (nI n) ((1000000 : Int32), (-1 : Int32), σ) = some t ∧ (t.1 = nI (minF (mayE U) (fun a => gmF D (k + 1) (mvE U a)) (U 0 + 1)) ∧ FrD k σ t.2) := by
    unfold F_X1_fewestFrom_7
    refine lp_inv (fun a (u : Int32 × Int32 × Mem) => u.2.1 = mvI a ∧ u.1 = nI (minF (mayE U) (fun a => gmF D (k + 1) (mvE U a)) a) ∧ FrD k σ u.2.2) (U 0 + 1) ?_ ?_ _ ⟨mvI_0.symm, (show (1000000 : Int32) = nI (minF (mayE U) (fun a => gmF D (k + 1) (mvE U a)) 0) by rw [minF_0]; rfl), FrD.rf⟩
    · intro a u ha ⟨a1, a2, a3⟩
      have hu := a3.ct h (by omega)
      have m6 := minF_6 (P := mayE U) (v := fun a => gmF D (k + 1) (mvE U a)) a
      have k30 : mayE U a → ∃ s', F_X1_fewestFrom_30 rec 98 (lvP k) (nI k) (nI n) u.1 u.2.1 u.2.2 = some (.inl s') ∧ s'.2.1 = mvI (a + 1) ∧ s'.1 = nI (minF (mayE U) (fun a => gmF D (k + 1) (mvE U a)) (a + 1)) ∧ FrD k σ s'.2.2 := by
        intro hm
        obtain ⟨σ1, e1, c1, f1⟩ := C_copyAt (k := k) (by omega) hu h6
        obtain ⟨q1, σ2, e2, c2, f2⟩ := C_mvE (a := a) tk1 c1 hw (by omega) ha
        rw [tC tk1] at e2
        obtain ⟨σ3, e3, f3⟩ := rs (mvE U a) σ2 c2 (wf_E hw ha)
        have gl := gmF_le D (k + 1) (B + 1) (mvE U a) (by omega) (wf_E hw ha)
        unfold F_X1_fewestFrom_30
        rw [gR_98_0, ob_some, ck_99, ob_some, e1, ob_some]
        dsimp only
        rw [tC tk1, ob_some, a1, e2, nI_1]
        dsimp only
        rw [e3, ob_some, a2, mvI_1]
        refine ⟨_, rfl, rfl, ?_, a3.tr ((f1.tr f2).d (by omega) |>.tr f3.up)⟩
        show (if nI (gmF D (k + 1) (mvE U a)) < nI (minF (mayE U) (fun a => gmF D (k + 1) (mvE U a)) a) then nI (gmF D (k + 1) (mvE U a)) else nI (minF (mayE U) (fun a => gmF D (k + 1) (mvE U a)) a)) = _
        rw [minF_yes (P := mayE U) (v := fun a => gmF D (k + 1) (mvE U a)) hm]
        by_cases z : gmF D (k + 1) (mvE U a) < minF (mayE U) (fun a => gmF D (k + 1) (mvE U a)) a
        · rw [if_pos (nI_lt z (by omega)), if_pos z]
        · rw [if_neg (nI_nlt (by omega) (by omega)), if_neg z]
      rw [tI_8 tk, hu.1, ob_some]
      by_cases z : a = 0
      · obtain ⟨s', e, r⟩ := k30 (Or.inl z)
        rw [a1] at e
        rw [a1, if_neg (mv_lt h6 ha), if_pos ((mv_neg (by omega)).mpr z)]
        exact ⟨s', e, r⟩
      · obtain ⟨i, hi⟩ : ∃ i, a = i + 1 := ⟨a - 1, by omega⟩
        have hi0 : i < U 0 := by omega
        have b := hw.2.2.1 i hi0
        have ei : mvI a = nI i := by rw [hi, mvI_s]
        by_cases y : 0 < U (21 + i)
        · have hm : mayE U a := Or.inr (by rw [hi]; exact y)
          obtain ⟨s', e, r⟩ := k30 hm
          rw [a1] at e
          rw [a1, if_neg (mv_lt h6 ha), if_neg (fun v => z ((mv_neg (by omega)).mp v)), tC tk, ob_some, ei, C_thick tk hu hw hi0, ob_some, if_neg (show ¬ nI (U (21 + i)) ≤ (0 : Int32) from nI_ge (a := 0) y (by omega)), ← ei]
          exact ⟨s', e, r⟩
        · have hm : ¬ mayE U a := fun v => v.elim z (by rw [hi]; exact y)
          rw [a1, if_neg (mv_lt h6 ha), if_neg (fun v => z ((mv_neg (by omega)).mp v)), tC tk, ob_some, ei, C_thick tk hu hw hi0, ob_some, Nat.eq_zero_of_not_pos y, if_pos (by decide), ← ei, mvI_1]
          have e9 : u.1 = nI (minF (mayE U) (fun a => gmF D (k + 1) (mvE U a)) (a + 1)) := a2.trans (congrArg nI (minF_no (P := mayE U) (v := fun a => gmF D (k + 1) (mvE U a)) hm).symm)
          obtain ⟨x, hx⟩ : ∃ x, mvI (a + 1) = x := ⟨_, rfl⟩
          rw [hx]
          exact ⟨(u.1, x, u.2.2), rfl, rfl, e9, a3⟩
    · intro u ⟨a1, a2, a3⟩
      have hu := a3.ct h (by omega)
      exact ⟨(u.1, u.2.2), by rw [tI_8 tk, hu.1, ob_some, a1, mvI_s, if_pos (nI_le (Nat.le_refl _) (by omega))], a2, a3⟩
  obtain ⟨⟨t1, t2⟩, e, k1, k2⟩ := key
  refine ⟨t2, ?_, k2⟩
  unfold F_X1_fewestFrom
  rw [e, show t1 = _ from k1]
theorem C_mosS {rec : Nat → Nat → Int32 → Int32 → Mem → Option (Int32 × Mem)} {n D k B : Nat} {U : Tn} {σ : Mem} (hn : n ≤ 4) (hk : k + (D + 1) = n) (h : CT σ (lvP k) U) (hw : wfT B U) (hB : B + D ≤ 900) (rs : ∀ U' σ', CT σ' (lvP (k + 1)) U' → wfT (B + 1) U' → ∃ σ2, rec 98 (lvP (k + 1)) (nI (k + 1)) (nI n) σ' = some (nI (gmF D (k + 1) U'), σ2) ∧ FrD (k + 1) σ' σ2) : ∃ σ', F_X1_mostFrom rec 98 (lvP k) (nI k) (nI n) σ = some (nI (maxF (mayO U) (fun a => gnO U a + gmF D (k + 1) (mvO U a)) (U 0 + 1)), σ') ∧ FrD k σ σ' := by
  have h6 := hw.1
  have tk := lv_tw (k := k) (by omega)
  have tk1 := lv_tw (k := k + 1) (by omega)
  have hb : ∀ j, j < U 0 + 1 → gnO U j + gmF D (k + 1) (mvO U j) ≤ 99 + 99 * D := fun j hj => by
    have h1 := gn_le hw hj
    have h2 := gmF_le D (k + 1) (B + 1) (mvO U j) (by omega) (wf_O hw hj)
    omega
  have key : ∃ t, F_X1_mostFrom_6 rec 98 (lvP k) (nI k) (nI n) ((0 : Int32), (-1 : Int32), σ) = some t ∧ (t.1 = nI (maxF (mayO U) (fun a => gnO U a + gmF D (k + 1) (mvO U a)) (U 0 + 1)) ∧ FrD k σ t.2) := by
    unfold F_X1_mostFrom_6
    refine lp_inv (fun a (u : Int32 × Int32 × Mem) => u.2.1 = mvI a ∧ u.1 = nI (maxF (mayO U) (fun a => gnO U a + gmF D (k + 1) (mvO U a)) a) ∧ FrD k σ u.2.2) (U 0 + 1) ?_ ?_ _ ⟨mvI_0.symm, (show (0 : Int32) = nI (maxF (mayO U) (fun a => gnO U a + gmF D (k + 1) (mvO U a)) 0) by rw [maxF_0]; rfl), FrD.rf⟩
    · intro a u ha ⟨a1, a2, a3⟩
      have hu := a3.ct h (by omega)
      have m6 := maxF_le (P := mayO U) (v := fun a => gnO U a + gmF D (k + 1) (mvO U a)) (b := 99 + 99 * D) a (fun j hj => hb j (by omega))
      have k29 : mayO U a → ∃ s', F_X1_mostFrom_29 rec 98 (lvP k) (nI k) (nI n) u.1 u.2.1 u.2.2 = some (.inl s') ∧ s'.2.1 = mvI (a + 1) ∧ s'.1 = nI (maxF (mayO U) (fun a => gnO U a + gmF D (k + 1) (mvO U a)) (a + 1)) ∧ FrD k σ s'.2.2 := by
        intro hm
        obtain ⟨σ1, e1, c1, f1⟩ := C_copyAt (k := k) (by omega) hu h6
        obtain ⟨σ2, e2, c2, f2⟩ := C_mvO (a := a) tk1 c1 hw (by omega) ha
        obtain ⟨σ3, e3, f3⟩ := rs (mvO U a) σ2 c2 (wf_O hw ha)
        have gl := hb a ha
        unfold F_X1_mostFrom_29
        rw [gR_98_0, ob_some, ck_99, ob_some, e1, ob_some]
        dsimp only
        rw [tC tk1, ob_some, a1, e2, ob_some, nI_1]
        dsimp only
        rw [e3, ob_some, a2, mvI_1]
        refine ⟨_, rfl, rfl, ?_, a3.tr ((f1.tr f2).d (by omega) |>.tr f3.up)⟩
        show (if nI (maxF (mayO U) (fun a => gnO U a + gmF D (k + 1) (mvO U a)) a) < nI (gnO U a) + nI (gmF D (k + 1) (mvO U a)) then nI (gnO U a) + nI (gmF D (k + 1) (mvO U a)) else nI (maxF (mayO U) (fun a => gnO U a + gmF D (k + 1) (mvO U a)) a)) = _
        rw [maxF_yes (P := mayO U) (v := fun a => gnO U a + gmF D (k + 1) (mvO U a)) hm, nI_add]
        by_cases z : maxF (mayO U) (fun a => gnO U a + gmF D (k + 1) (mvO U a)) a < gnO U a + gmF D (k + 1) (mvO U a)
        · rw [if_pos (nI_lt z (by omega)), if_pos z]
        · rw [if_neg (nI_nlt (by omega) (by omega)), if_neg z]
      rw [tI_8 tk, hu.1, ob_some]
      by_cases z : a = 0
      · obtain ⟨s', e, r⟩ := k29 (Or.inl z)
        rw [a1] at e
        rw [a1, if_neg (mv_lt h6 ha), if_pos ((mv_neg (by omega)).mpr z)]
        exact ⟨s', e, r⟩
      · obtain ⟨i, hi⟩ : ∃ i, a = i + 1 := ⟨a - 1, by omega⟩
        have hi0 : i < U 0 := by omega
        have b := hw.2.2.1 i hi0
        have ei : mvI a = nI i := by rw [hi, mvI_s]
        by_cases y : dueT U i
        · have hm : mayO U a := Or.inr (by rw [hi]; exact y)
          obtain ⟨s', e, r⟩ := k29 hm
          rw [a1] at e
          rw [a1, if_neg (mv_lt h6 ha), if_neg (fun v => z ((mv_neg (by omega)).mp v)), tC tk, ob_some, ei, C_found tk hu hw hi0, ob_some, if_pos y, if_neg (by decide), ← ei]
          exact ⟨s', e, r⟩
        · have hm : ¬ mayO U a := fun v => v.elim z (by rw [hi]; exact y)
          rw [a1, if_neg (mv_lt h6 ha), if_neg (fun v => z ((mv_neg (by omega)).mp v)), tC tk, ob_some, ei, C_found tk hu hw hi0, ob_some, if_neg y, if_pos rfl, ← ei, mvI_1]
          have e9 : u.1 = nI (maxF (mayO U) (fun a => gnO U a + gmF D (k + 1) (mvO U a)) (a + 1)) := a2.trans (congrArg nI (maxF_no (P := mayO U) (v := fun a => gnO U a + gmF D (k + 1) (mvO U a)) hm).symm)
          obtain ⟨x, hx⟩ : ∃ x, mvI (a + 1) = x := ⟨_, rfl⟩
          rw [hx]
          exact ⟨(u.1, x, u.2.2), rfl, rfl, e9, a3⟩
    · intro u ⟨a1, a2, a3⟩
      have hu := a3.ct h (by omega)
      exact ⟨(u.1, u.2.2), by rw [tI_8 tk, hu.1, ob_some, a1, mvI_s, if_pos (nI_le (Nat.le_refl _) (by omega))], a2, a3⟩
  obtain ⟨⟨t1, t2⟩, e, k1, k2⟩ := key
  refine ⟨t2, ?_, k2⟩
  unfold F_X1_mostFrom
  rw [e, show t1 = _ from k1]
theorem C_foundF {n : Nat} (hn : n ≤ 4) : ∀ D dep, D < dep → ∀ k U B σ, k + D = n → CT σ (lvP k) U → wfT B U → B + D ≤ 900 → ∃ σ', F_X1_foundFrom dep 98 (lvP k) (nI k) (nI n) σ = some (nI (gmF D k U), σ') ∧ FrD k σ σ' := by
  intro D
  induction D with
  | zero =>
    intro dep hd k U B σ hk h hw hB
    obtain ⟨m, rfl⟩ : ∃ m, dep = m + 1 := ⟨dep - 1, by omega⟩
    refine ⟨σ, ?_, FrD.rf⟩
    show B_X1_foundFrom (F_X1_foundFrom m) 98 (lvP k) (nI k) (nI n) σ = some (nI 0, σ)
    unfold B_X1_foundFrom
    rw [if_neg (nI_nlt (by omega) (by omega))]
    rfl
  | succ D ih =>
    intro dep hd k U B σ hk h hw hB
    obtain ⟨m, rfl⟩ : ∃ m, dep = m + 1 := ⟨dep - 1, by omega⟩
    have rs : ∀ U' σ', CT σ' (lvP (k + 1)) U' → wfT (B + 1) U' → ∃ σ2, F_X1_foundFrom m 98 (lvP (k + 1)) (nI (k + 1)) (nI n) σ' = some (nI (gmF D (k + 1) U'), σ2) ∧ FrD (k + 1) σ' σ2 := fun U' σ' c w => ih m (by omega) (k + 1) U' (B + 1) σ' (by omega) c w (by omega)
    show ∃ σ', B_X1_foundFrom (F_X1_foundFrom m) 98 (lvP k) (nI k) (nI n) σ = _ ∧ _
    unfold B_X1_foundFrom
    rw [if_pos (nI_lt (by omega) (by omega)), rem2 (by omega)]
    by_cases q : k % 2 = 0
    · obtain ⟨σ', e, f⟩ := C_fewS hn hk h hw (by omega) rs
      rw [q, if_pos (show nI 0 = (0 : Int32) from rfl), gmF_E q, e, ob_some]
      exact ⟨σ', rfl, f⟩
    · obtain ⟨σ', e, f⟩ := C_mosS hn hk h hw (by omega) rs
      rw [if_neg (show ¬ nI (k % 2) = (0 : Int32) from nI_ne0 (by omega) (by omega)), gmF_O q, e, ob_some]
      exact ⟨σ', rfl, f⟩
end
section
/-! ===== duel: the reference's plays ===== -/
theorem mvI_sub (d : Nat) : nI d - (1 : Int32) = mvI d := by
  unfold mvI
  rw [Int32.sub_eq_add_neg]
theorem thin_col {T : Tn} {i m : Nat} (hi : i < 6) : thinT T i (39 + m) = T (39 + m) := upd_ne (by omega)
theorem pass_col {T : Tn} {m : Nat} (h6 : T 0 ≤ 6) : passT T (39 + m) = T (39 + m) := by
  show updT (passL T (T 0)) 1 _ (39 + m) = _
  rw [upd_ne (by omega), passL_col _ h6]
theorem insp_col {T : Tn} {i m : Nat} (hi : i < 6) : inspT T i (39 + m) = T (39 + m) := by
  unfold inspT
  split
  · rw [upd_ne (by omega), upd_ne (by omega), upd_ne (by omega), upd_ne (by omega)]
  · rfl
theorem mvE_col {U : Tn} {a m : Nat} (h6 : U 0 ≤ 6) (ha : a < U 0 + 1) : mvE U a (39 + m) = U (39 + m) := by
  unfold mvE
  by_cases z : a = 0
  · rw [if_pos z, pass_col h6]
  · rw [if_neg z, pass_col (by show updT U _ _ 0 ≤ 6; rw [upd_ne (by omega)]; exact h6), thin_col (by omega)]
theorem mvO_col {U : Tn} {a m : Nat} (h6 : U 0 ≤ 6) (ha : a < U 0 + 1) : mvO U a (39 + m) = U (39 + m) := by
  unfold mvO
  by_cases z : a = 0
  · rw [if_pos z]
  · rw [if_neg z, insp_col (by omega)]
theorem step_col {k a m : Nat} {s : Pl} (h6 : s.1 0 ≤ 6) (ha : a < s.1 0 + 1) : (stepP k s a).1 (39 + m) = s.1 (39 + m) := by
  by_cases q : k % 2 = 1
  · rw [stepP_O q]; exact mvO_col h6 ha
  · rw [stepP_E q]
    show (if (s.2.2 && decide (mayE s.1 a)) = true then mvE s.1 a else passT s.1) (39 + m) = _
    by_cases z : (s.2.2 && decide (mayE s.1 a)) = true
    · rw [if_pos z]; exact mvE_col h6 ha
    · rw [if_neg z]; exact pass_col h6
def mayI (b : Bool) : Int32 := if b = true then 1 else 0
theorem mayI_t {b : Bool} (h : b = true) : mayI b = 1 := if_pos h
theorem mayI_f {b : Bool} (h : ¬ b = true) : mayI b = 0 := if_neg h
/-- a step of the reference's trial town -/
def PS (σ : Mem) (T : Tn) (s : Pl) : Prop := MT σ 7260 s.1 ∧ COL σ T
theorem M_stepP {σ : Mem} {T : Tn} {B k d : Nat} {s : Pl} {x0 x1 x2 x3 x4 part : Int32} (hP : PS σ T s) (hw : wfT B s.1) (hB : B ≤ 1000) (hcol : ∀ m, m < 4 → s.1 (39 + m) = T (39 + m)) (hd : d < s.1 0 + 1) (hk : k ≤ 4) : ∃ σ', (if (nI k - nI k / (2 : Int32) * (2 : Int32)) = (1 : Int32) then
      if 0 ≤ mvI d then (F_X9_inspects 134 (7260 : Int32) (mvI d) σ).bind fun q22 => F_X9_duel_130 134 x1 x2 x3 x4 part (mayI s.2.2) (nI k) q22.1 (nI s.2.1) q22.2
      else F_X9_duel_130 134 x1 x2 x3 x4 part (mayI s.2.2) (nI k) (0 : Int32) (nI s.2.1) σ
      else if mayI s.2.2 = 0 then F_X9_duel_164 134 x1 x2 x3 x4 (nI s.2.1) part (nI k) (mvI d) σ
      else if mvI d < 0 then F_X9_duel_160 134 x1 x2 x3 x4 (nI s.2.1) part (nI k) (mvI d) σ
      else (gR 9 0 134).bind fun p17 => (aI p17 ((7281 : Int32) + mvI d) σ).bind fun v18 => if v18 ≤ 0 then F_X9_duel_164 134 x1 x2 x3 x4 (nI s.2.1) part (nI k) (mvI d) σ else F_X9_duel_160 134 x1 x2 x3 x4 (nI s.2.1) part (nI k) (mvI d) σ) = some (.inl (nI (stepP k s d).2.1, part, mayI (stepP k s d).2.2, nI (k + 1), σ')) ∧ PS σ' T (stepP k s d) ∧ FrM 7260 σ σ' := by
  have h6 := hw.1
  obtain ⟨hM, hC⟩ := hP
  have hneg := mv_neg (a := d) (by omega)
  rw [rem2 (by omega)]
  have keepC : ∀ σ', FrM 7260 σ σ' → COL σ' T := fun σ' f m hm => by rw [f.1 _ _ (by omega)]; exact hC m hm
  by_cases q : k % 2 = 1
  · rw [q, if_pos (show nI 1 = (1 : Int32) from rfl), stepP_O q]
    unfold F_X9_duel_130
    by_cases z : d = 0
    · have e1 : mvO s.1 d = s.1 := if_pos z
      have e2 : gnO s.1 d = 0 := if_pos z
      rw [if_neg (fun y => absurd (hneg.mpr z) (Int32.not_lt.mpr y)), show nI s.2.1 + (0 : Int32) = nI s.2.1 from Int32.add_zero _, nI_1]
      refine ⟨σ, ?_, ⟨?_, hC⟩, FrM.rf⟩
      · show _ = some (Sum.inl (nI (s.2.1 + gnO s.1 d), part, mayI s.2.2, nI (k + 1), σ))
        rw [e2]
        rfl
      · show MT σ 7260 (mvO s.1 d)
        rw [e1]; exact hM
    · obtain ⟨i, rfl⟩ : ∃ i, d = i + 1 := ⟨d - 1, by omega⟩
      obtain ⟨σ', e, c, f⟩ := M_insp (f := 7260) hM (by decide) hw (show i < s.1 0 by omega)
      have e' : F_X9_inspects 134 (7260 : Int32) (nI i) σ = some (nI (inspS s.1 i), σ') := e
      have e1 : mvO s.1 (i + 1) = inspT s.1 i := if_neg (by omega)
      have e2 : gnO s.1 (i + 1) = inspS s.1 i := if_neg (by omega)
      rw [if_pos (Int32.not_lt.mp (fun y => z (hneg.mp y))), mvI_s, e', ob_some, nI_add, nI_1]
      refine ⟨σ', ?_, ⟨?_, keepC σ' f⟩, f⟩
      · rw [e2]
      · show MT σ' 7260 (mvO s.1 (i + 1))
        rw [e1]; exact c
  · rw [show k % 2 = 0 by omega, if_neg (show ¬ nI 0 = (1 : Int32) by decide), stepP_E q]
    unfold F_X9_duel_160 F_X9_duel_164 F_X9_duel_165 F_X9_duel_192
    have hCs : COL σ s.1 := hC.ext hcol
    have bad : ¬ (s.2.2 && decide (mayE s.1 d)) = true → ∃ σ', ((F_X9_passes 134 (7260 : Int32) σ).bind fun q32 => some (Sum.inl (nI s.2.1, part, (0 : Int32), nI k + (1 : Int32), q32.2)) : Option ((Int32 × Int32 × Int32 × Int32 × Mem) ⊕ ((Int32 × Mem) ⊕ (Int32 × Mem)))) = some (.inl (nI s.2.1, part, mayI (s.2.2 && decide (mayE s.1 d)), nI (k + 1), σ')) ∧ PS σ' T (if (s.2.2 && decide (mayE s.1 d)) = true then mvE s.1 d else passT s.1, s.2.1, s.2.2 && decide (mayE s.1 d)) ∧ FrM 7260 σ σ' := by
      intro hn
      obtain ⟨σ', g1, g2, g3⟩ := M_pass (f := 7260) hM hCs (by decide) (Or.inr (by decide)) hw (by omega)
      have g1' : F_X9_passes 134 (7260 : Int32) σ = some (_, σ') := g1
      rw [g1', ob_some, nI_1, mayI_f hn, if_neg hn]
      exact ⟨σ', rfl, ⟨g2, keepC σ' g3⟩, g3⟩
    by_cases c : s.2.2 = true
    · have c10 : ¬ (1 : Int32) = 0 := by decide
      rw [mayI_t c, if_neg c10]
      by_cases z : d = 0
      · have hy : (s.2.2 && decide (mayE s.1 d)) = true := by rw [c, decide_eq_true (show mayE s.1 d from Or.inl z)]; rfl
        obtain ⟨σ', g1, g2, g3⟩ := M_pass (f := 7260) hM hCs (by decide) (Or.inr (by decide)) hw (by omega)
        have g1' : F_X9_passes 134 (7260 : Int32) σ = some (_, σ') := g1
        have e1 : mvE s.1 d = passT s.1 := by unfold mvE; rw [if_pos z]
        rw [if_pos (hneg.mpr z), if_neg c10, if_pos (hneg.mpr z), g1', ob_some, nI_1, mayI_t hy, if_pos hy, e1]
        exact ⟨σ', rfl, ⟨g2, keepC σ' g3⟩, g3⟩
      · have hnn : ¬ mvI d < 0 := fun y => z (hneg.mp y)
        obtain ⟨i, rfl⟩ : ∃ i, d = i + 1 := ⟨d - 1, by omega⟩
        have hi : i < s.1 0 := by omega
        have b := hw.2.2.1 i hi
        have i7 : (7281 : Int32) + nI i = nI (7260 + (21 + i)) := (lx (a := 7281) rfl).trans (by rw [show 7281 + i = 7260 + (21 + i) by omega])
        have r1 : aI 135 (nI (7260 + (21 + i))) σ = some (nI (s.1 (21 + i))) := by rw [w_rd (by omega), hM (21 + i) (by omega)]
        rw [if_neg hnn, mvI_s, wR, ob_some, i7, r1, ob_some]
        by_cases y : 0 < s.1 (21 + i)
        · have hm : mayE s.1 (i + 1) := Or.inr y
          have hy : (s.2.2 && decide (mayE s.1 (i + 1))) = true := by rw [c, decide_eq_true hm]; rfl
          have ni : ¬ nI i < 0 := nI_pos (by omega)
          have m1 : MT (setI σ 135 (7260 + (21 + i)) (nI (s.1 (21 + i) - 1))) 7260 (thinT s.1 i) := hM.set
          have f1 : FrM 7260 σ (setI σ 135 (7260 + (21 + i)) (nI (s.1 (21 + i) - 1))) := FrM.set (by omega)
          have w1 : wfT B (thinT s.1 i) := wf_bed hw hi (Or.inr (Or.inl ⟨rfl, by omega⟩))
          have hC1 : COL (setI σ 135 (7260 + (21 + i)) (nI (s.1 (21 + i) - 1))) (thinT s.1 i) := (keepC _ f1).ext (fun m hm => (thin_col (by omega)).trans (hcol m hm))
          obtain ⟨σ', g1, g2, g3⟩ := M_pass (f := 7260) m1 hC1 (by decide) (Or.inr (by decide)) w1 (by omega)
          have g1' : F_X9_passes 134 (7260 : Int32) (setI σ 135 (7260 + (21 + i)) (nI (s.1 (21 + i) - 1))) = some (_, σ') := g1
          have e1 : mvE s.1 (i + 1) = passT (thinT s.1 i) := by unfold mvE; rw [if_neg (by omega), Nat.add_sub_cancel]
          rw [if_neg (show ¬ nI (s.1 (21 + i)) ≤ (0 : Int32) from nI_ge (a := 0) y (by omega)), if_neg c10, if_neg ni, ob_some, r1, ob_some, show nI (s.1 (21 + i)) - (1 : Int32) = nI (s.1 (21 + i) - 1) from pk_sub (b := 1) y, w_wr (by omega), ob_some, g1', ob_some, nI_1, mayI_t hy, if_pos hy, e1]
          exact ⟨σ', rfl, ⟨g2, keepC σ' (f1.tr g3)⟩, f1.tr g3⟩
        · have hm : ¬ mayE s.1 (i + 1) := fun v => v.elim (by omega) y
          have hn : ¬ (s.2.2 && decide (mayE s.1 (i + 1))) = true := by rw [c, decide_eq_false hm]; decide
          rw [Nat.eq_zero_of_not_pos y, if_pos (by decide), if_pos rfl]
          exact bad hn
    · have hn : ¬ (s.2.2 && decide (mayE s.1 d)) = true := fun y => by
        rw [Bool.and_eq_true] at y
        exact c y.1
      rw [mayI_f c, if_pos rfl, if_pos rfl]
      exact bad hn
end
section
def valI (o : Option Nat) : Int32 := match o with
  | none => -1
  | some x => nI x
theorem valI_n : valI none = -1 := rfl
theorem valI_s (x : Nat) : valI (some x) = nI x := rfl
theorem run_col {B m : Nat} {T : Tn} (hw : wfT B T) (hm : m = T 0 + 1) : ∀ k e j, (runP m T k e).1 (39 + j) = T (39 + j)
  | 0, _, _ => rfl
  | k + 1, e, j => by
    obtain ⟨h1, h2⟩ := wf_runP hw hm k (e / m)
    have h6 := h1.1
    have ih := run_col hw hm k (e / m) j
    exact (step_col h6 (by rw [h2, ← hm]; exact Nat.mod_lt _ (by omega))).trans ih
theorem M_play {σ : Mem} {T : Tn} {B n m C : Nat} {x3 : Int32} (h : MT σ 7260 T) (hC : COL σ T) (hw : wfT B T) (hB : B ≤ 900) (hm : m = T 0 + 1) (hn : n ≤ 4) (hc : C < m ^ n) (hp : m ^ n ≤ 2401) : ∃ σ', F_X9_duel_79 134 (nI n) (nI m) x3 (nI C) ((0 : Int32), nI (m ^ n), (1 : Int32), (0 : Int32), σ) = some (.inl (nI (C + 1), σ')) ∧ σ'.1 144 C = valI (valP m T n 0 C) ∧ (∀ a b, (a ≠ 135 ∨ b < 7260) → (a ≠ 144 ∨ b ≠ C) → σ'.1 a b = σ.1 a b) ∧ σ'.2 = σ.2 := by
  have h6 := hw.1
  have m0 : 0 < m := by omega
  have key : ∃ t, F_X9_duel_79 134 (nI n) (nI m) x3 (nI C) ((0 : Int32), nI (m ^ n), (1 : Int32), (0 : Int32), σ) = some t ∧ ∃ σ', t = .inl (nI (C + 1), σ') ∧ σ'.1 144 C = valI (valP m T n 0 C) ∧ (∀ a b, (a ≠ 135 ∨ b < 7260) → (a ≠ 144 ∨ b ≠ C) → σ'.1 a b = σ.1 a b) ∧ σ'.2 = σ.2 := by
    unfold F_X9_duel_79
    refine lp_inv (fun k (u : Int32 × Int32 × Int32 × Int32 × Mem) => u.1 = nI (runP m T k (C / m ^ (n - k))).2.1 ∧ u.2.1 = nI (m ^ (n - k)) ∧ u.2.2.1 = mayI (runP m T k (C / m ^ (n - k))).2.2 ∧ u.2.2.2.1 = nI k ∧ PS u.2.2.2.2 T (runP m T k (C / m ^ (n - k))) ∧ FrM 7260 σ u.2.2.2.2) n ?_ ?_ _ ⟨rfl, rfl, rfl, rfl, ⟨h, hC⟩, FrM.rf⟩
    · intro k u hk ⟨a1, a2, a3, a4, a5, a6⟩
      obtain ⟨D, hD⟩ : ∃ D, n - k = D + 1 := ⟨n - k - 1, by omega⟩
      rw [hD] at a1 a2 a3 a5
      obtain ⟨w1, w2⟩ := wf_runP hw hm k (C / m ^ (D + 1))
      have col := run_col hw hm k (C / m ^ (D + 1))
      have hpD : 0 < m ^ D := Nat.pow_pos m0
      have hpl : m ^ (D + 1) ≤ m ^ n := Nat.pow_le_pow_right m0 (by omega)
      have hpl2 : m ^ D ≤ m ^ (D + 1) := Nat.pow_le_pow_right m0 (by omega)
      have eD : m ^ (D + 1) / m = m ^ D := by rw [Nat.pow_succ]; exact Nat.mul_div_cancel _ m0
      have eq1 : C / m ^ D / m = C / m ^ (D + 1) := by rw [Nat.div_div_eq_div_mul, ← Nat.pow_succ]
      have hq : C / m ^ D ≤ C := Nat.div_le_self _ _
      have hd : C / m ^ D % m < m := Nat.mod_lt _ m0
      have eR : runP m T (k + 1) (C / m ^ D) = stepP k (runP m T k (C / m ^ (D + 1))) (C / m ^ D % m) := by
        show stepP k (runP m T k (C / m ^ D / m)) (C / m ^ D % m) = _
        rw [eq1]
      obtain ⟨σ', e, p1, p2⟩ := M_stepP (x1 := nI n) (x2 := nI m) (x3 := x3) (x4 := nI C) (x0 := 0) (part := nI (m ^ D)) a5 w1 (by omega) (fun j _ => col j) (show C / m ^ D % m < (runP m T k (C / m ^ (D + 1))).1 0 + 1 by omega) (show k ≤ 4 by omega)
      have nk1 : n - (k + 1) = D := by omega
      refine ⟨(nI (runP m T (k + 1) (C / m ^ D)).2.1, nI (m ^ D), mayI (runP m T (k + 1) (C / m ^ D)).2.2, nI (k + 1), σ'), ?_, ?_⟩
      · rw [a1, a2, a3, a4, if_neg (nI_ge hk (by omega)), nz_N m0 (by omega), ob_some, pk_div (by omega) m0 (by omega), eD, nz_N hpD (by omega), ob_some, ob_some, pk_div (by omega) hpD (by omega), pk_rem (by omega) m0 (by omega), mvI_sub]
        dsimp only
        rw [e, ← eR]
      · rw [nk1]
        refine ⟨rfl, rfl, rfl, rfl, ?_, a6.tr p2⟩
        rw [eR]; exact p1
    · intro u ⟨a1, a2, a3, a4, a5, a6⟩
      rw [Nat.sub_self, Nat.pow_zero, Nat.div_one] at a1 a3 a5
      obtain ⟨P, hP⟩ : ∃ P, runP m T n C = P := ⟨_, rfl⟩
      rw [hP] at a1 a3
      have eV : valP m T n 0 C = endP P := by rw [← hP]; rfl
      rw [eV]
      unfold F_X9_duel_223
      rw [a1, a3, a4, if_pos (nI_le (Nat.le_refl _) (by omega)), gR_134_15, ob_some]
      have fin : ∀ v : Int32, v = valI (endP P) → (setI u.2.2.2.2 144 C v).1 144 C = valI (endP P) ∧ (∀ a b, (a ≠ 135 ∨ b < 7260) → (a ≠ 144 ∨ b ≠ C) → (setI u.2.2.2.2 144 C v).1 a b = σ.1 a b) ∧ (setI u.2.2.2.2 144 C v).2 = σ.2 := fun v hv => by
        refine ⟨by rw [setI_1, if_pos ⟨rfl, rfl⟩, hv], fun a b q1 q2 => ?_, a6.2⟩
        rw [setI_1, if_neg (by omega)]
        exact a6.1 a b (by omega)
      by_cases c : P.2.2 = true
      · have eE : valI (endP P) = nI P.2.1 := by unfold endP; rw [if_pos c]; rfl
        rw [mayI_t c, if_neg (by decide), sI_eq sh_144 (by omega) (by decide), ob_some, nI_1]
        exact ⟨_, rfl, _, rfl, fin _ eE.symm⟩
      · have eE : valI (endP P) = -1 := by unfold endP; rw [if_neg c]; rfl
        rw [mayI_f c, if_pos rfl, sI_eq sh_144 (by omega) (by decide), ob_some, nI_1]
        exact ⟨_, rfl, _, rfl, fin _ eE.symm⟩
  obtain ⟨t, e, σ', rfl, k⟩ := key
  exact ⟨σ', e, k⟩
end
section
/-! ===== duel: the reference's way back ===== -/
def okV (o : Option Nat) : Prop := ∀ x, o = some x → x ≤ 1000
theorem okV_n : okV none := fun x h => by cases h
theorem okV_btr {odd : Bool} {p q : Option Nat} (hp : okV p) (hq : okV q) : okV (btr odd p q) := by
  cases q with
  | none => exact hp
  | some x =>
    cases p with
    | none => exact hq
    | some y =>
      show okV (if odd = true then (if y < x then some x else some y) else (if x < y then some x else some y))
      split <;> split <;> assumption
theorem okV_bst {odd : Bool} {v : Nat → Option Nat} : ∀ a, (∀ j, j < a → okV (v j)) → okV (bstP odd v a)
  | 0, _ => okV_n
  | a + 1, h => okV_btr (okV_bst a (fun j hj => h j (by omega))) (h a (by omega))
theorem run_sum {B m : Nat} {T : Tn} (hw : wfT B T) (hm : m = T 0 + 1) : ∀ k e, (runP m T k e).2.1 ≤ 99 * k
  | 0, _ => Nat.le_refl _
  | k + 1, e => by
    obtain ⟨h1, h2⟩ := wf_runP hw hm k (e / m)
    have ih := run_sum hw hm k (e / m)
    have hd : e % m < m := Nat.mod_lt _ (by omega)
    show (stepP k (runP m T k (e / m)) (e % m)).2.1 ≤ _
    by_cases q : k % 2 = 1
    · rw [stepP_O q]
      have := gn_le h1 (a := e % m) (by omega)
      show (runP m T k (e / m)).2.1 + gnO (runP m T k (e / m)).1 (e % m) ≤ _
      omega
    · rw [stepP_E q]
      show (runP m T k (e / m)).2.1 ≤ _
      omega
theorem okV_val {B m n : Nat} {T : Tn} (hw : wfT B T) (hm : m = T 0 + 1) (hn : n ≤ 4) : ∀ D e, D ≤ n → okV (valP m T n D e)
  | 0, e, _ => by
    show okV (endP (runP m T n e))
    intro x hx
    unfold endP at hx
    have := run_sum hw hm n e
    by_cases c : (runP m T n e).2.2 = true
    · rw [if_pos c] at hx; injection hx with hx; omega
    · rw [if_neg c] at hx; cases hx
  | D + 1, e, hD => okV_bst m (fun j _ => okV_val hw hm hn D (m * e + j) (by omega))
theorem valI_neg {o : Option Nat} (h : okV o) : valI o < 0 ↔ o = none := by
  cases o with
  | none => exact ⟨fun _ => rfl, fun _ => by decide⟩
  | some x => exact ⟨fun z => absurd z (nI_pos (by have := h x rfl; omega)), fun z => by cases z⟩
theorem M_btr {σ : Mem} {k : Nat} {x2 x4 x6 x8 : Int32} {p q : Option Nat} (hp : okV p) (hq : okV q) (hk : k ≤ 4) : (if valI q < 0 then F_X9_duel_324 134 x2 x4 (nI k) x6 (valI p) x8 (valI q) σ
      else if valI p < 0 then F_X9_duel_320 134 x2 x4 (nI k) x6 (valI p) x8 (valI q) σ
      else if (nI k - nI k / (2 : Int32) * (2 : Int32)) = (1 : Int32) then
      if valI q ≤ valI p then F_X9_duel_324 134 x2 x4 (nI k) x6 (valI p) x8 (valI q) σ else F_X9_duel_320 134 x2 x4 (nI k) x6 (valI p) x8 (valI q) σ
      else if valI p ≤ valI q then F_X9_duel_324 134 x2 x4 (nI k) x6 (valI p) x8 (valI q) σ else F_X9_duel_320 134 x2 x4 (nI k) x6 (valI p) x8 (valI q) σ) = some (.inl (valI (btr (decide (k % 2 = 1)) p q), x8 + (1 : Int32))) := by
  unfold F_X9_duel_320 F_X9_duel_324 F_X9_duel_325
  rw [rem2 (by omega)]
  cases q with
  | none => rw [if_pos ((valI_neg hq).mpr rfl), if_pos rfl]; rfl
  | some x =>
    rw [if_neg (fun z => by have := (valI_neg hq).mp z; cases this)]
    cases p with
    | none => rw [if_pos ((valI_neg hp).mpr rfl), if_neg (by decide)]; rfl
    | some y =>
      have bx := hq x rfl
      have by' := hp y rfl
      rw [if_neg (fun z => by have := (valI_neg hp).mp z; cases this), valI_s, valI_s]
      by_cases c : k % 2 = 1
      · rw [decide_eq_true c, c, if_pos (show nI 1 = (1 : Int32) from rfl)]
        show _ = some (Sum.inl (valI (if y < x then some x else some y), _))
        by_cases z : y < x
        · rw [if_neg (nI_ge z (by omega)), if_neg (by decide), if_pos z]; rfl
        · rw [if_pos (nI_le (by omega) (by omega)), if_pos rfl, if_neg z]; rfl
      · rw [decide_eq_false c, show k % 2 = 0 by omega, if_neg (show ¬ nI 0 = (1 : Int32) by decide)]
        show _ = some (Sum.inl (valI (if x < y then some x else some y), _))
        by_cases z : x < y
        · rw [if_neg (nI_ge z (by omega)), if_neg (by decide), if_pos z]; rfl
        · rw [if_pos (nI_le (by omega) (by omega)), if_pos rfl, if_neg z]; rfl
/-- only the values change -/
def FrV (σ σ' : Mem) : Prop := (∀ a b, a ≠ 144 → σ'.1 a b = σ.1 a b) ∧ σ'.2 = σ.2
theorem FrV.rf {σ : Mem} : FrV σ σ := ⟨fun _ _ _ => rfl, rfl⟩
theorem FrV.tr {σ σ' σ'' : Mem} (h : FrV σ σ') (h2 : FrV σ' σ'') : FrV σ σ'' := ⟨fun a b q => (h2.1 a b q).trans (h.1 a b q), h2.2.trans h.2⟩
theorem FrV.set {j : Nat} {v : Int32} {σ : Mem} : FrV σ (setI σ 144 j v) := ⟨fun x y q => by rw [setI_1, if_neg (by omega)], rfl⟩
theorem M_back1 {σ : Mem} {T : Tn} {B m n D e k : Nat} {x4 : Int32} (hw : wfT B T) (hm : m = T 0 + 1) (hn : n ≤ 4) (hD : D < n) (hk : k = n - (D + 1)) (he : m * e + m ≤ 2401) (hv : ∀ j, j < m → σ.1 144 (m * e + j) = valI (valP m T n D (m * e + j))) : F_X9_duel_265 134 (nI m) x4 (nI k) (nI e) σ ((-1 : Int32), (0 : Int32)) = some (.inl (nI (e + 1), setI σ 144 e (valI (valP m T n (D + 1) e)))) := by
  have m0 : 0 < m := by omega
  have hem : e < 2401 := by
    have : e ≤ m * e := Nat.le_mul_of_pos_left e m0
    omega
  have ev : valP m T n (D + 1) e = bstP (decide (k % 2 = 1)) (fun a => valP m T n D (m * e + a)) m := by rw [hk]; rfl
  have key : ∃ t, F_X9_duel_265 134 (nI m) x4 (nI k) (nI e) σ ((-1 : Int32), (0 : Int32)) = some t ∧ t = .inl (nI (e + 1), setI σ 144 e (valI (valP m T n (D + 1) e))) := by
    unfold F_X9_duel_265
    refine lp_inv (fun i (u : Int32 × Int32) => u.2 = nI i ∧ u.1 = valI (bstP (decide (k % 2 = 1)) (fun a => valP m T n D (m * e + a)) i)) m ?_ ?_ _ ⟨rfl, rfl⟩
    · intro i u hi ⟨a1, a2⟩
      refine ⟨(valI (bstP (decide (k % 2 = 1)) (fun a => valP m T n D (m * e + a)) (i + 1)), nI (i + 1)), ?_, rfl, rfl⟩
      have ix : (nI m * nI e) + nI i = nI (m * e + i) := by rw [pk_mul, nI_add]
      have ok1 := okV_bst (odd := decide (k % 2 = 1)) (v := fun a => valP m T n D (m * e + a)) i (fun j hj => okV_val hw hm hn D (m * e + j) (by omega))
      rw [a1, a2, if_neg (nI_ge hi (by omega)), gR_134_15, ob_some, ix, aI_eq sh_144 (by omega) (by decide), ob_some, hv i hi, M_btr ok1 (okV_val hw hm hn D (m * e + i) (by omega)) (by omega), nI_1]
      rfl
    · intro u ⟨a1, a2⟩
      refine ⟨_, ?_, rfl⟩
      rw [a1, a2, ev, if_pos (nI_le (Nat.le_refl _) (by omega)), gR_134_15, ob_some, sI_eq sh_144 hem (by decide), ob_some, nI_1]
  obtain ⟨t, e2, rfl⟩ := key
  exact e2
theorem M_back2 {σ : Mem} {T : Tn} {B m n D : Nat} (hw : wfT B T) (hm : m = T 0 + 1) (hn : n ≤ 4) (hD : D < n) (hp : m ^ n ≤ 2401) (hv : ∀ j, j < m ^ (n - D) → σ.1 144 j = valI (valP m T n D j)) : ∃ σ', F_X9_duel_252 134 (nI m) (nI (m ^ (n - (D + 1)))) (nI (n - (D + 1))) ((0 : Int32), σ) = some (.inl (nI (m ^ (n - (D + 1))), nI (n - (D + 1)) + (-1 : Int32), σ')) ∧ (∀ j, j < m ^ (n - (D + 1)) → σ'.1 144 j = valI (valP m T n (D + 1) j)) ∧ FrV σ σ' := by
  have m0 : 0 < m := by omega
  have hpl : m ^ (n - (D + 1)) ≤ m ^ n := Nat.pow_le_pow_right m0 (by omega)
  have hpl2 : m ^ (n - D) ≤ m ^ n := Nat.pow_le_pow_right m0 (by omega)
  have eP : m ^ (n - D) = m * m ^ (n - (D + 1)) := by rw [show n - D = (n - (D + 1)) + 1 by omega, Nat.pow_succ, Nat.mul_comm]
  have key : ∃ t, F_X9_duel_252 134 (nI m) (nI (m ^ (n - (D + 1)))) (nI (n - (D + 1))) ((0 : Int32), σ) = some t ∧ ∃ σ', t = .inl (nI (m ^ (n - (D + 1))), nI (n - (D + 1)) + (-1 : Int32), σ') ∧ (∀ j, j < m ^ (n - (D + 1)) → σ'.1 144 j = valI (valP m T n (D + 1) j)) ∧ FrV σ σ' := by
    unfold F_X9_duel_252
    refine lp_inv (fun e (u : Int32 × Mem) => u.1 = nI e ∧ (∀ j, j < e → u.2.1 144 j = valI (valP m T n (D + 1) j)) ∧ (∀ j, e ≤ j → j < m ^ (n - D) → u.2.1 144 j = valI (valP m T n D j)) ∧ FrV σ u.2) (m ^ (n - (D + 1))) ?_ ?_ _ ⟨rfl, fun j hj => absurd hj (by omega), fun j _ hj => hv j hj, FrV.rf⟩
    · intro e u he ⟨a1, a2, a3, a4⟩
      have hme : m * e + m ≤ m ^ (n - D) := by
        rw [eP, ← Nat.mul_succ]
        exact Nat.mul_le_mul_left m he
      have hle : e ≤ m * e := Nat.le_mul_of_pos_left e m0
      have eb := M_back1 (σ := u.2) (x4 := nI (m ^ (n - (D + 1)))) hw hm hn hD rfl (show m * e + m ≤ 2401 by omega) (fun j hj => a3 (m * e + j) (by omega) (by omega))
      refine ⟨(nI (e + 1), setI u.2 144 e (valI (valP m T n (D + 1) e))), ?_, rfl, fun j hj => ?_, fun j h1 h2 => ?_, a4.tr FrV.set⟩
      · rw [a1, if_neg (nI_ge he (by omega)), eb]
      · show (setI u.2 144 e (valI (valP m T n (D + 1) e))).1 144 j = _
        rw [setI_1]
        by_cases y : j = e
        · rw [if_pos ⟨rfl, y⟩, y]
        · rw [if_neg (fun z => y z.2)]; exact a2 j (by omega)
      · show (setI u.2 144 e (valI (valP m T n (D + 1) e))).1 144 j = _
        rw [setI_1, if_neg (by omega)]; exact a3 j (by omega) h2
    · intro u ⟨a1, a2, a3, a4⟩
      exact ⟨_, by rw [a1, if_pos (nI_le (Nat.le_refl _) (by omega))], u.2, rfl, a2, a4⟩
  obtain ⟨t, e, σ', rfl, k⟩ := key
  exact ⟨σ', e, k⟩
end
section
theorem M_back {σ : Mem} {T : Tn} {B m n : Nat} (hw : wfT B T) (hm : m = T 0 + 1) (hn : n ≤ 4) (hp : m ^ n ≤ 2401) (hv : ∀ j, j < m ^ n → σ.1 144 j = valI (valP m T n 0 j)) : ∃ σ', F_X9_duel_238 134 (nI m) (nI (m ^ n), (nI n - (1 : Int32)), σ) = some (valI (valP m T n n 0), σ') ∧ FrV σ σ' := by
  have m0 : 0 < m := by omega
  have key : ∃ t, F_X9_duel_238 134 (nI m) (nI (m ^ n), (nI n - (1 : Int32)), σ) = some t ∧ (t.1 = valI (valP m T n n 0) ∧ FrV σ t.2) := by
    unfold F_X9_duel_238
    refine lp_inv (fun D (u : Int32 × Int32 × Mem) => u.1 = nI (m ^ (n - D)) ∧ u.2.1 = mvI (n - D) ∧ (∀ j, j < m ^ (n - D) → u.2.2.1 144 j = valI (valP m T n D j)) ∧ FrV σ u.2.2) n ?_ ?_ _ ⟨rfl, mvI_sub n, hv, FrV.rf⟩
    · intro D u hD ⟨a1, a2, a3, a4⟩
      obtain ⟨σ', e, k1, k2⟩ := M_back2 hw hm hn hD hp a3
      have hpl2 : m ^ (n - D) ≤ m ^ n := Nat.pow_le_pow_right m0 (by omega)
      have eD : m ^ (n - D) / m = m ^ (n - (D + 1)) := by
        rw [show n - D = (n - (D + 1)) + 1 by omega, Nat.pow_succ]; exact Nat.mul_div_cancel _ m0
      have a2' : u.2.1 = nI (n - (D + 1)) := by rw [a2, show n - D = (n - (D + 1)) + 1 by omega, mvI_s]
      have em : nI (n - (D + 1)) + (-1 : Int32) = mvI (n - (D + 1)) := rfl
      obtain ⟨x, hx⟩ : ∃ x, mvI (n - (D + 1)) = x := ⟨_, rfl⟩
      refine ⟨(nI (m ^ (n - (D + 1))), x, σ'), ?_, rfl, hx.symm, k1, a4.tr k2⟩
      have m10 : m < 2 ^ 31 := by have := hw.1; omega
      rw [a1, a2', if_neg (nI_pos (by omega)), nz_N m0 m10, ob_some, pk_div (by omega) m0 m10, eD, e, em, hx]
    · intro u ⟨a1, a2, a3, a4⟩
      rw [Nat.sub_self] at a2 a3
      have r0 : aI 144 (0 : Int32) u.2.2 = some (valI (valP m T n n 0)) := (aI_eq (j := 0) sh_144 (by decide) (by decide)).trans (by rw [a3 0 (Nat.pow_pos m0)])
      exact ⟨(valI (valP m T n n 0), u.2.2), by rw [a2, mvI_0, if_pos (by decide), gR_134_15, ob_some, r0, ob_some], rfl, a4⟩
  obtain ⟨⟨t1, t2⟩, e, k1, k2⟩ := key
  exact ⟨t2, by rw [e, show t1 = _ from k1], k2⟩
theorem M_duelL {σ : Mem} {T : Tn} {B m n : Nat} (h : MT σ 0 T) (hw : wfT B T) (hB : B ≤ 900) (hm : m = T 0 + 1) (hn : n ≤ 4) (hp : m ^ n ≤ 2401) : ∃ σ', F_X9_duel_57 134 (nI n) (nI m) (nI (m ^ n)) ((0 : Int32), σ) = some (valI (valP m T n n 0), σ') ∧ FrN σ σ' := by
  have m0 : 0 < m := by omega
  have key : ∃ t, F_X9_duel_57 134 (nI n) (nI m) (nI (m ^ n)) ((0 : Int32), σ) = some t ∧ (t.1 = valI (valP m T n n 0) ∧ FrN σ t.2) := by
    unfold F_X9_duel_57
    refine lp_inv (fun C (u : Int32 × Mem) => u.1 = nI C ∧ (∀ j, j < C → u.2.1 144 j = valI (valP m T n 0 j)) ∧ (∀ a b, (a ≠ 135 ∨ b < 7260) → a ≠ 144 → u.2.1 a b = σ.1 a b) ∧ u.2.2 = σ.2) (m ^ n) ?_ ?_ _ ⟨rfl, fun j hj => absurd hj (by omega), fun _ _ _ _ => rfl, rfl⟩
    · intro C u hC ⟨a1, a2, a3, a4⟩
      have hu : MT u.2 0 T := h.kept (fun b _ _ => a3 _ _ (by omega) (by decide))
      obtain ⟨σ1, e1, c1, f1⟩ := M_tries hu
      have hC1 : COL σ1 T := fun i hi => by rw [f1.1 _ _ (by omega)]; exact hu.col i hi
      obtain ⟨σ2, e2, v2, f2, f3⟩ := M_play (x3 := nI (m ^ n)) c1 hC1 hw hB hm hn hC hp
      refine ⟨(nI (C + 1), σ2), ?_, rfl, fun j hj => ?_, fun a b q1 q2 => ?_, ?_⟩
      · rw [a1, if_neg (nI_ge hC (by omega)), e1, ob_some, e2]
      · show σ2.1 144 j = _
        by_cases y : j = C
        · rw [y]; exact v2
        · rw [f2 _ _ (by omega) (by omega), f1.1 _ _ (by omega)]; exact a2 j (by omega)
      · show σ2.1 a b = _
        rw [f2 a b q1 (by omega), f1.1 a b (by omega)]; exact a3 a b q1 q2
      · show σ2.2 = _
        rw [f3, f1.2]; exact a4
    · intro u ⟨a1, a2, a3, a4⟩
      obtain ⟨σ', e, f⟩ := M_back hw hm hn hp a2
      refine ⟨(valI (valP m T n n 0), σ'), ?_, rfl, fun a b q => ?_, fun a b _ => by rw [f.2, a4]⟩
      · rw [a1, if_pos (nI_le (Nat.le_refl _) (by omega)), e]; rfl
      · show σ'.1 a b = _
        rw [f.1 a b (by omega)]; exact a3 a b (by omega) (by omega)
  obtain ⟨⟨t1, t2⟩, e, k1, k2⟩ := key
  exact ⟨t2, by rw [e, show t1 = _ from k1], k2⟩
theorem pow74 {m n : Nat} (hm : m ≤ 7) (hn : n ≤ 4) : m ^ n ≤ 2401 := by
  have h : ∀ m, m ≤ 7 → ∀ n, n ≤ 4 → m ^ n ≤ 2401 := by decide
  exact h m hm n hn
theorem sim_duel (x : Int32) : Sim (F_X8_duel 0 x) (F_X9_duel 134 x) := by
  refine sim_of fun A hA => ?_
  obtain ⟨hnw, hn0⟩ := now_wf hA
  have h6 := hnw.1
  have d0 : (0 : Int64).toInt = 0 := rfl
  have d4 : (4 : Int64).toInt = 4 := rfl
  have t4 : (x ≤ (4 : Int32)) ↔ x.toInt ≤ 4 := by rw [Int32.le_iff_toInt_le]; rfl
  by_cases hx : 0 ≤ x.toInt ∧ x.toInt ≤ 4
  · obtain ⟨n, hn, rfl⟩ := nat_of hx.1
    have nx : ¬ nI n < 0 := fun q => by have := neg_iff.mp q; omega
    have n4 : n ≤ 4 := by omega
    by_cases hz : nowT A.2.2.2 0 = 0
    · refine ⟨-4, A, hA, C_same fun σ h => ?_, M_same fun σ h => ?_⟩
      · unfold F_X8_duel
        rw [if_neg nx, if_pos (t4.mpr hx.2), gR_0_4, ob_some, C_isT h.now, ob_some, hz, if_pos (show nI 0 = (0 : Int32) from rfl)]
      · unfold F_X9_duel
        rw [in_eq, wide, d0, d4, if_pos hx, ob_some, if_neg (by decide), M_isTown h.now h6, if_pos hz, ob_some, if_pos rfl]
    · generalize hT : nowT A.2.2.2 = T at *
      have m0 : 0 < T 0 + 1 := by omega
      have hp := pow74 (m := T 0 + 1) (n := n) (by omega) n4
      have hv := valP_eq (m := T 0 + 1) hnw rfl n4 n 0 (Nat.le_refl _)
      rw [Nat.sub_self] at hv
      have hv2 : valP (T 0 + 1) T n n 0 = some (0 + gmF n 0 T) := hv
      rw [Nat.zero_add] at hv2
      refine ⟨nI (gmF n 0 T), A, hA, fun σ h => ?_, fun σ h => ?_⟩
      · have hnow := h.now
        rw [hT] at hnow
        obtain ⟨σ', e, f⟩ := C_foundF n4 n 8 (by omega) 0 T 40 σ (Nat.zero_add n) hnow hnw (by omega)
        have e' : F_X1_foundFrom 8 98 18 (0 : Int32) (nI n) σ = some (nI (gmF n 0 T), σ') := e
        have fo : FrO σ σ' := ⟨fun a b q => f.1 a b (by omega), f.2⟩
        refine ⟨σ', ?_, (h.side fo).1, (h.side fo).2⟩
        unfold F_X8_duel
        rw [if_neg nx, if_pos (t4.mpr hx.2), gR_0_4, ob_some, C_isT hnow, ob_some, if_neg (nI_ne0 (by omega) (by omega)), gR_0_12, ob_some, ob_some, ck_98, ob_some, e', ob_some]
      · have hnow := h.now
        rw [hT] at hnow
        obtain ⟨σ', e, f⟩ := M_duelL hnow hnw (by decide) rfl n4 hp
        rw [hv2, valI_s] at e
        refine ⟨σ', ?_, (h.side hA f).1, (h.side hA f).2⟩
        have k38 : F_X9_duel_38 134 (nI n) (nI (T 0 + 1)) σ ((1 : Int32), (0 : Int32)) = some (nI (gmF n 0 T), σ') := by
          have key : ∃ t, F_X9_duel_38 134 (nI n) (nI (T 0 + 1)) σ ((1 : Int32), (0 : Int32)) = some t ∧ t = (nI (gmF n 0 T), σ') := by
            unfold F_X9_duel_38
            refine lp_inv (Q := fun t : Int32 × Mem => t = (nI (gmF n 0 T), σ')) (fun k (u : Int32 × Int32) => u.2 = nI k ∧ u.1 = nI ((T 0 + 1) ^ k)) n ?_ ?_ _ ⟨rfl, rfl⟩
            · intro k u hk ⟨a1, a2⟩
              refine ⟨(nI ((T 0 + 1) ^ (k + 1)), nI (k + 1)), ?_, rfl, rfl⟩
              rw [a1, a2, if_neg (nI_ge hk (by omega)), pk_mul, Nat.pow_succ, nI_1]
            · intro u ⟨a1, a2⟩
              exact ⟨_, by rw [a1, a2, if_pos (nI_le (Nat.le_refl _) (by omega)), e]; rfl, rfl⟩
          obtain ⟨t, e2, rfl⟩ := key
          exact e2
        unfold F_X9_duel
        rw [in_eq, wide, d0, d4, if_pos hx, ob_some, if_neg (by decide), M_isTown hnow h6, if_neg hz, ob_some, if_neg (by decide), wR, ob_some, M_r0 hnow, ob_some, nI_1, k38]
  · refine ⟨-1, A, hA, C_same fun σ h => ?_, M_same fun σ h => ?_⟩
    · unfold F_X8_duel
      by_cases q : x < 0
      · rw [if_pos q]
      · have q' : ¬ x.toInt < 0 := fun z => q (neg_iff.mpr z)
        rw [if_neg q, if_neg (fun z => by have := t4.mp z; omega)]
    · unfold F_X9_duel
      rw [in_eq, wide, d0, d4, if_neg hx, ob_some, if_pos rfl]
end
section
/-! ===== round: codes of moves, what they bring, the first of the most ===== -/
def runR (m : Nat) (T : Tn) : Nat → Nat → Tn × Nat
  | 0, _ => (T, 0)
  | k + 1, e => (mvO (passT (runR m T k (e / m)).1) (e % m), (runR m T k (e / m)).2 + gnO (passT (runR m T k (e / m)).1) (e % m))
theorem runR_s {m k e : Nat} {T : Tn} : runR m T (k + 1) e = (mvO (passT (runR m T k (e / m)).1) (e % m), (runR m T k (e / m)).2 + gnO (passT (runR m T k (e / m)).1) (e % m)) := rfl
theorem wf_runR {B m : Nat} {T : Tn} (hw : wfT B T) (hm : m = T 0 + 1) : ∀ k e, wfT (B + 2 * k) (runR m T k e).1 ∧ (runR m T k e).1 0 = T 0 ∧ (runR m T k e).2 ≤ 99 * k
  | 0, _ => ⟨hw, rfl, Nat.le_refl _⟩
  | k + 1, e => by
    obtain ⟨h1, h2, h3⟩ := wf_runR hw hm k (e / m)
    have hp := wf_pass h1
    have h0 : passT (runR m T k (e / m)).1 0 = T 0 := (pass_0 _).trans h2
    have hd : e % m < passT (runR m T k (e / m)).1 0 + 1 := by rw [h0, ← hm]; exact Nat.mod_lt _ (by omega)
    refine ⟨?_, ?_, ?_⟩
    · exact wf_mono (by omega) (wf_O hp hd)
    · exact mvO_0.trans h0
    · have := gn_le hp hd
      show (runR m T k (e / m)).2 + gnO (passT (runR m T k (e / m)).1) (e % m) ≤ _
      omega
theorem runR_suf {m L : Nat} {T : Tn} {Q Q' : Nat} (h0 : 0 < m) (h : runR m T L Q = runR m T L Q') : ∀ D r, r < m ^ D → runR m T (L + D) (Q * m ^ D + r) = runR m T (L + D) (Q' * m ^ D + r)
  | 0, r, hr => by
    have : r = 0 := by rw [Nat.pow_zero] at hr; omega
    rw [this, Nat.pow_zero, Nat.mul_one, Nat.mul_one]; exact h
  | D + 1, r, hr => by
    have hr2 : r / m < m ^ D := by
      rw [Nat.pow_succ] at hr
      exact Nat.div_lt_of_lt_mul (by rw [Nat.mul_comm]; exact hr)
    have ih := runR_suf h0 h D (r / m) hr2
    have e1 : ∀ Q, (Q * m ^ (D + 1) + r) / m = Q * m ^ D + r / m := fun Q => by
      rw [Nat.pow_succ, ← Nat.mul_assoc, Nat.add_comm, Nat.add_mul_div_right _ _ h0, Nat.add_comm]
    have e2 : ∀ Q, (Q * m ^ (D + 1) + r) % m = r % m := fun Q => by
      rw [Nat.pow_succ, ← Nat.mul_assoc, Nat.add_comm, Nat.add_mul_mod_self_right]
    rw [show L + (D + 1) = L + D + 1 from rfl, runR_s, runR_s, e1, e2, e1, e2, ih]
/-- most is one less than the second -/
def stq (m : Nat) (T : Tn) (n : Nat) (s : Nat × Nat) (C : Nat) : Nat × Nat := if s.2 < (runR m T n C).2 + 1 then (C, (runR m T n C).2 + 1) else s
theorem stq_yes {m n : Nat} {T : Tn} {s : Nat × Nat} {C : Nat} (h : s.2 < (runR m T n C).2 + 1) : stq m T n s C = (C, (runR m T n C).2 + 1) := if_pos h
theorem stq_no {m n : Nat} {T : Tn} {s : Nat × Nat} {C : Nat} (h : ¬ s.2 < (runR m T n C).2 + 1) : stq m T n s C = s := if_neg h
def fq (m : Nat) (T : Tn) (n : Nat) (s : Nat × Nat) (a : Nat) : Nat → Nat × Nat
  | 0 => s
  | k + 1 => stq m T n (fq m T n s a k) (a + k)
theorem fq_split {m n : Nat} {T : Tn} {s : Nat × Nat} {a k : Nat} : ∀ j, fq m T n s a (k + j) = fq m T n (fq m T n s a k) (a + k) j
  | 0 => rfl
  | j + 1 => by
    show stq m T n (fq m T n s a (k + j)) (a + (k + j)) = stq m T n (fq m T n (fq m T n s a k) (a + k) j) (a + k + j)
    rw [fq_split j, Nat.add_assoc]
theorem fq_same {m n : Nat} {T : Tn} {s : Nat × Nat} {a : Nat} : ∀ k, (∀ C, a ≤ C → C < a + k → (runR m T n C).2 + 1 ≤ s.2) → fq m T n s a k = s
  | 0, _ => rfl
  | k + 1, h => by
    have ih := fq_same (m := m) (T := T) (n := n) (s := s) (a := a) k (fun C h1 h2 => h C h1 (by omega))
    have h1 := h (a + k) (by omega) (by omega)
    show stq m T n (fq m T n s a k) (a + k) = s
    rw [ih, stq_no (by omega)]
theorem fq_max {m n : Nat} {T : Tn} {s : Nat × Nat} {a : Nat} : ∀ k, s.2 ≤ (fq m T n s a k).2 ∧ ∀ C, a ≤ C → C < a + k → (runR m T n C).2 + 1 ≤ (fq m T n s a k).2
  | 0 => ⟨Nat.le_refl _, fun C h1 h2 => absurd h2 (by omega)⟩
  | k + 1 => by
    obtain ⟨i1, i2⟩ := fq_max (m := m) (T := T) (n := n) (s := s) (a := a) k
    by_cases q : (fq m T n s a k).2 < (runR m T n (a + k)).2 + 1
    · have e : fq m T n s a (k + 1) = (a + k, (runR m T n (a + k)).2 + 1) := stq_yes q
      rw [e]
      refine ⟨by show s.2 ≤ (runR m T n (a + k)).2 + 1; omega, fun C h1 h2 => ?_⟩
      show _ ≤ (runR m T n (a + k)).2 + 1
      by_cases y : C = a + k
      · rw [y]; exact Nat.le_refl _
      · have := i2 C h1 (by omega); omega
    · have e : fq m T n s a (k + 1) = fq m T n s a k := stq_no q
      rw [e]
      refine ⟨i1, fun C h1 h2 => ?_⟩
      by_cases y : C = a + k
      · rw [y]; omega
      · exact i2 C h1 (by omega)
theorem fq_lt {m n N : Nat} {T : Tn} {s : Nat × Nat} {a : Nat} (hs : s.1 < N) (hb : s.2 ≤ 99 * n + 1) (hR : ∀ C, (runR m T n C).2 ≤ 99 * n) : ∀ k, a + k ≤ N → (fq m T n s a k).1 < N ∧ (fq m T n s a k).2 ≤ 99 * n + 1
  | 0, _ => ⟨hs, hb⟩
  | k + 1, h => by
    obtain ⟨i1, i2⟩ := fq_lt (m := m) (a := a) hs hb hR k (by omega)
    by_cases q : (fq m T n s a k).2 < (runR m T n (a + k)).2 + 1
    · have e : fq m T n s a (k + 1) = (a + k, (runR m T n (a + k)).2 + 1) := stq_yes q
      have := hR (a + k)
      rw [e]
      exact ⟨by show a + k < N; omega, by show (runR m T n (a + k)).2 + 1 ≤ _; omega⟩
    · have e : fq m T n s a (k + 1) = fq m T n s a k := stq_no q
      rw [e]; exact ⟨i1, i2⟩
theorem bq_next {m n : Nat} {T : Tn} {s : Nat × Nat} {D P w : Nat} : fq m T n s (P * m ^ (D + 1)) ((w + 1) * m ^ D) = fq m T n (fq m T n s (P * m ^ (D + 1)) (w * m ^ D)) ((P * m + w) * m ^ D) (m ^ D) := by
  rw [Nat.succ_mul, fq_split, Nat.add_mul, Nat.pow_succ, Nat.mul_assoc P m, Nat.mul_comm m]
theorem dm_eq {m P w : Nat} (h0 : 0 < m) (hw : w < m) : (P * m + w) / m = P ∧ (P * m + w) % m = w := by
  constructor
  · rw [Nat.add_comm, Nat.add_mul_div_right _ _ h0, Nat.div_eq_of_lt hw, Nat.zero_add]
  · rw [Nat.add_comm, Nat.add_mul_mod_self_right, Nat.mod_eq_of_lt hw]
theorem runR_next {m i P w : Nat} {T : Tn} (h0 : 0 < m) (hw : w < m) : runR m T (i + 1) (P * m + w) = (mvO (passT (runR m T i P).1) w, (runR m T i P).2 + gnO (passT (runR m T i P).1) w) := by
  obtain ⟨e1, e2⟩ := dm_eq (P := P) h0 hw
  show (mvO (passT (runR m T i ((P * m + w) / m)).1) ((P * m + w) % m), _) = _
  rw [e1, e2]
/-- a bed that isn't found out is as good as none, which came before -/
theorem bq_idle {m n i D P w : Nat} {T : Tn} {s : Nat × Nat} (h0 : 0 < m) (hn : i + (D + 1) = n) (hw : w < m) (hj : ¬ mayO (passT (runR m T i P).1) w) : fq m T n (fq m T n s (P * m ^ (D + 1)) (w * m ^ D)) ((P * m + w) * m ^ D) (m ^ D) = fq m T n s (P * m ^ (D + 1)) (w * m ^ D) := by
  have w0 : w ≠ 0 := fun z => hj (Or.inl z)
  have wd : ¬ dueT (passT (runR m T i P).1) (w - 1) := fun z => hj (Or.inr z)
  have eR : runR m T (i + 1) (P * m + w) = runR m T (i + 1) (P * m + 0) := by
    rw [runR_next h0 hw, runR_next h0 h0]
    have e1 : gnO (passT (runR m T i P).1) w = 0 := by
      unfold gnO inspS
      rw [if_neg w0, if_neg wd]
    have e2 : mvO (passT (runR m T i P).1) w = mvO (passT (runR m T i P).1) 0 := by
      unfold mvO inspT
      rw [if_neg w0, if_neg wd, if_pos rfl]
    have e3 : gnO (passT (runR m T i P).1) 0 = 0 := rfl
    rw [e1, e2, e3]
  refine fq_same _ (fun C h1 h2 => ?_)
  obtain ⟨r, hr⟩ : ∃ r, C = (P * m + w) * m ^ D + r := ⟨C - (P * m + w) * m ^ D, by omega⟩
  have hr2 : r < m ^ D := by omega
  have e := runR_suf h0 eR D r hr2
  rw [show i + 1 + D = n by omega] at e
  rw [hr, e]
  have hwm : m ^ D ≤ w * m ^ D := Nat.le_mul_of_pos_left _ (Nat.pos_of_ne_zero w0)
  have eP : (P * m + 0) * m ^ D = P * m ^ (D + 1) := by rw [Nat.add_zero, Nat.pow_succ, Nat.mul_assoc, Nat.mul_comm m]
  rw [eP]
  exact (fq_max (m := m) (T := T) (n := n) (s := s) (a := P * m ^ (D + 1)) (w * m ^ D)).2 _ (by omega) (by omega)
/-- a row's value from a move's number -/
def rndV (a : Nat) : Int32 := if a = 0 then -9 else nI (a - 1)
theorem rndV_0 : rndV 0 = -9 := rfl
theorem rndV_s (i : Nat) : rndV (i + 1) = nI i := rfl
theorem m9_neg : (-9 : Int32) < 0 := by decide
end
section
/-! ===== round: the class's side ===== -/
def lvR (k : Nat) : Nat := 48 + 8 * k
theorem lvR_tw {k : Nat} (h : k ≤ 4) : Tw (lvR k) := by
  have c : k = 0 ∨ k = 1 ∨ k = 2 ∨ k = 3 ∨ k = 4 := by omega
  rcases c with rfl | rfl | rfl | rfl | rfl
  · exact tw_48
  · exact tw_56
  · exact tw_64
  · exact tw_72
  · exact tw_80
theorem aR_47 {k : Nat} (h : k ≤ 4) : aR 47 (nI k) = some (lvR k) := by
  have c : k = 0 ∨ k = 1 ∨ k = 2 ∨ k = 3 ∨ k = 4 := by omega
  rcases c with rfl | rfl | rfl | rfl | rfl <;> rfl
theorem C_copyR {σ : Mem} {k p : Nat} {U : Tn} (hk : k ≤ 4) (hp : Tw p) (hd : lvR k + 7 < p ∨ p + 7 < lvR k) (h : CT σ p U) (h6 : U 0 ≤ 6) : ∃ σ', F_X2_copyAt 46 (nI k) p σ = some (some (lvR k), σ') ∧ CT σ' (lvR k) U ∧ FrK (lvR k) σ σ' := by
  obtain ⟨σ', e, c, f⟩ := C_copy (lvR_tw hk) hp hd h6 h
  refine ⟨σ', ?_, c, f⟩
  have eN : aN 47 = some (nI 5) := rfl
  unfold F_X2_copyAt
  rw [if_neg (nI_pos (by omega)), gR_46_0, ob_some, eN, ob_some, if_neg (nI_ge (by omega) (by omega)), ob_some, aR_47 hk, ob_some, tC (lvR_tw hk), ob_some, e, ob_some]
def FrR (k : Nat) (σ σ' : Mem) : Prop := (∀ a b, (a < 45 ∨ (48 ≤ a ∧ a < 48 + 8 * k) ∨ 90 ≤ a) → σ'.1 a b = σ.1 a b) ∧ σ'.2 = σ.2
theorem FrR.rf {k : Nat} {σ : Mem} : FrR k σ σ := ⟨fun _ _ _ => rfl, rfl⟩
theorem FrR.tr {k : Nat} {σ σ' σ'' : Mem} (h : FrR k σ σ') (h2 : FrR k σ' σ'') : FrR k σ σ'' := ⟨fun a b q => (h2.1 a b q).trans (h.1 a b q), h2.2.trans h.2⟩
theorem FrR.up {k : Nat} {σ σ' : Mem} (h : FrR (k + 1) σ σ') : FrR k σ σ' := ⟨fun a b q => h.1 a b (by omega), h.2⟩
theorem FrK.r {j k : Nat} {σ σ' : Mem} (h : FrK (lvR j) σ σ') (hk : k ≤ j) (hj : j ≤ 4) : FrR k σ σ' := ⟨fun a b q => h.1 a b (by unfold lvR; omega), h.2⟩
theorem FrR.set {k a j : Nat} {v : Int32} {σ : Mem} (h : a = 45 ∨ a = 88 ∨ a = 89) (hk : k ≤ 5) : FrR k σ (setI σ a j v) := ⟨fun x y q => by rw [setI_1, if_neg (by omega)], rfl⟩
theorem FrR.o {k : Nat} {σ σ' : Mem} (h : FrR k σ σ') : FrO σ σ' := ⟨fun a b q => h.1 a b (by omega), h.2⟩
def WR (σ : Mem) (m n : Nat) (s : Nat × Nat) (i P : Nat) : Prop := s.2 ≤ 1000 ∧ σ.1 45 3 = mvI s.2 ∧ (s.2 = 0 ∨ ∀ k, k < n → σ.1 88 k = rndV (dg m n s.1 k)) ∧ ∀ k, k < i → σ.1 89 k = rndV (dg m i P k)
theorem WR.kept {σ σ' : Mem} {m n i P : Nat} {s : Nat × Nat} (h : WR σ m n s i P) (ho : ∀ a b, (a = 45 ∨ a = 88 ∨ a = 89) → σ'.1 a b = σ.1 a b) : WR σ' m n s i P := ⟨h.1, (ho _ _ (Or.inl rfl)).trans h.2.1, h.2.2.1.imp id (fun q k hk => (ho _ _ (by omega)).trans (q k hk)), fun k hk => (ho _ _ (by omega)).trans (h.2.2.2 k hk)⟩
theorem mv_le {a b : Nat} (ha : a ≤ 1000) (hb : b ≤ 1000) : nI a ≤ mvI b ↔ a + 1 ≤ b := by
  cases b with
  | zero => exact ⟨fun z => absurd z (fun y => by
      have h1 := Int32.lt_of_le_of_lt y m1_neg
      exact nI_pos (by omega) h1), fun z => absurd z (by omega)⟩
  | succ b =>
    rw [mvI_s]
    exact ⟨fun z => Decidable.byContradiction fun y => nI_ge (a := b) (b := a) (by omega) (by omega) z, fun z => nI_le (by omega) (by omega)⟩
theorem C_takeM {σ : Mem} {m n P sum : Nat} {s : Nat × Nat} {T : Tn} (hn : n ≤ 4) (hs : (runR m T n P).2 = sum) (hb : sum ≤ 400) (h : WR σ m n s n P) : ∃ σ', F_X5_takeIfMore 45 (nI sum) σ = some σ' ∧ WR σ' m n (stq m T n s P) n P ∧ FrR 5 σ σ' := by
  obtain ⟨w1, w2, w3, w4⟩ := h
  unfold F_X5_takeIfMore
  rw [gI_45_3, ob_some, w2]
  by_cases q : s.2 < sum + 1
  · rw [if_neg (fun z => by have := (mv_le (by omega) w1).mp z; omega), pI_45_3, ob_some, gR_45_2, ob_some, gR_45_1, ob_some, stq_yes (by rw [hs]; exact q), hs]
    obtain ⟨σ', e, c1, c2, c3⟩ := cp_step (σ := setI σ 45 3 (nI sum)) sh_89 sh_88 (by decide) (by decide) (by decide)
    rw [e, ob_some]
    refine ⟨σ', rfl, ⟨by show sum + 1 ≤ 1000; omega, ?_, Or.inr (fun k hk => ?_), fun k hk => ?_⟩, fun a b q2 => ?_, ?_⟩
    · show σ'.1 45 3 = mvI (sum + 1)
      rw [c2 _ _ (by omega), setI_1, if_pos ⟨rfl, rfl⟩, mvI_s]
    · rw [c1 k (by omega), setI_1, if_neg (by omega)]; exact w4 k hk
    · rw [c2 _ _ (by omega), setI_1, if_neg (by omega)]; exact w4 k hk
    · rw [c2 _ _ (by omega), setI_1, if_neg (by omega)]
    · rw [c3]; rfl
  · rw [if_pos ((mv_le (by omega) w1).mpr (by omega)), stq_no (by rw [hs]; exact q)]
    exact ⟨σ, rfl, ⟨w1, w2, w3, w4⟩, FrR.rf⟩
theorem C_go47 {rec : Nat → Option Nat → Int32 → Int32 → Int32 → Mem → Option Mem} {u : Mem} {T U : Tn} {B m n i D P sum a : Nat} {s : Nat × Nat} (hn : n ≤ 4) (hi : i + (D + 1) = n) (h0 : 0 < m) (ha : a < U 0 + 1) (hm : m = U 0 + 1) (hRU : passT (runR m T i P).1 = U) (hRs : (runR m T i P).2 = sum) (h : CT u (lvR i) U) (hw : wfT B U) (hB : B ≤ 900) (hW : WR u m n s i P) (rs : ∀ U' sum' σ', runR m T (i + 1) (P * m + a) = (U', sum') → CT σ' (lvR (i + 1)) U' → WR σ' m n s (i + 1) (P * m + a) → ∃ σ2, rec 45 (some (lvR (i + 1))) (nI (i + 1)) (nI n) (nI sum') σ' = some σ2 ∧ WR σ2 m n (fq m T n s ((P * m + a) * m ^ D) (m ^ D)) (i + 1) (P * m + a) ∧ FrR (i + 1) σ' σ2) : ∃ σ2, F_X5_goOn_47 rec 45 (lvR i) (nI i) (nI n) (nI sum) (mvI a) u = some (.inl (mvI (a + 1), σ2)) ∧ WR σ2 m n (fq m T n s ((P * m + a) * m ^ D) (m ^ D)) i P ∧ FrR (i + 1) u σ2 := by
  have tk1 := lvR_tw (k := i + 1) (by omega)
  obtain ⟨σ1, e1, c1, f1⟩ := C_copyR (k := i + 1) (by omega) (lvR_tw (k := i) (by omega)) (by unfold lvR; omega) h hw.1
  obtain ⟨e3, e4⟩ := dm_eq (P := P) h0 (show a < m by omega)
  have fr1 : FrR (i + 1) u σ1 := f1.r (Nat.le_refl _) (by omega)
  have k1 : ∀ x b, (x = 45 ∨ x = 88 ∨ x = 89) → σ1.1 x b = u.1 x b := fun x b q => f1.1 x b (by unfold lvR; omega)
  have W1 := hW.kept k1
  -- the trail
  have fr2 : FrR (i + 1) σ1 (setI σ1 89 i (rndV a)) := FrR.set (by decide) (by omega)
  have c2 : CT (setI σ1 89 i (rndV a)) (lvR (i + 1)) U := c1.kept (fun x b p q => by rw [setI_1, if_neg (by unfold lvR at p q; omega)])
  have W2 : WR (setI σ1 89 i (rndV a)) m n s (i + 1) (P * m + a) := by
    refine ⟨W1.1, by rw [setI_1, if_neg (by omega)]; exact W1.2.1, W1.2.2.1.imp id (fun q k hk => by rw [setI_1, if_neg (by omega)]; exact q k hk), fun k hk => ?_⟩
    show (setI σ1 89 i (rndV a)).1 89 k = rndV (if k = i then (P * m + a) % m else dg m i ((P * m + a) / m) k)
    rw [setI_1, e3, e4]
    by_cases y : k = i
    · rw [if_pos ⟨rfl, y⟩, if_pos y]
    · rw [if_neg (fun v => y v.2), if_neg y]; exact W1.2.2.2 k (by omega)
  obtain ⟨σ3, e5, c3, f3⟩ := C_mvO (a := a) tk1 c2 hw (by omega) ha
  have fr3 : FrR (i + 1) (setI σ1 89 i (rndV a)) σ3 := f3.r (Nat.le_refl _) (by omega)
  have W3 := W2.kept (σ' := σ3) (fun x b q => f3.1 x b (by unfold lvR; omega))
  have hRn : runR m T (i + 1) (P * m + a) = (mvO U a, sum + gnO U a) := by
    rw [runR_next h0 (by omega), hRU, hRs]
  obtain ⟨σ4, e6, W4, f4⟩ := rs (mvO U a) (sum + gnO U a) σ3 hRn c3 W3
  refine ⟨σ4, ?_, ⟨W4.1, W4.2.1, W4.2.2.1, fun k hk => ?_⟩, ((fr1.tr fr2).tr fr3).tr f4⟩
  · have ew : (if 0 ≤ mvI a then F_X8_write 89 (nI i) (mvI a) σ1 else F_X8_write 89 (nI i) (-9 : Int32) σ1) = some (setI σ1 89 i (rndV a)) := by
      by_cases z : a = 0
      · rw [z, mvI_0, if_neg nm1, rndV_0, wr_eq (by decide) sh_89 (by omega) (by decide)]
      · obtain ⟨j, rfl⟩ : ∃ j, a = j + 1 := ⟨a - 1, by omega⟩
        have := hw.1
        rw [mvI_s, if_pos (nI_pos' (by omega)), rndV_s, wr_eq (by decide) sh_89 (by omega) (by decide)]
    unfold F_X5_goOn_47
    rw [gR_45_0, ob_some, ck_46, ob_some, nI_1, e1, ob_some]
    dsimp only
    rw [gR_45_2, ob_some, tC tk1]
    by_cases z : 0 ≤ mvI a
    · rw [if_pos z] at ew ⊢
      rw [ew, ob_some, ob_some, e5, ob_some, nI_add, e6, ob_some, mvI_1]
    · rw [if_neg z] at ew ⊢
      rw [ew, ob_some, ob_some, e5, ob_some, nI_add, e6, ob_some, mvI_1]
  · have r4 := W4.2.2.2 k (by omega)
    have r4 : σ4.1 89 k = rndV (if k = i then (P * m + a) % m else dg m i ((P * m + a) / m) k) := r4
    rw [if_neg (by omega), e3] at r4
    exact r4
end
section
theorem FrR.ct {k : Nat} {σ σ' : Mem} {U : Tn} (f : FrR (k + 1) σ σ') (h : CT σ (lvR k) U) : CT σ' (lvR k) U := h.kept (fun a b p q => f.1 a b (by unfold lvR at p q; omega))
theorem C_goOn {T : Tn} {B m n : Nat} (hw : wfT B T) (hB : B ≤ 100) (hm : m = T 0 + 1) (hn : n ≤ 4) : ∀ D dep, D < dep → ∀ i P U sum s σ, i + D = n → runR m T i P = (U, sum) → CT σ (lvR i) U → WR σ m n s i P → ∃ σ', F_X5_goOn dep 45 (some (lvR i)) (nI i) (nI n) (nI sum) σ = some σ' ∧ WR σ' m n (fq m T n s (P * m ^ D) (m ^ D)) i P ∧ FrR i σ σ' := by
  have m0 : 0 < m := by omega
  intro D
  induction D with
  | zero =>
    intro dep hd i P U sum s σ hi hR h hW
    obtain ⟨q, rfl⟩ : ∃ q, dep = q + 1 := ⟨dep - 1, by omega⟩
    have hin : i = n := by omega
    subst hin
    obtain ⟨v1, v2, v3⟩ := wf_runR hw hm i P
    rw [hR] at v3
    obtain ⟨σ', e, w, f⟩ := C_takeM (T := T) (m := m) (P := P) (sum := sum) hn (by rw [hR]) (by have v3 : sum ≤ 99 * i := v3; omega) hW
    have ef : fq m T i s (P * m ^ 0) (m ^ 0) = stq m T i s P := by
      rw [Nat.pow_zero, Nat.mul_one]; rfl
    refine ⟨σ', ?_, by rw [ef]; exact w, ⟨fun a b q => f.1 a b (by omega), f.2⟩⟩
    show B_X5_goOn (F_X5_goOn q) 45 (some (lvR i)) (nI i) (nI i) (nI sum) σ = some σ'
    unfold B_X5_goOn F_X5_goOn_9
    dsimp only
    rw [if_pos (nI_le (Nat.le_refl _) (by omega)), e, ob_some]
  | succ D ih =>
    intro dep hd i P U sum s σ hi hR h hW
    obtain ⟨q, rfl⟩ : ∃ q, dep = q + 1 := ⟨dep - 1, by omega⟩
    obtain ⟨v1, v2, v3⟩ := wf_runR hw hm i P
    rw [hR] at v1 v2 v3
    have v1 : wfT (B + 2 * i) U := v1
    have v2 : U 0 = T 0 := v2
    have v3 : sum ≤ 99 * i := v3
    have tk := lvR_tw (k := i) (by omega)
    obtain ⟨σ1, e1, c1, f1⟩ := C_pass tk h v1 (by omega)
    have w1 := wf_pass v1
    have hp0 : passT U 0 = U 0 := pass_0 U
    have hRU : passT (runR m T i P).1 = passT U := by rw [hR]
    have hRs : (runR m T i P).2 = sum := by rw [hR]
    have W1 := hW.kept (σ' := σ1) (fun x b q => f1.1 x b (by unfold lvR; omega))
    have h6 := v1.1
    have key : ∃ t, F_X5_goOn_24 (F_X5_goOn q) 45 (lvR i) (nI i) (nI n) (nI sum) ((-1 : Int32), σ1) = some t ∧ (WR t m n (fq m T n s (P * m ^ (D + 1)) (m ^ (D + 1))) i P ∧ FrR i σ1 t) := by
      unfold F_X5_goOn_24
      refine lp_inv (fun a (u : Int32 × Mem) => u.1 = mvI a ∧ CT u.2 (lvR i) (passT U) ∧ WR u.2 m n (fq m T n s (P * m ^ (D + 1)) (a * m ^ D)) i P ∧ FrR i σ1 u.2) m ?_ ?_ _ ⟨mvI_0.symm, c1, ?_, FrR.rf⟩
      · intro a u ha ⟨a1, a2, a3, a4⟩
        have ha2 : a < passT U 0 + 1 := by omega
        have k47 : ∃ σ2, F_X5_goOn_47 (F_X5_goOn q) 45 (lvR i) (nI i) (nI n) (nI sum) (mvI a) u.2 = some (.inl (mvI (a + 1), σ2)) ∧ WR σ2 m n (fq m T n (fq m T n s (P * m ^ (D + 1)) (a * m ^ D)) ((P * m + a) * m ^ D) (m ^ D)) i P ∧ FrR (i + 1) u.2 σ2 :=
          C_go47 hn hi m0 ha2 (by omega) hRU hRs a2 w1 (by omega) a3 (fun U' sum' σ' r c w => ih q (by omega) (i + 1) (P * m + a) U' sum' _ σ' (by omega) r c w)
        rw [← bq_next] at k47
        obtain ⟨x, hx⟩ : ∃ x, mvI (a + 1) = x := ⟨_, rfl⟩
        rw [a1, tI_8 tk, a2.1, ob_some, if_neg (mv_lt (n := passT U 0) (by omega) ha2)]
        by_cases z : a = 0
        · obtain ⟨σ2, e2, w2, f2⟩ := k47
          rw [if_pos ((mv_neg (by omega)).mpr z), e2, hx]
          exact ⟨(x, σ2), rfl, rfl, f2.ct a2, w2, a4.tr f2.up⟩
        · obtain ⟨j, hj⟩ : ∃ j, a = j + 1 := ⟨a - 1, by omega⟩
          have ej : mvI a = nI j := by rw [hj, mvI_s]
          have hj0 : j < passT U 0 := by omega
          rw [if_neg (fun v => z ((mv_neg (by omega)).mp v)), tC tk, ob_some, ej, C_found tk a2 w1 hj0, ob_some]
          by_cases y : dueT (passT U) j
          · obtain ⟨σ2, e2, w2, f2⟩ := k47
            rw [if_pos y, if_neg (by decide), ← ej, e2, hx]
            exact ⟨(x, σ2), rfl, rfl, f2.ct a2, w2, a4.tr f2.up⟩
          · have hid : ¬ mayO (passT (runR m T i P).1) a := fun v => v.elim z (by rw [hRU, hj]; exact y)
            have ei := bq_idle (n := n) (s := s) (D := D) m0 (by omega) ha hid
            rw [← bq_next] at ei
            rw [if_neg y, if_pos rfl, ← ej, mvI_1, hx]
            rw [← ei] at a3
            exact ⟨(x, u.2), rfl, rfl, a2, a3, a4⟩
      · intro u ⟨a1, a2, a3, a4⟩
        rw [show m * m ^ D = m ^ (D + 1) by rw [Nat.pow_succ, Nat.mul_comm]] at a3
        obtain ⟨t, ht⟩ : ∃ t, m = t + 1 := ⟨m - 1, by omega⟩
        exact ⟨u.2, by rw [a1, tI_8 tk, a2.1, ob_some, ht, mvI_s, if_pos (nI_le (by omega) (by omega))], a3, a4⟩
      · show WR σ1 m n (fq m T n s (P * m ^ (D + 1)) (0 * m ^ D)) i P
        rw [Nat.zero_mul]
        exact W1
    obtain ⟨σ2, e2, w2, f2⟩ := key
    refine ⟨σ2, ?_, w2, (f1.r (Nat.le_refl _) (by omega)).tr f2⟩
    show B_X5_goOn (F_X5_goOn q) 45 (some (lvR i)) (nI i) (nI n) (nI sum) σ = some σ2
    unfold B_X5_goOn
    dsimp only
    rw [if_neg (nI_ge (by omega) (by omega)), tC tk, ob_some, e1, ob_some, e2]
end
section
/-! ===== round: the reference's side ===== -/
theorem runR_col {B m : Nat} {T : Tn} (hw : wfT B T) (hm : m = T 0 + 1) : ∀ k e j, (runR m T k e).1 (39 + j) = T (39 + j)
  | 0, _, _ => rfl
  | k + 1, e, j => by
    obtain ⟨h1, h2, _⟩ := wf_runR hw hm k (e / m)
    have ih := runR_col hw hm k (e / m) j
    have h6 := h1.1
    have h0 : passT (runR m T k (e / m)).1 0 = T 0 := (pass_0 _).trans h2
    rw [runR_s]
    show mvO (passT (runR m T k (e / m)).1) (e % m) (39 + j) = _
    rw [mvO_col (by rw [h0, ← h2]; exact h6) (by rw [h0, ← hm]; exact Nat.mod_lt _ (by omega)), pass_col h6, ih]
theorem M_rcode {σ : Mem} {T : Tn} {B n m C : Nat} {s : Nat × Nat} {x2 x3 : Int32} (h : MT σ 0 T) (hw : wfT B T) (hB : B ≤ 100) (hm : m = T 0 + 1) (hn : n ≤ 4) (hc : C < m ^ n) (hp : m ^ n ≤ 2401) (hs : s.2 ≤ 1000) : ∃ σ', (F_X9_tries 134 σ).bind (fun q9 => F_X9_round_87 134 (nI n) x2 x3 (nI s.1) (mvI s.2) (nI C) ((0 : Int32), nI (m ^ n), (0 : Int32), q9)) = some (.inl (nI (stq m T n s C).1, mvI (stq m T n s C).2, nI (C + 1), σ')) ∧ FrM 7260 σ σ' := by
  have h6 := hw.1
  have m0 : 0 < m := by omega
  have em : nI (T 0) + (1 : Int32) = nI m := by rw [nI_1, hm]
  obtain ⟨σ0, e0, c0, f0⟩ := M_tries h
  have key : ∃ t, F_X9_round_87 134 (nI n) x2 x3 (nI s.1) (mvI s.2) (nI C) ((0 : Int32), nI (m ^ n), (0 : Int32), σ0) = some t ∧ ∃ σ', t = .inl (nI (stq m T n s C).1, mvI (stq m T n s C).2, nI (C + 1), σ') ∧ FrM 7260 σ σ' := by
    unfold F_X9_round_87
    refine lp_inv (fun k (u : Int32 × Int32 × Int32 × Mem) => u.1 = nI (runR m T k (C / m ^ (n - k))).2 ∧ u.2.1 = nI (m ^ (n - k)) ∧ u.2.2.1 = nI k ∧ MT u.2.2.2 7260 (runR m T k (C / m ^ (n - k))).1 ∧ FrM 7260 σ u.2.2.2) n ?_ ?_ _ ⟨rfl, rfl, rfl, c0, f0⟩
    · intro k u hk ⟨a1, a2, a3, a4, a5⟩
      obtain ⟨D, hD⟩ : ∃ D, n - k = D + 1 := ⟨n - k - 1, by omega⟩
      rw [hD] at a1 a2 a4
      obtain ⟨w1, w2, w3⟩ := wf_runR hw hm k (C / m ^ (D + 1))
      have col := runR_col hw hm k (C / m ^ (D + 1))
      have hpD : 0 < m ^ D := Nat.pow_pos m0
      have hpl : m ^ (D + 1) ≤ m ^ n := Nat.pow_le_pow_right m0 (by omega)
      have hpl2 : m ^ D ≤ m ^ (D + 1) := Nat.pow_le_pow_right m0 (by omega)
      have eD : m ^ (D + 1) / m = m ^ D := by rw [Nat.pow_succ]; exact Nat.mul_div_cancel _ m0
      have eq1 : C / m ^ D / m = C / m ^ (D + 1) := by rw [Nat.div_div_eq_div_mul, ← Nat.pow_succ]
      have hq : C / m ^ D ≤ C := Nat.div_le_self _ _
      have hd : C / m ^ D % m < m := Nat.mod_lt _ m0
      have hu : MT u.2.2.2 0 T := h.kept (fun b _ _ => a5.1 _ _ (by omega))
      have hCu : COL u.2.2.2 (runR m T k (C / m ^ (D + 1))).1 := (hu.col).ext (fun j _ => col j)
      obtain ⟨U, hU⟩ : ∃ U, (runR m T k (C / m ^ (D + 1))).1 = U := ⟨_, rfl⟩
      obtain ⟨S, hS⟩ : ∃ S, (runR m T k (C / m ^ (D + 1))).2 = S := ⟨_, rfl⟩
      rw [hU] at w1 w2 a4 hCu
      rw [hS] at w3 a1
      obtain ⟨σ1, g1, g2, g3⟩ := M_pass (f := 7260) a4 hCu (by decide) (Or.inr (by decide)) w1 (by omega)
      have g1' : F_X9_passes 134 (7260 : Int32) u.2.2.2 = some (_, σ1) := g1
      have wp := wf_pass w1
      have hp0 : passT U 0 = T 0 := (pass_0 U).trans w2
      have eR : runR m T (k + 1) (C / m ^ D) = (mvO (passT U) (C / m ^ D % m), S + gnO (passT U) (C / m ^ D % m)) := by
        rw [runR_s, eq1, hU, hS]
      have nk1 : n - (k + 1) = D := by omega
      have hneg := mv_neg (a := C / m ^ D % m) (by omega)
      have hu1 : MT σ1 0 T := hu.kept (fun b _ _ => g3.1 _ _ (by omega))
      have pre : ∀ (k' : Int32 → Mem → Option ((Int32 × Int32 × Int32 × Mem) ⊕ ((Int32 × Int32 × Int32 × Mem) ⊕ (Int32 × Mem)))) (z : Option ((Int32 × Int32 × Int32 × Mem) ⊕ ((Int32 × Int32 × Int32 × Mem) ⊕ (Int32 × Mem)))), k' (nI S) σ1 = z → k' (nI S) σ1 = z := fun _ _ q => q
      have fin : ∃ σ2, (if 0 ≤ mvI (C / m ^ D % m) then (F_X9_inspects 134 (7260 : Int32) (mvI (C / m ^ D % m)) σ1).bind fun q28 => F_X9_round_152 134 (nI n) x2 x3 (nI s.1) (mvI s.2) (nI C) (nI (m ^ D)) (nI k) q28.1 (nI S) q28.2 else F_X9_round_152 134 (nI n) x2 x3 (nI s.1) (mvI s.2) (nI C) (nI (m ^ D)) (nI k) (0 : Int32) (nI S) σ1) = some (.inl (nI (S + gnO (passT U) (C / m ^ D % m)), nI (m ^ D), nI (k + 1), σ2)) ∧ MT σ2 7260 (mvO (passT U) (C / m ^ D % m)) ∧ FrM 7260 σ1 σ2 := by
        unfold F_X9_round_152
        by_cases z : C / m ^ D % m = 0
        · have e1 : mvO (passT U) (C / m ^ D % m) = passT U := if_pos z
          have e2 : gnO (passT U) (C / m ^ D % m) = 0 := if_pos z
          rw [if_neg (fun y => absurd (hneg.mpr z) (Int32.not_lt.mpr y)), show nI S + (0 : Int32) = nI S from Int32.add_zero _, nI_1, e1, e2]
          exact ⟨σ1, rfl, g2, FrM.rf⟩
        · obtain ⟨i, hi⟩ : ∃ i, C / m ^ D % m = i + 1 := ⟨C / m ^ D % m - 1, by omega⟩
          obtain ⟨σ2, e, c, f⟩ := M_insp (f := 7260) g2 (by decide) wp (show i < passT U 0 by omega)
          have e' : F_X9_inspects 134 (7260 : Int32) (nI i) σ1 = some (nI (inspS (passT U) i), σ2) := e
          have e1 : mvO (passT U) (i + 1) = inspT (passT U) i := if_neg (by omega)
          have e2 : gnO (passT U) (i + 1) = inspS (passT U) i := if_neg (by omega)
          rw [if_pos (Int32.not_lt.mp (fun y => z (hneg.mp y))), hi, mvI_s, e', ob_some, nI_add, nI_1, e1, e2]
          exact ⟨σ2, rfl, c, f⟩
      obtain ⟨σ2, e2, c2, f2⟩ := fin
      refine ⟨(nI (S + gnO (passT U) (C / m ^ D % m)), nI (m ^ D), nI (k + 1), σ2), ?_, ?_⟩
      · rw [a1, a2, a3, if_neg (nI_ge hk (by omega)), wR, ob_some, M_r0 hu, ob_some, em, nz_N m0 (by omega), ob_some, pk_div (by omega) m0 (by omega), eD, nz_N hpD (by omega), ob_some, ob_some, M_r0 hu, ob_some, em, nz_N m0 (by omega), ob_some, pk_div (by omega) hpD (by omega), pk_rem (by omega) m0 (by omega), mvI_sub]
        dsimp only
        rw [g1', ob_some]
        exact e2
      · rw [nk1, eR]
        exact ⟨rfl, rfl, rfl, c2, (a5.tr g3).tr f2⟩
    · intro u ⟨a1, a2, a3, a4, a5⟩
      rw [Nat.sub_self, Nat.pow_zero, Nat.div_one] at a1
      obtain ⟨_, _, w3⟩ := wf_runR hw hm n C
      refine ⟨Sum.inl (nI (stq m T n s C).1, mvI (stq m T n s C).2, nI (C + 1), u.2.2.2), ?_, u.2.2.2, rfl, a5⟩
      rw [a1, a3, if_pos (nI_le (Nat.le_refl _) (by omega))]
      unfold F_X9_round_175
      by_cases q : s.2 < (runR m T n C).2 + 1
      · have ng : ¬ nI (runR m T n C).2 ≤ mvI s.2 := fun z => by have := (mv_le (by omega) hs).mp z; omega
        rw [if_neg ng, if_neg ng, stq_yes q, nI_1, mvI_s]
        rfl
      · have ps : nI (runR m T n C).2 ≤ mvI s.2 := (mv_le (by omega) hs).mpr (by omega)
        rw [if_pos ps, if_pos ps, stq_no q, nI_1]
        rfl
  obtain ⟨t, e, σ', rfl, f⟩ := key
  exact ⟨σ', by rw [e0, ob_some, e], f⟩
theorem M_rdig {A : Ab} {m n C r : Nat} {x : Int32} (hA : okDe A.2.2.2) (hm : m = nowT A.2.2.2 0 + 1) (hn : n ≤ 4) (hC : C < 2401) (hr : r < 6) (σ : Mem) (h : RM A σ) : ∃ σ', (F_X9_anew 134 (nI r) (nI n) σ).bind (fun q7 => (F_X9_round_214 134 (nI r) x (nI C, (nI n - (1 : Int32)), q7)).map fun z => (Sum.inr z : (Int32 × Int32 × Int32 × Mem) ⊕ (Int32 × Mem))) = some (.inr (x, σ')) ∧ RM (rowA A r (some n) (fun k => rndV (dg m n C k))) σ' ∧ FM σ σ' := by
  obtain ⟨hnw, hn0⟩ := now_wf hA
  have h6 := hnw.1
  have m0 : 0 < m := by omega
  have em : nI (nowT A.2.2.2 0) + (1 : Int32) = nI m := by rw [nI_1, hm]
  obtain ⟨σ1, e1, s1, _, f1, f2⟩ := M_anew (n := n) (σ := σ) hr
  have hnow := h.now
  have m1 : ∀ u : Mem, (∀ b, u.1 135 b = σ.1 135 b) → aI 135 (0 : Int32) u = some (nI (nowT A.2.2.2 0)) := fun u hu => by
    have e : u.1 135 0 = nI (nowT A.2.2.2 0) := (hu 0).trans (hnow 0 (by decide))
    exact (w_rd (j := 0) (by decide)).trans (by rw [e])
  have key : ∃ t, F_X9_round_214 134 (nI r) x (nI C, (nI n - (1 : Int32)), σ1) = some t ∧ ∃ σ', t = (x, σ') ∧ σ'.1 138 r = nI n ∧ (∀ k, k < n → σ'.1 137 (r * 40 + k) = rndV (dg m n C k)) ∧ (∀ x y, (x ≠ 138 ∨ y ≠ r) → (x ≠ 137 ∨ y < r * 40 ∨ r * 40 + 40 ≤ y) → σ'.1 x y = σ.1 x y) ∧ σ'.2 = σ.2 := by
    unfold F_X9_round_214
    refine lp_inv (fun j (u : Int32 × Int32 × Mem) => u.1 = nI (C / m ^ j) ∧ u.2.1 = mvI (n - j) ∧ u.2.2.1 138 r = nI n ∧ (∀ k, n - j ≤ k → k < n → u.2.2.1 137 (r * 40 + k) = rndV (dg m n C k)) ∧ (∀ x y, (x ≠ 138 ∨ y ≠ r) → (x ≠ 137 ∨ y < r * 40 ∨ r * 40 + 40 ≤ y) → u.2.2.1 x y = σ.1 x y) ∧ u.2.2.2 = σ.2) n ?_ ?_ _ ⟨?_, mvI_sub n, s1, fun k h1 h2 => absurd h2 (by omega), f1, f2⟩
    · intro j u hj ⟨a1, a2, a3, a4, a5, a6⟩
      obtain ⟨k, hk⟩ : ∃ k, n - j = k + 1 := ⟨n - j - 1, by omega⟩
      have nk : n - (j + 1) = k := by omega
      rw [hk] at a2
      have a2' : u.2.1 = nI k := a2.trans (mvI_s k)
      have hD : C / m ^ j / m = C / m ^ (j + 1) := by rw [Nat.div_div_eq_div_mul, ← Nat.pow_succ]
      have hl : C / m ^ j ≤ C := Nat.div_le_self _ _
      have hd : C / m ^ j % m < m := Nat.mod_lt _ m0
      have r0 := m1 u.2.2 (fun b => a5 _ _ (by omega) (by omega))
      have hneg := mv_neg (a := C / m ^ j % m) (by omega)
      have r1 := m1 (setI u.2.2 137 (r * 40 + k) (rndV (C / m ^ j % m))) (fun b => by rw [setI_1, if_neg (by omega)]; exact a5 _ _ (by omega) (by omega))
      obtain ⟨y, hy⟩ : ∃ y, mvI k = y := ⟨_, rfl⟩
      refine ⟨(nI (C / m ^ (j + 1)), y, setI u.2.2 137 (r * 40 + k) (rndV (C / m ^ j % m))), ?_, rfl, by rw [nk, hy], ?_, fun i h1 h2 => ?_, fun x y q1 q2 => ?_, a6⟩
      · have ew : (if 0 ≤ mvI (C / m ^ j % m) then F_X9_round_257 134 (nI r) x (nI (C / m ^ j)) (nI k) (mvI (C / m ^ j % m)) (nI (r * 40 + k)) 137 u.2.2 else F_X9_round_257 134 (nI r) x (nI (C / m ^ j)) (nI k) (-9 : Int32) (nI (r * 40 + k)) 137 u.2.2) = some (.inl (nI (C / m ^ (j + 1)), y, setI u.2.2 137 (r * 40 + k) (rndV (C / m ^ j % m)))) := by
          unfold F_X9_round_257
          have tl : ∀ v : Int32, v = rndV (C / m ^ j % m) → ((sI 137 (nI (r * 40 + k)) v u.2.2).bind fun m41 => (gR 9 0 134).bind fun p44 => (aI p44 (0 : Int32) m41).bind fun v45 => (nz (v45 + (1 : Int32))).bind fun _ => some (.inl ((nI (C / m ^ j) / (v45 + (1 : Int32))), (nI k + (-1 : Int32)), m41)) : Option ((Int32 × Int32 × Mem) ⊕ (Int32 × Mem))) = some (.inl (nI (C / m ^ (j + 1)), y, setI u.2.2 137 (r * 40 + k) (rndV (C / m ^ j % m)))) := fun v hv => by
            rw [hv, sI_eq sh_137 (by omega) (by decide), ob_some, wR, ob_some, r1, ob_some, em, nz_N m0 (by omega), ob_some, pk_div (by omega) m0 (by omega), hD, show nI k + (-1 : Int32) = mvI k from rfl, hy]
          by_cases z : C / m ^ j % m = 0
          · rw [if_neg (fun y => absurd (hneg.mpr z) (Int32.not_lt.mpr y))]
            exact tl _ (by rw [z]; rfl)
          · obtain ⟨i, hi⟩ : ∃ i, C / m ^ j % m = i + 1 := ⟨C / m ^ j % m - 1, by omega⟩
            rw [if_pos (Int32.not_lt.mp (fun y => z (hneg.mp y)))]
            exact tl _ (by rw [hi, mvI_s, rndV_s])
        rw [a1, a2', if_neg (nI_pos (by omega)), wR, ob_some, r0, ob_some, em, nz_N m0 (by omega), ob_some, pk_rem (by omega) m0 (by omega), mvI_sub]
        dsimp only
        rw [gR_134_3, ob_some, ix40]
        exact ew
      · show (setI u.2.2 137 (r * 40 + k) _).1 138 r = _
        rw [setI_1, if_neg (by omega)]; exact a3
      · show (setI u.2.2 137 (r * 40 + k) _).1 137 (r * 40 + i) = _
        rw [setI_1]
        by_cases y : i = k
        · rw [if_pos ⟨rfl, by omega⟩, y]
          have e := dg_up (n := m) (k + 1) j C k (by omega)
          rw [show k + 1 + j = n by omega] at e
          rw [e]
          show _ = rndV (if k = k then C / m ^ j % m else _)
          rw [if_pos rfl]
        · rw [if_neg (by omega)]; exact a4 i (by omega) h2
      · show (setI u.2.2 137 (r * 40 + k) _).1 x y = _
        rw [setI_1, if_neg (by omega)]; exact a5 x y q1 q2
    · intro u ⟨a1, a2, a3, a4, a5, a6⟩
      rw [Nat.sub_self] at a2 a4
      exact ⟨_, by rw [a2, mvI_0, if_pos (by decide)], u.2.2, rfl, a3, fun k hk => a4 k (Nat.zero_le _) hk, a5, a6⟩
    · rw [Nat.pow_zero, Nat.div_one]
  obtain ⟨t, e, σ', rfl, k1, k2, k3, k4⟩ := key
  obtain ⟨p1, p2⟩ := h.putR (f := fun k => rndV (dg m n C k)) hr (by omega) k1 k2 k3 k4
  refine ⟨σ', ?_, p1, p2⟩
  rw [e1, ob_some, e]
  rfl
end
section
theorem sim_round (x y : Int32) : Sim (F_X8_round 0 x y) (F_X9_round 134 x y) := by
  refine sim_of fun A hA => ?_
  obtain ⟨hnw, hn0⟩ := now_wf hA
  have h6 := hnw.1
  have d0 : (0 : Int64).toInt = 0 := rfl
  have d4 : (4 : Int64).toInt = 4 := rfl
  have t4 : ((4 : Int32) < x) ↔ 4 < x.toInt := by rw [Int32.lt_iff_toInt_lt]; rfl
  by_cases hx : 0 ≤ x.toInt ∧ x.toInt ≤ 4
  · obtain ⟨n, hn, rfl⟩ := nat_of hx.1
    have nx : ¬ nI n < 0 := fun q => by have := neg_iff.mp q; omega
    have nx4 : ¬ (4 : Int32) < nI n := fun q => by have := t4.mp q; omega
    have n4 : n ≤ 4 := by omega
    rcases ixc y (n := 6) (by decide) with hy | ⟨r, hr, rfl⟩
    · refine ⟨-1, A, hA, C_same fun σ h => ?_, M_same fun σ h => ?_⟩
      · unfold F_X8_round
        rw [if_neg nx, if_neg nx4, gR_0_0, ob_some, ck_1, ob_some, S_numno sf_1 hy, ob_some, if_pos rfl]
      · unfold F_X9_round
        rw [in_eq, wide, d0, d4, if_pos hx, ob_some, if_neg (by decide), row_no hy, ob_some, if_pos rfl]
    · by_cases hz : nowT A.2.2.2 0 = 0
      · refine ⟨-4, A, hA, C_same fun σ h => ?_, M_same fun σ h => ?_⟩
        · unfold F_X8_round
          rw [if_neg nx, if_neg nx4, gR_0_0, ob_some, ck_1, ob_some, S_num sf_1 hr, ob_some, if_neg (by decide), gR_0_4, ob_some, C_isT h.now, ob_some, hz, if_pos (show nI 0 = (0 : Int32) from rfl)]
        · unfold F_X9_round
          rw [in_eq, wide, d0, d4, if_pos hx, ob_some, if_neg (by decide), row_yes hr, ob_some, if_neg (by decide), M_isTown h.now h6, if_pos hz, ob_some, if_pos rfl]
      · obtain ⟨T, hT⟩ : ∃ T, nowT A.2.2.2 = T := ⟨_, rfl⟩
        obtain ⟨m, hm⟩ : ∃ m, m = T 0 + 1 := ⟨_, rfl⟩
        rw [hT] at hnw h6 hz
        have m0 : 0 < m := by omega
        have hp := pow74 (m := m) (n := n) (by omega) n4
        have hpp : 0 < m ^ n := Nat.pow_pos m0
        have hlt := fun k hk => fq_lt (m := m) (T := T) (n := n) (N := m ^ n) (s := (0, 0)) (a := 0) hpp (Nat.zero_le _) (fun C => (wf_runR hnw hm n C).2.2) k hk
        obtain ⟨R, hR⟩ : ∃ R, fq m T n (0, 0) 0 (m ^ n) = R := ⟨_, rfl⟩
        have hR1 := (hlt (m ^ n) (by omega)).1
        have hR2 := (hlt (m ^ n) (by omega)).2
        rw [hR] at hR1 hR2
        have hR3 : R.2 ≠ 0 := fun z => by
          have := (fq_max (m := m) (T := T) (n := n) (s := (0, 0)) (a := 0) (m ^ n)).2 0 (Nat.le_refl _) (by omega)
          rw [hR] at this
          omega
        have hR1' : R.1 < m ^ n := hR1
        have hR2' : R.2 ≤ 99 * n + 1 := hR2
        refine ⟨mvI R.2, rowA A r (some n) (fun k => rndV (dg m n R.1 k)), hA, fun σ h => ?_, fun σ h => ?_⟩
        · have hnow := h.now
          rw [hT] at hnow
          have fr0 : FrR 0 σ (setI σ 45 3 (-1 : Int32)) := FrR.set (Or.inl rfl) (by decide)
          have c0 : CT (setI σ 45 3 (-1 : Int32)) 18 T := hnow.kept (fun a b p q => fr0.1 a b (by omega))
          obtain ⟨σ1, e1, c1, f1⟩ := C_copyR (k := 0) (by decide) tw_18 (by decide) c0 h6
          have W1 : WR σ1 m n (0, 0) 0 0 := ⟨Nat.zero_le _, by rw [f1.1 _ _ (by decide), setI_1, if_pos ⟨rfl, rfl⟩]; rfl, Or.inl rfl, fun k hk => absurd hk (by omega)⟩
          obtain ⟨σ2, e2, w2, fr2⟩ := C_goOn hnw (by decide) hm n4 n 8 (by omega) 0 0 T 0 (0, 0) σ1 (Nat.zero_add n) rfl c1 W1
          rw [Nat.zero_mul, hR] at w2
          obtain ⟨y1, y2, y3, y4⟩ := w2
          have y3' := y3.resolve_left hR3
          have e1' : F_X2_copyAt 46 (0 : Int32) 18 (setI σ 45 3 (-1 : Int32)) = some (some (lvR 0), σ1) := e1
          have e2' : F_X5_goOn 8 45 (some (lvR 0)) (0 : Int32) (nI n) (0 : Int32) σ1 = some σ2 := e2
          have fo := (fr0.tr ((f1.r (Nat.le_refl _) (by decide)).tr fr2)).o
          obtain ⟨h2, f2⟩ := h.side fo
          obtain ⟨σ3, e3, m1, m2, m3⟩ := S_makeOf (n := n) (src := 88) sf_1 hr h2.1.1 (by omega) (by decide) sh_88 (by omega) (by decide) (by decide)
          obtain ⟨h3, f3⟩ := h2.putR (f := fun k => rndV (dg m n R.1 k)) hr (by omega) m1 (fun i hi => (m2 i hi).trans (y3' i hi)) m3
          refine ⟨σ3, ?_, h3, f2.tr f3⟩
          unfold F_X8_round F_X5_mostFound
          rw [if_neg nx, if_neg nx4, gR_0_0, ob_some, ck_1, ob_some, S_num sf_1 hr, ob_some, if_neg (by decide), gR_0_4, ob_some, C_isT hnow, ob_some, if_neg (nI_ne0 (by omega) (by omega)), gR_0_9, ob_some, ob_some, ck_45, ob_some, pI_45_3, ob_some, gR_45_0, ob_some, ck_46, ob_some, e1', ob_some]
          dsimp only
          rw [e2', ob_some, gI_45_3, ob_some, ob_some, y2, ob_some, ob_some, gR_45_1, ob_some, ck_1, ob_some, e3, ob_some]
        · have hnow := h.now
          rw [hT] at hnow
          have em : nI (T 0) + (1 : Int32) = nI m := by rw [nI_1, hm]
          have k68 : ∃ σ', F_X9_round_68 134 (nI n) (nI r) (nI (m ^ n)) ((0 : Int32), (-1 : Int32), (0 : Int32), σ) = some (mvI R.2, σ') ∧ RM (rowA A r (some n) (fun k => rndV (dg m n R.1 k))) σ' ∧ FM σ σ' := by
            have key : ∃ t, F_X9_round_68 134 (nI n) (nI r) (nI (m ^ n)) ((0 : Int32), (-1 : Int32), (0 : Int32), σ) = some t ∧ ∃ σ', t = (mvI R.2, σ') ∧ RM (rowA A r (some n) (fun k => rndV (dg m n R.1 k))) σ' ∧ FM σ σ' := by
              unfold F_X9_round_68
              refine lp_inv (fun C (u : Int32 × Int32 × Int32 × Mem) => u.1 = nI (fq m T n (0, 0) 0 C).1 ∧ u.2.1 = mvI (fq m T n (0, 0) 0 C).2 ∧ u.2.2.1 = nI C ∧ FrM 7260 σ u.2.2.2) (m ^ n) ?_ ?_ _ ⟨rfl, mvI_0.symm, rfl, FrM.rf⟩
              · intro C u hC ⟨a1, a2, a3, a4⟩
                have hu : MT u.2.2.2 0 T := hnow.kept (fun b _ _ => a4.1 _ _ (by omega))
                have hb := (hlt C (by omega)).2
                obtain ⟨σ', e, f⟩ := M_rcode (x2 := nI r) (x3 := nI (m ^ n)) (C := C) (s := fq m T n (0, 0) 0 C) hu hnw (by decide) hm n4 hC hp (by omega)
                obtain ⟨s', hs'⟩ : ∃ s', stq m T n (fq m T n (0, 0) 0 C) C = s' := ⟨_, rfl⟩
                have eS : fq m T n (0, 0) 0 (C + 1) = s' := by
                  rw [← hs']
                  show stq m T n (fq m T n (0, 0) 0 C) (0 + C) = _
                  rw [Nat.zero_add]
                rw [hs'] at e
                obtain ⟨z, hz2⟩ : ∃ z, mvI s'.2 = z := ⟨_, rfl⟩
                rw [hz2] at e
                rw [a1, a2, a3, if_neg (nI_ge hC (by omega)), e, eS]
                exact ⟨(nI s'.1, z, nI (C + 1), σ'), rfl, rfl, hz2.symm, rfl, a4.tr f⟩
              · intro u ⟨a1, a2, a3, a4⟩
                rw [hR] at a1 a2
                obtain ⟨h2, f2⟩ := h.side hA (a4.n (by decide))
                obtain ⟨σ', e, h3, f3⟩ := M_rdig (A := A) (m := m) (C := R.1) (x := mvI R.2) hA (by rw [hT]; exact hm) n4 (by omega) hr u.2.2.2 h2
                refine ⟨(mvI R.2, σ'), ?_, σ', rfl, h3, f2.tr f3⟩
                rw [a1, a2, a3, if_pos (nI_le (Nat.le_refl _) (by omega))]
                exact e
            obtain ⟨t, e, σ', rfl, k⟩ := key
            exact ⟨σ', e, k⟩
          obtain ⟨σ', e, h2, f2⟩ := k68
          refine ⟨σ', ?_, h2, f2⟩
          have k36 : F_X9_round_36 134 (nI n) (nI r) σ ((1 : Int32), (0 : Int32)) = some (mvI R.2, σ') := by
            have key : ∃ t, F_X9_round_36 134 (nI n) (nI r) σ ((1 : Int32), (0 : Int32)) = some t ∧ t = (mvI R.2, σ') := by
              unfold F_X9_round_36
              refine lp_inv (Q := fun t : Int32 × Mem => t = (mvI R.2, σ')) (fun k (u : Int32 × Int32) => u.2 = nI k ∧ u.1 = nI (m ^ k)) n ?_ ?_ _ ⟨rfl, rfl⟩
              · intro k u hk ⟨a1, a2⟩
                refine ⟨(nI (m ^ (k + 1)), nI (k + 1)), ?_, rfl, rfl⟩
                rw [a1, a2, if_neg (nI_ge hk (by omega)), wR, ob_some, M_r0 hnow, ob_some, em, pk_mul, Nat.pow_succ, nI_1]
              · intro u ⟨a1, a2⟩
                exact ⟨_, by rw [a1, a2, if_pos (nI_le (Nat.le_refl _) (by omega)), e]; rfl, rfl⟩
            obtain ⟨t, e2, rfl⟩ := key
            exact e2
          unfold F_X9_round
          rw [in_eq, wide, d0, d4, if_pos hx, ob_some, if_neg (by decide), row_yes hr, ob_some, if_neg (by decide), M_isTown hnow h6, if_neg hz, ob_some, if_neg (by decide), k36]
  · refine ⟨-1, A, hA, C_same fun σ h => ?_, M_same fun σ h => ?_⟩
    · unfold F_X8_round
      by_cases q : x < 0
      · rw [if_pos q]
      · have q' : ¬ x.toInt < 0 := fun z => q (neg_iff.mpr z)
        rw [if_neg q, if_pos (t4.mpr (by omega))]
    · unfold F_X9_round
      rw [in_eq, wide, d0, d4, if_neg hx, ob_some, if_pos rfl]
end
section
/-! ===== brings ===== -/
abbrev gdB (T : Tn) (f : Nat → Int32) (j : Nat) : Prop := f j = -9 ∨ ∃ i, i < T 0 ∧ f j = nI i
noncomputable def aB (f : Nat → Int32) (j : Nat) : Nat := if f j = -9 then 0 else (f j).toInt.toNat + 1
theorem aB_ok {T : Tn} {f : Nat → Int32} {j : Nat} (h6 : T 0 ≤ 6) (h : gdB T f j) : f j = rndV (aB f j) ∧ aB f j < T 0 + 1 := by
  unfold aB
  rcases h with h | ⟨i, hi, h⟩
  · rw [if_pos h, h]; exact ⟨rfl, by omega⟩
  · rw [if_neg (by rw [h]; exact nI_n9 (by omega)), h, nI_toInt (by omega), Int.toNat_natCast]
    exact ⟨(rndV_s i).symm, by omega⟩
def brR (T : Tn) (a : Nat → Nat) : Nat → Tn × Nat
  | 0 => (T, 0)
  | k + 1 => (mvO (passT (brR T a k).1) (a k), (brR T a k).2 + gnO (passT (brR T a k).1) (a k))
theorem wf_brR {B n : Nat} {T : Tn} {a : Nat → Nat} (hw : wfT B T) (ha : ∀ j, j < n → a j < T 0 + 1) : ∀ k, k ≤ n → wfT (B + 2 * k) (brR T a k).1 ∧ (brR T a k).1 0 = T 0
  | 0, _ => ⟨hw, rfl⟩
  | k + 1, hk => by
    obtain ⟨h1, h2⟩ := wf_brR hw ha k (by omega)
    have h0 : passT (brR T a k).1 0 = T 0 := (pass_0 _).trans h2
    exact ⟨wf_mono (by omega) (wf_O (wf_pass h1) (by rw [h0]; exact ha k (by omega))), mvO_0.trans h0⟩
theorem brR_col {B n : Nat} {T : Tn} {a : Nat → Nat} (hw : wfT B T) (ha : ∀ j, j < n → a j < T 0 + 1) : ∀ k, k ≤ n → ∀ j, (brR T a k).1 (39 + j) = T (39 + j)
  | 0, _, _ => rfl
  | k + 1, hk, j => by
    obtain ⟨h1, h2⟩ := wf_brR hw ha k (by omega)
    have ih := brR_col hw ha k (by omega) j
    have h6 := h1.1
    have h0 : passT (brR T a k).1 0 = T 0 := (pass_0 _).trans h2
    show mvO (passT (brR T a k).1) (a k) (39 + j) = _
    rw [mvO_col (by rw [h0, ← h2]; exact h6) (by rw [h0]; exact ha k (by omega)), pass_col h6, ih]
theorem C_mvR {σ : Mem} {k B a : Nat} {U : Tn} (hk : Tw k) (h : CT σ k U) (hw : wfT B U) (hB : B ≤ 1000) (ha : a < U 0 + 1) : ∃ σ', F_X7_inspectBed k (rndV a) σ = some (nI (gnO U a), σ') ∧ CT σ' k (mvO U a) ∧ FrK k σ σ' := by
  by_cases z : a = 0
  · have e1 : mvO U a = U := if_pos z
    have e2 : gnO U a = 0 := if_pos z
    rw [e1, e2, z, rndV_0, C_inspno hk h (Or.inl m9_neg)]
    exact ⟨σ, rfl, h, FrK.rf⟩
  · obtain ⟨i, rfl⟩ : ∃ i, a = i + 1 := ⟨a - 1, by omega⟩
    have := C_mvO (a := i + 1) hk h hw hB ha
    rw [mvI_s] at this
    rw [rndV_s]; exact this
theorem C_fines26 {σ : Mem} {B : Nat} {T : Tn} (h : CT σ 26 T) (hw : wfT B T) : F_X7_fines 26 σ = some (nI (T 2)) := by
  have h6 := hw.1
  have key : ∃ t, F_X7_fines_4 26 σ ((0 : Int32), (0 : Int32)) = some t ∧ t = nI (T 2) := by
    unfold F_X7_fines_4
    refine lp_inv (fun j (s : Int32 × Int32) => s.2 = nI j ∧ s.1 = nI (sumT T j)) (T 0) ?_ ?_ _ ⟨rfl, rfl⟩
    · intro j s hj ⟨a1, a2⟩
      refine ⟨(nI (sumT T (j + 1)), nI (j + 1)), ?_, rfl, rfl⟩
      rw [a1, a2, tI_8 tw_26, h.1, ob_some, if_neg (nI_ge hj (by omega)), tR_6 tw_26, ob_some, tw_26.rd (o := 7) (by decide) (by decide) (by omega), ob_some, (h.2.2.2.2 j hj).2.2.2.2.2, nI_add, nI_1]
      rfl
    · intro s ⟨a1, a2⟩
      exact ⟨s.1, by rw [a1, tI_8 tw_26, h.1, ob_some, if_pos (nI_le (Nat.le_refl _) (by omega))], by rw [a2, hw.2.2.2.2.2]⟩
  obtain ⟨t, e, rfl⟩ := key
  unfold F_X7_fines
  exact e
theorem C_isRound {A : Ab} {σ : Mem} {r n : Nat} (hA : okDe A.2.2.2) (h : RC A σ) (hr : r < 6) (hs : A.1.1 r = some n) : (∀ (_ : ∀ j, j < n → gdB (nowT A.2.2.2) (A.1.2 r) j), F_X8_isRound 0 (nI r) σ = some 1) ∧ ∀ (_ : ¬ ∀ j, j < n → gdB (nowT A.2.2.2) (A.1.2 r) j), F_X8_isRound 0 (nI r) σ = some 0 := by
  obtain ⟨hnw, hn0⟩ := now_wf hA
  have h6 := hnw.1
  obtain ⟨hn, g1, g2⟩ := h.1.row hr hs
  have key : ∃ t, F_X8_isRound_2 0 (nI r) σ (0 : Int32) = some t ∧ (((∀ j, j < n → gdB (nowT A.2.2.2) (A.1.2 r) j) ∧ t = 1) ∨ ((¬ ∀ j, j < n → gdB (nowT A.2.2.2) (A.1.2 r) j) ∧ t = 0)) := by
    unfold F_X8_isRound_2
    refine lp_inv2 (fun j (s : Int32) => s = nI j ∧ ∀ k, k < j → gdB (nowT A.2.2.2) (A.1.2 r) k) n ?_ ?_ _ ⟨rfl, fun k hk => absurd hk (by omega)⟩
    · intro j s hj ⟨a1, a2⟩
      rw [a1, gR_0_0, ob_some, ck_1, ob_some, S_size sf_1 hr, g1, ob_some, if_neg (nI_ge hj (by omega)), ob_some, ck_1, ob_some, S_get sf_1 hr h.1.1 g1 hn hj, ob_some, g2 j hj]
      have nxt : gdB (nowT A.2.2.2) (A.1.2 r) j → ∀ k, k < j + 1 → gdB (nowT A.2.2.2) (A.1.2 r) k := fun q k hk => by
        by_cases y : k = j
        · rw [y]; exact q
        · exact a2 k (by omega)
      by_cases q : A.1.2 r j = -9
      · rw [if_pos q, nI_1]
        exact Or.inl ⟨_, rfl, rfl, nxt (Or.inl q)⟩
      · rw [if_neg q, gR_0_4, ob_some, tC tw_18, ob_some]
        rcases ixc (A.1.2 r j) (n := nowT A.2.2.2 0) (by omega) with hx | ⟨i, hi, e⟩
        · rw [C_hasno tw_18 h.now hx, ob_some, if_pos rfl]
          refine Or.inr ⟨_, rfl, Or.inr ⟨fun z => ?_, rfl⟩⟩
          rcases z j hj with z | ⟨i, hi, z⟩
          · exact q z
          · rw [z] at hx
            exact nb_in hi (by omega) hx
        · rw [e, C_has tw_18 h.now hnw hi, ob_some, if_neg (by decide), nI_1]
          exact Or.inl ⟨_, rfl, rfl, nxt (Or.inr ⟨i, hi, e⟩)⟩
    · intro s ⟨a1, a2⟩
      exact ⟨1, by rw [a1, gR_0_0, ob_some, ck_1, ob_some, S_size sf_1 hr, g1, ob_some, if_pos (nI_le (Nat.le_refl _) (by omega))], Or.inl ⟨a2, rfl⟩⟩
  obtain ⟨t, e, k⟩ := key
  unfold F_X8_isRound
  rcases k with ⟨k1, k2⟩ | ⟨k1, k2⟩
  · exact ⟨fun _ => by rw [e, k2], fun z => absurd k1 z⟩
  · exact ⟨fun z => absurd z k1, fun _ => by rw [e, k2]⟩
theorem C_bringsL {A : Ab} {r n : Nat} (hA : okDe A.2.2.2) (hr : r < 6) (hs : A.1.1 r = some n) (hn10 : n ≤ 10) (hg : ∀ j, j < n → gdB (nowT A.2.2.2) (A.1.2 r) j) (σ : Mem) (h : RC A σ) : ∃ σ', (F_X7_copyFrom 26 18 σ).bind (fun q65 => F_X8_brings_91 0 (nI r) ((0 : Int32), (0 : Int32), q65)) = some (nI (brR (nowT A.2.2.2) (aB (A.1.2 r)) n).2, σ') ∧ RC (toldA A (nI ((brR (nowT A.2.2.2) (aB (A.1.2 r)) n).1 2) - nI (nowT A.2.2.2 2))) σ' ∧ FC σ σ' := by
  obtain ⟨hnw, hn0⟩ := now_wf hA
  have h6 := hnw.1
  have ha : ∀ j, j < n → aB (A.1.2 r) j < nowT A.2.2.2 0 + 1 := fun j hj => (aB_ok h6 (hg j hj)).2
  obtain ⟨a, haa⟩ : ∃ a, aB (A.1.2 r) = a := ⟨_, rfl⟩
  have hv : ∀ j, j < n → A.1.2 r j = rndV (a j) := fun j hj => by rw [← haa]; exact (aB_ok h6 (hg j hj)).1
  rw [haa] at ha ⊢
  obtain ⟨σ1, e1, c1, f1⟩ := C_copy tw_26 (k2 := 18) tw_18 (by decide) h6 h.now
  have key : ∃ t, F_X8_brings_91 0 (nI r) ((0 : Int32), (0 : Int32), σ1) = some t ∧ (t.1 = nI (brR (nowT A.2.2.2) a n).2 ∧ RC (toldA A (nI ((brR (nowT A.2.2.2) a n).1 2) - nI (nowT A.2.2.2 2))) t.2 ∧ FC σ t.2) := by
    unfold F_X8_brings_91
    refine lp_inv (fun k (u : Int32 × Int32 × Mem) => u.1 = nI (brR (nowT A.2.2.2) a k).2 ∧ u.2.1 = nI k ∧ CT u.2.2 26 (brR (nowT A.2.2.2) a k).1 ∧ FrK 26 σ u.2.2) n ?_ ?_ _ ⟨rfl, rfl, c1, f1⟩
    · intro k u hk ⟨a1, a2, a3, a4⟩
      obtain ⟨hu, _⟩ := h.aside a4
      obtain ⟨hn, g1, g2⟩ := hu.1.row hr hs
      obtain ⟨w1, w2⟩ := wf_brR hnw ha k (by omega)
      obtain ⟨σ2, e2, c2, f2⟩ := C_pass tw_26 a3 w1 (by omega)
      have wp := wf_pass w1
      have hp0 : passT (brR (nowT A.2.2.2) a k).1 0 = nowT A.2.2.2 0 := (pass_0 _).trans w2
      obtain ⟨hu2, _⟩ := hu.aside f2
      obtain ⟨hn2, g3, g4⟩ := hu2.1.row hr hs
      obtain ⟨σ3, e3, c3, f3⟩ := C_mvR (a := a k) tw_26 c2 wp (by omega) (by rw [hp0]; exact ha k hk)
      refine ⟨(nI (brR (nowT A.2.2.2) a (k + 1)).2, nI (k + 1), σ3), ?_, rfl, rfl, c3, (a4.tr f2).tr f3⟩
      rw [a1, a2, gR_0_0, ob_some, ck_1, ob_some, S_size sf_1 hr, g1, ob_some, if_neg (nI_ge hk (by omega)), gR_0_5, ob_some, tC tw_26, ob_some, e2, ob_some, ob_some, ob_some, ck_1, ob_some, S_get sf_1 hr hu2.1.1 g3 hn2 hk, ob_some, g4 k hk, hv k hk, tC tw_26, ob_some, e3, ob_some, nI_add, nI_1]
      rfl
    · intro u ⟨a1, a2, a3, a4⟩
      obtain ⟨hu, fu⟩ := h.aside a4
      obtain ⟨hn, g1, g2⟩ := hu.1.row hr hs
      obtain ⟨w1, w2⟩ := wf_brR hnw ha n (Nat.le_refl _)
      obtain ⟨v, hv2⟩ : ∃ v, nI ((brR (nowT A.2.2.2) a n).1 2) - nI (nowT A.2.2.2 2) = v := ⟨_, rfl⟩
      obtain ⟨σ3, e3, h4, f4⟩ := C_tell (A := A) (v := v) u.2.2 hu
      have es : F_X8_tell 0 v u.2.2 = some (1, setI u.2.2 0 13 v) := by
        unfold F_X8_tell
        rw [pI_0_13, ob_some]
      have e4 := e3.symm.trans es
      injection e4 with e4
      injection e4 with _ e4
      subst e4
      refine ⟨(u.1, setI u.2.2 0 13 v), ?_, a1, by rw [hv2]; exact h4, fu.tr f4⟩
      rw [a2, gR_0_0, ob_some, ck_1, ob_some, S_size sf_1 hr, g1, ob_some, if_pos (nI_le (Nat.le_refl _) (by omega)), gR_0_5, ob_some, tC tw_26, ob_some, C_fines26 a3 w1, ob_some, gR_0_4, ob_some, tC tw_18, ob_some, C_finesA hu.now hnw, ob_some, hv2, pI_0_13, ob_some]
  obtain ⟨⟨t1, t2⟩, e, k1, k2, k3⟩ := key
  exact ⟨t2, by rw [e1, ob_some, e, show t1 = _ from k1], k2, k3⟩
theorem M_bringsL {A : Ab} {r n : Nat} (hA : okDe A.2.2.2) (hr : r < 6) (hs : A.1.1 r = some n) (hn10 : n ≤ 10) (hg : ∀ j, j < n → gdB (nowT A.2.2.2) (A.1.2 r) j) (σ : Mem) (h : RM A σ) : ∃ σ', (F_X9_tries 134 σ).bind (fun q6 => F_X9_brings_117 134 (nI r) ((0 : Int32), (0 : Int32), q6)) = some (nI (brR (nowT A.2.2.2) (aB (A.1.2 r)) n).2, σ') ∧ RM (toldA A (nI ((brR (nowT A.2.2.2) (aB (A.1.2 r)) n).1 2) - nI (nowT A.2.2.2 2))) σ' ∧ FM σ σ' := by
  obtain ⟨hnw, hn0⟩ := now_wf hA
  have h6 := hnw.1
  have ha : ∀ j, j < n → aB (A.1.2 r) j < nowT A.2.2.2 0 + 1 := fun j hj => (aB_ok h6 (hg j hj)).2
  obtain ⟨a, haa⟩ : ∃ a, aB (A.1.2 r) = a := ⟨_, rfl⟩
  have hv : ∀ j, j < n → A.1.2 r j = rndV (a j) := fun j hj => by rw [← haa]; exact (aB_ok h6 (hg j hj)).1
  rw [haa] at ha ⊢
  have hnow := h.now
  obtain ⟨σ1, e1, c1, f1⟩ := M_tries hnow
  have key : ∃ t, F_X9_brings_117 134 (nI r) ((0 : Int32), (0 : Int32), σ1) = some t ∧ (t.1 = nI (brR (nowT A.2.2.2) a n).2 ∧ RM (toldA A (nI ((brR (nowT A.2.2.2) a n).1 2) - nI (nowT A.2.2.2 2))) t.2 ∧ FM σ t.2) := by
    unfold F_X9_brings_117
    refine lp_inv (fun k (u : Int32 × Int32 × Mem) => u.1 = nI (brR (nowT A.2.2.2) a k).2 ∧ u.2.1 = nI k ∧ MT u.2.2 7260 (brR (nowT A.2.2.2) a k).1 ∧ FrM 7260 σ u.2.2) n ?_ ?_ _ ⟨rfl, rfl, c1, f1⟩
    · intro k u hk ⟨a1, a2, a3, a4⟩
      obtain ⟨hu, _⟩ := RM.aside hA h a4
      obtain ⟨hn, g1, g2⟩ := hu.1.row hr hs
      obtain ⟨w1, w2⟩ := wf_brR hnw ha k (by omega)
      have col := brR_col hnw ha k (by omega)
      have hCu : COL u.2.2 (brR (nowT A.2.2.2) a k).1 := (hu.now.col).ext (fun j _ => col j)
      obtain ⟨U, hU⟩ : ∃ U, (brR (nowT A.2.2.2) a k).1 = U := ⟨_, rfl⟩
      obtain ⟨S, hS⟩ : ∃ S, (brR (nowT A.2.2.2) a k).2 = S := ⟨_, rfl⟩
      have eN : brR (nowT A.2.2.2) a (k + 1) = (mvO (passT U) (a k), S + gnO (passT U) (a k)) := by
        rw [← hU, ← hS]; rfl
      rw [hU] at w1 w2 a3 hCu
      rw [hS] at a1
      obtain ⟨σ2, p1, p2, p3⟩ := M_pass (f := 7260) a3 hCu (by decide) (Or.inr (by decide)) w1 (by omega)
      have p1' : F_X9_passes 134 (7260 : Int32) u.2.2 = some (_, σ2) := p1
      have wp := wf_pass w1
      have hp0 : passT U 0 = nowT A.2.2.2 0 := (pass_0 _).trans w2
      obtain ⟨hu2, _⟩ := RM.aside hA hu p3
      obtain ⟨hn2, g3, g4⟩ := hu2.1.row hr hs
      have rv : aI 137 (((40 : Int32) * nI r) + nI k) σ2 = some (rndV (a k)) := by rw [ix40, aI_eq sh_137 (by omega) (by decide), g4 k hk, hv k hk]
      rw [a1, a2, eN, gR_134_4, ob_some, aI_eq sh_138 hr (by decide), ob_some, g1, if_neg (nI_ge hk (by omega)), p1', ob_some, gR_134_3, ob_some, rv, ob_some]
      unfold F_X9_brings_174
      by_cases z : a k = 0
      · have z1 : mvO (passT U) (a k) = passT U := if_pos z
        have z2 : gnO (passT U) (a k) = 0 := if_pos z
        have z3 : rndV (a k) = (-9 : Int32) := by rw [z]; rfl
        rw [if_pos z3, z1, z2, show nI S + (0 : Int32) = nI S from Int32.add_zero _, nI_1]
        exact ⟨_, rfl, rfl, rfl, p2, a4.tr p3⟩
      · obtain ⟨i, hi⟩ : ∃ i, a k = i + 1 := ⟨a k - 1, by omega⟩
        have hak := ha k hk
        obtain ⟨σ3, e, c, f⟩ := M_insp (f := 7260) p2 (by decide) wp (show i < passT U 0 by omega)
        have e' : F_X9_inspects 134 (7260 : Int32) (nI i) σ2 = some (nI (inspS (passT U) i), σ3) := e
        have z1 : mvO (passT U) (a k) = inspT (passT U) i := by rw [hi]; exact if_neg (by omega)
        have z2 : gnO (passT U) (a k) = inspS (passT U) i := by rw [hi]; exact if_neg (by omega)
        have z3 : rndV (a k) = nI i := by rw [hi, rndV_s]
        rw [z3] at rv
        rw [z3, if_neg (nI_n9 (by omega)), z1, z2, ob_some, rv, ob_some, e', ob_some, nI_add, nI_1]
        exact ⟨_, rfl, rfl, rfl, c, (a4.tr p3).tr f⟩
    · intro u ⟨a1, a2, a3, a4⟩
      obtain ⟨hu, fu⟩ := RM.aside hA h a4
      obtain ⟨hn, g1, g2⟩ := hu.1.row hr hs
      have v2 := a3 2 (by decide)
      have v0 := hu.now 2 (by decide)
      have r1 : aI 135 (7262 : Int32) u.2.2 = some (nI ((brR (nowT A.2.2.2) a n).1 2)) := (w_rd (j := 7262) (by decide)).trans (by rw [show u.2.2.1 135 7262 = _ from v2])
      have r2 : aI 135 (2 : Int32) u.2.2 = some (nI (nowT A.2.2.2 2)) := (w_rd (j := 2) (by decide)).trans (by rw [show u.2.2.1 135 2 = _ from v0])
      obtain ⟨σ3, e3, h4, f4⟩ := M_tells (A := A) (v := nI ((brR (nowT A.2.2.2) a n).1 2) - nI (nowT A.2.2.2 2)) (r := nI (brR (nowT A.2.2.2) a n).2) u.2.2 hu
      refine ⟨(nI (brR (nowT A.2.2.2) a n).2, σ3), ?_, rfl, h4, fu.tr f4⟩
      rw [a1, a2, gR_134_4, ob_some, aI_eq sh_138 hr (by decide), ob_some, g1, if_pos (nI_le (Nat.le_refl _) (by omega)), wR, ob_some, r1, ob_some, ob_some, r2, ob_some, e3, ob_some]
  obtain ⟨⟨t1, t2⟩, e, k1, k2, k3⟩ := key
  exact ⟨t2, by rw [e1, ob_some, e, show t1 = _ from k1], k2, k3⟩
end
section
theorem sim_brings (x : Int32) : Sim (F_X8_brings 0 x) (F_X9_brings 134 x) := by
  refine sim_of fun A hA => ?_
  obtain ⟨hnw, hn0⟩ := now_wf hA
  have h6 := hnw.1
  rcases ixc x (n := 6) (by decide) with hx | ⟨r, hr, rfl⟩
  · refine ⟨-1, A, hA, C_same fun σ h => ?_, M_same fun σ h => ?_⟩
    · unfold F_X8_brings
      rw [gR_0_0, ob_some, ck_1, ob_some, S_numno sf_1 hx, ob_some, if_pos rfl]
    · unfold F_X9_brings
      rw [row_no hx, ob_some, if_pos rfl]
  · by_cases hz : nowT A.2.2.2 0 = 0
    · refine ⟨-4, A, hA, C_same fun σ h => ?_, M_same fun σ h => ?_⟩
      · unfold F_X8_brings
        rw [gR_0_0, ob_some, ck_1, ob_some, S_num sf_1 hr, ob_some, if_neg (by decide), gR_0_4, ob_some, C_isT h.now, ob_some, hz, if_pos (show nI 0 = (0 : Int32) from rfl)]
      · unfold F_X9_brings
        rw [row_yes hr, ob_some, if_neg (by decide), M_isTown h.now h6, if_pos hz, ob_some, if_pos rfl]
    · have nz0 : ¬ nI (nowT A.2.2.2 0) = (0 : Int32) := nI_ne0 (by omega) (by omega)
      cases hs : A.1.1 r with
      | none =>
        refine ⟨-3, foundA A 1, hA, fun σ h => ?_, fun σ h => ?_⟩
        · obtain ⟨σ', e, h1, h2⟩ := C_refuse (A := A) (f := 1) (by decide) σ h
          have e' : F_X8_refuse 0 (1 : Int32) σ = some (-3, σ') := e
          refine ⟨σ', ?_, h1, h2⟩
          have es : F_X6_stands 1 (nI r) σ = some 0 := by rw [S_stands sf_1 hr, h.1.no hr hs, if_pos (show (-1 : Int32) < 0 by decide)]
          unfold F_X8_brings
          rw [gR_0_0, ob_some, ck_1, ob_some, S_num sf_1 hr, ob_some, if_neg (by decide), gR_0_4, ob_some, C_isT h.now, ob_some, if_neg nz0, ob_some, ck_1, ob_some, es, ob_some, if_pos rfl, e', ob_some]
        · obtain ⟨σ', e, h1, h2⟩ := M_found (A := A) (f := 1) (by decide) σ h
          have e' : F_X9_found 134 (1 : Int32) σ = some (-3, σ') := e
          refine ⟨σ', ?_, h1, h2⟩
          unfold F_X9_brings
          rw [row_yes hr, ob_some, if_neg (by decide), M_isTown h.now h6, if_neg hz, ob_some, if_neg (by decide), gR_134_4, ob_some, aI_eq sh_138 hr (by decide), ob_some, h.1.no hr hs, if_neg nm1, e', ob_some]
      | some n =>
        rcases Nat.lt_or_ge 40 n with hbig | hsm
        · exact ⟨-1, A, hA, fun σ h => absurd (h.1.row hr hs).1 (by omega), fun σ h => absurd (h.1.row hr hs).1 (by omega)⟩
        have g0 : (0 : Int32) ≤ nI n := nI_pos' (by omega)
        have sC : ∀ σ, RC A σ → F_X6_stands 1 (nI r) σ = some 1 := fun σ h => by
          rw [S_stands sf_1 hr, (h.1.row hr hs).2.1, if_neg (nI_pos (by omega))]
        by_cases h10 : n ≤ 10
        · have l10 : nI n ≤ (10 : Int32) := nI_le (b := 10) h10 (by decide)
          by_cases hg : ∀ j, j < n → gdB (nowT A.2.2.2) (A.1.2 r) j
          · obtain ⟨N, V, kC, kM⟩ : ∃ N V, (∀ σ, RC A σ → ∃ σ', (F_X7_copyFrom 26 18 σ).bind (fun q65 => F_X8_brings_91 0 (nI r) ((0 : Int32), (0 : Int32), q65)) = some (nI N, σ') ∧ RC (toldA A V) σ' ∧ FC σ σ') ∧ ∀ σ, RM A σ → ∃ σ', (F_X9_tries 134 σ).bind (fun q6 => F_X9_brings_117 134 (nI r) ((0 : Int32), (0 : Int32), q6)) = some (nI N, σ') ∧ RM (toldA A V) σ' ∧ FM σ σ' := ⟨_, _, C_bringsL hA hr hs h10 hg, M_bringsL hA hr hs h10 hg⟩
            refine ⟨nI N, toldA A V, hA, fun σ h => ?_, fun σ h => ?_⟩
            · obtain ⟨σ', e, h1, h2⟩ := kC σ h
              refine ⟨σ', ?_, h1, h2⟩
              unfold F_X8_brings
              rw [gR_0_0, ob_some, ck_1, ob_some, S_num sf_1 hr, ob_some, if_neg (by decide), gR_0_4, ob_some, C_isT h.now, ob_some, if_neg nz0, ob_some, ck_1, ob_some, sC σ h, ob_some, if_neg (by decide), ob_some, ck_1, ob_some, S_size sf_1 hr, (h.1.row hr hs).2.1, ob_some, if_pos l10, (C_isRound hA h hr hs).1 hg, ob_some, if_neg (by decide), gR_0_5, ob_some, ob_some, tC tw_26, ob_some]
              exact e
            · obtain ⟨σ', e, h1, h2⟩ := kM σ h
              obtain ⟨hn, g1, g2⟩ := h.1.row hr hs
              refine ⟨σ', ?_, h1, h2⟩
              have k53 : F_X9_brings_53 134 (nI r) σ (0 : Int32) = some (nI N, σ') := by
                have key : ∃ t, F_X9_brings_53 134 (nI r) σ (0 : Int32) = some t ∧ t = (nI N, σ') := by
                  unfold F_X9_brings_53
                  refine lp_inv (Q := fun t : Int32 × Mem => t = (nI N, σ')) (fun j (s : Int32) => s = nI j) n ?_ ?_ _ rfl
                  · intro j s hj a1
                    refine ⟨nI (j + 1), ?_, rfl⟩
                    rw [a1, gR_134_4, ob_some, aI_eq sh_138 hr (by decide), ob_some, g1, if_neg (nI_ge hj (by omega)), gR_134_3, ob_some, ix40, aI_eq sh_137 (by omega) (by decide), ob_some, g2 j hj]
                    rcases hg j hj with q | ⟨i, hi, q⟩
                    · rw [if_pos q, nI_1]
                    · rw [q, if_neg (nI_n9 (by omega)), ob_some, aI_eq sh_137 (by omega) (by decide), ob_some, g2 j hj, q, M_bed h.now h6 hi, ob_some, if_neg (by decide), nI_1]
                  · intro s a1
                    refine ⟨_, ?_, rfl⟩
                    rw [a1, gR_134_4, ob_some, aI_eq sh_138 hr (by decide), ob_some, g1, if_pos (nI_le (Nat.le_refl _) (by omega))]
                    cases e1 : F_X9_tries 134 σ with
                    | none => rw [e1] at e; cases e
                    | some q =>
                      rw [e1, ob_some] at e
                      rw [ob_some, e]
                      rfl
                obtain ⟨t, e2, rfl⟩ := key
                exact e2
              unfold F_X9_brings
              rw [row_yes hr, ob_some, if_neg (by decide), M_isTown h.now h6, if_neg hz, ob_some, if_neg (by decide), gR_134_4, ob_some, aI_eq sh_138 hr (by decide), ob_some, g1, if_pos g0, ob_some, aI_eq sh_138 hr (by decide), ob_some, g1, if_pos l10, k53]
          · refine ⟨-3, foundA A 3, hA, fun σ h => ?_, fun σ h => ?_⟩
            · obtain ⟨σ', e, h1, h2⟩ := C_refuse (A := A) (f := 3) (by decide) σ h
              have e' : F_X8_refuse 0 (3 : Int32) σ = some (-3, σ') := e
              refine ⟨σ', ?_, h1, h2⟩
              unfold F_X8_brings
              rw [gR_0_0, ob_some, ck_1, ob_some, S_num sf_1 hr, ob_some, if_neg (by decide), gR_0_4, ob_some, C_isT h.now, ob_some, if_neg nz0, ob_some, ck_1, ob_some, sC σ h, ob_some, if_neg (by decide), ob_some, ck_1, ob_some, S_size sf_1 hr, (h.1.row hr hs).2.1, ob_some, if_pos l10, (C_isRound hA h hr hs).2 hg, ob_some, if_pos rfl, e', ob_some]
            · obtain ⟨σ', e, h1, h2⟩ := M_found (A := A) (f := 3) (by decide) σ h
              have e' : F_X9_found 134 (3 : Int32) σ = some (-3, σ') := e
              obtain ⟨hn, g1, g2⟩ := h.1.row hr hs
              refine ⟨σ', ?_, h1, h2⟩
              have k53 : F_X9_brings_53 134 (nI r) σ (0 : Int32) = some (-3, σ') := by
                have key : ∃ t, F_X9_brings_53 134 (nI r) σ (0 : Int32) = some t ∧ t = (-3, σ') := by
                  unfold F_X9_brings_53
                  refine lp_inv2 (Q := fun t : Int32 × Mem => t = (-3, σ')) (fun j (s : Int32) => s = nI j ∧ ∀ k, k < j → gdB (nowT A.2.2.2) (A.1.2 r) k) n ?_ ?_ _ ⟨rfl, fun k hk => absurd hk (by omega)⟩
                  · intro j s hj ⟨a1, a2⟩
                    have nxt : gdB (nowT A.2.2.2) (A.1.2 r) j → ∀ k, k < j + 1 → gdB (nowT A.2.2.2) (A.1.2 r) k := fun q k hk => by
                      by_cases y : k = j
                      · rw [y]; exact q
                      · exact a2 k (by omega)
                    rw [a1, gR_134_4, ob_some, aI_eq sh_138 hr (by decide), ob_some, g1, if_neg (nI_ge hj (by omega)), gR_134_3, ob_some, ix40, aI_eq sh_137 (by omega) (by decide), ob_some, g2 j hj]
                    by_cases q : A.1.2 r j = -9
                    · rw [if_pos q, nI_1]
                      exact Or.inl ⟨_, rfl, rfl, nxt (Or.inl q)⟩
                    · rw [if_neg q, ob_some, aI_eq sh_137 (by omega) (by decide), ob_some, g2 j hj]
                      rcases ixc (A.1.2 r j) (n := nowT A.2.2.2 0) (by omega) with hx | ⟨i, hi, q2⟩
                      · rw [M_bedno h.now h6 hx, ob_some, if_pos rfl, e', ob_some]
                        exact Or.inr ⟨_, rfl, rfl⟩
                      · rw [q2, M_bed h.now h6 hi, ob_some, if_neg (by decide), nI_1]
                        exact Or.inl ⟨_, rfl, rfl, nxt (Or.inr ⟨i, hi, q2⟩)⟩
                  · intro s ⟨a1, a2⟩
                    exact absurd a2 hg
                obtain ⟨t, e2, rfl⟩ := key
                exact e2
              unfold F_X9_brings
              rw [row_yes hr, ob_some, if_neg (by decide), M_isTown h.now h6, if_neg hz, ob_some, if_neg (by decide), gR_134_4, ob_some, aI_eq sh_138 hr (by decide), ob_some, g1, if_pos g0, ob_some, aI_eq sh_138 hr (by decide), ob_some, g1, if_pos l10, k53]
        · have l10 : ¬ nI n ≤ (10 : Int32) := nI_ge (a := 10) (by omega) (by omega)
          refine ⟨-3, foundA A 5, hA, fun σ h => ?_, fun σ h => ?_⟩
          · obtain ⟨σ', e, h1, h2⟩ := C_refuse (A := A) (f := 5) (by decide) σ h
            have e' : F_X8_refuse 0 (5 : Int32) σ = some (-3, σ') := e
            refine ⟨σ', ?_, h1, h2⟩
            unfold F_X8_brings
            rw [gR_0_0, ob_some, ck_1, ob_some, S_num sf_1 hr, ob_some, if_neg (by decide), gR_0_4, ob_some, C_isT h.now, ob_some, if_neg nz0, ob_some, ck_1, ob_some, sC σ h, ob_some, if_neg (by decide), ob_some, ck_1, ob_some, S_size sf_1 hr, (h.1.row hr hs).2.1, ob_some, if_neg l10, e', ob_some]
          · obtain ⟨σ', e, h1, h2⟩ := M_found (A := A) (f := 5) (by decide) σ h
            have e' : F_X9_found 134 (5 : Int32) σ = some (-3, σ') := e
            obtain ⟨hn, g1, g2⟩ := h.1.row hr hs
            refine ⟨σ', ?_, h1, h2⟩
            unfold F_X9_brings
            rw [row_yes hr, ob_some, if_neg (by decide), M_isTown h.now h6, if_neg hz, ob_some, if_neg (by decide), gR_134_4, ob_some, aI_eq sh_138 hr (by decide), ob_some, g1, if_pos g0, ob_some, aI_eq sh_138 hr (by decide), ob_some, g1, if_neg l10, e', ob_some]
end
section
/-! ===== towns from texts: what both sides read ===== -/
def skF (v : Nat → Int32) : Nat → Nat → Nat
  | 0, p => p
  | f + 1, p => if v p = 32 then skF v f (p + 1) else p
def sk (v : Nat → Int32) (n p : Nat) : Nat := skF v (n - p) p
theorem skF_le {v : Nat → Int32} : ∀ f p, p ≤ skF v f p ∧ skF v f p ≤ p + f
  | 0, p => ⟨Nat.le_refl _, Nat.le_refl _⟩
  | f + 1, p => by
    obtain ⟨h1, h2⟩ := skF_le (v := v) f (p + 1)
    show p ≤ (if v p = 32 then skF v f (p + 1) else p) ∧ (if v p = 32 then skF v f (p + 1) else p) ≤ _
    split
    · exact ⟨by omega, by omega⟩
    · exact ⟨Nat.le_refl _, by omega⟩
theorem sk_le {v : Nat → Int32} {n p : Nat} (h : p ≤ n) : p ≤ sk v n p ∧ sk v n p ≤ n := by
  obtain ⟨h1, h2⟩ := skF_le (v := v) (n - p) p
  exact ⟨h1, by show skF v (n - p) p ≤ n; omega⟩
theorem sk_in {v : Nat → Int32} {n p : Nat} (h : p < n) (h2 : v p = 32) : sk v n p = sk v n (p + 1) := by
  unfold sk
  rw [show n - p = (n - (p + 1)) + 1 by omega]
  exact if_pos h2
theorem sk_out {v : Nat → Int32} {n p : Nat} (h : ¬ (p < n ∧ v p = 32)) : sk v n p = p := by
  unfold sk
  cases e : n - p with
  | zero => rfl
  | succ f => exact if_neg (fun z => h ⟨by omega, z⟩)
/-- a figure of at least l stands there -/
abbrev figP (v : Nat → Int32) (n l p : Nat) : Prop := p < n ∧ nI l ≤ v p - 48 ∧ v p - 48 ≤ nI 9
def figN (v : Nat → Int32) (p : Nat) : Nat := (v p - 48).toInt.toNat
theorem figP_N {v : Nat → Int32} {n l p : Nat} (hl : l ≤ 9) (h : figP v n l p) : v p - 48 = nI (figN v p) ∧ figN v p ≤ 9 ∧ l ≤ figN v p := by
  obtain ⟨_, h1, h2⟩ := h
  rw [Int32.le_iff_toInt_le, nI_toInt (by omega)] at h1
  rw [Int32.le_iff_toInt_le, nI_toInt (by omega)] at h2
  obtain ⟨i, h3, h4⟩ := nat_of (x := v p - 48) (by omega)
  have e : figN v p = i := by unfold figN; omega
  rw [e]
  exact ⟨h4, by omega, by omega⟩
def kdN (x : Int32) : Nat := if x = 98 then 0 else if x = 115 then 1 else if x = 113 then 2 else if x = 99 then 3 else if x = 116 then 4 else if x = 119 then 5 else 6
/-- how many figures, of so many, stand there -/
def cfN (v : Nat → Int32) (n l : Nat) : Nat → Nat → Nat
  | 0, _ => 0
  | k + 1, p => if figP v n l p then cfN v n l k (p + 1) + 1 else 0
theorem cfN_yes {v : Nat → Int32} {n l k p : Nat} (h : figP v n l p) : cfN v n l (k + 1) p = cfN v n l k (p + 1) + 1 := if_pos h
theorem cfN_no {v : Nat → Int32} {n l k p : Nat} (h : ¬ figP v n l p) : cfN v n l (k + 1) p = 0 := if_neg h
def addB (v : Nat → Int32) (D : Tn) (q : Nat) : Tn := updT (updT (updT (updT (updT D (3 + D 0) (kdN (v q))) (9 + D 0) (figN v (q + 1))) (15 + D 0) (figN v (q + 2))) (21 + D 0) (figN v (q + 3))) 0 (D 0 + 1)
/-- the beds: a fault's place, or the town -/
def resB (v : Nat → Int32) (n : Nat) : Nat → Tn → Nat → Nat ⊕ Tn
  | 0, D, p => if n ≤ sk v n p then .inr D else .inl (sk v n p)
  | f + 1, D, p => if n ≤ sk v n p then (if D 0 = 0 then .inl (sk v n p) else .inr D) else if kdN (v (sk v n p)) = 6 then .inl (sk v n p) else if cfN v n 0 3 (sk v n p + 1) = 3 then resB v n f (addB v D (sk v n p)) (sk v n p + 4) else .inl (sk v n p + 1 + cfN v n 0 3 (sk v n p + 1))
def headT (v : Nat → Int32) (q : Nat) : Tn := fun a => if 39 ≤ a ∧ a ≤ 43 then figN v (q + 1 + (a - 39)) else 0
def resT (v : Nat → Int32) (n : Nat) : Nat ⊕ Tn :=
  if sk v n 0 < n ∧ v (sk v n 0) = 110 then
    (if cfN v n 0 4 (sk v n 0 + 1) = 4 then
      (if figP v n 1 (sk v n 0 + 5) then resB v n 6 (headT v (sk v n 0)) (sk v n 0 + 6) else .inl (sk v n 0 + 5))
    else .inl (sk v n 0 + 1 + cfN v n 0 4 (sk v n 0 + 1)))
  else .inl (sk v n 0)
theorem resB_lt {v : Nat → Int32} {n : Nat} : ∀ f D p r, p ≤ n → resB v n f D p = .inl r → r ≤ n
  | 0, D, p, r, hp, h => by
    obtain ⟨h1, h2⟩ := sk_le (v := v) hp
    have h : (if n ≤ sk v n p then (.inr D : Nat ⊕ Tn) else .inl (sk v n p)) = .inl r := h
    by_cases q : n ≤ sk v n p
    · rw [if_pos q] at h; cases h
    · rw [if_neg q] at h; injection h with h; omega
  | f + 1, D, p, r, hp, h => by
    obtain ⟨h1, h2⟩ := sk_le (v := v) hp
    have h : (if n ≤ sk v n p then (if D 0 = 0 then (.inl (sk v n p) : Nat ⊕ Tn) else .inr D) else if kdN (v (sk v n p)) = 6 then .inl (sk v n p) else if cfN v n 0 3 (sk v n p + 1) = 3 then resB v n f (addB v D (sk v n p)) (sk v n p + 4) else .inl (sk v n p + 1 + cfN v n 0 3 (sk v n p + 1))) = .inl r := h
    have hc : ∀ k p, p ≤ n → p + cfN v n 0 k p ≤ n := by
      intro k
      induction k with
      | zero => intro p hp; exact hp
      | succ k ih =>
        intro p hp
        by_cases z : figP v n 0 p
        · rw [cfN_yes z]
          have := ih (p + 1) z.1
          omega
        · rw [cfN_no z]; exact hp
    by_cases q : n ≤ sk v n p
    · rw [if_pos q] at h
      by_cases z : D 0 = 0
      · rw [if_pos z] at h; injection h with h; omega
      · rw [if_neg z] at h; cases h
    · rw [if_neg q] at h
      by_cases z : kdN (v (sk v n p)) = 6
      · rw [if_pos z] at h; injection h with h; omega
      · rw [if_neg z] at h
        have hcc := hc 3 (sk v n p + 1) (by omega)
        by_cases y : cfN v n 0 3 (sk v n p + 1) = 3
        · rw [if_pos y] at h
          exact resB_lt f _ _ r (by omega) h
        · rw [if_neg y] at h; injection h with h; omega
/-! the class's reader -/
def RD (σ : Mem) (v : Nat → Int32) (n p : Nat) : Prop := σ.1 35 2 = nI n ∧ σ.1 35 3 = nI p ∧ ∀ i, i < n → σ.1 44 i = v i
def Pg (σ σ' : Mem) : Prop := (∀ a b, (a ≠ 35 ∨ b ≠ 3) → σ'.1 a b = σ.1 a b) ∧ σ'.2 = σ.2
theorem Pg.rf {σ : Mem} : Pg σ σ := ⟨fun _ _ _ => rfl, rfl⟩
theorem Pg.tr {σ σ' σ'' : Mem} (h : Pg σ σ') (h2 : Pg σ' σ'') : Pg σ σ'' := ⟨fun a b q => (h2.1 a b q).trans (h.1 a b q), h2.2.trans h.2⟩
theorem RD.go {σ : Mem} {v : Nat → Int32} {n p q : Nat} (h : RD σ v n p) : RD (setI σ 35 3 (nI q)) v n q ∧ Pg σ (setI σ 35 3 (nI q)) := ⟨⟨by rw [setI_1, if_neg (by decide)]; exact h.1, by rw [setI_1, if_pos ⟨rfl, rfl⟩], fun i hi => by rw [setI_1, if_neg (by omega)]; exact h.2.2 i hi⟩, fun a b z => by rw [setI_1, if_neg (by omega)], rfl⟩
theorem C_here {σ : Mem} {v : Nat → Int32} {n p : Nat} (h : RD σ v n p) (hn : n ≤ 60) (hp : p ≤ n) : F_X4_here 35 σ = some (if p < n then v p else 0) := by
  unfold F_X4_here
  rw [gI_35_3, ob_some, gI_35_2, ob_some, h.1, h.2.1]
  by_cases q : p < n
  · rw [if_neg (nI_ge q (by omega)), gR_35_1, ob_some, ob_some, rd_eq (by decide) sh_44 (by omega) (by decide), ob_some, h.2.2 p q, if_pos q]
  · rw [if_pos (nI_le (by omega) (by omega)), if_neg q]
theorem C_skip {v : Nat → Int32} {n : Nat} (hn : n ≤ 60) : ∀ f p σ, n - p = f → p ≤ n → RD σ v n p → ∃ σ', F_X4_skipBlanks 35 σ = some σ' ∧ RD σ' v n (sk v n p) ∧ Pg σ σ' := by
  intro f
  induction f with
  | zero =>
    intro p σ hf hp h
    refine ⟨σ, ?_, by rw [sk_out (by omega)]; exact h, Pg.rf⟩
    unfold F_X4_skipBlanks F_X4_skipBlanks_0
    apply lp_out
    rw [gI_35_3, ob_some, gI_35_2, ob_some, h.1, h.2.1, if_pos (nI_le (by omega) (by omega))]
  | succ f ih =>
    intro p σ hf hp h
    have hp2 : p < n := by omega
    by_cases q : v p = 32
    · obtain ⟨g1, g2⟩ := h.go (q := p + 1)
      obtain ⟨σ', e, k1, k2⟩ := ih (p + 1) (setI σ 35 3 (nI (p + 1))) (by omega) (by omega) g1
      refine ⟨σ', ?_, by rw [sk_in hp2 q]; exact k1, g2.tr k2⟩
      have e' : F_X4_skipBlanks_0 35 (setI σ 35 3 (nI (p + 1))) = some σ' := e
      have st : F_X4_skipBlanks_0 35 σ = F_X4_skipBlanks_0 35 (setI σ 35 3 (nI (p + 1))) := by
        unfold F_X4_skipBlanks_0
        apply lp_in
        rw [gI_35_3, ob_some, gI_35_2, ob_some, h.1, h.2.1, if_neg (nI_ge hp2 (by omega)), C_here h hn hp, ob_some, if_pos hp2, if_pos q, ob_some, nI_1, pI_35_3, ob_some]
      show F_X4_skipBlanks_0 35 σ = some σ'
      rw [st, e']
    · refine ⟨σ, ?_, by rw [sk_out (fun z => q z.2)]; exact h, Pg.rf⟩
      unfold F_X4_skipBlanks F_X4_skipBlanks_0
      apply lp_out
      rw [gI_35_3, ob_some, gI_35_2, ob_some, h.1, h.2.1, if_neg (nI_ge hp2 (by omega)), C_here h hn hp, ob_some, if_pos hp2, if_neg q]
theorem C_fig {σ : Mem} {v : Nat → Int32} {n p l : Nat} {x : Int32} (h : RD σ v n p) (hn : n ≤ 60) (hp : p ≤ n) (hl : l ≤ 1) (hx : x = nI l) : (figP v n l p → F_X4_takeFigure 35 x σ = some (nI (figN v p), setI σ 35 3 (nI (p + 1)))) ∧ (¬ figP v n l p → F_X4_takeFigure 35 x σ = some (-1, σ)) := by
  unfold F_X4_takeFigure
  rw [C_here h hn hp, ob_some, hx]
  constructor
  · intro q
    obtain ⟨f1, f2, f3⟩ := figP_N (by omega) q
    rw [if_pos q.1, if_neg (fun z => absurd q.2.1 (Int32.not_le.mpr z)), if_pos (show v p - 48 ≤ (9 : Int32) from q.2.2), gI_35_3, ob_some, h.2.1, nI_1, pI_35_3, ob_some, f1]
  · intro q
    by_cases z : p < n
    · rw [if_pos z]
      by_cases y : v p - 48 < nI l
      · rw [if_pos y]
      · rw [if_neg y, if_neg (show ¬ v p - 48 ≤ (9 : Int32) from fun w => q ⟨z, Int32.not_lt.mp y, w⟩)]
    · rw [if_neg z, if_pos (show (0 : Int32) - 48 < nI l by
        have : l = 0 ∨ l = 1 := by omega
        rcases this with rfl | rfl <;> decide)]
end
section
def CD (σ : Mem) (D : Tn) : Prop := σ.1 36 8 = nI (D 0) ∧ σ.1 36 7 = nI (D 43) ∧ (∀ m, m < 4 → σ.1 37 m = nI (D (39 + m))) ∧ ∀ i, i < D 0 → σ.1 38 i = nI (D (3 + i)) ∧ σ.1 39 i = nI (D (9 + i)) ∧ σ.1 40 i = nI (D (15 + i)) ∧ σ.1 41 i = nI (D (21 + i))
def FrT (σ σ' : Mem) : Prop := (∀ a b, (a < 35 ∨ 45 ≤ a ∨ (a = 36 ∧ b = 9) ∨ a = 42 ∨ a = 43) → σ'.1 a b = σ.1 a b) ∧ σ'.2 = σ.2
theorem FrT.rf {σ : Mem} : FrT σ σ := ⟨fun _ _ _ => rfl, rfl⟩
theorem FrT.tr {σ σ' σ'' : Mem} (h : FrT σ σ') (h2 : FrT σ' σ'') : FrT σ σ'' := ⟨fun a b q => (h2.1 a b q).trans (h.1 a b q), h2.2.trans h.2⟩
theorem FrT.o {σ σ' : Mem} (h : FrT σ σ') : FrO σ σ' := ⟨fun a b q => h.1 a b (by omega), h.2⟩
theorem Pg.t {σ σ' : Mem} (h : Pg σ σ') : FrT σ σ' := ⟨fun a b q => h.1 a b (by omega), h.2⟩
theorem CD.pg {σ σ' : Mem} {D : Tn} (h : CD σ D) (f : Pg σ σ') : CD σ' D := ⟨(f.1 _ _ (by decide)).trans h.1, (f.1 _ _ (by decide)).trans h.2.1, fun m hm => (f.1 _ _ (by omega)).trans (h.2.2.1 m hm), fun i hi => ⟨(f.1 _ _ (by omega)).trans (h.2.2.2 i hi).1, (f.1 _ _ (by omega)).trans (h.2.2.2 i hi).2.1, (f.1 _ _ (by omega)).trans (h.2.2.2 i hi).2.2.1, (f.1 _ _ (by omega)).trans (h.2.2.2 i hi).2.2.2⟩⟩
theorem kdN_k : ∀ s, s < 6 → kdN (klv s) = s := by decide
theorem kdN_6 {x : Int32} (h : ∀ s, s < 6 → ¬ x = klv s) : kdN x = 6 := by
  unfold kdN
  rw [if_neg (show ¬ x = 98 from h 0 (by decide)), if_neg (show ¬ x = 115 from h 1 (by decide)), if_neg (show ¬ x = 113 from h 2 (by decide)), if_neg (show ¬ x = 99 from h 3 (by decide)), if_neg (show ¬ x = 116 from h 4 (by decide)), if_neg (show ¬ x = 119 from h 5 (by decide))]
theorem kdN_le (x : Int32) : kdN x ≤ 6 := by
  unfold kdN
  repeat (split; omega)
  omega
theorem aK_eq {s : Nat} (h : s < 6) : aK (nI s) = some (klv s) := by
  unfold aK
  rw [if_pos ⟨by rw [nI_toInt (by omega)]; omega, by rw [nI_toInt (by omega)]; omega⟩, nI_clamp (by omega)]
theorem C_kindHere {σ : Mem} {v : Nat → Int32} {n p : Nat} (h : RD σ v n p) (hn : n ≤ 60) (hp : p ≤ n) : F_X4_kindHere 35 σ = some (if kdN (if p < n then v p else 0) = 6 then -1 else nI (kdN (if p < n then v p else 0))) := by
  obtain ⟨x, hx⟩ : ∃ x, (if p < n then v p else 0) = x := ⟨_, rfl⟩
  have hh := C_here h hn hp
  rw [hx] at hh ⊢
  have key : ∃ t, F_X4_kindHere_2 35 σ (0 : Int32) = some t ∧ t = (if kdN x = 6 then -1 else nI (kdN x)) := by
    unfold F_X4_kindHere_2
    refine lp_inv2 (fun j (s : Int32) => s = nI j ∧ ∀ k, k < j → ¬ x = klv k) 6 ?_ ?_ _ ⟨rfl, fun k hk => absurd hk (by omega)⟩
    · intro j s hj ⟨a1, a2⟩
      have ek : F_X8_readK (nI j) σ = some (klv j) := by
        unfold F_X8_readK
        rw [if_neg (nI_pos (by omega)), if_neg (show ¬ (6 : Int32) ≤ nI j from nI_ge (b := 6) hj (by decide)), aK_eq hj, ob_some]
      rw [a1, if_neg (show ¬ (6 : Int32) ≤ nI j from nI_ge (b := 6) hj (by decide)), hh, ob_some, ek, ob_some]
      by_cases q : x = klv j
      · have e : kdN x = j := by rw [q]; exact kdN_k j hj
        rw [if_pos q]
        exact Or.inr ⟨_, rfl, by rw [e, if_neg (by omega)]⟩
      · rw [if_neg q, nI_1]
        refine Or.inl ⟨_, rfl, rfl, fun k hk => ?_⟩
        by_cases y : k = j
        · rw [y]; exact q
        · exact a2 k (by omega)
    · intro s ⟨a1, a2⟩
      exact ⟨-1, by rw [a1, if_pos (show (6 : Int32) ≤ nI 6 by decide)], by rw [kdN_6 a2, if_pos rfl]⟩
  obtain ⟨t, e, rfl⟩ := key
  unfold F_X4_kindHere
  exact e
theorem nI_m1' {n : Nat} (h : n < 2 ^ 31) : ¬ nI n = (-1 : Int32) := fun z => by
  have := congrArg Int32.toInt z
  rw [nI_toInt h, show (-1 : Int32).toInt = -1 from rfl] at this
  omega
theorem C_addBed {σ : Mem} {v : Nat → Int32} {n p q : Nat} {D : Tn} (h : CD σ D) (hR : RD σ v n p) (hb : D 0 < 6) : ∃ σ', F_X7_addBed 36 (nI (kdN (v q))) (nI (figN v (q + 1))) (nI (figN v (q + 2))) (nI (figN v (q + 3))) σ = some σ' ∧ CD σ' (addB v D q) ∧ RD σ' v n p ∧ FrT σ σ' := by
  obtain ⟨c1, c2, c3, c4⟩ := h
  obtain ⟨b, hbb⟩ : ∃ b, D 0 = b := ⟨_, rfl⟩
  rw [hbb] at c1 hb
  have e0 : addB v D q 0 = b + 1 := by unfold addB; rw [upd_eq, hbb]
  have e3 : ∀ i, i < b + 1 → addB v D q (3 + i) = if i = b then kdN (v q) else D (3 + i) := fun i hi => by
    unfold addB
    rw [hbb, upd_ne (by omega), upd_ne (by omega), upd_ne (by omega), upd_ne (by omega)]
    by_cases y : i = b
    · rw [y, upd_eq, if_pos rfl]
    · rw [upd_ne (by omega), if_neg y]
  have e9 : ∀ i, i < b + 1 → addB v D q (9 + i) = if i = b then figN v (q + 1) else D (9 + i) := fun i hi => by
    unfold addB
    rw [hbb, upd_ne (by omega), upd_ne (by omega), upd_ne (by omega)]
    by_cases y : i = b
    · rw [y, upd_eq, if_pos rfl]
    · rw [upd_ne (by omega), upd_ne (by omega), if_neg y]
  have e15 : ∀ i, i < b + 1 → addB v D q (15 + i) = if i = b then figN v (q + 2) else D (15 + i) := fun i hi => by
    unfold addB
    rw [hbb, upd_ne (by omega), upd_ne (by omega)]
    by_cases y : i = b
    · rw [y, upd_eq, if_pos rfl]
    · rw [upd_ne (by omega), upd_ne (by omega), upd_ne (by omega), if_neg y]
  have e21 : ∀ i, i < b + 1 → addB v D q (21 + i) = if i = b then figN v (q + 3) else D (21 + i) := fun i hi => by
    unfold addB
    rw [hbb, upd_ne (by omega)]
    by_cases y : i = b
    · rw [y, upd_eq, if_pos rfl]
    · rw [upd_ne (by omega), upd_ne (by omega), upd_ne (by omega), upd_ne (by omega), if_neg y]
  have e39 : ∀ m, addB v D q (39 + m) = D (39 + m) := fun m => by
    unfold addB
    rw [upd_ne (by omega), upd_ne (by omega), upd_ne (by omega), upd_ne (by omega), upd_ne (by omega)]
  have e43 : addB v D q 43 = D 43 := e39 4
  refine ⟨setI (setI (setI (setI (setI σ 38 b (nI (kdN (v q)))) 39 b (nI (figN v (q + 1)))) 40 b (nI (figN v (q + 2)))) 41 b (nI (figN v (q + 3)))) 36 8 (nI (b + 1)), ?_, ⟨?_, ?_, fun m hm => ?_, fun i hi => ?_⟩, ⟨?_, ?_, fun i hi => ?_⟩, fun x y z => ?_, rfl⟩
  · unfold F_X7_addBed
    rw [tR_1 tw_36, ob_some, tI_8 tw_36, c1, ob_some, tw_36.wr (o := 2) (by decide) (by decide) hb, ob_some, tR_2 tw_36, ob_some, tI_8 tw_36, setI_1, if_neg (by omega), c1, ob_some, tw_36.wr (o := 3) (by decide) (by decide) hb, ob_some, tR_3 tw_36, ob_some, tI_8 tw_36, setI_1, if_neg (by omega), setI_1, if_neg (by omega), c1, ob_some, tw_36.wr (o := 4) (by decide) (by decide) hb, ob_some, tR_4 tw_36, ob_some, tI_8 tw_36, setI_1, if_neg (by omega), setI_1, if_neg (by omega), setI_1, if_neg (by omega), c1, ob_some, tw_36.wr (o := 5) (by decide) (by decide) hb, ob_some, tI_8 tw_36, setI_1, if_neg (by omega), setI_1, if_neg (by omega), setI_1, if_neg (by omega), setI_1, if_neg (by omega), c1, ob_some, nI_1, tP_8 tw_36, ob_some]
  · rw [setI_1, if_pos ⟨rfl, rfl⟩, e0]
  · rw [setI_1, if_neg (by decide), setI_1, if_neg (by omega), setI_1, if_neg (by omega), setI_1, if_neg (by omega), setI_1, if_neg (by omega), e43]; exact c2
  · rw [setI_1, if_neg (by omega), setI_1, if_neg (by omega), setI_1, if_neg (by omega), setI_1, if_neg (by omega), setI_1, if_neg (by omega), e39]; exact c3 m hm
  · rw [e0] at hi
    rw [e3 i hi, e9 i hi, e15 i hi, e21 i hi]
    by_cases y : i = b
    · subst y
      rw [if_pos rfl, if_pos rfl, if_pos rfl, if_pos rfl]
      refine ⟨?_, ?_, ?_, ?_⟩
      · rw [setI_1, if_neg (by omega), setI_1, if_neg (by omega), setI_1, if_neg (by omega), setI_1, if_neg (by omega), setI_1, if_pos ⟨rfl, rfl⟩]
      · rw [setI_1, if_neg (by omega), setI_1, if_neg (by omega), setI_1, if_neg (by omega), setI_1, if_pos ⟨rfl, rfl⟩]
      · rw [setI_1, if_neg (by omega), setI_1, if_neg (by omega), setI_1, if_pos ⟨rfl, rfl⟩]
      · rw [setI_1, if_neg (by omega), setI_1, if_pos ⟨rfl, rfl⟩]
    · rw [if_neg y, if_neg y, if_neg y, if_neg y]
      have c := c4 i (by omega)
      refine ⟨?_, ?_, ?_, ?_⟩
      · rw [setI_1, if_neg (by omega), setI_1, if_neg (by omega), setI_1, if_neg (by omega), setI_1, if_neg (by omega), setI_1, if_neg (by omega)]; exact c.1
      · rw [setI_1, if_neg (by omega), setI_1, if_neg (by omega), setI_1, if_neg (by omega), setI_1, if_neg (by omega), setI_1, if_neg (by omega)]; exact c.2.1
      · rw [setI_1, if_neg (by omega), setI_1, if_neg (by omega), setI_1, if_neg (by omega), setI_1, if_neg (by omega), setI_1, if_neg (by omega)]; exact c.2.2.1
      · rw [setI_1, if_neg (by omega), setI_1, if_neg (by omega), setI_1, if_neg (by omega), setI_1, if_neg (by omega), setI_1, if_neg (by omega)]; exact c.2.2.2
  · rw [setI_1, if_neg (by omega), setI_1, if_neg (by omega), setI_1, if_neg (by omega), setI_1, if_neg (by omega), setI_1, if_neg (by omega)]; exact hR.1
  · rw [setI_1, if_neg (by omega), setI_1, if_neg (by omega), setI_1, if_neg (by omega), setI_1, if_neg (by omega), setI_1, if_neg (by omega)]; exact hR.2.1
  · rw [setI_1, if_neg (by omega), setI_1, if_neg (by omega), setI_1, if_neg (by omega), setI_1, if_neg (by omega), setI_1, if_neg (by omega)]; exact hR.2.2 i hi
  · rw [setI_1, if_neg (by omega), setI_1, if_neg (by omega), setI_1, if_neg (by omega), setI_1, if_neg (by omega), setI_1, if_neg (by omega)]
theorem C_takesBed {σ : Mem} {v : Nat → Int32} {n q : Nat} {D : Tn} (h : CD σ D) (hR : RD σ v n q) (hn : n ≤ 60) (hq : q < n) (hk : kdN (v q) ≠ 6) (hb : D 0 < 6) : (cfN v n 0 3 (q + 1) = 3 → ∃ σ', F_X4_takesBed 35 σ = some (1, σ') ∧ RD σ' v n (q + 4) ∧ CD σ' (addB v D q) ∧ FrT σ σ') ∧ (cfN v n 0 3 (q + 1) ≠ 3 → ∃ σ', F_X4_takesBed 35 σ = some (0, σ') ∧ RD σ' v n (q + 1 + cfN v n 0 3 (q + 1)) ∧ FrT σ σ') := by
  have kl := kdN_le (v q)
  have eK : F_X4_kindHere 35 σ = some (nI (kdN (v q))) := by rw [C_kindHere hR hn (by omega), if_pos hq, if_neg hk]
  obtain ⟨r1, g1⟩ := hR.go (q := q + 1)
  have b6 : (nI (D 0) < (6 : Int32)) := nI_lt (b := 6) hb (by decide)
  have pre : F_X4_takesBed 35 σ = (F_X4_takeFigure 35 (0 : Int32) (setI σ 35 3 (nI (q + 1)))).bind fun q22 => if q22.1 = (-1 : Int32) then F_X4_takesBed_54 35 (nI (kdN (v q))) q22.1 (-1 : Int32) q22.2 else (F_X4_takeFigure 35 (0 : Int32) q22.2).bind fun q25 => F_X4_takesBed_54 35 (nI (kdN (v q))) q22.1 q25.1 q25.2 := by
    unfold F_X4_takesBed
    rw [eK, ob_some, if_neg (nI_m1' (by omega)), gR_35_0, ob_some, tI_8 tw_36, h.1, ob_some, if_pos b6, gI_35_3, hR.2.1, ob_some, nI_1, pI_35_3, ob_some]
  have m1e : (-1 : Int32) = -1 := rfl
  by_cases p1 : figP v n 0 (q + 1)
  · obtain ⟨f1, _, _⟩ := figP_N (by decide) p1
    have t1 := (C_fig r1 hn (by omega) (by decide) (x := (0 : Int32)) rfl).1 p1
    obtain ⟨r2, g2⟩ := r1.go (q := q + 1 + 1)
    have n1 := (figP_N (by decide) p1).2.1
    by_cases p2 : figP v n 0 (q + 1 + 1)
    · have t2 := (C_fig r2 hn (by have := p1.1; omega) (by decide) (x := (0 : Int32)) rfl).1 p2
      obtain ⟨r3, g3⟩ := r2.go (q := q + 1 + 1 + 1)
      have n2 := (figP_N (by decide) p2).2.1
      by_cases p3 : figP v n 0 (q + 1 + 1 + 1)
      · have t3 := (C_fig r3 hn (by have := p2.1; omega) (by decide) (x := (0 : Int32)) rfl).1 p3
        obtain ⟨r4, g4⟩ := r3.go (q := q + 1 + 1 + 1 + 1)
        have n3 := (figP_N (by decide) p3).2.1
        have ec : cfN v n 0 3 (q + 1) = 3 := by rw [cfN_yes p1, cfN_yes p2, cfN_yes p3]; rfl
        refine ⟨fun _ => ?_, fun z => absurd ec z⟩
        obtain ⟨σ', e, k1, k2, k3⟩ := C_addBed (q := q) (h.pg (((g1.tr g2).tr g3).tr g4)) r4 hb
        refine ⟨σ', ?_, k2, k1, ((((g1.tr g2).tr g3).tr g4).t).tr k3⟩
        rw [pre, t1, ob_some, if_neg (nI_m1' (by omega)), t2, ob_some]
        unfold F_X4_takesBed_54 F_X4_takesBed_69
        rw [if_neg (nI_m1' (by omega)), t3, ob_some, if_neg (nI_m1' (by omega)), gR_35_0, ob_some, tC tw_36, ob_some]
        exact (congrArg (fun o => Option.bind o fun q8 => some ((1 : Int32), q8)) e)
      · have t3 := (C_fig r3 hn (by have := p2.1; omega) (by decide) (x := (0 : Int32)) rfl).2 p3
        have ec : cfN v n 0 3 (q + 1) = 2 := by rw [cfN_yes p1, cfN_yes p2, cfN_no p3]
        refine ⟨fun z => absurd z (by omega), fun _ => ⟨_, ?_, by rw [ec]; exact r3, ((g1.tr g2).tr g3).t⟩⟩
        rw [pre, t1, ob_some, if_neg (nI_m1' (by omega)), t2, ob_some]
        unfold F_X4_takesBed_54 F_X4_takesBed_69
        rw [if_neg (nI_m1' (by omega)), t3, ob_some, if_pos m1e]
    · have t2 := (C_fig r2 hn (by have := p1.1; omega) (by decide) (x := (0 : Int32)) rfl).2 p2
      have ec : cfN v n 0 3 (q + 1) = 1 := by rw [cfN_yes p1, cfN_no p2]
      refine ⟨fun z => absurd z (by omega), fun _ => ⟨_, ?_, by rw [ec]; exact r2, (g1.tr g2).t⟩⟩
      rw [pre, t1, ob_some, if_neg (nI_m1' (by omega)), t2, ob_some]
      unfold F_X4_takesBed_54 F_X4_takesBed_69
      rw [if_pos m1e, if_pos m1e]
  · have t1 := (C_fig r1 hn (by omega) (by decide) (x := (0 : Int32)) rfl).2 p1
    have ec : cfN v n 0 3 (q + 1) = 0 := cfN_no p1
    refine ⟨fun z => absurd z (by omega), fun _ => ⟨_, ?_, by rw [ec]; exact r1, g1.t⟩⟩
    rw [pre, t1, ob_some, if_pos m1e]
    unfold F_X4_takesBed_54 F_X4_takesBed_69
    rw [if_pos m1e, if_pos m1e]
end
section
def ansT (o : Nat ⊕ Tn) : Int32 := match o with
  | .inl r => nI r
  | .inr _ => -9
theorem resB_0 {v : Nat → Int32} {n p : Nat} {D : Tn} : resB v n 0 D p = if n ≤ sk v n p then .inr D else .inl (sk v n p) := rfl
theorem resB_s {v : Nat → Int32} {n f p : Nat} {D : Tn} : resB v n (f + 1) D p = if n ≤ sk v n p then (if D 0 = 0 then .inl (sk v n p) else .inr D) else if kdN (v (sk v n p)) = 6 then .inl (sk v n p) else if cfN v n 0 3 (sk v n p + 1) = 3 then resB v n f (addB v D (sk v n p)) (sk v n p + 4) else .inl (sk v n p + 1 + cfN v n 0 3 (sk v n p + 1)) := rfl
theorem cfN_at {v : Nat → Int32} {n l : Nat} : ∀ k j p, j < k → (∀ m, m < j → figP v n l (p + m)) → ¬ figP v n l (p + j) → cfN v n l k p = j
  | 0, j, p, h, _, _ => absurd h (by omega)
  | k + 1, 0, p, _, _, hn => cfN_no hn
  | k + 1, j + 1, p, h, hy, hn => by
    rw [cfN_yes (show figP v n l p from hy 0 (by omega))]
    rw [cfN_at k j (p + 1) (by omega) (fun m hm => by rw [show p + 1 + m = p + (m + 1) by omega]; exact hy (m + 1) (by omega)) (by rw [show p + 1 + j = p + (j + 1) by omega]; exact hn)]
theorem cfN_all {v : Nat → Int32} {n l : Nat} : ∀ k p, (∀ m, m < k → figP v n l (p + m)) → cfN v n l k p = k
  | 0, p, _ => rfl
  | k + 1, p, hy => by
    rw [cfN_yes (show figP v n l p from hy 0 (by omega)), cfN_all k (p + 1) (fun m hm => by rw [show p + 1 + m = p + (m + 1) by omega]; exact hy (m + 1) (by omega))]
theorem C_bedno {σ : Mem} {v : Nat → Int32} {n q : Nat} {D : Tn} (h : CD σ D) (hR : RD σ v n q) (hn : n ≤ 60) (hq : q < n) (hx : kdN (v q) = 6 ∨ D 0 = 6) : F_X4_takesBed 35 σ = some (0, σ) := by
  have kl := kdN_le (v q)
  unfold F_X4_takesBed
  rw [C_kindHere hR hn (by omega), ob_some, if_pos hq]
  by_cases k6 : kdN (v q) = 6
  · rw [if_pos k6, if_pos rfl]
  · rw [if_neg k6, if_neg (nI_m1' (by omega)), gR_35_0, ob_some, tI_8 tw_36, h.1, ob_some, hx.resolve_left k6, if_neg (by decide)]
theorem C_beds {v : Nat → Int32} {n : Nat} (hn : n ≤ 60) : ∀ f D p σ, D 0 + f = 6 → p ≤ n → CD σ D → RD σ v n p → ∃ σ', F_X4_readTown_69 35 (nI (D 0), σ) = some (ansT (resB v n f D p), σ') ∧ FrT σ σ' ∧ ∀ D', resB v n f D p = .inr D' → CD σ' D' := by
  intro f
  induction f with
  | zero =>
    intro D p σ hf hp h hR
    obtain ⟨s1, s2⟩ := sk_le (v := v) hp
    obtain ⟨σ1, e1, r1, g1⟩ := C_skip hn (n - p) p σ rfl hp hR
    have h1 := h.pg g1
    have n6 : ¬ (6 : Int32) < nI (D 0) := fun z => by
      have := (nI_ltI (a := 6) (b := D 0) (by decide) (by omega)).mp z
      omega
    rw [resB_0]
    by_cases q : n ≤ sk v n p
    · rw [if_pos q]
      refine ⟨σ1, ?_, g1.t, fun D' z => ?_⟩
      · unfold F_X4_readTown_69
        apply lp_out
        dsimp only
        rw [if_neg n6, e1, ob_some, gI_35_3, ob_some, gI_35_2, ob_some, r1.1, r1.2.1, if_neg (nI_nlt (by omega) (by omega)), gR_35_0, ob_some, tI_8 tw_36, h1.1, ob_some, if_neg (show ¬ nI (D 0) ≤ (0 : Int32) from nI_ge (a := 0) (by omega) (by omega))]
        rfl
      · injection z with z
        rw [← z]; exact h1
    · rw [if_neg q]
      refine ⟨σ1, ?_, g1.t, fun D' z => by cases z⟩
      unfold F_X4_readTown_69
      apply lp_out
      dsimp only
      rw [if_neg n6, e1, ob_some, gI_35_3, ob_some, gI_35_2, ob_some, r1.1, r1.2.1, if_pos (nI_lt (by omega) (by omega)), C_bedno h1 r1 hn (by omega) (Or.inr (by omega)), ob_some, if_pos rfl, gI_35_3, ob_some, r1.2.1]
      rfl
  | succ f ih =>
    intro D p σ hf hp h hR
    obtain ⟨s1, s2⟩ := sk_le (v := v) hp
    obtain ⟨σ1, e1, r1, g1⟩ := C_skip hn (n - p) p σ rfl hp hR
    have h1 := h.pg g1
    have n6 : ¬ (6 : Int32) < nI (D 0) := fun z => by
      have := (nI_ltI (a := 6) (b := D 0) (by decide) (by omega)).mp z
      omega
    rw [resB_s]
    by_cases q : n ≤ sk v n p
    · rw [if_pos q]
      by_cases z0 : D 0 = 0
      · rw [if_pos z0]
        refine ⟨σ1, ?_, g1.t, fun D' z => by cases z⟩
        unfold F_X4_readTown_69
        apply lp_out
        dsimp only
        rw [if_neg n6, e1, ob_some, gI_35_3, ob_some, gI_35_2, ob_some, r1.1, r1.2.1, if_neg (nI_nlt (by omega) (by omega)), gR_35_0, ob_some, tI_8 tw_36, h1.1, ob_some, z0, if_pos (by decide), ob_some]
        rfl
      · rw [if_neg z0]
        refine ⟨σ1, ?_, g1.t, fun D' z => ?_⟩
        · unfold F_X4_readTown_69
          apply lp_out
          dsimp only
          rw [if_neg n6, e1, ob_some, gI_35_3, ob_some, gI_35_2, ob_some, r1.1, r1.2.1, if_neg (nI_nlt (by omega) (by omega)), gR_35_0, ob_some, tI_8 tw_36, h1.1, ob_some, if_neg (show ¬ nI (D 0) ≤ (0 : Int32) from nI_ge (a := 0) (by omega) (by omega))]
          rfl
        · injection z with z
          rw [← z]; exact h1
    · rw [if_neg q]
      by_cases k6 : kdN (v (sk v n p)) = 6
      · rw [if_pos k6]
        refine ⟨σ1, ?_, g1.t, fun D' z => by cases z⟩
        unfold F_X4_readTown_69
        apply lp_out
        dsimp only
        rw [if_neg n6, e1, ob_some, gI_35_3, ob_some, gI_35_2, ob_some, r1.1, r1.2.1, if_pos (nI_lt (by omega) (by omega)), C_bedno h1 r1 hn (by omega) (Or.inl k6), ob_some, if_pos rfl, gI_35_3, ob_some, r1.2.1]
        rfl
      · rw [if_neg k6]
        obtain ⟨ky, kn⟩ := C_takesBed h1 r1 hn (by omega) k6 (by omega)
        by_cases c3 : cfN v n 0 3 (sk v n p + 1) = 3
        · rw [if_pos c3]
          obtain ⟨σ2, e2, r2, h2, f2⟩ := ky c3
          have e0 : addB v D (sk v n p) 0 = D 0 + 1 := by unfold addB; rw [upd_eq]
          have hl : sk v n p + 4 ≤ n := by
            have p1 : figP v n 0 (sk v n p + 1) := Decidable.byContradiction fun z => by rw [cfN_no z] at c3; omega
            rw [cfN_yes p1] at c3
            have p2 : figP v n 0 (sk v n p + 1 + 1) := Decidable.byContradiction fun z => by rw [cfN_no z] at c3; omega
            rw [cfN_yes p2] at c3
            have p3 : figP v n 0 (sk v n p + 1 + 1 + 1) := Decidable.byContradiction fun z => by rw [cfN_no z] at c3; omega
            have := p3.1
            omega
          obtain ⟨σ3, e3, f3, k3⟩ := ih (addB v D (sk v n p)) (sk v n p + 4) σ2 (by omega) hl h2 r2
          refine ⟨σ3, ?_, (g1.t.tr f2).tr f3, k3⟩
          rw [e0] at e3
          rw [← e3]
          unfold F_X4_readTown_69
          apply lp_in
          dsimp only
          rw [if_neg n6, e1, ob_some, gI_35_3, ob_some, gI_35_2, ob_some, r1.1, r1.2.1, if_pos (nI_lt (by omega) (by omega)), e2, ob_some, if_neg (show ¬ (1 : Int32) = 0 by decide), nI_1]
        · rw [if_neg c3]
          obtain ⟨σ2, e2, r2, f2⟩ := kn c3
          refine ⟨σ2, ?_, g1.t.tr f2, fun D' z => by cases z⟩
          unfold F_X4_readTown_69
          apply lp_out
          dsimp only
          rw [if_neg n6, e1, ob_some, gI_35_3, ob_some, gI_35_2, ob_some, r1.1, r1.2.1, if_pos (nI_lt (by omega) (by omega)), e2, ob_some, if_pos rfl, gI_35_3, ob_some, r2.2.1]
          rfl
end
section
def resH (v : Nat → Int32) (n q : Nat) : Nat ⊕ Tn :=
  if q < n ∧ v q = 110 then
    (if cfN v n 0 4 (q + 1) = 4 then
      (if figP v n 1 (q + 5) then resB v n 6 (headT v q) (q + 6) else .inl (q + 5))
    else .inl (q + 1 + cfN v n 0 4 (q + 1)))
  else .inl q
theorem resT_H {v : Nat → Int32} {n : Nat} : resT v n = resH v n (sk v n 0) := rfl
theorem C_head {σ : Mem} {v : Nat → Int32} {n q : Nat} (hR : RD σ v n q) (hn : n ≤ 60) (hq : q ≤ n) : ∃ σ' b r, F_X4_takesHead 35 σ = some (b, σ') ∧ RD σ' v n r ∧ r ≤ n ∧ FrT σ σ' ∧ σ'.1 36 8 = σ.1 36 8 ∧ ((b = 0 ∧ resH v n q = .inl r) ∨ (b = 1 ∧ resH v n q = resB v n 6 (headT v q) (q + 6) ∧ r = q + 6 ∧ σ'.1 36 7 = nI (figN v (q + 5)) ∧ ∀ m, m < 4 → σ'.1 37 m = nI (figN v (q + 1 + m)))) := by
  unfold resH F_X4_takesHead
  rw [C_here hR hn hq, ob_some]
  by_cases hh : q < n ∧ v q = 110
  · rw [if_pos hh.1, if_pos hh.2, if_pos hh, gI_35_3, ob_some, hR.2.1, nI_1, pI_35_3, ob_some]
    obtain ⟨r1, g1⟩ := hR.go (q := q + 1)
    have key : ∃ t, F_X4_takesHead_23 35 ((0 : Int32), setI σ 35 3 (nI (q + 1))) = some t ∧ ∃ b r, t.1 = b ∧ RD t.2 v n r ∧ r ≤ n ∧ FrT σ t.2 ∧ t.2.1 36 8 = σ.1 36 8 ∧ ((b = 0 ∧ (if cfN v n 0 4 (q + 1) = 4 then (if figP v n 1 (q + 5) then resB v n 6 (headT v q) (q + 6) else .inl (q + 5)) else .inl (q + 1 + cfN v n 0 4 (q + 1))) = (.inl r : Nat ⊕ Tn)) ∨ (b = 1 ∧ (if cfN v n 0 4 (q + 1) = 4 then (if figP v n 1 (q + 5) then resB v n 6 (headT v q) (q + 6) else .inl (q + 5)) else .inl (q + 1 + cfN v n 0 4 (q + 1))) = resB v n 6 (headT v q) (q + 6) ∧ r = q + 6 ∧ t.2.1 36 7 = nI (figN v (q + 5)) ∧ ∀ m, m < 4 → t.2.1 37 m = nI (figN v (q + 1 + m)))) := by
      unfold F_X4_takesHead_23
      refine lp_inv2 (fun j (u : Int32 × Mem) => u.1 = nI j ∧ RD u.2 v n (q + 1 + j) ∧ q + 1 + j ≤ n ∧ FrT σ u.2 ∧ u.2.1 36 8 = σ.1 36 8 ∧ (∀ m, m < j → figP v n 0 (q + 1 + m)) ∧ ∀ m, m < j → u.2.1 37 m = nI (figN v (q + 1 + m))) 4 ?_ ?_ _ ⟨rfl, r1, by have := hh.1; omega, g1.t, by rw [setI_1, if_neg (by decide)], fun m hm => absurd hm (by omega), fun m hm => absurd hm (by omega)⟩
      · intro j u hj ⟨a1, a2, a3, a4, a5, a6, a7⟩
        obtain ⟨fy, fn⟩ := C_fig a2 hn a3 (by decide) (x := (0 : Int32)) rfl
        by_cases p : figP v n 0 (q + 1 + j)
        · obtain ⟨n1, n2, _⟩ := figP_N (by decide) p
          obtain ⟨r2, g2⟩ := a2.go (q := q + 1 + j + 1)
          refine Or.inl ⟨(nI (j + 1), setI (setI u.2 35 3 (nI (q + 1 + j + 1))) 37 j (nI (figN v (q + 1 + j)))), ?_, rfl, ⟨?_, ?_, fun i hi => ?_⟩, ?_, ?_, ?_, fun m hm => ?_, fun m hm => ?_⟩
          · rw [a1, if_neg (show ¬ (4 : Int32) ≤ nI j from nI_ge (b := 4) hj (by decide)), fy p, ob_some, if_neg (nI_m1' (by omega)), gR_35_0, ob_some, tR_0 tw_36, ob_some, wr_eq (by decide) sh_37 hj (by decide), ob_some, nI_1]
          · show (setI (setI u.2 35 3 (nI (q + 1 + j + 1))) 37 j (nI (figN v (q + 1 + j)))).1 35 2 = _
            rw [setI_1, if_neg (by omega)]; exact r2.1
          · show (setI (setI u.2 35 3 (nI (q + 1 + j + 1))) 37 j (nI (figN v (q + 1 + j)))).1 35 3 = _
            rw [setI_1, if_neg (by omega)]; exact r2.2.1
          · show (setI (setI u.2 35 3 (nI (q + 1 + j + 1))) 37 j (nI (figN v (q + 1 + j)))).1 44 i = _
            rw [setI_1, if_neg (by omega)]; exact r2.2.2 i hi
          · have := p.1; omega
          · exact (a4.tr g2.t).tr ⟨fun a b z => by rw [setI_1, if_neg (by omega)], rfl⟩
          · show (setI (setI u.2 35 3 (nI (q + 1 + j + 1))) 37 j (nI (figN v (q + 1 + j)))).1 36 8 = _
            rw [setI_1, if_neg (by omega), setI_1, if_neg (by omega)]; exact a5
          · by_cases y : m = j
            · rw [y]; exact p
            · exact a6 m (by omega)
          · show (setI (setI u.2 35 3 (nI (q + 1 + j + 1))) 37 j (nI (figN v (q + 1 + j)))).1 37 m = _
            rw [setI_1]
            by_cases y : m = j
            · rw [if_pos ⟨rfl, y⟩, y]
            · rw [if_neg (fun z => y z.2), setI_1, if_neg (by omega)]; exact a7 m (by omega)
        · have ec := cfN_at 4 j (q + 1) hj a6 p
          refine Or.inr ⟨(0, u.2), ?_, 0, q + 1 + j, rfl, a2, a3, a4, a5, Or.inl ⟨rfl, ?_⟩⟩
          · rw [a1, if_neg (show ¬ (4 : Int32) ≤ nI j from nI_ge (b := 4) hj (by decide)), fn p, ob_some, if_pos rfl]
          · rw [ec, if_neg (by omega)]
      · intro u ⟨a1, a2, a3, a4, a5, a6, a7⟩
        have ec := cfN_all 4 (q + 1) a6
        obtain ⟨fy, fn⟩ := C_fig a2 hn a3 (by decide) (l := 1) (x := (1 : Int32)) rfl
        have e5 : q + 1 + 4 = q + 5 := by omega
        rw [e5] at a2 fy fn
        by_cases p : figP v n 1 (q + 5)
        · obtain ⟨n1, n2, _⟩ := figP_N (by decide) p
          obtain ⟨r2, g2⟩ := a2.go (q := q + 5 + 1)
          refine ⟨(1, setI (setI u.2 35 3 (nI (q + 5 + 1))) 36 7 (nI (figN v (q + 5)))), ?_, 1, q + 6, rfl, ⟨?_, ?_, fun i hi => ?_⟩, by have := p.1; omega, ?_, ?_, Or.inr ⟨rfl, ?_, rfl, ?_, fun m hm => ?_⟩⟩
          · rw [a1, if_pos (show (4 : Int32) ≤ nI 4 by decide), fy p, ob_some, gR_35_0, ob_some, tP_7 tw_36, ob_some, if_neg (nI_m1' (by omega))]
          · show (setI (setI u.2 35 3 (nI (q + 5 + 1))) 36 7 (nI (figN v (q + 5)))).1 35 2 = _
            rw [setI_1, if_neg (by omega)]; exact r2.1
          · show (setI (setI u.2 35 3 (nI (q + 5 + 1))) 36 7 (nI (figN v (q + 5)))).1 35 3 = _
            rw [setI_1, if_neg (by omega)]; exact r2.2.1
          · show (setI (setI u.2 35 3 (nI (q + 5 + 1))) 36 7 (nI (figN v (q + 5)))).1 44 i = _
            rw [setI_1, if_neg (by omega)]; exact r2.2.2 i hi
          · exact (a4.tr g2.t).tr ⟨fun a b z => by rw [setI_1, if_neg (by omega)], rfl⟩
          · show (setI (setI u.2 35 3 (nI (q + 5 + 1))) 36 7 (nI (figN v (q + 5)))).1 36 8 = _
            rw [setI_1, if_neg (by omega), setI_1, if_neg (by omega)]; exact a5
          · rw [if_pos ec, if_pos p]
          · show (setI (setI u.2 35 3 (nI (q + 5 + 1))) 36 7 (nI (figN v (q + 5)))).1 36 7 = _
            rw [setI_1, if_pos ⟨rfl, rfl⟩]
          · show (setI (setI u.2 35 3 (nI (q + 5 + 1))) 36 7 (nI (figN v (q + 5)))).1 37 m = _
            rw [setI_1, if_neg (by omega), setI_1, if_neg (by omega)]; exact a7 m hm
        · refine ⟨(0, setI u.2 36 7 (-1)), ?_, 0, q + 5, rfl, ⟨?_, ?_, fun i hi => ?_⟩, by omega, ?_, ?_, Or.inl ⟨rfl, ?_⟩⟩
          · rw [a1, if_pos (show (4 : Int32) ≤ nI 4 by decide), fn p, ob_some, gR_35_0, ob_some, tP_7 tw_36, ob_some, if_pos rfl]
          · show (setI u.2 36 7 (-1)).1 35 2 = _
            rw [setI_1, if_neg (by omega)]; exact a2.1
          · show (setI u.2 36 7 (-1)).1 35 3 = _
            rw [setI_1, if_neg (by omega)]; exact a2.2.1
          · show (setI u.2 36 7 (-1)).1 44 i = _
            rw [setI_1, if_neg (by omega)]; exact a2.2.2 i hi
          · exact a4.tr ⟨fun a b z => by rw [setI_1, if_neg (by omega)], rfl⟩
          · show (setI u.2 36 7 (-1)).1 36 8 = _
            rw [setI_1, if_neg (by omega)]; exact a5
          · rw [if_pos ec, if_neg p]
    obtain ⟨⟨t1, t2⟩, e, b, r, k1, k2, k3, k4, k5, k6⟩ := key
    exact ⟨t2, b, r, by rw [e, show t1 = b from k1], k2, k3, k4, k5, k6⟩
  · rw [if_neg hh]
    refine ⟨σ, 0, q, ?_, hR, hq, FrT.rf, rfl, Or.inl ⟨rfl, rfl⟩⟩
    by_cases z : q < n
    · rw [if_pos z, if_neg (fun y => hh ⟨z, y⟩)]
    · rw [if_neg z, if_neg (by decide)]
theorem C_readTown {A : Ab} {t n : Nat} (ht : t < 4) (hs : A.2.1.1 t = some n) (σ : Mem) (h : RC A σ) : ∃ σ', F_X4_readTown 35 4 (nI t) σ = some (ansT (resT (A.2.1.2 t) n), σ') ∧ FrT σ σ' ∧ ∀ D, resT (A.2.1.2 t) n = .inr D → CD σ' D := by
  obtain ⟨hn, g1, g2⟩ := h.2.1.row ht hs
  obtain ⟨v, hv⟩ : ∃ v, A.2.1.2 t = v := ⟨_, rfl⟩
  rw [hv] at g2 ⊢
  have key : ∃ u, F_X4_readTown_11 35 4 (nI t) ((0 : Int32), setI σ 35 2 (nI n)) = some u ∧ (u.1 = ansT (resT v n) ∧ FrT σ u.2 ∧ ∀ D, resT v n = .inr D → CD u.2 D) := by
    unfold F_X4_readTown_11
    refine lp_inv (fun j (u : Int32 × Mem) => u.1 = nI j ∧ u.2.1 35 2 = nI n ∧ (∀ i, i < j → u.2.1 44 i = v i) ∧ FrT σ u.2) n ?_ ?_ _ ⟨rfl, by rw [setI_1, if_pos ⟨rfl, rfl⟩], fun i hi => absurd hi (by omega), fun a b z => by rw [setI_1, if_neg (by omega)], rfl⟩
    · intro j u hj ⟨a1, a2, a3, a4⟩
      obtain ⟨hu, _⟩ := h.side a4.o
      obtain ⟨hn2, g3, g4⟩ := hu.2.1.row ht hs
      rw [hv] at g4
      refine ⟨(nI (j + 1), setI u.2 44 j (v j)), ?_, rfl, ?_, fun i hi => ?_, a4.tr ⟨fun a b z => by rw [setI_1, if_neg (by omega)], rfl⟩⟩
      · rw [a1, gI_35_2, ob_some, a2, if_neg (nI_ge hj (by omega)), gR_35_1, ob_some, ck_4, ob_some, S_get sf_4 ht hu.2.1.1 g3 hn2 hj, ob_some, g4 j hj, wr_eq (by decide) sh_44 (by omega) (by decide), ob_some, nI_1]
      · show (setI u.2 44 j (v j)).1 35 2 = _
        rw [setI_1, if_neg (by omega)]; exact a2
      · show (setI u.2 44 j (v j)).1 44 i = _
        rw [setI_1]
        by_cases y : i = j
        · rw [if_pos ⟨rfl, y⟩, y]
        · rw [if_neg (fun z => y z.2)]; exact a3 i (by omega)
    · intro u ⟨a1, a2, a3, a4⟩
      obtain ⟨w, hw⟩ : ∃ w, setI (setI u.2 35 3 (0 : Int32)) 36 8 (0 : Int32) = w := ⟨_, rfl⟩
      have rw0 : RD w v n 0 := by
        rw [← hw]
        refine ⟨?_, ?_, fun i hi => ?_⟩
        · rw [setI_1, if_neg (by decide), setI_1, if_neg (by decide)]; exact a2
        · rw [setI_1, if_neg (by decide), setI_1, if_pos ⟨rfl, rfl⟩]; rfl
        · rw [setI_1, if_neg (by omega), setI_1, if_neg (by omega)]; exact a3 i hi
      have fw : FrT σ w := by
        rw [← hw]
        exact a4.tr ⟨fun a b z => by rw [setI_1, if_neg (by omega), setI_1, if_neg (by omega)], rfl⟩
      have bw : w.1 36 8 = nI 0 := by rw [← hw, setI_1, if_pos ⟨rfl, rfl⟩]; rfl
      obtain ⟨w1, e1, r1, p1⟩ := C_skip (v := v) hn n 0 w (Nat.sub_zero n) (Nat.zero_le _) rw0
      obtain ⟨_, s2⟩ := sk_le (v := v) (Nat.zero_le n)
      obtain ⟨w2, b, r, e2, r2, l2, f2, b2, k⟩ := C_head r1 hn s2
      have pre : (pI 4 3 35 (0 : Int32) u.2).bind (fun m5 => (gR 4 0 35).bind fun p7 => (chk 7 p7).bind fun _ => (F_X7_clearBeds p7 m5).bind fun q9 => (F_X4_skipBlanks 35 q9).bind fun q11 => (F_X4_takesHead 35 q11).bind fun q13 => if q13.1 = 0 then (gI 4 3 35 q13.2).bind fun v17 => (some (.inr ((v17, q13.2))) : Option ((Int32 × Mem) ⊕ (Int32 × Mem))) else (F_X4_readTown_69 35 ((0 : Int32), q13.2)).map fun z => .inr z) = if b = 0 then some (.inr (nI r, w2)) else (F_X4_readTown_69 35 ((0 : Int32), w2)).map fun z => .inr z := by
        have ecl : F_X7_clearBeds 36 (setI u.2 35 3 (0 : Int32)) = some w := by
          unfold F_X7_clearBeds
          rw [tP_8 tw_36, ob_some, hw]
        rw [pI_35_3, ob_some, gR_35_0, ob_some, tC tw_36, ob_some, ecl, ob_some, e1, ob_some, e2, ob_some]
        by_cases z : b = 0
        · rw [if_pos z, if_pos z, gI_35_3, ob_some, r2.2.1]
        · rw [if_neg z, if_neg z]
      have bw2 : w2.1 36 8 = nI 0 := b2.trans ((p1.1 _ _ (by decide)).trans bw)
      rw [a1, gI_35_2, ob_some, a2, if_pos (nI_le (Nat.le_refl _) (by omega)), pre, resT_H]
      rcases k with ⟨k1, k2⟩ | ⟨k1, k2, k3, k4, k5⟩
      · rw [if_pos k1, k2]
        exact ⟨_, rfl, rfl, (fw.tr p1.t).tr f2, fun D z => by cases z⟩
      · have hz : ¬ b = 0 := by rw [k1]; decide
        rw [k3] at r2 l2
        have h0 : headT v (sk v n 0) 0 = 0 := rfl
        have hd : ∀ m, m < 5 → headT v (sk v n 0) (39 + m) = figN v (sk v n 0 + 1 + m) := fun m hm => by
          unfold headT
          rw [if_pos ⟨by omega, by omega⟩, show 39 + m - 39 = m by omega]
        have hCD : CD w2 (headT v (sk v n 0)) := by
          refine ⟨by rw [h0]; exact bw2, ?_, fun m hm => ?_, fun i hi => absurd hi (by rw [h0]; omega)⟩
          · rw [k4, show headT v (sk v n 0) 43 = figN v (sk v n 0 + 1 + 4) from hd 4 (by decide)]
          · rw [hd m (by omega)]; exact k5 m hm
        obtain ⟨w3, e3, f3, c3⟩ := C_beds hn 6 (headT v (sk v n 0)) (sk v n 0 + 6) w2 rfl l2 hCD r2
        have e3' : F_X4_readTown_69 35 ((0 : Int32), w2) = some (ansT (resB v n 6 (headT v (sk v n 0)) (sk v n 0 + 6)), w3) := e3
        rw [if_neg hz, e3', k2]
        exact ⟨_, rfl, rfl, ((fw.tr p1.t).tr f2).tr f3, c3⟩
  obtain ⟨⟨u1, u2⟩, e, k1, k2, k3⟩ := key
  refine ⟨u2, ?_, k2, k3⟩
  unfold F_X4_readTown
  rw [ck_4, ob_some, S_size sf_4 ht, g1, ob_some, pI_35_2, ob_some, e, show u1 = _ from k1]
end
section
/-! ===== the reference's reader ===== -/
def RT (σ : Mem) (t : Nat) (v : Nat → Int32) (n : Nat) : Prop := σ.1 140 t = nI n ∧ ∀ i, i < n → σ.1 139 (t * 60 + i) = v i
def FrP (σ σ' : Mem) : Prop := (∀ a b, (a ≠ 134 ∨ b ≠ 13) → (a ≠ 135 ∨ b < 7216 ∨ 7260 ≤ b) → σ'.1 a b = σ.1 a b) ∧ σ'.2 = σ.2
theorem FrP.rf {σ : Mem} : FrP σ σ := ⟨fun _ _ _ _ => rfl, rfl⟩
theorem FrP.tr {σ σ' σ'' : Mem} (h : FrP σ σ') (h2 : FrP σ' σ'') : FrP σ σ'' := ⟨fun a b q z => (h2.1 a b q z).trans (h.1 a b q z), h2.2.trans h.2⟩
theorem FrP.n {σ σ' : Mem} (h : FrP σ σ') : FrN σ σ' := ⟨fun a b q => h.1 a b (by omega) (by omega), fun a b _ => by rw [h.2]⟩
theorem FrP.pos {σ : Mem} {x : Int32} : FrP σ (setI σ 134 13 x) := ⟨fun a b q _ => by rw [setI_1, if_neg (by omega)], rfl⟩
theorem FrP.set {σ : Mem} {j : Nat} {x : Int32} (h : j < 44) : FrP σ (setI σ 135 (7216 + j) x) := ⟨fun a b _ q => by rw [setI_1, if_neg (by omega)], rfl⟩
theorem RT.kept {σ σ' : Mem} {t n : Nat} {v : Nat → Int32} (h : RT σ t v n) (f : FrP σ σ') : RT σ' t v n := ⟨(f.1 _ _ (by omega) (by omega)).trans h.1, fun i hi => (f.1 _ _ (by omega) (by omega)).trans (h.2 i hi)⟩
theorem MT.pos {σ : Mem} {x : Int32} {D : Tn} (h : MT σ 7216 D) : MT (setI σ 134 13 x) 7216 D := h.kept (fun b _ _ => by rw [setI_1, if_neg (by omega)])
theorem M_byteAt {σ : Mem} {t n p : Nat} {v : Nat → Int32} (h : RT σ t v n) (ht : t < 4) (hn : n ≤ 60) (hp : p ≤ n) : F_X9_byteAt 134 (nI t) (nI p) σ = some (if p < n then v p else -1000) := by
  unfold F_X9_byteAt
  rw [gR_134_6, ob_some, aI_eq sh_140 ht (by decide), ob_some, h.1]
  by_cases q : p < n
  · rw [if_neg (nI_ge q (by omega)), gR_134_5, ob_some, ix60, aI_eq sh_139 (by omega) (by decide), ob_some, h.2 p q, if_pos q]
  · rw [if_pos (nI_le (by omega) (by omega)), if_neg q]
theorem M_blanks {t n : Nat} {v : Nat → Int32} (ht : t < 4) (hn : n ≤ 60) : ∀ f p σ, n - p = f → p ≤ n → RT σ t v n → σ.1 134 13 = nI p → ∃ σ', F_X9_blanks 134 (nI t) σ = some σ' ∧ σ'.1 134 13 = nI (sk v n p) ∧ (∀ a b, (a ≠ 134 ∨ b ≠ 13) → σ'.1 a b = σ.1 a b) ∧ σ'.2 = σ.2 := by
  intro f
  induction f with
  | zero =>
    intro p σ hf hp h hpos
    refine ⟨σ, ?_, by rw [sk_out (by omega)]; exact hpos, fun _ _ _ => rfl, rfl⟩
    unfold F_X9_blanks F_X9_blanks_0
    apply lp_out
    rw [gI_134_13, ob_some, hpos, M_byteAt h ht hn hp, ob_some, if_neg (show ¬ p < n by omega), if_neg (by decide)]
  | succ f ih =>
    intro p σ hf hp h hpos
    have hp2 : p < n := by omega
    by_cases q : v p = 32
    · obtain ⟨σ', e, k1, k2, k3⟩ := ih (p + 1) (setI σ 134 13 (nI (p + 1))) (by omega) (by omega) (h.kept FrP.pos) (by rw [setI_1, if_pos ⟨rfl, rfl⟩])
      refine ⟨σ', ?_, by rw [sk_in hp2 q]; exact k1, fun a b z => (k2 a b z).trans (by rw [setI_1, if_neg (by omega)]), k3⟩
      have st : F_X9_blanks_0 134 (nI t) σ = F_X9_blanks_0 134 (nI t) (setI σ 134 13 (nI (p + 1))) := by
        unfold F_X9_blanks_0
        apply lp_in
        rw [gI_134_13, ob_some, hpos, M_byteAt h ht hn hp, ob_some, if_pos hp2, if_pos q, ob_some, nI_1, pI_134_13, ob_some]
      show F_X9_blanks_0 134 (nI t) σ = some σ'
      rw [st]; exact e
    · refine ⟨σ, ?_, by rw [sk_out (fun z => q z.2)]; exact hpos, fun _ _ _ => rfl, rfl⟩
      unfold F_X9_blanks F_X9_blanks_0
      apply lp_out
      rw [gI_134_13, ob_some, hpos, M_byteAt h ht hn hp, ob_some, if_pos hp2, if_neg q]
theorem M_in9 {x : Int32} {l : Nat} {σ : Mem} : F_X9_in x.toInt64 (nI l).toInt64 (9 : Int64) σ = some (if nI l ≤ x ∧ x ≤ nI 9 then 1 else 0) := by
  rw [in_eq, wide, wide]
  by_cases q : nI l ≤ x ∧ x ≤ nI 9
  · rw [if_pos q, if_pos ⟨Int32.le_iff_toInt_le.mp q.1, Int32.le_iff_toInt_le.mp q.2⟩]
  · rw [if_neg q, if_neg (fun z => q ⟨Int32.le_iff_toInt_le.mpr z.1, Int32.le_iff_toInt_le.mpr z.2⟩)]
def updF (v : Nat → Int32) (p off ap : Nat) (D : Tn) : Nat → Tn
  | 0 => D
  | j + 1 => updT (updF v p off ap D j) (off + ap * j) (figN v (p + j))
theorem M_figs {σ : Mem} {t n p l many off ap : Nat} {v : Nat → Int32} {D : Tn} {x2 x3 x4 x5 : Int32} (h : RT σ t v n) (ht : t < 4) (hn : n ≤ 60) (hp : p ≤ n) (hl : l ≤ 1) (hpos : σ.1 134 13 = nI p) (hD : MT σ 7216 D) (ho : ∀ j, j < many → off + ap * j < 44) (hm : many ≤ 4) (e2 : x2 = nI many) (e3 : x3 = nI l) (e4 : x4 = nI (7216 + off)) (e5 : x5 = nI ap) : ∃ σ' b, F_X9_figures 134 (nI t) x2 x3 x4 x5 σ = some (b, σ') ∧ σ'.1 134 13 = nI (p + cfN v n l many p) ∧ p + cfN v n l many p ≤ n ∧ FrP σ σ' ∧ ((b = 1 ∧ cfN v n l many p = many ∧ MT σ' 7216 (updF v p off ap D many)) ∨ (b = 0 ∧ cfN v n l many p ≠ many)) := by
  have key : ∃ u, F_X9_figures_3 134 (nI t) (nI many) (nI l) (nI (7216 + off)) (nI ap) ((0 : Int32), σ) = some u ∧ ∃ b, u.1 = b ∧ u.2.1 134 13 = nI (p + cfN v n l many p) ∧ p + cfN v n l many p ≤ n ∧ FrP σ u.2 ∧ ((b = 1 ∧ cfN v n l many p = many ∧ MT u.2 7216 (updF v p off ap D many)) ∨ (b = 0 ∧ cfN v n l many p ≠ many)) := by
    unfold F_X9_figures_3
    refine lp_inv2 (fun j (u : Int32 × Mem) => u.1 = nI j ∧ u.2.1 134 13 = nI (p + j) ∧ p + j ≤ n ∧ FrP σ u.2 ∧ (∀ m, m < j → figP v n l (p + m)) ∧ MT u.2 7216 (updF v p off ap D j)) many ?_ ?_ _ ⟨rfl, hpos, hp, FrP.rf, fun m hm => absurd hm (by omega), hD⟩
    · intro j u hj ⟨a1, a2, a3, a4, a5, a6⟩
      have hu := h.kept a4
      rw [a1, if_neg (nI_ge hj (by omega)), gI_134_13, ob_some, a2, M_byteAt hu ht hn a3, ob_some]
      by_cases q : figP v n l (p + j)
      · obtain ⟨f1, f2, f3⟩ := figP_N (by omega) q
        have hoj := ho j hj
        have ix : nI (7216 + off) + (nI ap * nI j) = nI (7216 + (off + ap * j)) := by rw [pk_mul, nI_add, Nat.add_assoc]
        have m1 : MT (setI u.2 135 (7216 + (off + ap * j)) (nI (figN v (p + j)))) 7216 (updF v p off ap D (j + 1)) := a6.set
        have pz : (setI u.2 135 (7216 + (off + ap * j)) (nI (figN v (p + j)))).1 134 13 = nI (p + j) := by rw [setI_1, if_neg (by omega)]; exact a2
        refine Or.inl ⟨(nI (j + 1), setI (setI u.2 135 (7216 + (off + ap * j)) (nI (figN v (p + j)))) 134 13 (nI (p + j + 1))), ?_, rfl, ?_, ?_, ?_, fun m hm => ?_, ?_⟩
        · rw [if_pos q.1, M_in9, if_pos ⟨q.2.1, q.2.2⟩, ob_some, if_neg (by decide), wR, ob_some, ix, f1, w_wr (by omega), ob_some, gI_134_13, ob_some, pz, nI_1, pI_134_13, ob_some, nI_1]
        · show (setI (setI u.2 135 (7216 + (off + ap * j)) (nI (figN v (p + j)))) 134 13 (nI (p + j + 1))).1 134 13 = _
          rw [setI_1, if_pos ⟨rfl, rfl⟩]; rfl
        · have := q.1; omega
        · exact (a4.tr (FrP.set hoj)).tr FrP.pos
        · by_cases y : m = j
          · rw [y]; exact q
          · exact a5 m (by omega)
        · exact m1.pos
      · have ec := cfN_at many j p hj a5 q
        have hz : ∀ x : Int32, x = (if p + j < n then v (p + j) else -1000) → ¬ (nI l ≤ x - 48 ∧ x - 48 ≤ nI 9) := fun x hx z => by
          by_cases y : p + j < n
          · rw [if_pos y] at hx
            rw [hx] at z
            exact q ⟨y, z.1, z.2⟩
          · rw [if_neg y] at hx
            rw [hx] at z
            have hb := z.1
            have : l = 0 ∨ l = 1 := by omega
            rcases this with rfl | rfl
            · exact absurd hb (by decide)
            · exact absurd hb (by decide)
        obtain ⟨x, hx⟩ : ∃ x, (if p + j < n then v (p + j) else -1000) = x := ⟨_, rfl⟩
        rw [hx, M_in9, if_neg (hz x hx.symm), ob_some, if_pos rfl]
        exact Or.inr ⟨_, rfl, 0, rfl, by rw [ec]; exact a2, by rw [ec]; exact a3, a4, Or.inr ⟨rfl, by omega⟩⟩
    · intro u ⟨a1, a2, a3, a4, a5, a6⟩
      have ec := cfN_all many p a5
      exact ⟨(1, u.2), by rw [a1, if_pos (nI_le (Nat.le_refl _) (by omega))], 1, rfl, by rw [ec]; exact a2, by rw [ec]; exact a3, a4, Or.inl ⟨rfl, ec, a6⟩⟩
  obtain ⟨⟨u1, u2⟩, e, b, k1, k2, k3, k4, k5⟩ := key
  refine ⟨u2, b, ?_, k2, k3, k4, k5⟩
  unfold F_X9_figures
  rw [e2, e3, e4, e5, e, show u1 = b from k1]
theorem M_kindOf {x : Int32} {σ : Mem} : F_X9_kindOf x σ = some (if kdN x = 6 then -1 else nI (kdN x)) := by
  unfold F_X9_kindOf kdN
  by_cases h0 : x = 98
  · rw [if_pos h0, if_pos h0]; rfl
  rw [if_neg h0, if_neg h0]
  by_cases h1 : x = 115
  · rw [if_pos h1, if_pos h1]; rfl
  rw [if_neg h1, if_neg h1]
  by_cases h2 : x = 113
  · rw [if_pos h2, if_pos h2]; rfl
  rw [if_neg h2, if_neg h2]
  by_cases h3 : x = 99
  · rw [if_pos h3, if_pos h3]; rfl
  rw [if_neg h3, if_neg h3]
  by_cases h4 : x = 116
  · rw [if_pos h4, if_pos h4]; rfl
  rw [if_neg h4, if_neg h4]
  by_cases h5 : x = 119
  · rw [if_pos h5, if_pos h5]; rfl
  rw [if_neg h5, if_neg h5]
  rfl
end
section
theorem M_takesB {σ : Mem} {t n q : Nat} {v : Nat → Int32} {D : Tn} (h : RT σ t v n) (ht : t < 4) (hn : n ≤ 60) (hq : q ≤ n) (hpos : σ.1 134 13 = nI q) (hD : MT σ 7216 D) (hb : D 0 ≤ 6) : ((¬ q < n ∨ kdN (v q) = 6 ∨ D 0 = 6) → F_X9_takesBed 134 (nI t) σ = some (0, σ)) ∧ (q < n → kdN (v q) ≠ 6 → D 0 < 6 → ∃ σ', (cfN v n 0 3 (q + 1) = 3 → F_X9_takesBed 134 (nI t) σ = some (1, σ') ∧ MT σ' 7216 (addB v D q)) ∧ (cfN v n 0 3 (q + 1) ≠ 3 → F_X9_takesBed 134 (nI t) σ = some (0, σ')) ∧ σ'.1 134 13 = nI (q + 1 + cfN v n 0 3 (q + 1)) ∧ q + 1 + cfN v n 0 3 (q + 1) ≤ n ∧ FrP σ σ') := by
  have r0 : aI 135 (7216 : Int32) σ = some (nI (D 0)) := (w_rd (j := 7216) (by decide)).trans (by rw [show σ.1 135 7216 = _ from hD 0 (by decide)])
  have kl := kdN_le (v q)
  constructor
  · intro hx
    unfold F_X9_takesBed
    rw [gI_134_13, ob_some, hpos, M_byteAt h ht hn hq, ob_some, M_kindOf, ob_some, wR, ob_some, r0, ob_some]
    by_cases z : q < n
    · rw [if_pos z]
      by_cases k6 : kdN (v q) = 6
      · rw [if_pos k6, if_pos (by decide)]
      · have b6 : D 0 = 6 := (hx.resolve_left (fun y => y z)).resolve_left k6
        rw [if_neg k6, if_neg (nI_pos (by omega)), b6, if_pos (show nI 6 = (6 : Int32) from rfl)]
    · rw [if_neg z, if_pos (show kdN (-1000) = 6 by decide), if_pos (by decide)]
  · intro z k6 b6
    obtain ⟨b, hbb⟩ : ∃ b, D 0 = b := ⟨_, rfl⟩
    rw [hbb] at r0 b6
    have n6 : ¬ nI b = (6 : Int32) := fun y => by
      have := (nI_eq (a := b) (b := 6) (by omega) (by decide)).mp y
      omega
    have i3 : (7219 : Int32) + nI b = nI (7216 + (3 + b)) := (lx (a := 7219) rfl).trans (by rw [show 7219 + b = 7216 + (3 + b) by omega])
    have i9 : (7225 : Int32) + nI b = nI (7216 + (9 + b)) := (lx (a := 7225) rfl).trans (by rw [show 7225 + b = 7216 + (9 + b) by omega])
    have m1 : MT (setI (setI σ 134 13 (nI (q + 1))) 135 (7216 + (3 + b)) (nI (kdN (v q)))) 7216 (updT D (3 + b) (kdN (v q))) := hD.pos.set
    have f1 : FrP σ (setI (setI σ 134 13 (nI (q + 1))) 135 (7216 + (3 + b)) (nI (kdN (v q)))) := FrP.pos.tr (FrP.set (by omega))
    have p1 : (setI (setI σ 134 13 (nI (q + 1))) 135 (7216 + (3 + b)) (nI (kdN (v q)))).1 134 13 = nI (q + 1) := by rw [setI_1, if_neg (by omega), setI_1, if_pos ⟨rfl, rfl⟩]
    obtain ⟨σ2, c, e, p2, l2, f2, k⟩ := M_figs (l := 0) (many := 3) (off := 9 + b) (ap := 6) (x2 := (3 : Int32)) (x3 := (0 : Int32)) (x4 := (7225 : Int32) + nI b) (x5 := (6 : Int32)) (h.kept f1) ht hn (show q + 1 ≤ n by omega) (by decide) p1 m1 (fun j hj => by omega) (by decide) rfl rfl i9 rfl
    have pre : F_X9_takesBed 134 (nI t) σ = if c = 0 then some (0, σ2) else (gR 9 0 134).bind fun p25 => (aI p25 (7216 : Int32) σ2).bind fun v26 => (sI p25 (7216 : Int32) (v26 + (1 : Int32)) σ2).bind fun m28 => some ((1 : Int32), m28) := by
      unfold F_X9_takesBed
      rw [gI_134_13, ob_some, hpos, M_byteAt h ht hn hq, ob_some, M_kindOf, ob_some, wR, ob_some, r0, ob_some, if_pos z, if_neg k6, if_neg (nI_pos (by omega)), if_neg n6, ob_some, nI_1, pI_134_13, ob_some, ob_some, i3, w_wr (by omega), ob_some, e, ob_some]
    rcases k with ⟨k1, k2, k3⟩ | ⟨k1, k2⟩
    · have c0 : ¬ c = 0 := by rw [k1]; decide
      have eU : updT (updF v (q + 1) (9 + b) 6 (updT D (3 + b) (kdN (v q))) 3) 0 (b + 1) = addB v D q := by
        unfold addB
        rw [hbb]
        show updT (updT (updT (updT (updT D (3 + b) (kdN (v q))) (9 + b + 6 * 0) (figN v (q + 1 + 0))) (9 + b + 6 * 1) (figN v (q + 1 + 1))) (9 + b + 6 * 2) (figN v (q + 1 + 2))) 0 (b + 1) = _
        rw [show 9 + b + 6 * 0 = 9 + b by omega, show 9 + b + 6 * 1 = 15 + b by omega, show 9 + b + 6 * 2 = 21 + b by omega]
      have v0 : σ2.1 135 7216 = nI b := by
        have := k3 0 (by decide)
        have e0 : updF v (q + 1) (9 + b) 6 (updT D (3 + b) (kdN (v q))) 3 0 = b := by
          show updT (updT (updT (updT D (3 + b) (kdN (v q))) (9 + b + 6 * 0) _) (9 + b + 6 * 1) _) (9 + b + 6 * 2) _ 0 = b
          rw [upd_ne (by omega), upd_ne (by omega), upd_ne (by omega), upd_ne (by omega), hbb]
        rw [e0] at this
        exact this
      have m4 : MT (setI σ2 135 (7216 + 0) (nI (b + 1))) 7216 (addB v D q) := by
        rw [← eU]; exact k3.set
      refine ⟨setI σ2 135 (7216 + 0) (nI (b + 1)), fun _ => ⟨?_, m4⟩, fun y => absurd k2 y, ?_, l2, (f1.tr f2).tr (FrP.set (by decide))⟩
      · have rr : aI 135 (7216 : Int32) σ2 = some (nI b) := (w_rd (j := 7216) (by decide)).trans (by rw [v0])
        have ww : sI 135 (7216 : Int32) (nI (b + 1)) σ2 = some (setI σ2 135 (7216 + 0) (nI (b + 1))) := w_wr (j := 7216) (by decide)
        rw [pre, if_neg c0, wR, ob_some, rr, ob_some, nI_1, ww, ob_some]
      · rw [setI_1, if_neg (by omega)]; exact p2
    · refine ⟨σ2, fun y => absurd y k2, fun _ => by rw [pre, if_pos k1], p2, l2, f1.tr f2⟩
theorem M_beds {t n : Nat} {v : Nat → Int32} (ht : t < 4) (hn : n ≤ 60) : ∀ f D p σ, D 0 + f = 6 → p ≤ n → RT σ t v n → MT σ 7216 D → σ.1 134 13 = nI (sk v n p) → ∃ σ', F_X9_faultOf_53 134 (nI t) σ = some (ansT (resB v n f D p), σ') ∧ FrP σ σ' ∧ ∀ D', resB v n f D p = .inr D' → MT σ' 7216 D' := by
  have go : ∀ σ σ' b r, F_X9_takesBed 134 (nI t) σ = some (b, σ') → b = 0 → σ'.1 134 13 = nI r → F_X9_faultOf_77 134 (nI t) σ = some (.inr (nI r, σ')) := by
    intro σ σ' b r e hb hr
    unfold F_X9_faultOf_77
    rw [e, ob_some, if_pos hb, gI_134_13, ob_some, hr]
  intro f
  induction f with
  | zero =>
    intro D p σ hf hp h hD hpos
    obtain ⟨s1, s2⟩ := sk_le (v := v) hp
    have r0 : aI 135 (7216 : Int32) σ = some (nI (D 0)) := (w_rd (j := 7216) (by decide)).trans (by rw [show σ.1 135 7216 = _ from hD 0 (by decide)])
    rw [resB_0]
    by_cases q : n ≤ sk v n p
    · rw [if_pos q]
      refine ⟨σ, ?_, FrP.rf, fun D' z => ?_⟩
      · unfold F_X9_faultOf_53
        apply lp_out
        rw [gI_134_13, ob_some, hpos, gR_134_6, ob_some, aI_eq sh_140 ht (by decide), ob_some, h.1, if_neg (nI_nlt (by omega) (by omega)), wR, ob_some, r0, ob_some, if_neg (nI_ne0 (by omega) (by omega))]
        rfl
      · injection z with z
        rw [← z]; exact hD
    · rw [if_neg q]
      refine ⟨σ, ?_, FrP.rf, fun D' z => by cases z⟩
      have e := (M_takesB h ht hn s2 hpos hD (by omega)).1 (Or.inr (Or.inr (by omega)))
      unfold F_X9_faultOf_53
      apply lp_out
      rw [gI_134_13, ob_some, hpos, gR_134_6, ob_some, aI_eq sh_140 ht (by decide), ob_some, h.1, if_pos (nI_lt (by omega) (by omega)), go σ σ 0 (sk v n p) e rfl hpos]
      rfl
  | succ f ih =>
    intro D p σ hf hp h hD hpos
    obtain ⟨s1, s2⟩ := sk_le (v := v) hp
    have r0 : aI 135 (7216 : Int32) σ = some (nI (D 0)) := (w_rd (j := 7216) (by decide)).trans (by rw [show σ.1 135 7216 = _ from hD 0 (by decide)])
    obtain ⟨tb1, tb2⟩ := M_takesB h ht hn s2 hpos hD (by omega)
    rw [resB_s]
    by_cases q : n ≤ sk v n p
    · rw [if_pos q]
      by_cases z0 : D 0 = 0
      · rw [if_pos z0]
        refine ⟨σ, ?_, FrP.rf, fun D' z => by cases z⟩
        have e := tb1 (Or.inl (by omega))
        unfold F_X9_faultOf_53
        apply lp_out
        rw [gI_134_13, ob_some, hpos, gR_134_6, ob_some, aI_eq sh_140 ht (by decide), ob_some, h.1, if_neg (nI_nlt (by omega) (by omega)), wR, ob_some, r0, ob_some, z0, if_pos (show nI 0 = (0 : Int32) from rfl), go σ σ 0 (sk v n p) e rfl hpos]
        rfl
      · rw [if_neg z0]
        refine ⟨σ, ?_, FrP.rf, fun D' z => ?_⟩
        · unfold F_X9_faultOf_53
          apply lp_out
          rw [gI_134_13, ob_some, hpos, gR_134_6, ob_some, aI_eq sh_140 ht (by decide), ob_some, h.1, if_neg (nI_nlt (by omega) (by omega)), wR, ob_some, r0, ob_some, if_neg (nI_ne0 (by omega) (by omega))]
          rfl
        · injection z with z
          rw [← z]; exact hD
    · rw [if_neg q]
      by_cases k6 : kdN (v (sk v n p)) = 6
      · rw [if_pos k6]
        refine ⟨σ, ?_, FrP.rf, fun D' z => by cases z⟩
        have e := tb1 (Or.inr (Or.inl k6))
        unfold F_X9_faultOf_53
        apply lp_out
        rw [gI_134_13, ob_some, hpos, gR_134_6, ob_some, aI_eq sh_140 ht (by decide), ob_some, h.1, if_pos (nI_lt (by omega) (by omega)), go σ σ 0 (sk v n p) e rfl hpos]
        rfl
      · rw [if_neg k6]
        obtain ⟨σ2, ky, kn, p2, l2, f2⟩ := tb2 (by omega) k6 (by omega)
        by_cases c3 : cfN v n 0 3 (sk v n p + 1) = 3
        · rw [if_pos c3]
          obtain ⟨e2, m2⟩ := ky c3
          rw [c3] at p2 l2
          have e0 : addB v D (sk v n p) 0 = D 0 + 1 := by unfold addB; rw [upd_eq]
          have h4 : sk v n p + 4 = sk v n p + 1 + 3 := by omega
          obtain ⟨σ3, e3, p3, q3, z3⟩ := M_blanks ht hn (n - (sk v n p + 4)) (sk v n p + 4) σ2 rfl (by omega) (h.kept f2) (by rw [h4]; exact p2)
          have f3 : FrP σ2 σ3 := ⟨fun a b x _ => q3 a b x, z3⟩
          have m3 : MT σ3 7216 (addB v D (sk v n p)) := m2.kept (fun b _ _ => q3 _ _ (by omega))
          obtain ⟨σ4, e4, f4, k4⟩ := ih (addB v D (sk v n p)) (sk v n p + 4) σ3 (by omega) (by omega) (h.kept (f2.tr f3)) m3 p3
          refine ⟨σ4, ?_, (f2.tr f3).tr f4, k4⟩
          rw [← e4]
          have e77 : F_X9_faultOf_77 134 (nI t) σ = some (.inl σ3) := by
            unfold F_X9_faultOf_77
            rw [e2, ob_some, if_neg (show ¬ (1 : Int32) = 0 by decide), e3, ob_some]
          unfold F_X9_faultOf_53
          apply lp_in
          rw [gI_134_13, ob_some, hpos, gR_134_6, ob_some, aI_eq sh_140 ht (by decide), ob_some, h.1, if_pos (nI_lt (by omega) (by omega)), e77]
        · rw [if_neg c3]
          refine ⟨σ2, ?_, f2, fun D' z => by cases z⟩
          unfold F_X9_faultOf_53
          apply lp_out
          rw [gI_134_13, ob_some, hpos, gR_134_6, ob_some, aI_eq sh_140 ht (by decide), ob_some, h.1, if_pos (nI_lt (by omega) (by omega)), go σ σ2 0 _ (kn c3) rfl p2]
          rfl
theorem M_faultOf {A : Ab} {t n : Nat} (ht : t < 4) (hs : A.2.1.1 t = some n) (σ : Mem) (h : RM A σ) : ∃ σ', F_X9_faultOf 134 (nI t) σ = some (ansT (resT (A.2.1.2 t) n), σ') ∧ FrP σ σ' ∧ ∀ D, resT (A.2.1.2 t) n = .inr D → MT σ' 7216 D := by
  obtain ⟨hn, g1, g2⟩ := h.2.1.row ht hs
  obtain ⟨v, hv⟩ : ∃ v, A.2.1.2 t = v := ⟨_, rfl⟩
  rw [hv] at g2 ⊢
  have hR : RT σ t v n := ⟨g1, g2⟩
  have key : ∃ u, F_X9_faultOf_2 134 (nI t) ((0 : Int32), σ) = some u ∧ (u.1 = ansT (resT v n) ∧ FrP σ u.2 ∧ ∀ D, resT v n = .inr D → MT u.2 7216 D) := by
    unfold F_X9_faultOf_2
    refine lp_inv (fun j (u : Int32 × Mem) => u.1 = nI j ∧ (∀ i, i < j → u.2.1 135 (7216 + i) = nI 0) ∧ FrP σ u.2) 44 ?_ ?_ _ ⟨rfl, fun i hi => absurd hi (by omega), FrP.rf⟩
    · intro j u hj ⟨a1, a2, a3⟩
      have ix : (7216 : Int32) + nI j = nI (7216 + j) := lx rfl
      refine ⟨(nI (j + 1), setI u.2 135 (7216 + j) 0), ?_, rfl, fun i hi => ?_, a3.tr (FrP.set hj)⟩
      · rw [a1, if_neg (show ¬ (44 : Int32) ≤ nI j from nI_ge (b := 44) hj (by decide)), wR, ob_some, ix, w_wr (by omega), ob_some, nI_1]
      · show (setI u.2 135 (7216 + j) 0).1 135 (7216 + i) = _
        rw [setI_1]
        by_cases y : i = j
        · rw [if_pos ⟨rfl, by omega⟩]; rfl
        · rw [if_neg (by omega)]; exact a2 i (by omega)
    · intro u ⟨a1, a2, a3⟩
      have m0 : MT (setI u.2 134 13 (0 : Int32)) 7216 (fun _ => 0) := MT.pos (D := fun _ => 0) (fun j hj => a2 j hj)
      have f0 : FrP σ (setI u.2 134 13 (0 : Int32)) := a3.tr FrP.pos
      obtain ⟨w1, e1, p1, q1, z1⟩ := M_blanks (v := v) ht hn n 0 (setI u.2 134 13 (0 : Int32)) (Nat.sub_zero n) (Nat.zero_le _) (hR.kept f0) (by rw [setI_1, if_pos ⟨rfl, rfl⟩]; rfl)
      have f1 : FrP σ w1 := f0.tr ⟨fun a b x _ => q1 a b x, z1⟩
      have m1 : MT w1 7216 (fun _ => 0) := m0.kept (fun b _ _ => q1 _ _ (by omega))
      obtain ⟨_, s2⟩ := sk_le (v := v) (Nat.zero_le n)
      have hR1 := hR.kept f1
      rw [a1, if_pos (show (44 : Int32) ≤ nI 44 by decide), pI_134_13, ob_some, e1, ob_some]
      obtain ⟨q, hq⟩ : ∃ q, sk v n 0 = q := ⟨_, rfl⟩
      rw [resT_H, hq]
      rw [hq] at p1 s2
      unfold resH F_X9_takesFirst
      rw [gI_134_13, ob_some, p1, M_byteAt hR1 ht hn s2, ob_some]
      by_cases hh : q < n ∧ v q = 110
      · rw [if_pos hh.1, if_pos hh.2, if_pos hh, ob_some, nI_1, pI_134_13, ob_some]
        have f2 : FrP σ (setI w1 134 13 (nI (q + 1))) := f1.tr FrP.pos
        obtain ⟨w3, c, e3, p3, l3, f3, k3⟩ := M_figs (l := 0) (many := 4) (off := 39) (ap := 1) (x2 := (4 : Int32)) (x3 := (0 : Int32)) (x4 := (7255 : Int32)) (x5 := (1 : Int32)) (hR.kept f2) ht hn (show q + 1 ≤ n by omega) (by decide) (show (setI w1 134 13 (nI (q + 1))).1 134 13 = nI (q + 1) by rw [setI_1, if_pos ⟨rfl, rfl⟩]) m1.pos (fun j hj => by omega) (by decide) rfl rfl rfl rfl
        rw [e3, ob_some]
        rcases k3 with ⟨c1, c2, m3⟩ | ⟨c1, c2⟩
        · have cn : ¬ c = 0 := by rw [c1]; decide
          rw [if_neg cn, if_pos c2]
          rw [c2] at p3 l3
          have e5 : q + 1 + 4 = q + 5 := by omega
          rw [e5] at p3 l3
          have f4 : FrP σ w3 := f2.tr f3
          obtain ⟨w5, d, e6, p5, l5, f5, k5⟩ := M_figs (l := 1) (many := 1) (off := 43) (ap := 1) (x2 := (1 : Int32)) (x3 := (1 : Int32)) (x4 := (7259 : Int32)) (x5 := (1 : Int32)) (hR.kept f4) ht hn l3 (by decide) p3 m3 (fun j hj => by omega) (by decide) rfl rfl rfl rfl
          rw [e6, ob_some]
          by_cases fp : figP v n 1 (q + 5)
          · have cf1 : cfN v n 1 1 (q + 5) = 1 := cfN_yes fp
            rcases k5 with ⟨d1, d2, m5⟩ | ⟨d1, d2⟩
            · have dn : ¬ d = 0 := by rw [d1]; decide
              rw [if_neg dn, ob_some, if_neg (show ¬ (1 : Int32) = 0 by decide), if_pos fp]
              rw [cf1] at p5 l5
              have eH : ∀ j, j < 44 → headT v q j = updF v (q + 5) 43 1 (updF v (q + 1) 39 1 (fun _ => 0) 4) 1 j := fun j hj => by
                show (if 39 ≤ j ∧ j ≤ 43 then figN v (q + 1 + (j - 39)) else 0) = updT (updT (updT (updT (updT (fun _ => 0) (39 + 1 * 0) (figN v (q + 1 + 0))) (39 + 1 * 1) (figN v (q + 1 + 1))) (39 + 1 * 2) (figN v (q + 1 + 2))) (39 + 1 * 3) (figN v (q + 1 + 3))) (43 + 1 * 0) (figN v (q + 5 + 0)) j
                by_cases y : 39 ≤ j ∧ j ≤ 43
                · rw [if_pos y]
                  have cs : j = 39 ∨ j = 40 ∨ j = 41 ∨ j = 42 ∨ j = 43 := by omega
                  rcases cs with rfl | rfl | rfl | rfl | rfl
                  · rw [upd_ne (by decide), upd_ne (by decide), upd_ne (by decide), upd_ne (by decide), upd_eq]
                  · rw [upd_ne (by decide), upd_ne (by decide), upd_ne (by decide), upd_eq]
                  · rw [upd_ne (by decide), upd_ne (by decide), upd_eq]
                  · rw [upd_ne (by decide), upd_eq]
                  · rw [upd_eq]
                · rw [if_neg y, upd_ne (by omega), upd_ne (by omega), upd_ne (by omega), upd_ne (by omega), upd_ne (by omega)]
              have mH : MT w5 7216 (headT v q) := m5.ext eH
              have f6 : FrP σ w5 := f4.tr f5
              obtain ⟨w7, e7, p7, q7, z7⟩ := M_blanks (v := v) ht hn (n - (q + 6)) (q + 6) w5 rfl (by omega) (hR.kept f6) (by rw [show q + 6 = q + 5 + 1 by omega]; exact p5)
              have f8 : FrP w5 w7 := ⟨fun a b x _ => q7 a b x, z7⟩
              have h0 : headT v q 0 = 0 := rfl
              obtain ⟨w9, e9, f9, k9⟩ := M_beds ht hn 6 (headT v q) (q + 6) w7 rfl (by omega) (hR.kept (f6.tr f8)) (mH.kept (fun b _ _ => q7 _ _ (by omega))) p7
              refine ⟨(ansT (resB v n 6 (headT v q) (q + 6)), w9), ?_, rfl, (f6.tr f8).tr f9, k9⟩
              rw [e7, ob_some, e9]
              rfl
            · exact absurd cf1 d2
          · have cf0 : cfN v n 1 1 (q + 5) = 0 := cfN_no fp
            rcases k5 with ⟨d1, d2, m5⟩ | ⟨d1, d2⟩
            · omega
            · rw [if_pos d1, ob_some, if_pos rfl, if_neg fp, gI_134_13, ob_some, p5, cf0]
              exact ⟨_, rfl, rfl, f4.tr f5, fun D z => by cases z⟩
        · rw [if_pos c1, ob_some, if_pos rfl, if_neg c2, gI_134_13, ob_some, p3]
          exact ⟨_, rfl, rfl, f2.tr f3, fun D z => by cases z⟩
      · rw [if_neg hh]
        have nh : ¬ (if q < n then v q else -1000) = 110 := by
          by_cases z : q < n
          · rw [if_pos z]; exact fun y => hh ⟨z, y⟩
          · rw [if_neg z]; decide
        rw [if_neg nh, ob_some, if_pos rfl, gI_134_13, ob_some, p1]
        exact ⟨_, rfl, rfl, f1, fun D z => by cases z⟩
  obtain ⟨⟨u1, u2⟩, e, k1, k2, k3⟩ := key
  refine ⟨u2, ?_, k2, k3⟩
  unfold F_X9_faultOf
  rw [e, show u1 = _ from k1]
end
section
/-! ===== fault, town ===== -/
def okP (D : Tn) : Prop := (∀ a, (a = 1 ∨ a = 2 ∨ (27 ≤ a ∧ a < 39)) → D a = 0) ∧ D 0 ≤ 6 ∧ (∀ i, i < D 0 → D (3 + i) < 6 ∧ D (9 + i) ≤ 9 ∧ D (15 + i) ≤ 9 ∧ D (21 + i) ≤ 9) ∧ (∀ m, m < 4 → D (39 + m) ≤ 9) ∧ D 43 ≤ 9
theorem cf3 {v : Nat → Int32} {n p : Nat} (h : cfN v n 0 3 p = 3) : figN v p ≤ 9 ∧ figN v (p + 1) ≤ 9 ∧ figN v (p + 2) ≤ 9 := by
  have p1 : figP v n 0 p := Decidable.byContradiction fun z => by rw [cfN_no z] at h; omega
  rw [cfN_yes p1] at h
  have p2 : figP v n 0 (p + 1) := Decidable.byContradiction fun z => by rw [cfN_no z] at h; omega
  rw [cfN_yes p2] at h
  have p3 : figP v n 0 (p + 1 + 1) := Decidable.byContradiction fun z => by rw [cfN_no z] at h; omega
  exact ⟨(figP_N (by decide) p1).2.1, (figP_N (by decide) p2).2.1, (figP_N (by decide) p3).2.1⟩
theorem cf4 {v : Nat → Int32} {n p : Nat} (h : cfN v n 0 4 p = 4) : ∀ m, m < 4 → figN v (p + m) ≤ 9 := by
  have p1 : figP v n 0 p := Decidable.byContradiction fun z => by rw [cfN_no z] at h; omega
  rw [cfN_yes p1] at h
  obtain ⟨h2, h3, h4⟩ := cf3 (v := v) (n := n) (p := p + 1) (by omega)
  intro m hm
  have c : m = 0 ∨ m = 1 ∨ m = 2 ∨ m = 3 := by omega
  rcases c with rfl | rfl | rfl | rfl
  · exact (figP_N (by decide) p1).2.1
  · exact h2
  · exact h3
  · exact h4
theorem okP_add {v : Nat → Int32} {n q : Nat} {D : Tn} (h : okP D) (hb : D 0 < 6) (hk : kdN (v q) ≠ 6) (hc : cfN v n 0 3 (q + 1) = 3) : okP (addB v D q) := by
  obtain ⟨h1, h2, h3, h4, h5⟩ := h
  obtain ⟨f1, f2, f3⟩ := cf3 hc
  have kl := kdN_le (v q)
  obtain ⟨b, hbb⟩ : ∃ b, D 0 = b := ⟨_, rfl⟩
  rw [hbb] at hb h2 h3
  have e : addB v D q = updT (updT (updT (updT (updT D (3 + b) (kdN (v q))) (9 + b) (figN v (q + 1))) (15 + b) (figN v (q + 2))) (21 + b) (figN v (q + 3))) 0 (b + 1) := by unfold addB; rw [hbb]
  have e0 : addB v D q 0 = b + 1 := by rw [e, upd_eq]
  refine ⟨fun a ha => ?_, by rw [e0]; omega, fun i hi => ?_, fun m hm => ?_, ?_⟩
  · rw [e, upd_ne (by omega), upd_ne (by omega), upd_ne (by omega), upd_ne (by omega), upd_ne (by omega)]; exact h1 a ha
  · rw [e0] at hi
    rw [e]
    by_cases y : i = b
    · subst y
      refine ⟨?_, ?_, ?_, ?_⟩
      · rw [upd_ne (by omega), upd_ne (by omega), upd_ne (by omega), upd_ne (by omega), upd_eq]; omega
      · rw [upd_ne (by omega), upd_ne (by omega), upd_ne (by omega), upd_eq]; exact f1
      · rw [upd_ne (by omega), upd_ne (by omega), upd_eq]; exact f2
      · rw [upd_ne (by omega), upd_eq]; exact f3
    · have c := h3 i (by omega)
      refine ⟨?_, ?_, ?_, ?_⟩
      · rw [upd_ne (by omega), upd_ne (by omega), upd_ne (by omega), upd_ne (by omega), upd_ne (by omega)]; exact c.1
      · rw [upd_ne (by omega), upd_ne (by omega), upd_ne (by omega), upd_ne (by omega), upd_ne (by omega)]; exact c.2.1
      · rw [upd_ne (by omega), upd_ne (by omega), upd_ne (by omega), upd_ne (by omega), upd_ne (by omega)]; exact c.2.2.1
      · rw [upd_ne (by omega), upd_ne (by omega), upd_ne (by omega), upd_ne (by omega), upd_ne (by omega)]; exact c.2.2.2
  · rw [e, upd_ne (by omega), upd_ne (by omega), upd_ne (by omega), upd_ne (by omega), upd_ne (by omega)]; exact h4 m hm
  · rw [e, upd_ne (by omega), upd_ne (by omega), upd_ne (by omega), upd_ne (by omega), upd_ne (by omega)]; exact h5
theorem resB_ok {v : Nat → Int32} {n : Nat} : ∀ f D p D', D 0 + f = 6 → okP D → resB v n f D p = .inr D' → okP D' ∧ 0 < D' 0
  | 0, D, p, D', hf, h, e => by
    rw [resB_0] at e
    by_cases q : n ≤ sk v n p
    · rw [if_pos q] at e
      injection e with e
      rw [← e]; exact ⟨h, by omega⟩
    · rw [if_neg q] at e; cases e
  | f + 1, D, p, D', hf, h, e => by
    rw [resB_s] at e
    by_cases q : n ≤ sk v n p
    · rw [if_pos q] at e
      by_cases z : D 0 = 0
      · rw [if_pos z] at e; cases e
      · rw [if_neg z] at e
        injection e with e
        rw [← e]; exact ⟨h, by omega⟩
    · rw [if_neg q] at e
      by_cases k6 : kdN (v (sk v n p)) = 6
      · rw [if_pos k6] at e; cases e
      · rw [if_neg k6] at e
        by_cases c3 : cfN v n 0 3 (sk v n p + 1) = 3
        · rw [if_pos c3] at e
          have e0 : addB v D (sk v n p) 0 = D 0 + 1 := by unfold addB; rw [upd_eq]
          exact resB_ok f _ _ D' (by omega) (okP_add h (by omega) k6 c3) e
        · rw [if_neg c3] at e; cases e
theorem resT_ok {v : Nat → Int32} {n : Nat} {D : Tn} (e : resT v n = .inr D) : okP D ∧ 0 < D 0 := by
  rw [resT_H] at e
  unfold resH at e
  by_cases hh : sk v n 0 < n ∧ v (sk v n 0) = 110
  · rw [if_pos hh] at e
    by_cases c4 : cfN v n 0 4 (sk v n 0 + 1) = 4
    · rw [if_pos c4] at e
      by_cases fp : figP v n 1 (sk v n 0 + 5)
      · rw [if_pos fp] at e
        obtain ⟨q, hq⟩ : ∃ q, sk v n 0 = q := ⟨_, rfl⟩
        rw [hq] at e c4 fp
        have f4 := cf4 c4
        have f5 := (figP_N (by decide) fp).2.1
        refine resB_ok 6 (headT v q) (q + 6) D rfl ⟨fun a ha => if_neg (by omega), Nat.zero_le _, fun i hi => absurd hi (Nat.not_lt_zero i), fun m hm => ?_, ?_⟩ e
        · have : headT v q (39 + m) = figN v (q + 1 + m) := by
            unfold headT
            rw [if_pos ⟨by omega, by omega⟩, show 39 + m - 39 = m by omega]
          rw [this]; exact f4 m hm
        · have : headT v q 43 = figN v (q + 5) := by
            unfold headT
            rw [if_pos ⟨by decide, by decide⟩]
          rw [this]; exact f5
      · rw [if_neg fp] at e; cases e
    · rw [if_neg c4] at e; cases e
  · rw [if_neg hh] at e; cases e
theorem sum_0 {D : Tn} (h : ∀ a, 27 ≤ a → a < 39 → D a = 0) : ∀ n, n ≤ 6 → sumT D n = 0
  | 0, _ => rfl
  | n + 1, hn => by
    show sumT D n + D (33 + n) = 0
    rw [sum_0 h n (by omega), h _ (by omega) (by omega)]
theorem okP_wf {D : Tn} (h : okP D) : wfT 0 D := by
  obtain ⟨h1, h2, h3, h4, h5⟩ := h
  refine ⟨h2, Nat.le_of_eq (h1 1 (by omega)), fun i hi => ?_, h4, h5, ?_⟩
  · have c := h3 i hi
    exact ⟨c.1, c.2.1, c.2.2.1, c.2.2.2, by rw [h1 _ (by omega)]; omega, Nat.le_of_eq (h1 _ (by omega))⟩
  · rw [h1 2 (by omega), sum_0 (fun a q1 q2 => h1 a (by omega)) _ h2]
theorem CD_CT {σ : Mem} {D : Tn} (h : CD σ D) (hd : Dr σ) (hp : okP D) : CT σ 36 D := by
  obtain ⟨c1, c2, c3, c4⟩ := h
  obtain ⟨p1, p2, _⟩ := hp
  refine ⟨c1, by rw [p1 1 (by omega)]; exact hd.1, fun _ => c2, c3, fun i hi => ?_⟩
  have c := c4 i hi
  exact ⟨c.1, c.2.1, c.2.2.1, c.2.2.2, by rw [p1 _ (by omega)]; exact (hd.2 i (by omega)).1, by rw [p1 _ (by omega)]; exact (hd.2 i (by omega)).2⟩
theorem sim_fault (x : Int32) : Sim (F_X8_fault 0 x) (F_X9_fault 134 x) := by
  refine sim_of fun A hA => ?_
  rcases ixc x (n := 4) (by decide) with hx | ⟨t, ht, rfl⟩
  · refine ⟨-1, A, hA, C_same fun σ h => ?_, M_same fun σ h => ?_⟩
    · unfold F_X8_fault
      rw [gR_0_1, ob_some, Rm_no sf_4 hx, ob_some, if_neg n10]
    · unfold F_X9_fault
      rw [text_no hx, ob_some, if_pos rfl]
  · cases hs : A.2.1.1 t with
    | none =>
      refine ⟨-3, foundA A 1, hA, fun σ h => ?_, fun σ h => ?_⟩
      · obtain ⟨σ', e, h1, h2⟩ := C_refuse (A := A) (f := 1) (by decide) σ h
        refine ⟨σ', ?_, h1, h2⟩
        unfold F_X8_fault
        rw [gR_0_1, ob_some, Rm_none sf_4 ht (h.2.1.no ht hs), e, ob_some, if_neg n30]
      · obtain ⟨σ', e, h1, h2⟩ := M_found (A := A) (f := 1) (by decide) σ h
        have e' : F_X9_found 134 (1 : Int32) σ = some (-3, σ') := e
        refine ⟨σ', ?_, h1, h2⟩
        unfold F_X9_fault
        rw [text_yes ht, ob_some, if_neg (by decide), gR_134_6, ob_some, aI_eq sh_140 ht (by decide), ob_some, h.2.1.no ht hs, if_neg nm1, e', ob_some]
    | some n =>
      refine ⟨ansT (resT (A.2.1.2 t) n), A, hA, fun σ h => ?_, fun σ h => ?_⟩
      · obtain ⟨hn, g1, g2⟩ := h.2.1.row ht hs
        obtain ⟨σ', e, f, _⟩ := C_readTown ht hs σ h
        refine ⟨σ', ?_, (h.side f.o).1, (h.side f.o).2⟩
        unfold F_X8_fault
        rw [gR_0_1, ob_some, Rm_some sf_4 ht hn g1, ob_some, if_pos rfl, gR_0_8, ob_some, ob_some, ck_35, ob_some, e, ob_some]
      · obtain ⟨hn, g1, g2⟩ := h.2.1.row ht hs
        obtain ⟨σ', e, f, _⟩ := M_faultOf ht hs σ h
        refine ⟨σ', ?_, (h.side hA f.n).1, (h.side hA f.n).2⟩
        unfold F_X9_fault
        rw [text_yes ht, ob_some, if_neg (by decide), gR_134_6, ob_some, aI_eq sh_140 ht (by decide), ob_some, g1, if_pos (nI_pos' (by omega)), e, ob_some]
/-- as sim_of, with the draft's nothing -/
theorem sim_ofD {α : Type} {F G : Mem → Option (α × Mem)} (h : ∀ A, okDe A.2.2.2 → ∃ r A', okDe A'.2.2.2 ∧ (∀ σ, RC A σ → Dr σ → ∃ σ', F σ = some (r, σ') ∧ RC A' σ' ∧ FC σ σ') ∧ MAns A G r A') : Sim F G := by
  intro σ ⟨⟨A, hA, hC, hM⟩, hD⟩
  obtain ⟨r, A', hA', h1, h2⟩ := h A hA
  obtain ⟨σ1, e1, c1, f1⟩ := h1 σ hC hD
  obtain ⟨σ2, e2, m2, f2⟩ := h2 σ1 (hM.kept f1)
  exact ⟨(r, σ1), (r, σ2), e1, e2, rfl, ⟨A', hA', c1.kept f2, m2⟩, (hD.keptC f1).keptM f2⟩
def newD (D : Tn) : De := (D, 0, fun _ => 0, fun _ => none, fun _ _ => 0)
theorem new_ok {D : Tn} (h : okP D) (h0 : 0 < D 0) : okDe (newD D) := ⟨okP_wf h, Nat.zero_le _, fun d hd => absurd hd (Nat.not_lt_zero d), (fun k n e => absurd (show (none : Option Nat) = some n from e) (fun w => by cases w)), fun z => absurd (show D 0 = 0 from z) (by omega)⟩
theorem fill_8 {σ : Mem} : ∃ σ', F_X6_removeAll 7 σ = some σ' ∧ (∀ j, j < 3 → σ'.1 8 j = -1) ∧ (∀ a b, a ≠ 8 → σ'.1 a b = σ.1 a b) ∧ σ'.2 = σ.2 := by
  have key : ∃ t, F_J7_fill_53178_5 8 (-1 : Int32) (nI 3) ((0 : Int32), σ) = some t ∧ ((∀ j, j < 3 → t.1 8 j = -1) ∧ (∀ a b, a ≠ 8 → t.1 a b = σ.1 a b) ∧ t.2 = σ.2) := by
    unfold F_J7_fill_53178_5
    refine lp_inv (fun j (s : Int32 × Mem) => s.1 = nI j ∧ (∀ i, i < j → s.2.1 8 i = -1) ∧ (∀ a b, a ≠ 8 → s.2.1 a b = σ.1 a b) ∧ s.2.2 = σ.2) 3 ?_ ?_ _ ⟨rfl, fun v hv => absurd hv (by omega), fun _ _ _ => rfl, rfl⟩
    · intro j s hj ⟨a1, a2, a3, a4⟩
      refine ⟨(nI (j + 1), setI s.2 8 j (-1)), ?_, rfl, fun i hi => ?_, fun a b q => ?_, a4⟩
      · rw [a1, if_neg (nI_ge hj (by omega)), sI_eq sh_8 hj (by decide), ob_some, nI_1]
      · show (setI s.2 8 j (-1)).1 8 i = _
        rw [setI_1]
        by_cases y : i = j
        · rw [if_pos ⟨rfl, y⟩]
        · rw [if_neg (fun z => y z.2)]; exact a2 i (by omega)
      · show (setI s.2 8 j (-1)).1 a b = _
        rw [setI_1, if_neg (fun z => q z.1)]; exact a3 a b q
    · intro s ⟨a1, a2, a3, a4⟩
      exact ⟨s.2, by rw [a1, if_pos (nI_le (Nat.le_refl _) (by omega))], a2, a3, a4⟩
  obtain ⟨t, e, k1, k2, k3⟩ := key
  refine ⟨t, ?_, k1, k2, k3⟩
  unfold F_X6_removeAll F_J7_fill_53178
  rw [gR_7_1, ob_some, aN_eq (by decide) sh_8, ob_some, e, ob_some]
theorem ansT_9 {o : Nat ⊕ Tn} {n : Nat} (h : ∀ r, o = .inl r → r ≤ n) (hn : n ≤ 100) : ansT o = -9 ↔ ∃ D, o = .inr D := by
  cases o with
  | inl r => exact ⟨fun z => absurd z (nI_n9 (by have := h r rfl; omega)), fun ⟨D, z⟩ => by cases z⟩
  | inr D => exact ⟨fun _ => ⟨D, rfl⟩, fun _ => rfl⟩
theorem resT_le {v : Nat → Int32} {n r : Nat} (e : resT v n = .inl r) : r ≤ n + 10 := by
  obtain ⟨_, s2⟩ := sk_le (v := v) (Nat.zero_le n)
  have cl : ∀ k p, cfN v n 0 k p ≤ k := by
    intro k
    induction k with
    | zero => intro p; exact Nat.le_refl _
    | succ k ih =>
      intro p
      by_cases z : figP v n 0 p
      · rw [cfN_yes z]; have := ih (p + 1); omega
      · rw [cfN_no z]; omega
  rw [resT_H] at e
  unfold resH at e
  by_cases hh : sk v n 0 < n ∧ v (sk v n 0) = 110
  · rw [if_pos hh] at e
    by_cases c4 : cfN v n 0 4 (sk v n 0 + 1) = 4
    · rw [if_pos c4] at e
      by_cases fp : figP v n 1 (sk v n 0 + 5)
      · rw [if_pos fp] at e
        have := resB_lt 6 (headT v (sk v n 0)) (sk v n 0 + 6) r (by have := fp.1; omega) e
        omega
      · rw [if_neg fp] at e; injection e with e; omega
    · rw [if_neg c4] at e
      have := cl 4 (sk v n 0 + 1)
      injection e with e; omega
  · rw [if_neg hh] at e; injection e with e; omega
theorem sim_town (x : Int32) : Sim (F_X8_town 0 x) (F_X9_town 134 x) := by
  refine sim_ofD fun A hA => ?_
  rcases ixc x (n := 4) (by decide) with hx | ⟨t, ht, rfl⟩
  · refine ⟨-1, A, hA, fun σ h _ => C_same (A := A) (fun σ h => ?_) σ h, M_same fun σ h => ?_⟩
    · unfold F_X8_town
      rw [gR_0_1, ob_some, Rm_no sf_4 hx, ob_some, if_neg n10]
    · unfold F_X9_town
      rw [text_no hx, ob_some, if_pos rfl]
  · cases hs : A.2.1.1 t with
    | none =>
      refine ⟨-3, foundA A 1, hA, fun σ h _ => ?_, fun σ h => ?_⟩
      · obtain ⟨σ', e, h1, h2⟩ := C_refuse (A := A) (f := 1) (by decide) σ h
        refine ⟨σ', ?_, h1, h2⟩
        unfold F_X8_town
        rw [gR_0_1, ob_some, Rm_none sf_4 ht (h.2.1.no ht hs), e, ob_some, if_neg n30]
      · obtain ⟨σ', e, h1, h2⟩ := M_found (A := A) (f := 1) (by decide) σ h
        have e' : F_X9_found 134 (1 : Int32) σ = some (-3, σ') := e
        refine ⟨σ', ?_, h1, h2⟩
        unfold F_X9_town
        rw [text_yes ht, ob_some, if_neg (by decide), gR_134_6, ob_some, aI_eq sh_140 ht (by decide), ob_some, h.2.1.no ht hs, if_neg nm1, e', ob_some]
    | some n =>
      rcases Nat.lt_or_ge 60 n with hbig | hsm
      · exact ⟨-1, A, hA, fun σ h _ => absurd (h.2.1.row ht hs).1 (by omega), fun σ h => absurd (h.2.1.row ht hs).1 (by omega)⟩
      have a9 := ansT_9 (o := resT (A.2.1.2 t) n) (n := n + 10) (fun r e => resT_le e) (by omega)
      cases hr : resT (A.2.1.2 t) n with
      | inl r =>
        have n9 : ¬ ansT (resT (A.2.1.2 t) n) = -9 := fun z => by
          obtain ⟨D, z⟩ := a9.mp z
          rw [hr] at z; cases z
        refine ⟨-4, A, hA, fun σ h _ => ?_, fun σ h => ?_⟩
        · obtain ⟨hn, g1, g2⟩ := h.2.1.row ht hs
          obtain ⟨σ', e, f, _⟩ := C_readTown ht hs σ h
          refine ⟨σ', ?_, (h.side f.o).1, (h.side f.o).2⟩
          unfold F_X8_town
          rw [gR_0_1, ob_some, Rm_some sf_4 ht hn g1, ob_some, if_pos rfl, gR_0_8, ob_some, ob_some, ck_35, ob_some, e, ob_some, if_neg n9]
        · obtain ⟨hn, g1, g2⟩ := h.2.1.row ht hs
          obtain ⟨σ', e, f, _⟩ := M_faultOf ht hs σ h
          refine ⟨σ', ?_, (h.side hA f.n).1, (h.side hA f.n).2⟩
          unfold F_X9_town
          rw [text_yes ht, ob_some, if_neg (by decide), gR_134_6, ob_some, aI_eq sh_140 ht (by decide), ob_some, g1, if_pos (nI_pos' (by omega)), e, ob_some, if_neg n9]
      | inr D =>
        obtain ⟨hp, h0⟩ := resT_ok hr
        have hw := okP_wf hp
        have p9 : ansT (resT (A.2.1.2 t) n) = -9 := a9.mpr ⟨D, hr⟩
        refine ⟨nI (D 0), deA A (newD D), new_ok hp h0, fun σ h hD => ?_, fun σ h => ?_⟩
        · obtain ⟨hn, g1, g2⟩ := h.2.1.row ht hs
          obtain ⟨σ1, e1, f1, c1⟩ := C_readTown ht hs σ h
          obtain ⟨h1, fc1⟩ := h.side f1.o
          have ct := CD_CT (c1 D hr) (hD.keptC fc1) hp
          obtain ⟨σ2, e2, c2, f2⟩ := C_copy (k := 10) (k2 := 36) tw_10 tw_36 (by decide) hw.1 ct
          obtain ⟨σ3, e3, c3, f3⟩ := C_copy (k := 18) (k2 := 10) tw_18 tw_10 (by decide) hw.1 c2
          obtain ⟨σ4, e4, k4, f4, z4⟩ := fill_8 (σ := setI σ3 0 7 (0 : Int32))
          have keep : ∀ a b, (a < 8 ∨ a = 9 ∨ 26 ≤ a) → (a ≠ 0 ∨ b ≠ 7) → σ4.1 a b = σ1.1 a b := fun a b q1 q2 => by
            rw [f4 a b (by omega), setI_1, if_neg (by omega), f3.1 a b (by omega), f2.1 a b (by omega)]
          have k2 : σ4.2 = σ1.2 := by
            rw [z4]
            show σ3.2 = _
            rw [f3.2, f2.2]
          have ct18 : CT σ4 18 D := c3.kept (fun a b p q => by rw [f4 a b (by omega), setI_1, if_neg (by omega)])
          have ct10 : CT σ4 10 D := c2.kept (fun a b p q => by rw [f4 a b (by omega), setI_1, if_neg (by omega), f3.1 a b (by omega)])
          have r7 : σ4.1 0 7 = nI 0 := by rw [f4 _ _ (by decide), setI_1, if_pos ⟨rfl, rfl⟩]; rfl
          have r70 : σ4.1 7 0 = nI 40 := (keep _ _ (by decide) (by decide)).trans h1.2.2.2.2.2.2.2.1
          have hRC : RC (deA A (newD D)) σ4 := ⟨h1.1.kept (fun a b p q => keep a b (by omega) (by omega)), h1.2.1.kept (fun a b p q => keep a b (by omega) (by omega)), h1.2.2.1.kept (keep _ _ (by decide) (by decide)) (keep _ _ (by decide) (by decide)) (fun f => keep _ _ (by decide) (by omega)) (fun j => by rw [k2]), ct10, ct18, r7, fun d hd => absurd hd (Nat.not_lt_zero d), r70, fun r hr => k4 r hr⟩
          refine ⟨σ4, ?_, hRC, fc1.tr ⟨fun a b q => keep a b (by omega) (by omega), fun a b q => by rw [k2]⟩⟩
          unfold F_X8_town
          rw [gR_0_1, ob_some, Rm_some sf_4 ht hn g1, ob_some, if_pos rfl, gR_0_8, ob_some, ob_some, ck_35, ob_some, e1, ob_some, if_pos p9, gR_0_3, ob_some, ob_some, gR_35_0, ob_some, tC tw_10, ob_some, e2, ob_some, gR_0_4, ob_some, ob_some, tC tw_18, ob_some, e3, ob_some, pI_0_7, ob_some, gR_0_2, ob_some, ck_7, ob_some, e4, ob_some, ob_some, C_isT ct18, ob_some]
        · obtain ⟨hn, g1, g2⟩ := h.2.1.row ht hs
          obtain ⟨σ1, e1, f1, c1⟩ := M_faultOf ht hs σ h
          obtain ⟨h1, fm1⟩ := h.side hA f1.n
          have m1 := c1 D hr
          obtain ⟨σ2, e2, c2, q2, z2⟩ := M_cp (σ := σ1) (f := 7216) (t := 0) (n := 44) (by omega) (by omega) (by omega)
          have e2' : F_X9_copyAll 134 (7216 : Int32) (0 : Int32) (44 : Int32) σ1 = some σ2 := e2
          have m2 : MT σ2 0 D := fun j hj => (c2 j hj).trans (m1 j hj)
          have key : ∃ u, F_X9_town_54 134 ((0 : Int32), setI σ2 134 1 (0 : Int32)) = some u ∧ (u.1 = nI (D 0) ∧ (∀ k, k < 3 → u.2.1 136 k = -1) ∧ (∀ a b, a ≠ 136 → u.2.1 a b = (setI σ2 134 1 (0 : Int32)).1 a b) ∧ u.2.2 = σ2.2) := by
            unfold F_X9_town_54
            refine lp_inv (fun j (u : Int32 × Mem) => u.1 = nI j ∧ (∀ k, k < j → u.2.1 136 k = -1) ∧ (∀ a b, a ≠ 136 → u.2.1 a b = (setI σ2 134 1 (0 : Int32)).1 a b) ∧ u.2.2 = σ2.2) 3 ?_ ?_ _ ⟨rfl, fun k hk => absurd hk (by omega), fun _ _ _ => rfl, rfl⟩
            · intro j u hj ⟨a1, a2, a3, a4⟩
              refine ⟨(nI (j + 1), setI u.2 136 j (-1)), ?_, rfl, fun k hk => ?_, fun a b q => ?_, a4⟩
              · rw [a1, if_neg (show ¬ (3 : Int32) ≤ nI j from nI_ge (b := 3) hj (by decide)), gR_134_2, ob_some, sI_eq sh_136 hj (by decide), ob_some, nI_1]
              · show (setI u.2 136 j (-1)).1 136 k = _
                rw [setI_1]
                by_cases y : k = j
                · rw [if_pos ⟨rfl, y⟩]
                · rw [if_neg (fun z => y z.2)]; exact a2 k (by omega)
              · show (setI u.2 136 j (-1)).1 a b = _
                rw [setI_1, if_neg (fun z => q z.1)]; exact a3 a b q
            · intro u ⟨a1, a2, a3, a4⟩
              have v0 : u.2.1 135 0 = nI (D 0) := (a3 135 0 (by decide)).trans (by rw [setI_1, if_neg (by decide)]; exact m2 0 (by decide))
              have r0 : aI 135 (0 : Int32) u.2 = some (nI (D 0)) := (w_rd (j := 0) (by decide)).trans (by rw [v0])
              exact ⟨(nI (D 0), u.2), by rw [a1, if_pos (show (3 : Int32) ≤ nI 3 by decide), wR, ob_some, r0, ob_some], rfl, a2, a3, a4⟩
          obtain ⟨⟨u1, u2⟩, e3, k1, k3, k4, k5⟩ := key
          have k1 : u1 = nI (D 0) := k1
          have k4 : ∀ a b, a ≠ 136 → u2.1 a b = (setI σ2 134 1 (0 : Int32)).1 a b := k4
          have keep : ∀ a b, a ≠ 136 → (a ≠ 134 ∨ b ≠ 1) → (a ≠ 135 ∨ 44 ≤ b) → u2.1 a b = σ1.1 a b := fun a b q1 q3 q4 => by
            rw [k4 a b q1, setI_1, if_neg (by omega), q2 a b (by omega)]
          have k2 : u2.2 = σ1.2 := k5.trans z2
          have hRM : RM (deA A (newD D)) u2 := ⟨h1.1.kept (fun a b q => keep a b (by omega) (by omega) (by omega)), h1.2.1.kept (fun a b q => keep a b (by omega) (by omega) (by omega)), h1.2.2.1.kept (keep _ _ (by decide) (by decide) (by decide)) (keep _ _ (by decide) (by decide) (by decide)) (fun f => keep _ _ (by decide) (by omega) (by omega)) (by rw [k2]) (by rw [k2]), m2.kept (fun b p1 p2 => by rw [k4 _ _ (by decide), setI_1, if_neg (by omega)]), fun d hd => absurd hd (Nat.not_lt_zero d), by rw [k4 _ _ (by decide), setI_1, if_pos ⟨rfl, rfl⟩]; rfl, fun k hk => k3 k hk⟩
          refine ⟨u2, ?_, hRM, fm1.tr ⟨fun a b q => keep a b (by omega) (by omega) (by omega), fun a b q => by rw [k2]⟩⟩
          unfold F_X9_town
          rw [text_yes ht, ob_some, if_neg (by decide), gR_134_6, ob_some, aI_eq sh_140 ht (by decide), ob_some, g1, if_pos (nI_pos' (by omega)), e1, ob_some, if_pos p9, e2', ob_some, pI_134_1, ob_some, e3, k1]
end

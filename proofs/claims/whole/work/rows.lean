section
-- ===== PART A: goes FIRST, ahead of the names: the tables' words, and 'selects' of the private methods out of them =====
/-- a private method of a class that the tables say can be made, by its rows of tables_1 -/
def lw_okq (q : MethodName × Nat) : Prop := (q.1.cls ≠ "java/lang/invoke/MethodHandle" ∧ q.1.cls ≠ "java/lang/invoke/VarHandle") ∧ Cond.instantiable q.1.cls q.2 ∈ tables_1 ∧ Cond.privateMethod q.1 ∈ tables_1 ∧ Cond.instanceMethod q.1 ∈ tables_1
theorem lw_p0 : lw_okq (⟨"FiredChips", "ended", "(II)I"⟩, 8) := ⟨⟨by decide +kernel, by decide +kernel⟩, List.mem_of_getElem? (i := 14) (by decide +kernel), List.mem_of_getElem? (i := 251) (by decide +kernel), List.mem_of_getElem? (i := 252) (by decide +kernel)⟩
theorem lw_p1 : lw_okq (⟨"FiredChips", "refuse", "(I)I"⟩, 8) := ⟨⟨by decide +kernel, by decide +kernel⟩, List.mem_of_getElem? (i := 14) (by decide +kernel), List.mem_of_getElem? (i := 255) (by decide +kernel), List.mem_of_getElem? (i := 256) (by decide +kernel)⟩
theorem lw_p2 : lw_okq (⟨"FiredChips$Acts", "takePlanned", "()I"⟩, 4) := ⟨⟨by decide +kernel, by decide +kernel⟩, List.mem_of_getElem? (i := 22) (by decide +kernel), List.mem_of_getElem? (i := 358) (by decide +kernel), List.mem_of_getElem? (i := 359) (by decide +kernel)⟩
theorem lw_p3 : lw_okq (⟨"FiredChips$Grounded", "othersThanSink", "()I"⟩, 9) := ⟨⟨by decide +kernel, by decide +kernel⟩, List.mem_of_getElem? (i := 66) (by decide +kernel), List.mem_of_getElem? (i := 468) (by decide +kernel), List.mem_of_getElem? (i := 469) (by decide +kernel)⟩
theorem lw_p4 : lw_okq (⟨"FiredChips$Grounded", "minor", "(III)J"⟩, 9) := ⟨⟨by decide +kernel, by decide +kernel⟩, List.mem_of_getElem? (i := 66) (by decide +kernel), List.mem_of_getElem? (i := 472) (by decide +kernel), List.mem_of_getElem? (i := 473) (by decide +kernel)⟩
theorem lw_p5 : lw_okq (⟨"FiredChips$Grounded", "placeOf", "(I)I"⟩, 9) := ⟨⟨by decide +kernel, by decide +kernel⟩, List.mem_of_getElem? (i := 66) (by decide +kernel), List.mem_of_getElem? (i := 505) (by decide +kernel), List.mem_of_getElem? (i := 506) (by decide +kernel)⟩
theorem lw_p6 : lw_okq (⟨"FiredChips$Grounded", "findNeutral", "()V"⟩, 9) := ⟨⟨by decide +kernel, by decide +kernel⟩, List.mem_of_getElem? (i := 66) (by decide +kernel), List.mem_of_getElem? (i := 509) (by decide +kernel), List.mem_of_getElem? (i := 510) (by decide +kernel)⟩
theorem lw_p7 : lw_okq (⟨"FiredChips$Grounded", "solve", "([I)V"⟩, 9) := ⟨⟨by decide +kernel, by decide +kernel⟩, List.mem_of_getElem? (i := 66) (by decide +kernel), List.mem_of_getElem? (i := 518) (by decide +kernel), List.mem_of_getElem? (i := 519) (by decide +kernel)⟩
theorem lw_p8 : lw_okq (⟨"FiredChips$Grounded", "complement", "([I[I)V"⟩, 9) := ⟨⟨by decide +kernel, by decide +kernel⟩, List.mem_of_getElem? (i := 66) (by decide +kernel), List.mem_of_getElem? (i := 571) (by decide +kernel), List.mem_of_getElem? (i := 572) (by decide +kernel)⟩
theorem lw_p9 : lw_okq (⟨"FiredChips$RankSearch", "takeOff", "(LFiredChips$Grounded;II)V"⟩, 3) := ⟨⟨by decide +kernel, by decide +kernel⟩, List.mem_of_getElem? (i := 140) (by decide +kernel), List.mem_of_getElem? (i := 583) (by decide +kernel), List.mem_of_getElem? (i := 584) (by decide +kernel)⟩
theorem lw_p10 : lw_okq (⟨"FiredChips", "reduceChipsAt", "(I)V"⟩, 8) := ⟨⟨by decide +kernel, by decide +kernel⟩, List.mem_of_getElem? (i := 14) (by decide +kernel), List.mem_of_getElem? (i := 594) (by decide +kernel), List.mem_of_getElem? (i := 595) (by decide +kernel)⟩
theorem lw_p11 : lw_okq (⟨"FiredChips", "canCompareWith", "(I)Z"⟩, 8) := ⟨⟨by decide +kernel, by decide +kernel⟩, List.mem_of_getElem? (i := 14) (by decide +kernel), List.mem_of_getElem? (i := 622) (by decide +kernel), List.mem_of_getElem? (i := 623) (by decide +kernel)⟩
theorem lw_p12 : lw_okq (⟨"FiredChips", "findWay", "(I)Z"⟩, 8) := ⟨⟨by decide +kernel, by decide +kernel⟩, List.mem_of_getElem? (i := 14) (by decide +kernel), List.mem_of_getElem? (i := 626) (by decide +kernel), List.mem_of_getElem? (i := 627) (by decide +kernel)⟩
theorem lw_p13 : lw_okq (⟨"FiredChips$Text", "skipBlanks", "()V"⟩, 9) := ⟨⟨by decide +kernel, by decide +kernel⟩, List.mem_of_getElem? (i := 157) (by decide +kernel), List.mem_of_getElem? (i := 664) (by decide +kernel), List.mem_of_getElem? (i := 665) (by decide +kernel)⟩
theorem lw_p14 : lw_okq (⟨"FiredChips$Text", "byteHere", "()I"⟩, 9) := ⟨⟨by decide +kernel, by decide +kernel⟩, List.mem_of_getElem? (i := 157) (by decide +kernel), List.mem_of_getElem? (i := 668) (by decide +kernel), List.mem_of_getElem? (i := 669) (by decide +kernel)⟩
theorem lw_p15 : lw_okq (⟨"FiredChips$Text", "parseOrder", "()V"⟩, 9) := ⟨⟨by decide +kernel, by decide +kernel⟩, List.mem_of_getElem? (i := 157) (by decide +kernel), List.mem_of_getElem? (i := 672) (by decide +kernel), List.mem_of_getElem? (i := 673) (by decide +kernel)⟩
def lw_privs_1 : List (MethodName × Nat) := [(⟨"FiredChips", "ended", "(II)I"⟩, 8), (⟨"FiredChips", "refuse", "(I)I"⟩, 8), (⟨"FiredChips$Acts", "takePlanned", "()I"⟩, 4), (⟨"FiredChips$Grounded", "othersThanSink", "()I"⟩, 9), (⟨"FiredChips$Grounded", "minor", "(III)J"⟩, 9), (⟨"FiredChips$Grounded", "placeOf", "(I)I"⟩, 9), (⟨"FiredChips$Grounded", "findNeutral", "()V"⟩, 9), (⟨"FiredChips$Grounded", "solve", "([I)V"⟩, 9), (⟨"FiredChips$Grounded", "complement", "([I[I)V"⟩, 9), (⟨"FiredChips$RankSearch", "takeOff", "(LFiredChips$Grounded;II)V"⟩, 3), (⟨"FiredChips", "reduceChipsAt", "(I)V"⟩, 8), (⟨"FiredChips", "canCompareWith", "(I)Z"⟩, 8), (⟨"FiredChips", "findWay", "(I)Z"⟩, 8), (⟨"FiredChips$Text", "skipBlanks", "()V"⟩, 9), (⟨"FiredChips$Text", "byteHere", "()I"⟩, 9), (⟨"FiredChips$Text", "parseOrder", "()V"⟩, 9)]
theorem lw_r1 : ∀ q ∈ lw_privs_1, lw_okq q := List.forall_mem_cons.mpr ⟨lw_p0, List.forall_mem_cons.mpr ⟨lw_p1, List.forall_mem_cons.mpr ⟨lw_p2, List.forall_mem_cons.mpr ⟨lw_p3, List.forall_mem_cons.mpr ⟨lw_p4, List.forall_mem_cons.mpr ⟨lw_p5, List.forall_mem_cons.mpr ⟨lw_p6, List.forall_mem_cons.mpr ⟨lw_p7, List.forall_mem_cons.mpr ⟨lw_p8, List.forall_mem_cons.mpr ⟨lw_p9, List.forall_mem_cons.mpr ⟨lw_p10, List.forall_mem_cons.mpr ⟨lw_p11, List.forall_mem_cons.mpr ⟨lw_p12, List.forall_mem_cons.mpr ⟨lw_p13, List.forall_mem_cons.mpr ⟨lw_p14, List.forall_mem_cons.mpr ⟨lw_p15, fun _ h => absurd h List.not_mem_nil⟩⟩⟩⟩⟩⟩⟩⟩⟩⟩⟩⟩⟩⟩⟩⟩
theorem lw_p16 : lw_okq (⟨"FiredChips$Text", "numbersOf", "(I)I"⟩, 9) := ⟨⟨by decide +kernel, by decide +kernel⟩, List.mem_of_getElem? (i := 157) (by decide +kernel), List.mem_of_getElem? (i := 676) (by decide +kernel), List.mem_of_getElem? (i := 677) (by decide +kernel)⟩
theorem lw_p17 : lw_okq (⟨"FiredChips$Text", "addItem", "(I)V"⟩, 9) := ⟨⟨by decide +kernel, by decide +kernel⟩, List.mem_of_getElem? (i := 157) (by decide +kernel), List.mem_of_getElem? (i := 680) (by decide +kernel), List.mem_of_getElem? (i := 681) (by decide +kernel)⟩
theorem lw_p18 : lw_okq (⟨"FiredChips$Text", "parseNumber", "(Z)I"⟩, 9) := ⟨⟨by decide +kernel, by decide +kernel⟩, List.mem_of_getElem? (i := 157) (by decide +kernel), List.mem_of_getElem? (i := 684) (by decide +kernel), List.mem_of_getElem? (i := 685) (by decide +kernel)⟩
theorem lw_p19 : lw_okq (⟨"FiredChips$Text", "isFigureHere", "()Z"⟩, 9) := ⟨⟨by decide +kernel, by decide +kernel⟩, List.mem_of_getElem? (i := 157) (by decide +kernel), List.mem_of_getElem? (i := 688) (by decide +kernel), List.mem_of_getElem? (i := 689) (by decide +kernel)⟩
theorem lw_p20 : lw_okq (⟨"FiredChips$Text", "takePoints", "(II)V"⟩, 9) := ⟨⟨by decide +kernel, by decide +kernel⟩, List.mem_of_getElem? (i := 157) (by decide +kernel), List.mem_of_getElem? (i := 692) (by decide +kernel), List.mem_of_getElem? (i := 693) (by decide +kernel)⟩
theorem lw_p21 : lw_okq (⟨"FiredChips$Text", "endOrder", "()V"⟩, 9) := ⟨⟨by decide +kernel, by decide +kernel⟩, List.mem_of_getElem? (i := 157) (by decide +kernel), List.mem_of_getElem? (i := 696) (by decide +kernel), List.mem_of_getElem? (i := 697) (by decide +kernel)⟩
theorem lw_p22 : lw_okq (⟨"FiredChips", "doOrders", "()I"⟩, 8) := ⟨⟨by decide +kernel, by decide +kernel⟩, List.mem_of_getElem? (i := 14) (by decide +kernel), List.mem_of_getElem? (i := 700) (by decide +kernel), List.mem_of_getElem? (i := 701) (by decide +kernel)⟩
theorem lw_p23 : lw_okq (⟨"FiredChips", "doOrder", "()I"⟩, 8) := ⟨⟨by decide +kernel, by decide +kernel⟩, List.mem_of_getElem? (i := 14) (by decide +kernel), List.mem_of_getElem? (i := 708) (by decide +kernel), List.mem_of_getElem? (i := 709) (by decide +kernel)⟩
theorem lw_p24 : lw_okq (⟨"FiredChipsModel", "refuses", "(I)I"⟩, 21) := ⟨⟨by decide +kernel, by decide +kernel⟩, List.mem_of_getElem? (i := 746) (by decide +kernel), List.mem_of_getElem? (i := 825) (by decide +kernel), List.mem_of_getElem? (i := 826) (by decide +kernel)⟩
theorem lw_p25 : lw_okq (⟨"FiredChipsModel", "keep", "()V"⟩, 21) := ⟨⟨by decide +kernel, by decide +kernel⟩, List.mem_of_getElem? (i := 746) (by decide +kernel), List.mem_of_getElem? (i := 829) (by decide +kernel), List.mem_of_getElem? (i := 830) (by decide +kernel)⟩
theorem lw_p26 : lw_okq (⟨"FiredChipsModel", "pointsNow", "(I)I"⟩, 21) := ⟨⟨by decide +kernel, by decide +kernel⟩, List.mem_of_getElem? (i := 746) (by decide +kernel), List.mem_of_getElem? (i := 833) (by decide +kernel), List.mem_of_getElem? (i := 834) (by decide +kernel)⟩
theorem lw_p27 : lw_okq (⟨"FiredChipsModel", "many", "()I"⟩, 21) := ⟨⟨by decide +kernel, by decide +kernel⟩, List.mem_of_getElem? (i := 746) (by decide +kernel), List.mem_of_getElem? (i := 837) (by decide +kernel), List.mem_of_getElem? (i := 838) (by decide +kernel)⟩
theorem lw_p28 : lw_okq (⟨"FiredChipsModel", "areLines", "(III)Z"⟩, 21) := ⟨⟨by decide +kernel, by decide +kernel⟩, List.mem_of_getElem? (i := 746) (by decide +kernel), List.mem_of_getElem? (i := 845) (by decide +kernel), List.mem_of_getElem? (i := 846) (by decide +kernel)⟩
theorem lw_p29 : lw_okq (⟨"FiredChipsModel", "isPoint", "(I)Z"⟩, 21) := ⟨⟨by decide +kernel, by decide +kernel⟩, List.mem_of_getElem? (i := 746) (by decide +kernel), List.mem_of_getElem? (i := 849) (by decide +kernel), List.mem_of_getElem? (i := 850) (by decide +kernel)⟩
theorem lw_p30 : lw_okq (⟨"FiredChipsModel", "linesNow", "(III)I"⟩, 21) := ⟨⟨by decide +kernel, by decide +kernel⟩, List.mem_of_getElem? (i := 746) (by decide +kernel), List.mem_of_getElem? (i := 854) (by decide +kernel), List.mem_of_getElem? (i := 855) (by decide +kernel)⟩
theorem lw_p31 : lw_okq (⟨"FiredChipsModel", "linesOf", "(II)I"⟩, 21) := ⟨⟨by decide +kernel, by decide +kernel⟩, List.mem_of_getElem? (i := 746) (by decide +kernel), List.mem_of_getElem? (i := 858) (by decide +kernel), List.mem_of_getElem? (i := 859) (by decide +kernel)⟩
def lw_privs_2 : List (MethodName × Nat) := [(⟨"FiredChips$Text", "numbersOf", "(I)I"⟩, 9), (⟨"FiredChips$Text", "addItem", "(I)V"⟩, 9), (⟨"FiredChips$Text", "parseNumber", "(Z)I"⟩, 9), (⟨"FiredChips$Text", "isFigureHere", "()Z"⟩, 9), (⟨"FiredChips$Text", "takePoints", "(II)V"⟩, 9), (⟨"FiredChips$Text", "endOrder", "()V"⟩, 9), (⟨"FiredChips", "doOrders", "()I"⟩, 8), (⟨"FiredChips", "doOrder", "()I"⟩, 8), (⟨"FiredChipsModel", "refuses", "(I)I"⟩, 21), (⟨"FiredChipsModel", "keep", "()V"⟩, 21), (⟨"FiredChipsModel", "pointsNow", "(I)I"⟩, 21), (⟨"FiredChipsModel", "many", "()I"⟩, 21), (⟨"FiredChipsModel", "areLines", "(III)Z"⟩, 21), (⟨"FiredChipsModel", "isPoint", "(I)Z"⟩, 21), (⟨"FiredChipsModel", "linesNow", "(III)I"⟩, 21), (⟨"FiredChipsModel", "linesOf", "(II)I"⟩, 21)]
theorem lw_r2 : ∀ q ∈ lw_privs_2, lw_okq q := List.forall_mem_cons.mpr ⟨lw_p16, List.forall_mem_cons.mpr ⟨lw_p17, List.forall_mem_cons.mpr ⟨lw_p18, List.forall_mem_cons.mpr ⟨lw_p19, List.forall_mem_cons.mpr ⟨lw_p20, List.forall_mem_cons.mpr ⟨lw_p21, List.forall_mem_cons.mpr ⟨lw_p22, List.forall_mem_cons.mpr ⟨lw_p23, List.forall_mem_cons.mpr ⟨lw_p24, List.forall_mem_cons.mpr ⟨lw_p25, List.forall_mem_cons.mpr ⟨lw_p26, List.forall_mem_cons.mpr ⟨lw_p27, List.forall_mem_cons.mpr ⟨lw_p28, List.forall_mem_cons.mpr ⟨lw_p29, List.forall_mem_cons.mpr ⟨lw_p30, List.forall_mem_cons.mpr ⟨lw_p31, fun _ h => absurd h List.not_mem_nil⟩⟩⟩⟩⟩⟩⟩⟩⟩⟩⟩⟩⟩⟩⟩⟩
theorem lw_p32 : lw_okq (⟨"FiredChipsModel", "allLines", "()I"⟩, 21) := ⟨⟨by decide +kernel, by decide +kernel⟩, List.mem_of_getElem? (i := 746) (by decide +kernel), List.mem_of_getElem? (i := 872) (by decide +kernel), List.mem_of_getElem? (i := 873) (by decide +kernel)⟩
theorem lw_p33 : lw_okq (⟨"FiredChipsModel", "valence", "(I)I"⟩, 21) := ⟨⟨by decide +kernel, by decide +kernel⟩, List.mem_of_getElem? (i := 746) (by decide +kernel), List.mem_of_getElem? (i := 876) (by decide +kernel), List.mem_of_getElem? (i := 877) (by decide +kernel)⟩
theorem lw_p34 : lw_okq (⟨"FiredChipsModel", "isJoined", "()Z"⟩, 21) := ⟨⟨by decide +kernel, by decide +kernel⟩, List.mem_of_getElem? (i := 746) (by decide +kernel), List.mem_of_getElem? (i := 888) (by decide +kernel), List.mem_of_getElem? (i := 889) (by decide +kernel)⟩
theorem lw_p35 : lw_okq (⟨"FiredChipsModel", "chips", "(I)I"⟩, 21) := ⟨⟨by decide +kernel, by decide +kernel⟩, List.mem_of_getElem? (i := 746) (by decide +kernel), List.mem_of_getElem? (i := 898) (by decide +kernel), List.mem_of_getElem? (i := 899) (by decide +kernel)⟩
theorem lw_p36 : lw_okq (⟨"FiredChipsModel", "canAdd", "(II)I"⟩, 21) := ⟨⟨by decide +kernel, by decide +kernel⟩, List.mem_of_getElem? (i := 746) (by decide +kernel), List.mem_of_getElem? (i := 906) (by decide +kernel), List.mem_of_getElem? (i := 907) (by decide +kernel)⟩
theorem lw_p37 : lw_okq (⟨"FiredChipsModel", "addNow", "(II)I"⟩, 21) := ⟨⟨by decide +kernel, by decide +kernel⟩, List.mem_of_getElem? (i := 746) (by decide +kernel), List.mem_of_getElem? (i := 915) (by decide +kernel), List.mem_of_getElem? (i := 916) (by decide +kernel)⟩
theorem lw_p38 : lw_okq (⟨"FiredChipsModel", "one", "(II)I"⟩, 21) := ⟨⟨by decide +kernel, by decide +kernel⟩, List.mem_of_getElem? (i := 746) (by decide +kernel), List.mem_of_getElem? (i := 923) (by decide +kernel), List.mem_of_getElem? (i := 924) (by decide +kernel)⟩
theorem lw_p39 : lw_okq (⟨"FiredChipsModel", "canFireOne", "(II)I"⟩, 21) := ⟨⟨by decide +kernel, by decide +kernel⟩, List.mem_of_getElem? (i := 746) (by decide +kernel), List.mem_of_getElem? (i := 927) (by decide +kernel), List.mem_of_getElem? (i := 928) (by decide +kernel)⟩
theorem lw_p40 : lw_okq (⟨"FiredChipsModel", "canFire", "(II)I"⟩, 21) := ⟨⟨by decide +kernel, by decide +kernel⟩, List.mem_of_getElem? (i := 746) (by decide +kernel), List.mem_of_getElem? (i := 931) (by decide +kernel), List.mem_of_getElem? (i := 932) (by decide +kernel)⟩
theorem lw_p41 : lw_okq (⟨"FiredChipsModel", "more", "(III)I"⟩, 21) := ⟨⟨by decide +kernel, by decide +kernel⟩, List.mem_of_getElem? (i := 746) (by decide +kernel), List.mem_of_getElem? (i := 935) (by decide +kernel), List.mem_of_getElem? (i := 936) (by decide +kernel)⟩
theorem lw_p42 : lw_okq (⟨"FiredChipsModel", "fireNow", "(II)I"⟩, 21) := ⟨⟨by decide +kernel, by decide +kernel⟩, List.mem_of_getElem? (i := 746) (by decide +kernel), List.mem_of_getElem? (i := 939) (by decide +kernel), List.mem_of_getElem? (i := 940) (by decide +kernel)⟩
theorem lw_p43 : lw_okq (⟨"FiredChipsModel", "canSettle", "()I"⟩, 21) := ⟨⟨by decide +kernel, by decide +kernel⟩, List.mem_of_getElem? (i := 746) (by decide +kernel), List.mem_of_getElem? (i := 955) (by decide +kernel), List.mem_of_getElem? (i := 956) (by decide +kernel)⟩
theorem lw_p44 : lw_okq (⟨"FiredChipsModel", "isHeap", "()Z"⟩, 21) := ⟨⟨by decide +kernel, by decide +kernel⟩, List.mem_of_getElem? (i := 746) (by decide +kernel), List.mem_of_getElem? (i := 959) (by decide +kernel), List.mem_of_getElem? (i := 960) (by decide +kernel)⟩
theorem lw_p45 : lw_okq (⟨"FiredChipsModel", "laysChips", "()V"⟩, 21) := ⟨⟨by decide +kernel, by decide +kernel⟩, List.mem_of_getElem? (i := 746) (by decide +kernel), List.mem_of_getElem? (i := 963) (by decide +kernel), List.mem_of_getElem? (i := 964) (by decide +kernel)⟩
theorem lw_p46 : lw_okq (⟨"FiredChipsModel", "settlesAt", "(I)V"⟩, 21) := ⟨⟨by decide +kernel, by decide +kernel⟩, List.mem_of_getElem? (i := 746) (by decide +kernel), List.mem_of_getElem? (i := 967) (by decide +kernel), List.mem_of_getElem? (i := 968) (by decide +kernel)⟩
theorem lw_p47 : lw_okq (⟨"FiredChipsModel", "settleNow", "()I"⟩, 21) := ⟨⟨by decide +kernel, by decide +kernel⟩, List.mem_of_getElem? (i := 746) (by decide +kernel), List.mem_of_getElem? (i := 971) (by decide +kernel), List.mem_of_getElem? (i := 972) (by decide +kernel)⟩
def lw_privs_3 : List (MethodName × Nat) := [(⟨"FiredChipsModel", "allLines", "()I"⟩, 21), (⟨"FiredChipsModel", "valence", "(I)I"⟩, 21), (⟨"FiredChipsModel", "isJoined", "()Z"⟩, 21), (⟨"FiredChipsModel", "chips", "(I)I"⟩, 21), (⟨"FiredChipsModel", "canAdd", "(II)I"⟩, 21), (⟨"FiredChipsModel", "addNow", "(II)I"⟩, 21), (⟨"FiredChipsModel", "one", "(II)I"⟩, 21), (⟨"FiredChipsModel", "canFireOne", "(II)I"⟩, 21), (⟨"FiredChipsModel", "canFire", "(II)I"⟩, 21), (⟨"FiredChipsModel", "more", "(III)I"⟩, 21), (⟨"FiredChipsModel", "fireNow", "(II)I"⟩, 21), (⟨"FiredChipsModel", "canSettle", "()I"⟩, 21), (⟨"FiredChipsModel", "isHeap", "()Z"⟩, 21), (⟨"FiredChipsModel", "laysChips", "()V"⟩, 21), (⟨"FiredChipsModel", "settlesAt", "(I)V"⟩, 21), (⟨"FiredChipsModel", "settleNow", "()I"⟩, 21)]
theorem lw_r3 : ∀ q ∈ lw_privs_3, lw_okq q := List.forall_mem_cons.mpr ⟨lw_p32, List.forall_mem_cons.mpr ⟨lw_p33, List.forall_mem_cons.mpr ⟨lw_p34, List.forall_mem_cons.mpr ⟨lw_p35, List.forall_mem_cons.mpr ⟨lw_p36, List.forall_mem_cons.mpr ⟨lw_p37, List.forall_mem_cons.mpr ⟨lw_p38, List.forall_mem_cons.mpr ⟨lw_p39, List.forall_mem_cons.mpr ⟨lw_p40, List.forall_mem_cons.mpr ⟨lw_p41, List.forall_mem_cons.mpr ⟨lw_p42, List.forall_mem_cons.mpr ⟨lw_p43, List.forall_mem_cons.mpr ⟨lw_p44, List.forall_mem_cons.mpr ⟨lw_p45, List.forall_mem_cons.mpr ⟨lw_p46, List.forall_mem_cons.mpr ⟨lw_p47, fun _ h => absurd h List.not_mem_nil⟩⟩⟩⟩⟩⟩⟩⟩⟩⟩⟩⟩⟩⟩⟩⟩
theorem lw_p48 : lw_okq (⟨"FiredChipsModel", "ofNow", "(II)I"⟩, 21) := ⟨⟨by decide +kernel, by decide +kernel⟩, List.mem_of_getElem? (i := 746) (by decide +kernel), List.mem_of_getElem? (i := 983) (by decide +kernel), List.mem_of_getElem? (i := 984) (by decide +kernel)⟩
theorem lw_p49 : lw_okq (⟨"FiredChipsModel", "isFull", "(I)Z"⟩, 21) := ⟨⟨by decide +kernel, by decide +kernel⟩, List.mem_of_getElem? (i := 746) (by decide +kernel), List.mem_of_getElem? (i := 987) (by decide +kernel), List.mem_of_getElem? (i := 988) (by decide +kernel)⟩
theorem lw_p50 : lw_okq (⟨"FiredChipsModel", "isStable", "()Z"⟩, 21) := ⟨⟨by decide +kernel, by decide +kernel⟩, List.mem_of_getElem? (i := 746) (by decide +kernel), List.mem_of_getElem? (i := 995) (by decide +kernel), List.mem_of_getElem? (i := 996) (by decide +kernel)⟩
theorem lw_p51 : lw_okq (⟨"FiredChipsModel", "burnsNow", "(I)I"⟩, 21) := ⟨⟨by decide +kernel, by decide +kernel⟩, List.mem_of_getElem? (i := 746) (by decide +kernel), List.mem_of_getElem? (i := 1003) (by decide +kernel), List.mem_of_getElem? (i := 1004) (by decide +kernel)⟩
theorem lw_p52 : lw_okq (⟨"FiredChipsModel", "linesTo", "(II)I"⟩, 21) := ⟨⟨by decide +kernel, by decide +kernel⟩, List.mem_of_getElem? (i := 746) (by decide +kernel), List.mem_of_getElem? (i := 1007) (by decide +kernel), List.mem_of_getElem? (i := 1008) (by decide +kernel)⟩
theorem lw_p53 : lw_okq (⟨"FiredChipsModel", "treesNow", "()I"⟩, 21) := ⟨⟨by decide +kernel, by decide +kernel⟩, List.mem_of_getElem? (i := 746) (by decide +kernel), List.mem_of_getElem? (i := 1015) (by decide +kernel), List.mem_of_getElem? (i := 1016) (by decide +kernel)⟩
theorem lw_p54 : lw_okq (⟨"FiredChipsModel", "laysTable", "()V"⟩, 21) := ⟨⟨by decide +kernel, by decide +kernel⟩, List.mem_of_getElem? (i := 746) (by decide +kernel), List.mem_of_getElem? (i := 1019) (by decide +kernel), List.mem_of_getElem? (i := 1020) (by decide +kernel)⟩
theorem lw_p55 : lw_okq (⟨"FiredChipsModel", "side", "()I"⟩, 21) := ⟨⟨by decide +kernel, by decide +kernel⟩, List.mem_of_getElem? (i := 746) (by decide +kernel), List.mem_of_getElem? (i := 1023) (by decide +kernel), List.mem_of_getElem? (i := 1024) (by decide +kernel)⟩
theorem lw_p56 : lw_okq (⟨"FiredChipsModel", "determinant", "()J"⟩, 21) := ⟨⟨by decide +kernel, by decide +kernel⟩, List.mem_of_getElem? (i := 746) (by decide +kernel), List.mem_of_getElem? (i := 1027) (by decide +kernel), List.mem_of_getElem? (i := 1028) (by decide +kernel)⟩
theorem lw_p57 : lw_okq (⟨"FiredChipsModel", "pivotRow", "(I)I"⟩, 21) := ⟨⟨by decide +kernel, by decide +kernel⟩, List.mem_of_getElem? (i := 746) (by decide +kernel), List.mem_of_getElem? (i := 1031) (by decide +kernel), List.mem_of_getElem? (i := 1032) (by decide +kernel)⟩
theorem lw_p58 : lw_okq (⟨"FiredChipsModel", "exchangesRows", "(II)V"⟩, 21) := ⟨⟨by decide +kernel, by decide +kernel⟩, List.mem_of_getElem? (i := 746) (by decide +kernel), List.mem_of_getElem? (i := 1035) (by decide +kernel), List.mem_of_getElem? (i := 1036) (by decide +kernel)⟩
theorem lw_p59 : lw_okq (⟨"FiredChipsModel", "partsNow", "(I)I"⟩, 21) := ⟨⟨by decide +kernel, by decide +kernel⟩, List.mem_of_getElem? (i := 746) (by decide +kernel), List.mem_of_getElem? (i := 1043) (by decide +kernel), List.mem_of_getElem? (i := 1044) (by decide +kernel)⟩
theorem lw_p60 : lw_okq (⟨"FiredChipsModel", "laysParts", "()V"⟩, 21) := ⟨⟨by decide +kernel, by decide +kernel⟩, List.mem_of_getElem? (i := 746) (by decide +kernel), List.mem_of_getElem? (i := 1047) (by decide +kernel), List.mem_of_getElem? (i := 1048) (by decide +kernel)⟩
theorem lw_p61 : lw_okq (⟨"FiredChipsModel", "takesLeast", "(I)V"⟩, 21) := ⟨⟨by decide +kernel, by decide +kernel⟩, List.mem_of_getElem? (i := 746) (by decide +kernel), List.mem_of_getElem? (i := 1051) (by decide +kernel), List.mem_of_getElem? (i := 1052) (by decide +kernel)⟩
theorem lw_p62 : lw_okq (⟨"FiredChipsModel", "exchangesColumns", "(II)V"⟩, 21) := ⟨⟨by decide +kernel, by decide +kernel⟩, List.mem_of_getElem? (i := 746) (by decide +kernel), List.mem_of_getElem? (i := 1058) (by decide +kernel), List.mem_of_getElem? (i := 1059) (by decide +kernel)⟩
theorem lw_p63 : lw_okq (⟨"FiredChipsModel", "clears", "(I)Z"⟩, 21) := ⟨⟨by decide +kernel, by decide +kernel⟩, List.mem_of_getElem? (i := 746) (by decide +kernel), List.mem_of_getElem? (i := 1062) (by decide +kernel), List.mem_of_getElem? (i := 1063) (by decide +kernel)⟩
def lw_privs_4 : List (MethodName × Nat) := [(⟨"FiredChipsModel", "ofNow", "(II)I"⟩, 21), (⟨"FiredChipsModel", "isFull", "(I)Z"⟩, 21), (⟨"FiredChipsModel", "isStable", "()Z"⟩, 21), (⟨"FiredChipsModel", "burnsNow", "(I)I"⟩, 21), (⟨"FiredChipsModel", "linesTo", "(II)I"⟩, 21), (⟨"FiredChipsModel", "treesNow", "()I"⟩, 21), (⟨"FiredChipsModel", "laysTable", "()V"⟩, 21), (⟨"FiredChipsModel", "side", "()I"⟩, 21), (⟨"FiredChipsModel", "determinant", "()J"⟩, 21), (⟨"FiredChipsModel", "pivotRow", "(I)I"⟩, 21), (⟨"FiredChipsModel", "exchangesRows", "(II)V"⟩, 21), (⟨"FiredChipsModel", "partsNow", "(I)I"⟩, 21), (⟨"FiredChipsModel", "laysParts", "()V"⟩, 21), (⟨"FiredChipsModel", "takesLeast", "(I)V"⟩, 21), (⟨"FiredChipsModel", "exchangesColumns", "(II)V"⟩, 21), (⟨"FiredChipsModel", "clears", "(I)Z"⟩, 21)]
theorem lw_r4 : ∀ q ∈ lw_privs_4, lw_okq q := List.forall_mem_cons.mpr ⟨lw_p48, List.forall_mem_cons.mpr ⟨lw_p49, List.forall_mem_cons.mpr ⟨lw_p50, List.forall_mem_cons.mpr ⟨lw_p51, List.forall_mem_cons.mpr ⟨lw_p52, List.forall_mem_cons.mpr ⟨lw_p53, List.forall_mem_cons.mpr ⟨lw_p54, List.forall_mem_cons.mpr ⟨lw_p55, List.forall_mem_cons.mpr ⟨lw_p56, List.forall_mem_cons.mpr ⟨lw_p57, List.forall_mem_cons.mpr ⟨lw_p58, List.forall_mem_cons.mpr ⟨lw_p59, List.forall_mem_cons.mpr ⟨lw_p60, List.forall_mem_cons.mpr ⟨lw_p61, List.forall_mem_cons.mpr ⟨lw_p62, List.forall_mem_cons.mpr ⟨lw_p63, fun _ h => absurd h List.not_mem_nil⟩⟩⟩⟩⟩⟩⟩⟩⟩⟩⟩⟩⟩⟩⟩⟩
theorem lw_p64 : lw_okq (⟨"FiredChipsModel", "uneven", "(I)I"⟩, 21) := ⟨⟨by decide +kernel, by decide +kernel⟩, List.mem_of_getElem? (i := 746) (by decide +kernel), List.mem_of_getElem? (i := 1066) (by decide +kernel), List.mem_of_getElem? (i := 1067) (by decide +kernel)⟩
theorem lw_p65 : lw_okq (⟨"FiredChipsModel", "laysIdentity", "()V"⟩, 21) := ⟨⟨by decide +kernel, by decide +kernel⟩, List.mem_of_getElem? (i := 746) (by decide +kernel), List.mem_of_getElem? (i := 1074) (by decide +kernel), List.mem_of_getElem? (i := 1075) (by decide +kernel)⟩
theorem lw_p66 : lw_okq (⟨"FiredChipsModel", "laysRecurrent", "()V"⟩, 21) := ⟨⟨by decide +kernel, by decide +kernel⟩, List.mem_of_getElem? (i := 746) (by decide +kernel), List.mem_of_getElem? (i := 1082) (by decide +kernel), List.mem_of_getElem? (i := 1083) (by decide +kernel)⟩
theorem lw_p67 : lw_okq (⟨"FiredChipsModel", "orderNow", "()I"⟩, 21) := ⟨⟨by decide +kernel, by decide +kernel⟩, List.mem_of_getElem? (i := 746) (by decide +kernel), List.mem_of_getElem? (i := 1090) (by decide +kernel), List.mem_of_getElem? (i := 1091) (by decide +kernel)⟩
theorem lw_p68 : lw_okq (⟨"FiredChipsModel", "isIdentity", "()Z"⟩, 21) := ⟨⟨by decide +kernel, by decide +kernel⟩, List.mem_of_getElem? (i := 746) (by decide +kernel), List.mem_of_getElem? (i := 1094) (by decide +kernel), List.mem_of_getElem? (i := 1095) (by decide +kernel)⟩
theorem lw_p69 : lw_okq (⟨"FiredChipsModel", "stableHeaps", "()I"⟩, 21) := ⟨⟨by decide +kernel, by decide +kernel⟩, List.mem_of_getElem? (i := 746) (by decide +kernel), List.mem_of_getElem? (i := 1102) (by decide +kernel), List.mem_of_getElem? (i := 1103) (by decide +kernel)⟩
theorem lw_p70 : lw_okq (⟨"FiredChipsModel", "reduces", "(I)V"⟩, 21) := ⟨⟨by decide +kernel, by decide +kernel⟩, List.mem_of_getElem? (i := 746) (by decide +kernel), List.mem_of_getElem? (i := 1110) (by decide +kernel), List.mem_of_getElem? (i := 1111) (by decide +kernel)⟩
theorem lw_p71 : lw_okq (⟨"FiredChipsModel", "laysLift", "(I)V"⟩, 21) := ⟨⟨by decide +kernel, by decide +kernel⟩, List.mem_of_getElem? (i := 746) (by decide +kernel), List.mem_of_getElem? (i := 1114) (by decide +kernel), List.mem_of_getElem? (i := 1115) (by decide +kernel)⟩
theorem lw_p72 : lw_okq (⟨"FiredChipsModel", "unburnt", "(I)I"⟩, 21) := ⟨⟨by decide +kernel, by decide +kernel⟩, List.mem_of_getElem? (i := 746) (by decide +kernel), List.mem_of_getElem? (i := 1118) (by decide +kernel), List.mem_of_getElem? (i := 1119) (by decide +kernel)⟩
theorem lw_p73 : lw_okq (⟨"FiredChipsModel", "isWon", "()Z"⟩, 21) := ⟨⟨by decide +kernel, by decide +kernel⟩, List.mem_of_getElem? (i := 746) (by decide +kernel), List.mem_of_getElem? (i := 1126) (by decide +kernel), List.mem_of_getElem? (i := 1127) (by decide +kernel)⟩
theorem lw_p74 : lw_okq (⟨"FiredChipsModel", "degree", "()I"⟩, 21) := ⟨⟨by decide +kernel, by decide +kernel⟩, List.mem_of_getElem? (i := 746) (by decide +kernel), List.mem_of_getElem? (i := 1134) (by decide +kernel), List.mem_of_getElem? (i := 1135) (by decide +kernel)⟩
theorem lw_p75 : lw_okq (⟨"FiredChipsModel", "dualDegree", "()I"⟩, 21) := ⟨⟨by decide +kernel, by decide +kernel⟩, List.mem_of_getElem? (i := 746) (by decide +kernel), List.mem_of_getElem? (i := 1138) (by decide +kernel), List.mem_of_getElem? (i := 1139) (by decide +kernel)⟩
theorem lw_p76 : lw_okq (⟨"FiredChipsModel", "rankNow", "(I)I"⟩, 21) := ⟨⟨by decide +kernel, by decide +kernel⟩, List.mem_of_getElem? (i := 746) (by decide +kernel), List.mem_of_getElem? (i := 1142) (by decide +kernel), List.mem_of_getElem? (i := 1143) (by decide +kernel)⟩
theorem lw_p77 : lw_okq (⟨"FiredChipsModel", "rankOf", "(Z)I"⟩, 21) := ⟨⟨by decide +kernel, by decide +kernel⟩, List.mem_of_getElem? (i := 746) (by decide +kernel), List.mem_of_getElem? (i := 1146) (by decide +kernel), List.mem_of_getElem? (i := 1147) (by decide +kernel)⟩
theorem lw_p78 : lw_okq (⟨"FiredChipsModel", "isWonAnyhow", "(I)Z"⟩, 21) := ⟨⟨by decide +kernel, by decide +kernel⟩, List.mem_of_getElem? (i := 746) (by decide +kernel), List.mem_of_getElem? (i := 1150) (by decide +kernel), List.mem_of_getElem? (i := 1151) (by decide +kernel)⟩
theorem lw_p79 : lw_okq (⟨"FiredChipsModel", "isWonWithout", "()Z"⟩, 21) := ⟨⟨by decide +kernel, by decide +kernel⟩, List.mem_of_getElem? (i := 746) (by decide +kernel), List.mem_of_getElem? (i := 1154) (by decide +kernel), List.mem_of_getElem? (i := 1155) (by decide +kernel)⟩
def lw_privs_5 : List (MethodName × Nat) := [(⟨"FiredChipsModel", "uneven", "(I)I"⟩, 21), (⟨"FiredChipsModel", "laysIdentity", "()V"⟩, 21), (⟨"FiredChipsModel", "laysRecurrent", "()V"⟩, 21), (⟨"FiredChipsModel", "orderNow", "()I"⟩, 21), (⟨"FiredChipsModel", "isIdentity", "()Z"⟩, 21), (⟨"FiredChipsModel", "stableHeaps", "()I"⟩, 21), (⟨"FiredChipsModel", "reduces", "(I)V"⟩, 21), (⟨"FiredChipsModel", "laysLift", "(I)V"⟩, 21), (⟨"FiredChipsModel", "unburnt", "(I)I"⟩, 21), (⟨"FiredChipsModel", "isWon", "()Z"⟩, 21), (⟨"FiredChipsModel", "degree", "()I"⟩, 21), (⟨"FiredChipsModel", "dualDegree", "()I"⟩, 21), (⟨"FiredChipsModel", "rankNow", "(I)I"⟩, 21), (⟨"FiredChipsModel", "rankOf", "(Z)I"⟩, 21), (⟨"FiredChipsModel", "isWonAnyhow", "(I)Z"⟩, 21), (⟨"FiredChipsModel", "isWonWithout", "()Z"⟩, 21)]
theorem lw_r5 : ∀ q ∈ lw_privs_5, lw_okq q := List.forall_mem_cons.mpr ⟨lw_p64, List.forall_mem_cons.mpr ⟨lw_p65, List.forall_mem_cons.mpr ⟨lw_p66, List.forall_mem_cons.mpr ⟨lw_p67, List.forall_mem_cons.mpr ⟨lw_p68, List.forall_mem_cons.mpr ⟨lw_p69, List.forall_mem_cons.mpr ⟨lw_p70, List.forall_mem_cons.mpr ⟨lw_p71, List.forall_mem_cons.mpr ⟨lw_p72, List.forall_mem_cons.mpr ⟨lw_p73, List.forall_mem_cons.mpr ⟨lw_p74, List.forall_mem_cons.mpr ⟨lw_p75, List.forall_mem_cons.mpr ⟨lw_p76, List.forall_mem_cons.mpr ⟨lw_p77, List.forall_mem_cons.mpr ⟨lw_p78, List.forall_mem_cons.mpr ⟨lw_p79, fun _ h => absurd h List.not_mem_nil⟩⟩⟩⟩⟩⟩⟩⟩⟩⟩⟩⟩⟩⟩⟩⟩
theorem lw_p80 : lw_okq (⟨"FiredChipsModel", "next", "(I)Z"⟩, 21) := ⟨⟨by decide +kernel, by decide +kernel⟩, List.mem_of_getElem? (i := 746) (by decide +kernel), List.mem_of_getElem? (i := 1158) (by decide +kernel), List.mem_of_getElem? (i := 1159) (by decide +kernel)⟩
theorem lw_p81 : lw_okq (⟨"FiredChipsModel", "isLike", "(I)Z"⟩, 21) := ⟨⟨by decide +kernel, by decide +kernel⟩, List.mem_of_getElem? (i := 746) (by decide +kernel), List.mem_of_getElem? (i := 1170) (by decide +kernel), List.mem_of_getElem? (i := 1171) (by decide +kernel)⟩
theorem lw_p82 : lw_okq (⟨"FiredChipsModel", "keptMany", "(I)I"⟩, 21) := ⟨⟨by decide +kernel, by decide +kernel⟩, List.mem_of_getElem? (i := 746) (by decide +kernel), List.mem_of_getElem? (i := 1174) (by decide +kernel), List.mem_of_getElem? (i := 1175) (by decide +kernel)⟩
theorem lw_p83 : lw_okq (⟨"FiredChipsModel", "isEqual", "(I)Z"⟩, 21) := ⟨⟨by decide +kernel, by decide +kernel⟩, List.mem_of_getElem? (i := 746) (by decide +kernel), List.mem_of_getElem? (i := 1178) (by decide +kernel), List.mem_of_getElem? (i := 1179) (by decide +kernel)⟩
theorem lw_p84 : lw_okq (⟨"FiredChipsModel", "kept", "(II)I"⟩, 21) := ⟨⟨by decide +kernel, by decide +kernel⟩, List.mem_of_getElem? (i := 746) (by decide +kernel), List.mem_of_getElem? (i := 1182) (by decide +kernel), List.mem_of_getElem? (i := 1183) (by decide +kernel)⟩
theorem lw_p85 : lw_okq (⟨"FiredChipsModel", "wayNow", "(II)I"⟩, 21) := ⟨⟨by decide +kernel, by decide +kernel⟩, List.mem_of_getElem? (i := 746) (by decide +kernel), List.mem_of_getElem? (i := 1190) (by decide +kernel), List.mem_of_getElem? (i := 1191) (by decide +kernel)⟩
theorem lw_p86 : lw_okq (⟨"FiredChipsModel", "readsOrder", "(Z)Z"⟩, 21) := ⟨⟨by decide +kernel, by decide +kernel⟩, List.mem_of_getElem? (i := 746) (by decide +kernel), List.mem_of_getElem? (i := 1208) (by decide +kernel), List.mem_of_getElem? (i := 1209) (by decide +kernel)⟩
theorem lw_p87 : lw_okq (⟨"FiredChipsModel", "here", "()I"⟩, 21) := ⟨⟨by decide +kernel, by decide +kernel⟩, List.mem_of_getElem? (i := 746) (by decide +kernel), List.mem_of_getElem? (i := 1212) (by decide +kernel), List.mem_of_getElem? (i := 1213) (by decide +kernel)⟩
theorem lw_p88 : lw_okq (⟨"FiredChipsModel", "takesNumbers", "(I)Z"⟩, 21) := ⟨⟨by decide +kernel, by decide +kernel⟩, List.mem_of_getElem? (i := 746) (by decide +kernel), List.mem_of_getElem? (i := 1216) (by decide +kernel), List.mem_of_getElem? (i := 1217) (by decide +kernel)⟩
theorem lw_p89 : lw_okq (⟨"FiredChipsModel", "takesPoints", "()Z"⟩, 21) := ⟨⟨by decide +kernel, by decide +kernel⟩, List.mem_of_getElem? (i := 746) (by decide +kernel), List.mem_of_getElem? (i := 1220) (by decide +kernel), List.mem_of_getElem? (i := 1221) (by decide +kernel)⟩
theorem lw_p90 : lw_okq (⟨"FiredChipsModel", "takes", "(Z)Z"⟩, 21) := ⟨⟨by decide +kernel, by decide +kernel⟩, List.mem_of_getElem? (i := 746) (by decide +kernel), List.mem_of_getElem? (i := 1224) (by decide +kernel), List.mem_of_getElem? (i := 1225) (by decide +kernel)⟩
theorem lw_p91 : lw_okq (⟨"FiredChipsModel", "isFigure", "(I)Z"⟩, 21) := ⟨⟨by decide +kernel, by decide +kernel⟩, List.mem_of_getElem? (i := 746) (by decide +kernel), List.mem_of_getElem? (i := 1228) (by decide +kernel), List.mem_of_getElem? (i := 1229) (by decide +kernel)⟩
theorem lw_p92 : lw_okq (⟨"FiredChipsModel", "takesAll", "(II)Z"⟩, 21) := ⟨⟨by decide +kernel, by decide +kernel⟩, List.mem_of_getElem? (i := 746) (by decide +kernel), List.mem_of_getElem? (i := 1234) (by decide +kernel), List.mem_of_getElem? (i := 1235) (by decide +kernel)⟩
theorem lw_p93 : lw_okq (⟨"FiredChipsModel", "can", "(I)I"⟩, 21) := ⟨⟨by decide +kernel, by decide +kernel⟩, List.mem_of_getElem? (i := 746) (by decide +kernel), List.mem_of_getElem? (i := 1238) (by decide +kernel), List.mem_of_getElem? (i := 1239) (by decide +kernel)⟩
theorem lw_p94 : lw_okq (⟨"FiredChipsModel", "does", "(I)I"⟩, 21) := ⟨⟨by decide +kernel, by decide +kernel⟩, List.mem_of_getElem? (i := 746) (by decide +kernel), List.mem_of_getElem? (i := 1242) (by decide +kernel), List.mem_of_getElem? (i := 1243) (by decide +kernel)⟩
theorem lw_p95 : lw_okq (⟨"FiredChipsModel", "keepsAside", "()V"⟩, 21) := ⟨⟨by decide +kernel, by decide +kernel⟩, List.mem_of_getElem? (i := 746) (by decide +kernel), List.mem_of_getElem? (i := 1246) (by decide +kernel), List.mem_of_getElem? (i := 1247) (by decide +kernel)⟩
def lw_privs_6 : List (MethodName × Nat) := [(⟨"FiredChipsModel", "next", "(I)Z"⟩, 21), (⟨"FiredChipsModel", "isLike", "(I)Z"⟩, 21), (⟨"FiredChipsModel", "keptMany", "(I)I"⟩, 21), (⟨"FiredChipsModel", "isEqual", "(I)Z"⟩, 21), (⟨"FiredChipsModel", "kept", "(II)I"⟩, 21), (⟨"FiredChipsModel", "wayNow", "(II)I"⟩, 21), (⟨"FiredChipsModel", "readsOrder", "(Z)Z"⟩, 21), (⟨"FiredChipsModel", "here", "()I"⟩, 21), (⟨"FiredChipsModel", "takesNumbers", "(I)Z"⟩, 21), (⟨"FiredChipsModel", "takesPoints", "()Z"⟩, 21), (⟨"FiredChipsModel", "takes", "(Z)Z"⟩, 21), (⟨"FiredChipsModel", "isFigure", "(I)Z"⟩, 21), (⟨"FiredChipsModel", "takesAll", "(II)Z"⟩, 21), (⟨"FiredChipsModel", "can", "(I)I"⟩, 21), (⟨"FiredChipsModel", "does", "(I)I"⟩, 21), (⟨"FiredChipsModel", "keepsAside", "()V"⟩, 21)]
theorem lw_r6 : ∀ q ∈ lw_privs_6, lw_okq q := List.forall_mem_cons.mpr ⟨lw_p80, List.forall_mem_cons.mpr ⟨lw_p81, List.forall_mem_cons.mpr ⟨lw_p82, List.forall_mem_cons.mpr ⟨lw_p83, List.forall_mem_cons.mpr ⟨lw_p84, List.forall_mem_cons.mpr ⟨lw_p85, List.forall_mem_cons.mpr ⟨lw_p86, List.forall_mem_cons.mpr ⟨lw_p87, List.forall_mem_cons.mpr ⟨lw_p88, List.forall_mem_cons.mpr ⟨lw_p89, List.forall_mem_cons.mpr ⟨lw_p90, List.forall_mem_cons.mpr ⟨lw_p91, List.forall_mem_cons.mpr ⟨lw_p92, List.forall_mem_cons.mpr ⟨lw_p93, List.forall_mem_cons.mpr ⟨lw_p94, List.forall_mem_cons.mpr ⟨lw_p95, fun _ h => absurd h List.not_mem_nil⟩⟩⟩⟩⟩⟩⟩⟩⟩⟩⟩⟩⟩⟩⟩⟩
theorem lw_p96 : lw_okq (⟨"FiredChipsModel", "toldOf", "(I)I"⟩, 21) := ⟨⟨by decide +kernel, by decide +kernel⟩, List.mem_of_getElem? (i := 746) (by decide +kernel), List.mem_of_getElem? (i := 1259) (by decide +kernel), List.mem_of_getElem? (i := 1260) (by decide +kernel)⟩
theorem lw_p97 : lw_okq (⟨"FiredChipsModel", "keptSet", "()I"⟩, 21) := ⟨⟨by decide +kernel, by decide +kernel⟩, List.mem_of_getElem? (i := 746) (by decide +kernel), List.mem_of_getElem? (i := 1263) (by decide +kernel), List.mem_of_getElem? (i := 1264) (by decide +kernel)⟩
def lw_privs_7 : List (MethodName × Nat) := [(⟨"FiredChipsModel", "toldOf", "(I)I"⟩, 21), (⟨"FiredChipsModel", "keptSet", "()I"⟩, 21)]
theorem lw_r7 : ∀ q ∈ lw_privs_7, lw_okq q := List.forall_mem_cons.mpr ⟨lw_p96, List.forall_mem_cons.mpr ⟨lw_p97, fun _ h => absurd h List.not_mem_nil⟩⟩
def lw_privs : List (MethodName × Nat) := lw_privs_1 ++ (lw_privs_2 ++ (lw_privs_3 ++ (lw_privs_4 ++ (lw_privs_5 ++ (lw_privs_6 ++ (lw_privs_7))))))
def lw_tbl : List Cond := k2_sels lw_privs ++ tables_1
theorem lw_privs_ok : ∀ q ∈ lw_privs, lw_okq q := by
  show ∀ q ∈ lw_privs_1 ++ (lw_privs_2 ++ (lw_privs_3 ++ (lw_privs_4 ++ (lw_privs_5 ++ (lw_privs_6 ++ (lw_privs_7)))))), lw_okq q
  exact List.forall_mem_append.mpr ⟨lw_r1, List.forall_mem_append.mpr ⟨lw_r2, List.forall_mem_append.mpr ⟨lw_r3, List.forall_mem_append.mpr ⟨lw_r4, List.forall_mem_append.mpr ⟨lw_r5, List.forall_mem_append.mpr ⟨lw_r6, lw_r7⟩⟩⟩⟩⟩⟩
-- ===== end of PART A; then your names; then what follows =====
def RX0 : String := "FiredChips$Acts"
def TX0 : u_T := fun k => match k with
  | 0 => ("FiredChips$Acts", "now", "LFiredChips$Position;", true)
  | 1 => ("FiredChips$Acts", "grounded", "LFiredChips$Grounded;", true)
  | 2 => ("FiredChips$Acts", "planned", "[I", true)
  | _ => ("FiredChips$Acts", "plannedFired", "[I", true)
def tyX0 : Nat → FieldType := fun k => match k with
  | 0 => .object "FiredChips$Position"
  | 1 => .object "FiredChips$Grounded"
  | 2 => .array .int
  | _ => .array .int
abbrev wsX00 : List Cond := u_ws RX0 TX0 4
theorem nmX0 : ∀ a, a < 4 → ∀ b, b < 4 → a ≠ b → (TX0 a).2.1 ≠ (TX0 b).2.1 := by decide +kernel
theorem tyX0_ok : ∀ k, k < 4 → parseFieldDescriptor (TX0 k).2.2.1 = some (tyX0 k) := by decide +kernel
abbrev cX0_init : ByteArray := prog_2_method_1_code
def yX0_init : MethodName := ⟨RX0, "<init>", "()V"⟩
abbrev cX0_startAnew : ByteArray := prog_2_method_2_code
def yX0_startAnew : MethodName := ⟨RX0, "startAnew", "(I)I"⟩
abbrev cX0_layLines : ByteArray := prog_2_method_3_code
def yX0_layLines : MethodName := ⟨RX0, "layLines", "(III)I"⟩
abbrev cX0_addChips : ByteArray := prog_2_method_4_code
def yX0_addChips : MethodName := ⟨RX0, "addChips", "(II)I"⟩
abbrev cX0_firePoint : ByteArray := prog_2_method_5_code
def yX0_firePoint : MethodName := ⟨RX0, "firePoint", "(II)I"⟩
abbrev cX0_fireSet : ByteArray := prog_2_method_6_code
def yX0_fireSet : MethodName := ⟨RX0, "fireSet", "(II)I"⟩
abbrev cX0_settleHeap : ByteArray := prog_2_method_7_code
def yX0_settleHeap : MethodName := ⟨RX0, "settleHeap", "()I"⟩
abbrev cX0_takePlanned : ByteArray := prog_2_method_8_code
def yX0_takePlanned : MethodName := ⟨RX0, "takePlanned", "()I"⟩
def RX1 : String := "FiredChips$Grounded"
def TX1 : u_T := fun k => match k with
  | 0 => ("FiredChips$Grounded", "matrix", "[[I", true)
  | 1 => ("FiredChips$Grounded", "cofactors", "[[J", true)
  | 2 => ("FiredChips$Grounded", "solved", "[J", true)
  | 3 => ("FiredChips$Grounded", "heap", "[I", true)
  | 4 => ("FiredChips$Grounded", "neutral", "[I", true)
  | 5 => ("FiredChips$Grounded", "ignored", "[I", true)
  | 6 => ("FiredChips$Grounded", "count", "I", false)
  | 7 => ("FiredChips$Grounded", "sink", "I", false)
  | _ => ("FiredChips$Grounded", "determinant", "J", false)
def tyX1 : Nat → FieldType := fun k => match k with
  | 0 => .array (.array .int)
  | 1 => .array (.array .long)
  | 2 => .array .long
  | 3 => .array .int
  | 4 => .array .int
  | 5 => .array .int
  | 6 => .int
  | 7 => .int
  | _ => .long
abbrev wsX10 : List Cond := u_ws RX1 TX1 9
theorem nmX1 : ∀ a, a < 9 → ∀ b, b < 9 → a ≠ b → (TX1 a).2.1 ≠ (TX1 b).2.1 := by decide +kernel
theorem tyX1_ok : ∀ k, k < 9 → parseFieldDescriptor (TX1 k).2.2.1 = some (tyX1 k) := by decide +kernel
abbrev cX1_init : ByteArray := prog_3_method_1_code
def yX1_init : MethodName := ⟨RX1, "<init>", "()V"⟩
abbrev cX1_take : ByteArray := prog_3_method_2_code
def yX1_take : MethodName := ⟨RX1, "take", "(LFiredChips$Position;I)V"⟩
abbrev cX1_takeWhole : ByteArray := prog_3_method_3_code
def yX1_takeWhole : MethodName := ⟨RX1, "takeWhole", "(LFiredChips$Position;I)V"⟩
abbrev cX1_othersThanSink : ByteArray := prog_3_method_4_code
def yX1_othersThanSink : MethodName := ⟨RX1, "othersThanSink", "()I"⟩
abbrev cX1_placeOf : ByteArray := prog_3_method_5_code
def yX1_placeOf : MethodName := ⟨RX1, "placeOf", "(I)I"⟩
abbrev cX1_treeCount : ByteArray := prog_3_method_6_code
def yX1_treeCount : MethodName := ⟨RX1, "treeCount", "()J"⟩
abbrev cX1_minor : ByteArray := prog_3_method_7_code
def yX1_minor : MethodName := ⟨RX1, "minor", "(III)J"⟩
abbrev cX1_commonDivisor : ByteArray := prog_3_method_8_code
def yX1_commonDivisor : MethodName := ⟨RX1, "commonDivisor", "(I)J"⟩
abbrev cX1_greatestDivisor : ByteArray := prog_3_method_9_code
def yX1_greatestDivisor : MethodName := ⟨RX1, "greatestDivisor", "(JJ)J"⟩
abbrev cX1_fire : ByteArray := prog_3_method_10_code
def yX1_fire : MethodName := ⟨RX1, "fire", "([III)V"⟩
abbrev cX1_settle : ByteArray := prog_3_method_11_code
def yX1_settle : MethodName := ⟨RX1, "settle", "([I[I)V"⟩
abbrev cX1_findNeutral : ByteArray := prog_3_method_12_code
def yX1_findNeutral : MethodName := ⟨RX1, "findNeutral", "()V"⟩
abbrev cX1_solve : ByteArray := prog_3_method_13_code
def yX1_solve : MethodName := ⟨RX1, "solve", "([I)V"⟩
abbrev cX1_makeRecurrent : ByteArray := prog_3_method_14_code
def yX1_makeRecurrent : MethodName := ⟨RX1, "makeRecurrent", "([I)V"⟩
abbrev cX1_complement : ByteArray := prog_3_method_15_code
def yX1_complement : MethodName := ⟨RX1, "complement", "([I[I)V"⟩
abbrev cX1_makeRecurrentComplement : ByteArray := prog_3_method_16_code
def yX1_makeRecurrentComplement : MethodName := ⟨RX1, "makeRecurrentComplement", "([I[I)V"⟩
abbrev cX1_sinkChipsOfComplement : ByteArray := prog_3_method_17_code
def yX1_sinkChipsOfComplement : MethodName := ⟨RX1, "sinkChipsOfComplement", "([I)I"⟩
abbrev cX1_reduce : ByteArray := prog_3_method_18_code
def yX1_reduce : MethodName := ⟨RX1, "reduce", "([I)V"⟩
abbrev cX1_leastMultiple : ByteArray := prog_3_method_19_code
def yX1_leastMultiple : MethodName := ⟨RX1, "leastMultiple", "([I)J"⟩
abbrev cX1_findWay : ByteArray := prog_3_method_20_code
def yX1_findWay : MethodName := ⟨RX1, "findWay", "([I[I)Z"⟩
abbrev cX1_wayOf : ByteArray := prog_3_method_21_code
def yX1_wayOf : MethodName := ⟨RX1, "wayOf", "(I)I"⟩
def RX2 : String := "FiredChips$History"
def TX2 : u_T := fun k => match k with
  | 0 => ("FiredChips$History", "states", "[LFiredChips$Position;", true)
  | 1 => ("FiredChips$History", "newest", "I", false)
  | _ => ("FiredChips$History", "size", "I", false)
def tyX2 : Nat → FieldType := fun k => match k with
  | 0 => .array (.object "FiredChips$Position")
  | 1 => .int
  | _ => .int
abbrev wsX20 : List Cond := u_ws RX2 TX2 3
theorem nmX2 : ∀ a, a < 3 → ∀ b, b < 3 → a ≠ b → (TX2 a).2.1 ≠ (TX2 b).2.1 := by decide +kernel
theorem tyX2_ok : ∀ k, k < 3 → parseFieldDescriptor (TX2 k).2.2.1 = some (tyX2 k) := by decide +kernel
abbrev cX2_init : ByteArray := prog_4_method_1_code
def yX2_init : MethodName := ⟨RX2, "<init>", "()V"⟩
abbrev cX2_held : ByteArray := prog_4_method_2_code
def yX2_held : MethodName := ⟨RX2, "held", "()LFiredChips$Position;"⟩
abbrev cX2_hold : ByteArray := prog_4_method_3_code
def yX2_hold : MethodName := ⟨RX2, "hold", "(LFiredChips$Position;)V"⟩
abbrev cX2_keepHeld : ByteArray := prog_4_method_4_code
def yX2_keepHeld : MethodName := ⟨RX2, "keepHeld", "()V"⟩
abbrev cX2_takeNewest : ByteArray := prog_4_method_5_code
def yX2_takeNewest : MethodName := ⟨RX2, "takeNewest", "(LFiredChips$Position;)V"⟩
def RX3 : String := "FiredChips$Position"
def TX3 : u_T := fun k => match k with
  | 0 => ("FiredChips$Position", "count", "I", false)
  | 1 => ("FiredChips$Position", "between", "[[I", true)
  | 2 => ("FiredChips$Position", "chips", "[I", true)
  | 3 => ("FiredChips$Position", "fired", "[I", true)
  | 4 => ("FiredChips$Position", "keptCount", "[I", true)
  | _ => ("FiredChips$Position", "kept", "[[I", true)
def tyX3 : Nat → FieldType := fun k => match k with
  | 0 => .int
  | 1 => .array (.array .int)
  | 2 => .array .int
  | 3 => .array .int
  | 4 => .array .int
  | _ => .array (.array .int)
abbrev wsX30 : List Cond := u_ws RX3 TX3 6
theorem nmX3 : ∀ a, a < 6 → ∀ b, b < 6 → a ≠ b → (TX3 a).2.1 ≠ (TX3 b).2.1 := by decide +kernel
theorem tyX3_ok : ∀ k, k < 6 → parseFieldDescriptor (TX3 k).2.2.1 = some (tyX3 k) := by decide +kernel
abbrev cX3_init : ByteArray := prog_5_method_1_code
def yX3_init : MethodName := ⟨RX3, "<init>", "()V"⟩
abbrev cX3_copyFrom : ByteArray := prog_5_method_2_code
def yX3_copyFrom : MethodName := ⟨RX3, "copyFrom", "(LFiredChips$Position;)V"⟩
abbrev cX3_empty : ByteArray := prog_5_method_3_code
def yX3_empty : MethodName := ⟨RX3, "empty", "(I)V"⟩
abbrev cX3_draw : ByteArray := prog_5_method_4_code
def yX3_draw : MethodName := ⟨RX3, "draw", "(I)V"⟩
abbrev cX3_drawnAfter : ByteArray := prog_5_method_5_code
def yX3_drawnAfter : MethodName := ⟨RX3, "drawnAfter", "(J)J"⟩
abbrev cX3_putLines : ByteArray := prog_5_method_6_code
def yX3_putLines : MethodName := ⟨RX3, "putLines", "(III)V"⟩
abbrev cX3_keepChips : ByteArray := prog_5_method_7_code
def yX3_keepChips : MethodName := ⟨RX3, "keepChips", "(I)V"⟩
abbrev cX3_keptBits : ByteArray := prog_5_method_8_code
def yX3_keptBits : MethodName := ⟨RX3, "keptBits", "()I"⟩
abbrev cX3_hasPoint : ByteArray := prog_5_method_9_code
def yX3_hasPoint : MethodName := ⟨RX3, "hasPoint", "(I)Z"⟩
abbrev cX3_allPoints : ByteArray := prog_5_method_10_code
def yX3_allPoints : MethodName := ⟨RX3, "allPoints", "()I"⟩
abbrev cX3_linesBetween : ByteArray := prog_5_method_11_code
def yX3_linesBetween : MethodName := ⟨RX3, "linesBetween", "(II)I"⟩
abbrev cX3_linesInto : ByteArray := prog_5_method_12_code
def yX3_linesInto : MethodName := ⟨RX3, "linesInto", "(II)I"⟩
abbrev cX3_valence : ByteArray := prog_5_method_13_code
def yX3_valence : MethodName := ⟨RX3, "valence", "(I)I"⟩
abbrev cX3_lineCount : ByteArray := prog_5_method_14_code
def yX3_lineCount : MethodName := ⟨RX3, "lineCount", "()I"⟩
abbrev cX3_genus : ByteArray := prog_5_method_15_code
def yX3_genus : MethodName := ⟨RX3, "genus", "()I"⟩
abbrev cX3_isJoined : ByteArray := prog_5_method_16_code
def yX3_isJoined : MethodName := ⟨RX3, "isJoined", "()Z"⟩
abbrev cX3_isHeap : ByteArray := prog_5_method_17_code
def yX3_isHeap : MethodName := ⟨RX3, "isHeap", "()Z"⟩
abbrev cX3_isFullAt : ByteArray := prog_5_method_18_code
def yX3_isFullAt : MethodName := ⟨RX3, "isFullAt", "(I)Z"⟩
abbrev cX3_isStableHeap : ByteArray := prog_5_method_19_code
def yX3_isStableHeap : MethodName := ⟨RX3, "isStableHeap", "()Z"⟩
abbrev cX3_nextToBurn : ByteArray := prog_5_method_20_code
def yX3_nextToBurn : MethodName := ⟨RX3, "nextToBurn", "(I)I"⟩
abbrev cX3_stableHeapCount : ByteArray := prog_5_method_21_code
def yX3_stableHeapCount : MethodName := ⟨RX3, "stableHeapCount", "()I"⟩
abbrev cX3_firedInAll : ByteArray := prog_5_method_22_code
def yX3_firedInAll : MethodName := ⟨RX3, "firedInAll", "()I"⟩
abbrev cX3_chipsUnlike : ByteArray := prog_5_method_23_code
def yX3_chipsUnlike : MethodName := ⟨RX3, "chipsUnlike", "(LFiredChips$Position;)I"⟩
abbrev cX3_writeDual : ByteArray := prog_5_method_24_code
def yX3_writeDual : MethodName := ⟨RX3, "writeDual", "([I)V"⟩
def RX4 : String := "FiredChips$RankSearch"
def TX4 : u_T := fun k => match k with
  | 0 => ("FiredChips$RankSearch", "rests", "[[I", true)
  | 1 => ("FiredChips$RankSearch", "ignored", "[I", true)
  | _ => ("FiredChips$RankSearch", "least", "I", false)
def tyX4 : Nat → FieldType := fun k => match k with
  | 0 => .array (.array .int)
  | 1 => .array .int
  | _ => .int
abbrev wsX40 : List Cond := u_ws RX4 TX4 3
theorem nmX4 : ∀ a, a < 3 → ∀ b, b < 3 → a ≠ b → (TX4 a).2.1 ≠ (TX4 b).2.1 := by decide +kernel
theorem tyX4_ok : ∀ k, k < 3 → parseFieldDescriptor (TX4 k).2.2.1 = some (tyX4 k) := by decide +kernel
abbrev cX4_init : ByteArray := prog_6_method_1_code
def yX4_init : MethodName := ⟨RX4, "<init>", "()V"⟩
abbrev cX4_rankOf : ByteArray := prog_6_method_2_code
def yX4_rankOf : MethodName := ⟨RX4, "rankOf", "(LFiredChips$Grounded;[II)I"⟩
abbrev cX4_takeOff : ByteArray := prog_6_method_3_code
def yX4_takeOff : MethodName := ⟨RX4, "takeOff", "(LFiredChips$Grounded;II)V"⟩
def RX5 : String := "FiredChips$Text"
def TX5 : u_T := fun k => match k with
  | 0 => ("FiredChips$Text", "bytes", "[I", true)
  | 1 => ("FiredChips$Text", "length", "I", false)
  | 2 => ("FiredChips$Text", "items", "[I", true)
  | 3 => ("FiredChips$Text", "itemCount", "I", false)
  | 4 => ("FiredChips$Text", "itemsDone", "I", false)
  | 5 => ("FiredChips$Text", "orderCount", "I", false)
  | 6 => ("FiredChips$Text", "at", "I", false)
  | 7 => ("FiredChips$Text", "fault", "I", false)
  | _ => ("FiredChips$Text", "pointsThen", "I", false)
def tyX5 : Nat → FieldType := fun k => match k with
  | 0 => .array .int
  | 1 => .int
  | 2 => .array .int
  | 3 => .int
  | 4 => .int
  | 5 => .int
  | 6 => .int
  | 7 => .int
  | _ => .int
abbrev wsX50 : List Cond := u_ws RX5 TX5 9
theorem nmX5 : ∀ a, a < 9 → ∀ b, b < 9 → a ≠ b → (TX5 a).2.1 ≠ (TX5 b).2.1 := by decide +kernel
theorem tyX5_ok : ∀ k, k < 9 → parseFieldDescriptor (TX5 k).2.2.1 = some (tyX5 k) := by decide +kernel
abbrev cX5_init : ByteArray := prog_7_method_1_code
def yX5_init : MethodName := ⟨RX5, "<init>", "()V"⟩
abbrev cX5_append : ByteArray := prog_7_method_2_code
def yX5_append : MethodName := ⟨RX5, "append", "(I)V"⟩
abbrev cX5_parse : ByteArray := prog_7_method_3_code
def yX5_parse : MethodName := ⟨RX5, "parse", "(I)I"⟩
abbrev cX5_rewind : ByteArray := prog_7_method_4_code
def yX5_rewind : MethodName := ⟨RX5, "rewind", "()V"⟩
abbrev cX5_nextItem : ByteArray := prog_7_method_5_code
def yX5_nextItem : MethodName := ⟨RX5, "nextItem", "()I"⟩
abbrev cX5_parseOrder : ByteArray := prog_7_method_6_code
def yX5_parseOrder : MethodName := ⟨RX5, "parseOrder", "()V"⟩
abbrev cX5_endOrder : ByteArray := prog_7_method_7_code
def yX5_endOrder : MethodName := ⟨RX5, "endOrder", "()V"⟩
abbrev cX5_takePoints : ByteArray := prog_7_method_8_code
def yX5_takePoints : MethodName := ⟨RX5, "takePoints", "(II)V"⟩
abbrev cX5_numbersOf : ByteArray := prog_7_method_9_code
def yX5_numbersOf : MethodName := ⟨RX5, "numbersOf", "(I)I"⟩
abbrev cX5_parseNumber : ByteArray := prog_7_method_10_code
def yX5_parseNumber : MethodName := ⟨RX5, "parseNumber", "(Z)I"⟩
abbrev cX5_addItem : ByteArray := prog_7_method_11_code
def yX5_addItem : MethodName := ⟨RX5, "addItem", "(I)V"⟩
abbrev cX5_byteHere : ByteArray := prog_7_method_12_code
def yX5_byteHere : MethodName := ⟨RX5, "byteHere", "()I"⟩
abbrev cX5_isFigureHere : ByteArray := prog_7_method_13_code
def yX5_isFigureHere : MethodName := ⟨RX5, "isFigureHere", "()Z"⟩
abbrev cX5_skipBlanks : ByteArray := prog_7_method_14_code
def yX5_skipBlanks : MethodName := ⟨RX5, "skipBlanks", "()V"⟩
def RX6 : String := "FiredChips"
def TX6 : u_T := fun k => match k with
  | 0 => ("FiredChips", "refusals", "[I", true)
  | 1 => ("FiredChips", "acts", "LFiredChips$Acts;", true)
  | 2 => ("FiredChips", "now", "LFiredChips$Position;", true)
  | 3 => ("FiredChips", "grounded", "LFiredChips$Grounded;", true)
  | 4 => ("FiredChips", "history", "LFiredChips$History;", true)
  | 5 => ("FiredChips", "rankSearch", "LFiredChips$RankSearch;", true)
  | 6 => ("FiredChips", "text", "LFiredChips$Text;", true)
  | _ => ("FiredChips", "row", "[I", true)
def tyX6 : Nat → FieldType := fun k => match k with
  | 0 => .array .int
  | 1 => .object "FiredChips$Acts"
  | 2 => .object "FiredChips$Position"
  | 3 => .object "FiredChips$Grounded"
  | 4 => .object "FiredChips$History"
  | 5 => .object "FiredChips$RankSearch"
  | 6 => .object "FiredChips$Text"
  | _ => .array .int
abbrev wsX60 : List Cond := u_ws RX6 TX6 8
theorem nmX6 : ∀ a, a < 8 → ∀ b, b < 8 → a ≠ b → (TX6 a).2.1 ≠ (TX6 b).2.1 := by decide +kernel
theorem tyX6_ok : ∀ k, k < 8 → parseFieldDescriptor (TX6 k).2.2.1 = some (tyX6 k) := by decide +kernel
abbrev cX6_init : ByteArray := prog_1_method_1_code
def yX6_init : MethodName := ⟨RX6, "<init>", "()V"⟩
abbrev cX6_points : ByteArray := prog_1_method_2_code
def yX6_points : MethodName := ⟨RX6, "points", "(I)I"⟩
abbrev cX6_lines : ByteArray := prog_1_method_3_code
def yX6_lines : MethodName := ⟨RX6, "lines", "(III)I"⟩
abbrev cX6_draws : ByteArray := prog_1_method_4_code
def yX6_draws : MethodName := ⟨RX6, "draws", "(I)I"⟩
abbrev cX6_net : ByteArray := prog_1_method_5_code
def yX6_net : MethodName := ⟨RX6, "net", "(II)I"⟩
abbrev cX6_joined : ByteArray := prog_1_method_6_code
def yX6_joined : MethodName := ⟨RX6, "joined", "()I"⟩
abbrev cX6_sets : ByteArray := prog_1_method_7_code
def yX6_sets : MethodName := ⟨RX6, "sets", "(II)I"⟩
abbrev cX6_adds : ByteArray := prog_1_method_8_code
def yX6_adds : MethodName := ⟨RX6, "adds", "(II)I"⟩
abbrev cX6_fires : ByteArray := prog_1_method_9_code
def yX6_fires : MethodName := ⟨RX6, "fires", "(I)I"⟩
abbrev cX6_borrows : ByteArray := prog_1_method_10_code
def yX6_borrows : MethodName := ⟨RX6, "borrows", "(I)I"⟩
abbrev cX6_together : ByteArray := prog_1_method_11_code
def yX6_together : MethodName := ⟨RX6, "together", "(I)I"⟩
abbrev cX6_settles : ByteArray := prog_1_method_12_code
def yX6_settles : MethodName := ⟨RX6, "settles", "()I"⟩
abbrev cX6_script : ByteArray := prog_1_method_13_code
def yX6_script : MethodName := ⟨RX6, "script", "(I)I"⟩
abbrev cX6_of : ByteArray := prog_1_method_14_code
def yX6_of : MethodName := ⟨RX6, "of", "(II)I"⟩
abbrev cX6_stable : ByteArray := prog_1_method_15_code
def yX6_stable : MethodName := ⟨RX6, "stable", "()I"⟩
abbrev cX6_burns : ByteArray := prog_1_method_16_code
def yX6_burns : MethodName := ⟨RX6, "burns", "(I)I"⟩
abbrev cX6_trees : ByteArray := prog_1_method_17_code
def yX6_trees : MethodName := ⟨RX6, "trees", "()I"⟩
abbrev cX6_parts : ByteArray := prog_1_method_18_code
def yX6_parts : MethodName := ⟨RX6, "parts", "(I)I"⟩
abbrev cX6_identity : ByteArray := prog_1_method_19_code
def yX6_identity : MethodName := ⟨RX6, "identity", "(I)I"⟩
abbrev cX6_recurrent : ByteArray := prog_1_method_20_code
def yX6_recurrent : MethodName := ⟨RX6, "recurrent", "(I)I"⟩
abbrev cX6_order : ByteArray := prog_1_method_21_code
def yX6_order : MethodName := ⟨RX6, "order", "()I"⟩
abbrev cX6_heaps : ByteArray := prog_1_method_22_code
def yX6_heaps : MethodName := ⟨RX6, "heaps", "(I)I"⟩
abbrev cX6_rank : ByteArray := prog_1_method_23_code
def yX6_rank : MethodName := ⟨RX6, "rank", "(I)I"⟩
abbrev cX6_reduced : ByteArray := prog_1_method_24_code
def yX6_reduced : MethodName := ⟨RX6, "reduced", "(II)I"⟩
abbrev cX6_won : ByteArray := prog_1_method_25_code
def yX6_won : MethodName := ⟨RX6, "won", "()I"⟩
abbrev cX6_keeps : ByteArray := prog_1_method_26_code
def yX6_keeps : MethodName := ⟨RX6, "keeps", "(I)I"⟩
abbrev cX6_equal : ByteArray := prog_1_method_27_code
def yX6_equal : MethodName := ⟨RX6, "equal", "(I)I"⟩
abbrev cX6_way : ByteArray := prog_1_method_28_code
def yX6_way : MethodName := ⟨RX6, "way", "(II)I"⟩
abbrev cX6_type : ByteArray := prog_1_method_29_code
def yX6_type : MethodName := ⟨RX6, "type", "(I)I"⟩
abbrev cX6_clear : ByteArray := prog_1_method_30_code
def yX6_clear : MethodName := ⟨RX6, "clear", "()I"⟩
abbrev cX6_reads : ByteArray := prog_1_method_31_code
def yX6_reads : MethodName := ⟨RX6, "reads", "()I"⟩
abbrev cX6_back : ByteArray := prog_1_method_32_code
def yX6_back : MethodName := ⟨RX6, "back", "()I"⟩
abbrev cX6_told : ByteArray := prog_1_method_33_code
def yX6_told : MethodName := ⟨RX6, "told", "(I)I"⟩
abbrev cX6_digest : ByteArray := prog_1_method_34_code
def yX6_digest : MethodName := ⟨RX6, "digest", "()J"⟩
abbrev cX6_refuse : ByteArray := prog_1_method_35_code
def yX6_refuse : MethodName := ⟨RX6, "refuse", "(I)I"⟩
abbrev cX6_ended : ByteArray := prog_1_method_36_code
def yX6_ended : MethodName := ⟨RX6, "ended", "(II)I"⟩
abbrev cX6_reduceChipsAt : ByteArray := prog_1_method_37_code
def yX6_reduceChipsAt : MethodName := ⟨RX6, "reduceChipsAt", "(I)V"⟩
abbrev cX6_canCompareWith : ByteArray := prog_1_method_38_code
def yX6_canCompareWith : MethodName := ⟨RX6, "canCompareWith", "(I)Z"⟩
abbrev cX6_findWay : ByteArray := prog_1_method_39_code
def yX6_findWay : MethodName := ⟨RX6, "findWay", "(I)Z"⟩
abbrev cX6_doOrders : ByteArray := prog_1_method_40_code
def yX6_doOrders : MethodName := ⟨RX6, "doOrders", "()I"⟩
abbrev cX6_doOrder : ByteArray := prog_1_method_41_code
def yX6_doOrder : MethodName := ⟨RX6, "doOrder", "()I"⟩
abbrev cX6_isKeptNumber : ByteArray := prog_1_method_42_code
def yX6_isKeptNumber : MethodName := ⟨RX6, "isKeptNumber", "(I)Z"⟩
abbrev cX6_bit : ByteArray := prog_1_method_43_code
def yX6_bit : MethodName := ⟨RX6, "bit", "(Z)I"⟩
abbrev cX6_copyRow : ByteArray := prog_1_method_44_code
def yX6_copyRow : MethodName := ⟨RX6, "copyRow", "([I[I)V"⟩
abbrev cX6_degreeOf : ByteArray := prog_1_method_45_code
def yX6_degreeOf : MethodName := ⟨RX6, "degreeOf", "([II)I"⟩
def RX7 : String := "FiredChipsModel"
def TX7 : u_T := fun k => match k with
  | 0 => ("FiredChipsModel", "all", "[I", true)
  | 1 => ("FiredChipsModel", "past", "[I", true)
  | 2 => ("FiredChipsModel", "aside", "[I", true)
  | 3 => ("FiredChipsModel", "states", "I", false)
  | 4 => ("FiredChipsModel", "refused", "[I", true)
  | 5 => ("FiredChipsModel", "heap", "[J", true)
  | 6 => ("FiredChipsModel", "fired", "[J", true)
  | 7 => ("FiredChipsModel", "table", "[J", true)
  | 8 => ("FiredChipsModel", "identity", "[J", true)
  | 9 => ("FiredChipsModel", "recurrent", "[J", true)
  | 10 => ("FiredChipsModel", "lift", "[J", true)
  | 11 => ("FiredChipsModel", "asked", "[J", true)
  | 12 => ("FiredChipsModel", "off", "[I", true)
  | 13 => ("FiredChipsModel", "other", "[J", true)
  | 14 => ("FiredChipsModel", "text", "[I", true)
  | 15 => ("FiredChipsModel", "textLong", "I", false)
  | 16 => ("FiredChipsModel", "place", "I", false)
  | 17 => ("FiredChipsModel", "value", "I", false)
  | 18 => ("FiredChipsModel", "numbers", "[I", true)
  | 19 => ("FiredChipsModel", "pointsThere", "I", false)
  | _ => ("FiredChipsModel", "not", "I", false)
def tyX7 : Nat → FieldType := fun k => match k with
  | 0 => .array .int
  | 1 => .array .int
  | 2 => .array .int
  | 3 => .int
  | 4 => .array .int
  | 5 => .array .long
  | 6 => .array .long
  | 7 => .array .long
  | 8 => .array .long
  | 9 => .array .long
  | 10 => .array .long
  | 11 => .array .long
  | 12 => .array .int
  | 13 => .array .long
  | 14 => .array .int
  | 15 => .int
  | 16 => .int
  | 17 => .int
  | 18 => .array .int
  | 19 => .int
  | _ => .int
abbrev wsX70 : List Cond := u_ws RX7 TX7 21
theorem nmX7 : ∀ a, a < 21 → ∀ b, b < 21 → a ≠ b → (TX7 a).2.1 ≠ (TX7 b).2.1 := by decide +kernel
theorem tyX7_ok : ∀ k, k < 21 → parseFieldDescriptor (TX7 k).2.2.1 = some (tyX7 k) := by decide +kernel
abbrev cX7_init : ByteArray := prog_9_method_1_code
def yX7_init : MethodName := ⟨RX7, "<init>", "()V"⟩
abbrev cX7_in : ByteArray := prog_9_method_3_code
def yX7_in : MethodName := ⟨RX7, "in", "(JJJ)Z"⟩
abbrev cX7_refuses : ByteArray := prog_9_method_4_code
def yX7_refuses : MethodName := ⟨RX7, "refuses", "(I)I"⟩
abbrev cX7_keep : ByteArray := prog_9_method_5_code
def yX7_keep : MethodName := ⟨RX7, "keep", "()V"⟩
abbrev cX7_many : ByteArray := prog_9_method_6_code
def yX7_many : MethodName := ⟨RX7, "many", "()I"⟩
abbrev cX7_isPoint : ByteArray := prog_9_method_7_code
def yX7_isPoint : MethodName := ⟨RX7, "isPoint", "(I)Z"⟩
abbrev cX7_linesOf : ByteArray := prog_9_method_8_code
def yX7_linesOf : MethodName := ⟨RX7, "linesOf", "(II)I"⟩
abbrev cX7_valence : ByteArray := prog_9_method_9_code
def yX7_valence : MethodName := ⟨RX7, "valence", "(I)I"⟩
abbrev cX7_allLines : ByteArray := prog_9_method_10_code
def yX7_allLines : MethodName := ⟨RX7, "allLines", "()I"⟩
abbrev cX7_isJoined : ByteArray := prog_9_method_11_code
def yX7_isJoined : MethodName := ⟨RX7, "isJoined", "()Z"⟩
abbrev cX7_pointsNow : ByteArray := prog_9_method_12_code
def yX7_pointsNow : MethodName := ⟨RX7, "pointsNow", "(I)I"⟩
abbrev cX7_points : ByteArray := prog_9_method_13_code
def yX7_points : MethodName := ⟨RX7, "points", "(I)I"⟩
abbrev cX7_areLines : ByteArray := prog_9_method_14_code
def yX7_areLines : MethodName := ⟨RX7, "areLines", "(III)Z"⟩
abbrev cX7_linesNow : ByteArray := prog_9_method_15_code
def yX7_linesNow : MethodName := ⟨RX7, "linesNow", "(III)I"⟩
abbrev cX7_lines : ByteArray := prog_9_method_16_code
def yX7_lines : MethodName := ⟨RX7, "lines", "(III)I"⟩
abbrev cX7_draws : ByteArray := prog_9_method_17_code
def yX7_draws : MethodName := ⟨RX7, "draws", "(I)I"⟩
abbrev cX7_net : ByteArray := prog_9_method_18_code
def yX7_net : MethodName := ⟨RX7, "net", "(II)I"⟩
abbrev cX7_joined : ByteArray := prog_9_method_19_code
def yX7_joined : MethodName := ⟨RX7, "joined", "()I"⟩
abbrev cX7_chips : ByteArray := prog_9_method_20_code
def yX7_chips : MethodName := ⟨RX7, "chips", "(I)I"⟩
abbrev cX7_sets : ByteArray := prog_9_method_21_code
def yX7_sets : MethodName := ⟨RX7, "sets", "(II)I"⟩
abbrev cX7_isRoom : ByteArray := prog_9_method_22_code
def yX7_isRoom : MethodName := ⟨RX7, "isRoom", "(I)Z"⟩
abbrev cX7_canAdd : ByteArray := prog_9_method_23_code
def yX7_canAdd : MethodName := ⟨RX7, "canAdd", "(II)I"⟩
abbrev cX7_addNow : ByteArray := prog_9_method_24_code
def yX7_addNow : MethodName := ⟨RX7, "addNow", "(II)I"⟩
abbrev cX7_adds : ByteArray := prog_9_method_25_code
def yX7_adds : MethodName := ⟨RX7, "adds", "(II)I"⟩
abbrev cX7_more : ByteArray := prog_9_method_26_code
def yX7_more : MethodName := ⟨RX7, "more", "(III)I"⟩
abbrev cX7_canFire : ByteArray := prog_9_method_27_code
def yX7_canFire : MethodName := ⟨RX7, "canFire", "(II)I"⟩
abbrev cX7_fireNow : ByteArray := prog_9_method_28_code
def yX7_fireNow : MethodName := ⟨RX7, "fireNow", "(II)I"⟩
abbrev cX7_canFireOne : ByteArray := prog_9_method_29_code
def yX7_canFireOne : MethodName := ⟨RX7, "canFireOne", "(II)I"⟩
abbrev cX7_one : ByteArray := prog_9_method_30_code
def yX7_one : MethodName := ⟨RX7, "one", "(II)I"⟩
abbrev cX7_fires : ByteArray := prog_9_method_31_code
def yX7_fires : MethodName := ⟨RX7, "fires", "(I)I"⟩
abbrev cX7_borrows : ByteArray := prog_9_method_32_code
def yX7_borrows : MethodName := ⟨RX7, "borrows", "(I)I"⟩
abbrev cX7_together : ByteArray := prog_9_method_33_code
def yX7_together : MethodName := ⟨RX7, "together", "(I)I"⟩
abbrev cX7_settlesAt : ByteArray := prog_9_method_34_code
def yX7_settlesAt : MethodName := ⟨RX7, "settlesAt", "(I)V"⟩
abbrev cX7_laysChips : ByteArray := prog_9_method_35_code
def yX7_laysChips : MethodName := ⟨RX7, "laysChips", "()V"⟩
abbrev cX7_isHeap : ByteArray := prog_9_method_36_code
def yX7_isHeap : MethodName := ⟨RX7, "isHeap", "()Z"⟩
abbrev cX7_canSettle : ByteArray := prog_9_method_37_code
def yX7_canSettle : MethodName := ⟨RX7, "canSettle", "()I"⟩
abbrev cX7_settleNow : ByteArray := prog_9_method_38_code
def yX7_settleNow : MethodName := ⟨RX7, "settleNow", "()I"⟩
abbrev cX7_settles : ByteArray := prog_9_method_39_code
def yX7_settles : MethodName := ⟨RX7, "settles", "()I"⟩
abbrev cX7_script : ByteArray := prog_9_method_40_code
def yX7_script : MethodName := ⟨RX7, "script", "(I)I"⟩
abbrev cX7_isFull : ByteArray := prog_9_method_41_code
def yX7_isFull : MethodName := ⟨RX7, "isFull", "(I)Z"⟩
abbrev cX7_ofNow : ByteArray := prog_9_method_42_code
def yX7_ofNow : MethodName := ⟨RX7, "ofNow", "(II)I"⟩
abbrev cX7_of : ByteArray := prog_9_method_43_code
def yX7_of : MethodName := ⟨RX7, "of", "(II)I"⟩
abbrev cX7_isStable : ByteArray := prog_9_method_44_code
def yX7_isStable : MethodName := ⟨RX7, "isStable", "()Z"⟩
abbrev cX7_stable : ByteArray := prog_9_method_45_code
def yX7_stable : MethodName := ⟨RX7, "stable", "()I"⟩
abbrev cX7_linesTo : ByteArray := prog_9_method_46_code
def yX7_linesTo : MethodName := ⟨RX7, "linesTo", "(II)I"⟩
abbrev cX7_burnsNow : ByteArray := prog_9_method_47_code
def yX7_burnsNow : MethodName := ⟨RX7, "burnsNow", "(I)I"⟩
abbrev cX7_burns : ByteArray := prog_9_method_48_code
def yX7_burns : MethodName := ⟨RX7, "burns", "(I)I"⟩
abbrev cX7_side : ByteArray := prog_9_method_49_code
def yX7_side : MethodName := ⟨RX7, "side", "()I"⟩
abbrev cX7_laysTable : ByteArray := prog_9_method_50_code
def yX7_laysTable : MethodName := ⟨RX7, "laysTable", "()V"⟩
abbrev cX7_exchangesRows : ByteArray := prog_9_method_51_code
def yX7_exchangesRows : MethodName := ⟨RX7, "exchangesRows", "(II)V"⟩
abbrev cX7_exchangesColumns : ByteArray := prog_9_method_52_code
def yX7_exchangesColumns : MethodName := ⟨RX7, "exchangesColumns", "(II)V"⟩
abbrev cX7_pivotRow : ByteArray := prog_9_method_53_code
def yX7_pivotRow : MethodName := ⟨RX7, "pivotRow", "(I)I"⟩
abbrev cX7_determinant : ByteArray := prog_9_method_54_code
def yX7_determinant : MethodName := ⟨RX7, "determinant", "()J"⟩
abbrev cX7_treesNow : ByteArray := prog_9_method_55_code
def yX7_treesNow : MethodName := ⟨RX7, "treesNow", "()I"⟩
abbrev cX7_trees : ByteArray := prog_9_method_56_code
def yX7_trees : MethodName := ⟨RX7, "trees", "()I"⟩
abbrev cX7_abs : ByteArray := prog_9_method_57_code
def yX7_abs : MethodName := ⟨RX7, "abs", "(J)J"⟩
abbrev cX7_takesLeast : ByteArray := prog_9_method_58_code
def yX7_takesLeast : MethodName := ⟨RX7, "takesLeast", "(I)V"⟩
abbrev cX7_clears : ByteArray := prog_9_method_59_code
def yX7_clears : MethodName := ⟨RX7, "clears", "(I)Z"⟩
abbrev cX7_uneven : ByteArray := prog_9_method_60_code
def yX7_uneven : MethodName := ⟨RX7, "uneven", "(I)I"⟩
abbrev cX7_laysParts : ByteArray := prog_9_method_61_code
def yX7_laysParts : MethodName := ⟨RX7, "laysParts", "()V"⟩
abbrev cX7_partsNow : ByteArray := prog_9_method_62_code
def yX7_partsNow : MethodName := ⟨RX7, "partsNow", "(I)I"⟩
abbrev cX7_parts : ByteArray := prog_9_method_63_code
def yX7_parts : MethodName := ⟨RX7, "parts", "(I)I"⟩
abbrev cX7_laysIdentity : ByteArray := prog_9_method_64_code
def yX7_laysIdentity : MethodName := ⟨RX7, "laysIdentity", "()V"⟩
abbrev cX7_identity : ByteArray := prog_9_method_65_code
def yX7_identity : MethodName := ⟨RX7, "identity", "(I)I"⟩
abbrev cX7_laysRecurrent : ByteArray := prog_9_method_66_code
def yX7_laysRecurrent : MethodName := ⟨RX7, "laysRecurrent", "()V"⟩
abbrev cX7_recurrent : ByteArray := prog_9_method_67_code
def yX7_recurrent : MethodName := ⟨RX7, "recurrent", "(I)I"⟩
abbrev cX7_isIdentity : ByteArray := prog_9_method_68_code
def yX7_isIdentity : MethodName := ⟨RX7, "isIdentity", "()Z"⟩
abbrev cX7_orderNow : ByteArray := prog_9_method_69_code
def yX7_orderNow : MethodName := ⟨RX7, "orderNow", "()I"⟩
abbrev cX7_order : ByteArray := prog_9_method_70_code
def yX7_order : MethodName := ⟨RX7, "order", "()I"⟩
abbrev cX7_stableHeaps : ByteArray := prog_9_method_71_code
def yX7_stableHeaps : MethodName := ⟨RX7, "stableHeaps", "()I"⟩
abbrev cX7_heaps : ByteArray := prog_9_method_72_code
def yX7_heaps : MethodName := ⟨RX7, "heaps", "(I)I"⟩
abbrev cX7_laysLift : ByteArray := prog_9_method_73_code
def yX7_laysLift : MethodName := ⟨RX7, "laysLift", "(I)V"⟩
abbrev cX7_unburnt : ByteArray := prog_9_method_74_code
def yX7_unburnt : MethodName := ⟨RX7, "unburnt", "(I)I"⟩
abbrev cX7_reduces : ByteArray := prog_9_method_75_code
def yX7_reduces : MethodName := ⟨RX7, "reduces", "(I)V"⟩
abbrev cX7_reduced : ByteArray := prog_9_method_76_code
def yX7_reduced : MethodName := ⟨RX7, "reduced", "(II)I"⟩
abbrev cX7_isWon : ByteArray := prog_9_method_77_code
def yX7_isWon : MethodName := ⟨RX7, "isWon", "()Z"⟩
abbrev cX7_won : ByteArray := prog_9_method_78_code
def yX7_won : MethodName := ⟨RX7, "won", "()I"⟩
abbrev cX7_degree : ByteArray := prog_9_method_79_code
def yX7_degree : MethodName := ⟨RX7, "degree", "()I"⟩
abbrev cX7_dualDegree : ByteArray := prog_9_method_80_code
def yX7_dualDegree : MethodName := ⟨RX7, "dualDegree", "()I"⟩
abbrev cX7_isWonWithout : ByteArray := prog_9_method_81_code
def yX7_isWonWithout : MethodName := ⟨RX7, "isWonWithout", "()Z"⟩
abbrev cX7_next : ByteArray := prog_9_method_82_code
def yX7_next : MethodName := ⟨RX7, "next", "(I)Z"⟩
abbrev cX7_isWonAnyhow : ByteArray := prog_9_method_83_code
def yX7_isWonAnyhow : MethodName := ⟨RX7, "isWonAnyhow", "(I)Z"⟩
abbrev cX7_rankOf : ByteArray := prog_9_method_84_code
def yX7_rankOf : MethodName := ⟨RX7, "rankOf", "(Z)I"⟩
abbrev cX7_rankNow : ByteArray := prog_9_method_85_code
def yX7_rankNow : MethodName := ⟨RX7, "rankNow", "(I)I"⟩
abbrev cX7_rank : ByteArray := prog_9_method_86_code
def yX7_rank : MethodName := ⟨RX7, "rank", "(I)I"⟩
abbrev cX7_kept : ByteArray := prog_9_method_87_code
def yX7_kept : MethodName := ⟨RX7, "kept", "(II)I"⟩
abbrev cX7_keptMany : ByteArray := prog_9_method_88_code
def yX7_keptMany : MethodName := ⟨RX7, "keptMany", "(I)I"⟩
abbrev cX7_keeps : ByteArray := prog_9_method_89_code
def yX7_keeps : MethodName := ⟨RX7, "keeps", "(I)I"⟩
abbrev cX7_isLike : ByteArray := prog_9_method_90_code
def yX7_isLike : MethodName := ⟨RX7, "isLike", "(I)Z"⟩
abbrev cX7_isEqual : ByteArray := prog_9_method_91_code
def yX7_isEqual : MethodName := ⟨RX7, "isEqual", "(I)Z"⟩
abbrev cX7_equal : ByteArray := prog_9_method_92_code
def yX7_equal : MethodName := ⟨RX7, "equal", "(I)I"⟩
abbrev cX7_wayNow : ByteArray := prog_9_method_93_code
def yX7_wayNow : MethodName := ⟨RX7, "wayNow", "(II)I"⟩
abbrev cX7_way : ByteArray := prog_9_method_94_code
def yX7_way : MethodName := ⟨RX7, "way", "(II)I"⟩
abbrev cX7_type : ByteArray := prog_9_method_95_code
def yX7_type : MethodName := ⟨RX7, "type", "(I)I"⟩
abbrev cX7_clear : ByteArray := prog_9_method_96_code
def yX7_clear : MethodName := ⟨RX7, "clear", "()I"⟩
abbrev cX7_here : ByteArray := prog_9_method_97_code
def yX7_here : MethodName := ⟨RX7, "here", "()I"⟩
abbrev cX7_isFigure : ByteArray := prog_9_method_98_code
def yX7_isFigure : MethodName := ⟨RX7, "isFigure", "(I)Z"⟩
abbrev cX7_takes : ByteArray := prog_9_method_99_code
def yX7_takes : MethodName := ⟨RX7, "takes", "(Z)Z"⟩
abbrev cX7_takesAll : ByteArray := prog_9_method_100_code
def yX7_takesAll : MethodName := ⟨RX7, "takesAll", "(II)Z"⟩
abbrev cX7_takesPoints : ByteArray := prog_9_method_101_code
def yX7_takesPoints : MethodName := ⟨RX7, "takesPoints", "()Z"⟩
abbrev cX7_takesNumbers : ByteArray := prog_9_method_102_code
def yX7_takesNumbers : MethodName := ⟨RX7, "takesNumbers", "(I)Z"⟩
abbrev cX7_can : ByteArray := prog_9_method_103_code
def yX7_can : MethodName := ⟨RX7, "can", "(I)I"⟩
abbrev cX7_does : ByteArray := prog_9_method_104_code
def yX7_does : MethodName := ⟨RX7, "does", "(I)I"⟩
abbrev cX7_readsOrder : ByteArray := prog_9_method_105_code
def yX7_readsOrder : MethodName := ⟨RX7, "readsOrder", "(Z)Z"⟩
abbrev cX7_reads : ByteArray := prog_9_method_106_code
def yX7_reads : MethodName := ⟨RX7, "reads", "()I"⟩
abbrev cX7_keepsAside : ByteArray := prog_9_method_107_code
def yX7_keepsAside : MethodName := ⟨RX7, "keepsAside", "()V"⟩
abbrev cX7_back : ByteArray := prog_9_method_108_code
def yX7_back : MethodName := ⟨RX7, "back", "()I"⟩
abbrev cX7_keptSet : ByteArray := prog_9_method_109_code
def yX7_keptSet : MethodName := ⟨RX7, "keptSet", "()I"⟩
abbrev cX7_toldOf : ByteArray := prog_9_method_110_code
def yX7_toldOf : MethodName := ⟨RX7, "toldOf", "(I)I"⟩
abbrev cX7_told : ByteArray := prog_9_method_111_code
def yX7_told : MethodName := ⟨RX7, "told", "(I)I"⟩
abbrev cX7_digest : ByteArray := prog_9_method_112_code
def yX7_digest : MethodName := ⟨RX7, "digest", "()J"⟩
def RJ6 : String := "java/lang/Integer"
def TJ6 : u_T := fun k => match k with
  | _ => ("", "", "", false)
def tyJ6 : Nat → FieldType := fun k => match k with
  | _ => .int
abbrev wsJ60 : List Cond := u_ws RJ6 TJ6 0
theorem nmJ6 : ∀ a, a < 0 → ∀ b, b < 0 → a ≠ b → (TJ6 a).2.1 ≠ (TJ6 b).2.1 := by decide +kernel
theorem tyJ6_ok : ∀ k, k < 0 → parseFieldDescriptor (TJ6 k).2.2.1 = some (tyJ6 k) := by decide +kernel
abbrev cJ6_bitCount_0f7a4 : ByteArray := prog_10_method_49_code
def yJ6_bitCount_0f7a4 : MethodName := ⟨RJ6, "bitCount", "(I)I"⟩
def RJ9 : String := "java/lang/Math"
def TJ9 : u_T := fun k => match k with
  | _ => ("", "", "", false)
def tyJ9 : Nat → FieldType := fun k => match k with
  | _ => .int
abbrev wsJ90 : List Cond := u_ws RJ9 TJ9 0
theorem nmJ9 : ∀ a, a < 0 → ∀ b, b < 0 → a ≠ b → (TJ9 a).2.1 ≠ (TJ9 b).2.1 := by decide +kernel
theorem tyJ9_ok : ∀ k, k < 0 → parseFieldDescriptor (TJ9 k).2.2.1 = some (tyJ9 k) := by decide +kernel
abbrev cJ9_floorDiv_f86c9 : ByteArray := prog_11_method_49_code
def yJ9_floorDiv_f86c9 : MethodName := ⟨RJ9, "floorDiv", "(JJ)J"⟩
abbrev cJ9_abs_0f7a4 : ByteArray := prog_11_method_59_code
def yJ9_abs_0f7a4 : MethodName := ⟨RJ9, "abs", "(I)I"⟩
abbrev cJ9_abs_067f4 : ByteArray := prog_11_method_61_code
def yJ9_abs_067f4 : MethodName := ⟨RJ9, "abs", "(J)J"⟩
abbrev cJ9_max_7cf53 : ByteArray := prog_11_method_65_code
def yJ9_max_7cf53 : MethodName := ⟨RJ9, "max", "(II)I"⟩
abbrev cJ9_min_7cf53 : ByteArray := prog_11_method_69_code
def yJ9_min_7cf53 : MethodName := ⟨RJ9, "min", "(II)I"⟩
def RJ10 : String := "java/lang/System"
def TJ10 : u_T := fun k => match k with
  | _ => ("", "", "", false)
def tyJ10 : Nat → FieldType := fun k => match k with
  | _ => .int
abbrev wsJ100 : List Cond := u_ws RJ10 TJ10 0
theorem nmJ10 : ∀ a, a < 0 → ∀ b, b < 0 → a ≠ b → (TJ10 a).2.1 ≠ (TJ10 b).2.1 := by decide +kernel
theorem tyJ10_ok : ∀ k, k < 0 → parseFieldDescriptor (TJ10 k).2.2.1 = some (tyJ10 k) := by decide +kernel
def RJ7 : String := "java/util/Arrays"
def TJ7 : u_T := fun k => match k with
  | _ => ("", "", "", false)
def tyJ7 : Nat → FieldType := fun k => match k with
  | _ => .int
abbrev wsJ70 : List Cond := u_ws RJ7 TJ7 0
theorem nmJ7 : ∀ a, a < 0 → ∀ b, b < 0 → a ≠ b → (TJ7 a).2.1 ≠ (TJ7 b).2.1 := by decide +kernel
theorem tyJ7_ok : ∀ k, k < 0 → parseFieldDescriptor (TJ7 k).2.2.1 = some (tyJ7 k) := by decide +kernel
abbrev cJ7_fill_53178 : ByteArray := prog_13_method_103_code
def yJ7_fill_53178 : MethodName := ⟨RJ7, "fill", "([II)V"⟩
def RL : String := "FiredChipsLaw"
abbrev cL_law : ByteArray := code
def yL_law : MethodName := ⟨RL, "law", "([I)Z"⟩
end
section
/-- the words of the tables that hold at every later state too -/
def fc_gw (w : Cond) : Bool := goodWord w || match w with
  | .fieldLinkNest _ _ _ _ _ _ => true
  | .methodLinkNest _ _ _ _ => true
  | .arrayOver (.object _) => true
  | .arrayOver (.array _) => true
  | _ => false
def fc_tbl : List Cond := lw_tbl.filter fc_gw
theorem fc_mem {i : Nat} {w : Cond} (h : tables_1[i]? = some w) (hg : fc_gw w = true) : w ∈ fc_tbl := List.mem_filter.mpr ⟨List.mem_append_right _ (List.mem_of_getElem? h), hg⟩
theorem fc_memS {i : Nat} {w : Cond} (h : (k2_sels lw_privs)[i]? = some w) (hg : fc_gw w = true) : w ∈ fc_tbl := List.mem_filter.mpr ⟨List.mem_append_left _ (List.mem_of_getElem? h), hg⟩
/-! MY OWN LAYER: a world of numbered cells with whole numbers (Int) in them, over the kit's W. A value: a number as an int, a number as a long, a cell's number, null. -/
abbrev fc_AV : Type := Int ⊕ Int ⊕ Option Nat
abbrev vI (z : Int) : fc_AV := Sum.inl z
abbrev vL (z : Int) : fc_AV := Sum.inr (Sum.inl z)
abbrev vR (i : Nat) : fc_AV := Sum.inr (Sum.inr (some i))
abbrev vN : fc_AV := Sum.inr (Sum.inr none)
def fc_v (b : Nat) : fc_AV → Value
  | .inl z => .int (Int32.ofInt z)
  | .inr (.inl z) => .long (Int64.ofInt z)
  | .inr (.inr (some i)) => .ref (b + i)
  | .inr (.inr none) => .null
def fc_cat : fc_AV → Nat
  | .inl _ => 1
  | .inr (.inl _) => 2
  | .inr (.inr _) => 1
theorem fc_v_cat (b : Nat) (v : fc_AV) : (fc_v b v).category = fc_cat v := by
  rcases v with z | z | o
  · rfl
  · rfl
  · cases o <;> rfl
/-- a cell: an array (kind, length, contents), or an object (its class's number, its fields). Kinds: 0 int, 1 long, 2 int[], 3 long[], 4 Position -/
abbrev fc_AC : Type := (Nat × Nat × ((Int → Int) ⊕ (Int → Option Nat))) ⊕ (Nat × List fc_AV)
abbrev cI (n : Nat) (f : Int → Int) : fc_AC := Sum.inl (0, n, Sum.inl f)
abbrev cJ (n : Nat) (f : Int → Int) : fc_AC := Sum.inl (1, n, Sum.inl f)
abbrev cP (k n : Nat) (g : Int → Option Nat) : fc_AC := Sum.inl (k, n, Sum.inr g)
abbrev cO (c : Nat) (fs : List fc_AV) : fc_AC := Sum.inr (c, fs)
abbrev fc_cl : List vw_C := [(RX0, TX0, 4), (RX1, TX1, 9), (RX2, TX2, 3), (RX3, TX3, 6), (RX4, TX4, 3), (RX5, TX5, 9), (RX6, TX6, 8), (RX7, TX7, 21)]
abbrev fc_tys (cy : Nat → ClassId) : List (ClassId × FieldType) := [(cy 0, .int), (cy 1, .long), (cy 2, .array .int), (cy 3, .array .long), (cy 4, .object RX3)]
def fc_K (D : va_G) (cy : Nat → ClassId) (U : State) : Prop := va_K D fc_cl (fc_tys cy) U
theorem fc_K.moved {D : va_G} {cy : Nat → ClassId} {u U : State} (hvm : u.vm.Alike U.vm) (h : fc_K D cy u) : fc_K D cy U := va_K.moved hvm h
def fc_cell (D : va_G) (cy : Nat → ClassId) (b i : Nat) (x : fc_AC) (H : Heap) : Prop := match x with
  | .inl (k, n, .inl f) => match k with
    | 0 => H[b + i]? = some (arrV (cy 0) n (fun j => .int (Int32.ofInt (f j))))
    | _ => H[b + i]? = some (arrV (cy 1) n (fun j => .long (Int64.ofInt (f j))))
  | .inl (k, n, .inr g) => H[b + i]? = some (arrV (cy k) n (fun j => va_rf ((g j).map (fun a => b + a))))
  | .inr (c, fs) => ∃ r : vw_C, fc_cl[c]? = some r ∧ t_OB (b + i) (D.1 c) r.2.2 (D.2 c) H (vp_V (fs.map (fc_v b)))
theorem fc_cell.kept {D : va_G} {cy : Nat → ClassId} {b i : Nat} {x : fc_AC} {H H1 : Heap} (h : fc_cell D cy b i x H) (hq : H1[b + i]? = H[b + i]?) : fc_cell D cy b i x H1 := by
  rcases x with ⟨k, n, f | g⟩ | ⟨c, fs⟩
  · cases k with
    | zero => exact hq.trans h
    | succ k => exact hq.trans h
  · exact hq.trans h
  · obtain ⟨r, h1, h2⟩ := h
    exact ⟨r, h1, h2.kept hq⟩
def fc_HR (D : va_G) (cy : Nat → ClassId) (B : Heap) (n : Nat) (h : Nat → fc_AC) (H : Heap) : Prop :=
  H.size = B.size + n ∧ (∀ q : Nat, q < B.size → H[q]? = B[q]?) ∧ ∀ i : Nat, i < n → fc_cell D cy B.size i (h i) H
def fc_up (h : Nat → fc_AC) (i : Nat) (x : fc_AC) : Nat → fc_AC := fun j => if j = i then x else h j
theorem fc_up_s (h : Nat → fc_AC) (i : Nat) (x : fc_AC) : fc_up h i x i = x := if_pos rfl
theorem fc_up_n (h : Nat → fc_AC) {i j : Nat} (x : fc_AC) (hj : j ≠ i) : fc_up h i x j = h j := if_neg hj
/-- one cell written -/
theorem fc_HR.put {D : va_G} {cy : Nat → ClassId} {B : Heap} {n : Nat} {h : Nat → fc_AC} {H H1 : Heap} (hH : fc_HR D cy B n h H) {i : Nat} {x : fc_AC} (hx : fc_cell D cy B.size i x H1) (hz : H1.size = H.size) (ho : ∀ q : Nat, q ≠ B.size + i → H1[q]? = H[q]?) : fc_HR D cy B n (fc_up h i x) H1 := by
  refine ⟨hz.trans hH.1, fun q hq => (ho q (by omega)).trans (hH.2.1 q hq), fun j hj => ?_⟩
  by_cases e : j = i
  · subst e
    rw [fc_up_s]
    exact hx
  · rw [fc_up_n _ _ e]
    exact (hH.2.2 j hj).kept (ho _ (by omega))
/-- one cell more -/
theorem fc_HR.push {D : va_G} {cy : Nat → ClassId} {B : Heap} {n : Nat} {h : Nat → fc_AC} {H H1 : Heap} (hH : fc_HR D cy B n h H) {x : fc_AC} (hx : fc_cell D cy B.size n x H1) (hz : H1.size = H.size + 1) (ho : ∀ q : Nat, q < H.size → H1[q]? = H[q]?) : fc_HR D cy B (n + 1) (fc_up h n x) H1 := by
  have h0 := hH.1
  refine ⟨by omega, fun q hq => (ho q (by omega)).trans (hH.2.1 q hq), fun j hj => ?_⟩
  by_cases e : j = n
  · subst e
    rw [fc_up_s]
    exact hx
  · rw [fc_up_n _ _ e]
    exact (hH.2.2 j (by omega)).kept (ho _ (by omega))
/-- two cells are as good as one another -/
def fc_ceq (x y : fc_AC) : Prop := match x, y with
  | .inl (k, n, .inl f), .inl (k', n', .inl f') => k = k' ∧ n = n' ∧ ∀ j : Nat, j < n → f j = f' j
  | .inl (k, n, .inr f), .inl (k', n', .inr f') => k = k' ∧ n = n' ∧ ∀ j : Nat, j < n → f j = f' j
  | x, y => x = y
theorem arrV_congr {c : ClassId} {n : Nat} {f g : Nat → Value} (h : ∀ j : Nat, j < n → f j = g j) : arrV c n f = arrV c n g := by
  unfold arrV
  congr 1
  apply Array.ext
  · simp
  · intro i h1 h2
    simp at h1 ⊢
    exact h i h1
theorem fc_ceq.cell {D : va_G} {cy : Nat → ClassId} {b i : Nat} {x y : fc_AC} {H : Heap} (e : fc_ceq x y) (h : fc_cell D cy b i x H) : fc_cell D cy b i y H := by
  rcases x with ⟨k, n, f | g⟩ | ⟨c, fs⟩ <;> rcases y with ⟨k', n', f' | g'⟩ | ⟨c', fs'⟩
  · obtain ⟨rfl, rfl, e3⟩ := e
    cases k with
    | zero => exact Eq.trans h (congrArg some (arrV_congr fun j hj => by rw [e3 j hj]))
    | succ k => exact Eq.trans h (congrArg some (arrV_congr fun j hj => by rw [e3 j hj]))
  · cases e
  · cases e
  · cases e
  · obtain ⟨rfl, rfl, e3⟩ := e
    exact Eq.trans h (congrArg some (arrV_congr fun j hj => by rw [e3 j hj]))
  · cases e
  · cases e
  · cases e
  · cases e
    exact h
theorem fc_HR.ceq {D : va_G} {cy : Nat → ClassId} {B : Heap} {n : Nat} {h h' : Nat → fc_AC} {H : Heap} (hH : fc_HR D cy B n h H) (e : ∀ i : Nat, i < n → fc_ceq (h i) (h' i)) : fc_HR D cy B n h' H :=
  ⟨hH.1, hH.2.1, fun i hi => (e i hi).cell (hH.2.2 i hi)⟩
/-! the locals, by their places -/
def fc_get : List (Option fc_AV) → Nat → Option fc_AV
  | [], _ => none
  | x :: _, 0 => x
  | _ :: t, k + 1 => fc_get t k
def fc_nl : Option fc_AV → Option fc_AV
  | some (.inl z) => some (.inl z)
  | some (.inr (.inl _)) => none
  | some (.inr (.inr o)) => some (.inr (.inr o))
  | none => none
def fc_kl : Nat → Option fc_AV → Option fc_AV
  | 0, x => fc_nl x
  | _ + 1, x => x
def fc_sto : List (Option fc_AV) → Nat → fc_AV → List (Option fc_AV)
  | [], _, _ => []
  | _ :: t, 0, v => some v :: t
  | x :: t, k + 1, v => fc_kl k x :: fc_sto t k v
def fc_clr : List (Option fc_AV) → List (Option fc_AV)
  | [] => []
  | _ :: t => none :: t
def fc_st2 : List (Option fc_AV) → Nat → fc_AV → List (Option fc_AV)
  | [], _, _ => []
  | _ :: t, 0, v => some v :: fc_clr t
  | x :: t, k + 1, v => fc_kl k x :: fc_st2 t k v
def fc_ls (b : Nat) (lsA : Array Slot) (nL : Nat) (ls : List (Option fc_AV)) : Prop := lsA.size = nL ∧ lv_wf lsA ∧ ∀ (k : Nat) (v : fc_AV), fc_get ls k = some v → lsA[k]? = some (.val (fc_v b v))
def fc_as (b : Nat) (ls : List (Option fc_AV)) : List (Nat × Value) := (List.range ls.length).filterMap fun k => (fc_get ls k).map fun v => (k, fc_v b v)
theorem fc_get_lt : ∀ {ls : List (Option fc_AV)} {k : Nat} {v : fc_AV}, fc_get ls k = some v → k < ls.length
  | [], _, _, h => by cases h
  | _ :: _, 0, _, _ => Nat.succ_pos _
  | _ :: t, k + 1, v, h => Nat.succ_lt_succ (fc_get_lt (ls := t) h)
theorem fc_as_mem {b : Nat} {ls : List (Option fc_AV)} {k : Nat} {v : fc_AV} (h : fc_get ls k = some v) : (k, fc_v b v) ∈ fc_as b ls := by
  refine List.mem_filterMap.mpr ⟨k, List.mem_range.mpr (fc_get_lt h), ?_⟩
  rw [h]
  rfl
theorem fc_ls.as {b : Nat} {lsA : Array Slot} {nL : Nat} {ls : List (Option fc_AV)} (h : fc_ls b lsA nL ls) : lv_has lsA nL (fc_as b ls) := by
  refine ⟨h.1, h.2.1, fun q hq => ?_⟩
  obtain ⟨k, -, hk⟩ := List.mem_filterMap.mp hq
  cases hv : fc_get ls k with
  | none => rw [hv] at hk; cases hk
  | some v =>
    rw [hv] at hk
    cases hk
    exact h.2.2 k v hv
theorem fc_kl_some {k : Nat} {x : Option fc_AV} {w : fc_AV} (h : fc_kl k x = some w) : x = some w ∧ ¬ (k = 0 ∧ fc_cat w = 2) := by
  cases k with
  | zero =>
    rcases x with _ | z | z | o
    · cases h
    · cases h; exact ⟨rfl, fun q => by cases q.2⟩
    · cases h
    · cases h; exact ⟨rfl, fun q => by cases q.2⟩
  | succ k => exact ⟨h, fun q => by cases q.1⟩
theorem fc_get_sto : ∀ {ls : List (Option fc_AV)} {i k : Nat} {v w : fc_AV}, fc_get (fc_sto ls i v) k = some w → (k = i ∧ w = v) ∨ (k ≠ i ∧ fc_get ls k = some w ∧ ¬ (k + 1 = i ∧ fc_cat w = 2))
  | [], _, _, _, _, h => by cases h
  | x :: t, 0, 0, v, w, h => by cases h; exact Or.inl ⟨rfl, rfl⟩
  | x :: t, 0, k + 1, v, w, h => Or.inr ⟨by omega, h, fun q => by omega⟩
  | x :: t, i + 1, 0, v, w, h => by
    obtain ⟨h1, h2⟩ := fc_kl_some (k := i) (x := x) (w := w) h
    exact Or.inr ⟨by omega, h1, fun q => h2 ⟨by omega, q.2⟩⟩
  | x :: t, i + 1, k + 1, v, w, h => by
    rcases fc_get_sto (ls := t) (i := i) (k := k) (v := v) (w := w) h with ⟨h1, h2⟩ | ⟨h1, h2, h3⟩
    · exact Or.inl ⟨by omega, h2⟩
    · exact Or.inr ⟨by omega, h2, fun q => h3 ⟨by omega, q.2⟩⟩
theorem fc_get_clr {t : List (Option fc_AV)} {k : Nat} {w : fc_AV} (h : fc_get (fc_clr t) k = some w) : k ≠ 0 ∧ fc_get t k = some w := by
  cases t with
  | nil => cases h
  | cons x t =>
    cases k with
    | zero => cases h
    | succ k => exact ⟨by omega, h⟩
theorem fc_get_st2 : ∀ {ls : List (Option fc_AV)} {i k : Nat} {v w : fc_AV}, fc_get (fc_st2 ls i v) k = some w → (k = i ∧ w = v) ∨ (k ≠ i ∧ k ≠ i + 1 ∧ fc_get ls k = some w ∧ ¬ (k + 1 = i ∧ fc_cat w = 2))
  | [], _, _, _, _, h => by cases h
  | x :: t, 0, 0, v, w, h => by cases h; exact Or.inl ⟨rfl, rfl⟩
  | x :: t, 0, k + 1, v, w, h => by
    obtain ⟨h1, h2⟩ := fc_get_clr (t := t) (k := k) (w := w) h
    exact Or.inr ⟨by omega, by omega, h2, fun q => by omega⟩
  | x :: t, i + 1, 0, v, w, h => by
    obtain ⟨h1, h2⟩ := fc_kl_some (k := i) (x := x) (w := w) h
    exact Or.inr ⟨by omega, by omega, h1, fun q => h2 ⟨by omega, q.2⟩⟩
  | x :: t, i + 1, k + 1, v, w, h => by
    rcases fc_get_st2 (ls := t) (i := i) (k := k) (v := v) (w := w) h with ⟨h1, h2⟩ | ⟨h1, h2, h3, h4⟩
    · exact Or.inl ⟨by omega, h2⟩
    · exact Or.inr ⟨by omega, by omega, h3, fun q => h4 ⟨by omega, q.2⟩⟩
theorem fc_ls.sto1 {b : Nat} {lsA : Array Slot} {nL i : Nat} {ls : List (Option fc_AV)} {v : fc_AV} (h : lv_has lsA nL ((i, fc_v b v) :: (fc_as b ls).filter (fun q => !(q.1 == i) && !(q.1 + 1 == i && q.2.category == 2)))) : fc_ls b lsA nL (fc_sto ls i v) := by
  refine ⟨h.1, h.2.1, fun k w hk => ?_⟩
  rcases fc_get_sto hk with ⟨rfl, rfl⟩ | ⟨h1, h2, h3⟩
  · exact h.2.2 _ List.mem_cons_self
  · refine h.2.2 (k, fc_v b w) (List.mem_cons_of_mem _ (List.mem_filter.mpr ⟨fc_as_mem h2, ?_⟩))
    simp only [fc_v_cat, Bool.and_eq_true, Bool.not_eq_true', beq_eq_false_iff_ne, ne_eq, Bool.and_eq_false_iff]
    refine ⟨h1, ?_⟩
    by_cases e : k + 1 = i
    · exact Or.inr fun q => h3 ⟨e, q⟩
    · exact Or.inl e
theorem fc_ls.sto2 {b : Nat} {lsA : Array Slot} {nL i : Nat} {ls : List (Option fc_AV)} {v : fc_AV} (h : lv_has lsA nL ((i, fc_v b v) :: (fc_as b ls).filter (fun q => !(q.1 == i) && (!(q.1 == i + 1) && !(q.1 + 1 == i && q.2.category == 2))))) : fc_ls b lsA nL (fc_st2 ls i v) := by
  refine ⟨h.1, h.2.1, fun k w hk => ?_⟩
  rcases fc_get_st2 hk with ⟨rfl, rfl⟩ | ⟨h1, h0, h2, h3⟩
  · exact h.2.2 _ List.mem_cons_self
  · refine h.2.2 (k, fc_v b w) (List.mem_cons_of_mem _ (List.mem_filter.mpr ⟨fc_as_mem h2, ?_⟩))
    simp only [fc_v_cat, Bool.and_eq_true, Bool.not_eq_true', beq_eq_false_iff_ne, ne_eq, Bool.and_eq_false_iff]
    refine ⟨h1, h0, ?_⟩
    by_cases e : k + 1 = i
    · exact Or.inr fun q => h3 ⟨e, q⟩
    · exact Or.inl e
/-! the judgement -/
abbrev fc_X : Type := Program × Launch × Env × Room × State × MethodId × Array Value × List Frame × Method × Code × va_G × (Nat → ClassId) × Heap × (State → Prop)
def fc_W (X : fc_X) (cs sl n : Nat) (h : Nat → fc_AC) (pc : Nat) (ls : List (Option fc_AV)) (st : List fc_AV) : Prop := match X with
  | (p, l, e, R, s, m, args, below, meth, c, D, cy, B, Q) => ∀ (H : Heap) (locs : List Loc) (lsA : Array Slot), fc_HR D cy B n h H → (∀ q ∈ locs, B.size ≤ q.base) → fc_ls B.size lsA c.maxLocals ls → W p l e R s m args below meth c H locs cs sl Q (F0 m pc lsA (st.map (fc_v B.size)))
def fc_C (X : fc_X) (own : String) (cc : ByteArray) (nL d nc ns : Nat) (nm : String) : Prop := match X with
  | (p, l, e, R, s, m, args, below, meth, c, D, cy, B, Q) => p.tables.exec = Jvm.exec ∧ c.code = cc ∧ c.maxLocals = nL ∧ s.vm.findClass own = some m.cls ∧ (∀ w ∈ fc_tbl, w.before args s = true) ∧ fc_K D cy s ∧ meth.name = nm ∧ d ≤ R.frames ∧ 64 * d ≤ R.locals ∧ nc ≤ R.cells ∧ ns ≤ R.slots
def fc_T (X : fc_X) (ret : Option FieldType) (r : Option fc_AV) (n : Nat) (h : Nat → fc_AC) (nc ns : Nat) : Prop := match X with
  | (p, l, e, R, s, m, args, below, meth, c, D, cy, B, Q) => meth.sig.returnType = ret ∧ meth.locks = false ∧ Q = MQ below (fun _ _ o t => o = .returned (r.map (fc_v B.size)) ∧ fc_HR D cy B n h t.heap) args s nc ns (fun q => B.size ≤ q)
abbrev fc_Y : Type := MethodName × ByteArray × Nat × Option FieldType
abbrev fc_rm (d nc ns : Nat) : Room := { frames := d, cells := nc, slots := ns, locals := 64 * d }
/-- a method's contract: at these arguments and cells it answers r and leaves those cells -/
def fc_M (y : fc_Y) (d nc ns : Nat) (as : List fc_AV) (n : Nat) (h : Nat → fc_AC) (r : Option fc_AV) (n' : Nat) (h' : Nat → fc_AC) : Prop :=
  ∀ (l : Launch) (D : va_G) (cy : Nat → ClassId) (B : Heap), Met l y.1 (Cond.code y.1 y.2.1 y.2.2.1 y.2.2.2 :: fc_tbl) (fc_rm d nc ns) (fun a U => a = (as.map (fc_v B.size)).toArray ∧ fc_HR D cy B n h U.heap ∧ fc_K D cy U) (fun _ _ o t => o = .returned (r.map (fc_v B.size)) ∧ fc_HR D cy B n' h' t.heap) nc ns (fun q => B.size ≤ q)
def fc_R (x : Int) : Prop := -2147483648 ≤ x ∧ x < 2147483648
def fc_RL (x : Int) : Prop := -9223372036854775808 ≤ x ∧ x < 9223372036854775808
theorem fc_to {x : Int} (h : fc_R x) : (Int32.ofInt x).toInt = x := Int32.toInt_ofInt_of_le h.1 h.2
theorem fc_toL {x : Int} (h : fc_RL x) : (Int64.ofInt x).toInt = x := Int64.toInt_ofInt_of_le h.1 h.2
end
section
/-! one row an instruction -/
section FCR
variable {X : fc_X} {own : String} {cc : ByteArray} {nL d nc ns : Nat} {nm : String} {cs sl n : Nat} {h : Nat → fc_AC} {pc : Nat} {ls : List (Option fc_AV)} {st : List fc_AV}

theorem fc_eq {ls' : List (Option fc_AV)} {st' : List fc_AV} (e1 : ls = ls') (e2 : st = st') (k : fc_W X cs sl n h pc ls' st') : fc_W X cs sl n h pc ls st := by
  subst e1; subst e2; exact k
theorem fc_heq {h' : Nat → fc_AC} (e1 : h = h') (k : fc_W X cs sl n h' pc ls st) : fc_W X cs sl n h pc ls st := by
  subst e1; exact k
theorem fc_hceq {h' : Nat → fc_AC} (e1 : ∀ i : Nat, i < n → fc_ceq (h i) (h' i)) (k : fc_W X cs sl n h' pc ls st) : fc_W X cs sl n h pc ls st := by
  obtain ⟨p, l, e, R, s, m, args, below, meth, c, D, cy, B, Q⟩ := X
  intro H locs lsA hH hL hl
  exact k H locs lsA (hH.ceq e1) hL hl
theorem fc_iconst {z : Int} (C : fc_C X own cc nL d nc ns nm) (dg : decode cc pc = .ok (.iconst z, 1))
    (k : fc_W X cs sl n h (pc + 1) (ls) (vI z :: st)) : fc_W X cs sl n h (pc) (ls) (st) := by
  obtain ⟨p, l, e, R, s, m, args, below, meth, c, D, cy, B, Q⟩ := X
  obtain ⟨hx, hb, hml, hown, hts, hK, hnm, hR1, hR2, hR3, hR4⟩ := C
  intro H locs lsA hH hL hl
  exact lv_iconst hx hb dg rfl (k H locs lsA hH hL hl)
theorem fc_bipush {z : Int} (C : fc_C X own cc nL d nc ns nm) (dg : decode cc pc = .ok (.bipush z, 2)) (hv : (Int8.ofInt z).toInt32 = Int32.ofInt z)
    (k : fc_W X cs sl n h (pc + 2) (ls) (vI z :: st)) : fc_W X cs sl n h (pc) (ls) (st) := by
  obtain ⟨p, l, e, R, s, m, args, below, meth, c, D, cy, B, Q⟩ := X
  obtain ⟨hx, hb, hml, hown, hts, hK, hnm, hR1, hR2, hR3, hR4⟩ := C
  intro H locs lsA hH hL hl
  exact lv_bipush hx hb dg hv (k H locs lsA hH hL hl)
theorem fc_sipush {z : Int} (C : fc_C X own cc nL d nc ns nm) (dg : decode cc pc = .ok (.sipush z, 3)) (hv : (Int16.ofInt z).toInt32 = Int32.ofInt z)
    (k : fc_W X cs sl n h (pc + 3) (ls) (vI z :: st)) : fc_W X cs sl n h (pc) (ls) (st) := by
  obtain ⟨p, l, e, R, s, m, args, below, meth, c, D, cy, B, Q⟩ := X
  obtain ⟨hx, hb, hml, hown, hts, hK, hnm, hR1, hR2, hR3, hR4⟩ := C
  intro H locs lsA hH hL hl
  exact lv_sipush hx hb dg hv (k H locs lsA hH hL hl)
theorem fc_lconst {f : Fin 2} {z : Int} (C : fc_C X own cc nL d nc ns nm) (dg : decode cc pc = .ok (.lconst f, 1)) (hv : Int64.ofNat (f : Nat) = Int64.ofInt z)
    (k : fc_W X cs sl n h (pc + 1) (ls) (vL z :: st)) : fc_W X cs sl n h (pc) (ls) (st) := by
  obtain ⟨p, l, e, R, s, m, args, below, meth, c, D, cy, B, Q⟩ := X
  obtain ⟨hx, hb, hml, hown, hts, hK, hnm, hR1, hR2, hR3, hR4⟩ := C
  intro H locs lsA hH hL hl
  exact lv_lconst hx hb dg hv (k H locs lsA hH hL hl)
theorem fc_ldc {z : Int} {ix : Nat} (C : fc_C X own cc nL d nc ns nm) (dg : decode cc pc = .ok (.ldc ix, 2)) (hw : Cond.constant own ix (Int32.ofInt z) ∈ fc_tbl)
    (k : fc_W X cs sl n h (pc + 2) (ls) (vI z :: st)) : fc_W X cs sl n h (pc) (ls) (st) := by
  obtain ⟨p, l, e, R, s, m, args, below, meth, c, D, cy, B, Q⟩ := X
  obtain ⟨hx, hb, hml, hown, hts, hK, hnm, hR1, hR2, hR3, hR4⟩ := C
  intro H locs lsA hH hL hl
  exact lv_ldc hx hb hown (hts _ hw) dg (k H locs lsA hH hL hl)
theorem fc_ldc_w {z : Int} {ix : Nat} (C : fc_C X own cc nL d nc ns nm) (dg : decode cc pc = .ok (.ldc_w ix, 3)) (hw : Cond.constant own ix (Int32.ofInt z) ∈ fc_tbl)
    (k : fc_W X cs sl n h (pc + 3) (ls) (vI z :: st)) : fc_W X cs sl n h (pc) (ls) (st) := by
  obtain ⟨p, l, e, R, s, m, args, below, meth, c, D, cy, B, Q⟩ := X
  obtain ⟨hx, hb, hml, hown, hts, hK, hnm, hR1, hR2, hR3, hR4⟩ := C
  intro H locs lsA hH hL hl
  exact lv_ldcw hx hb hown (hts _ hw) dg (k H locs lsA hH hL hl)
theorem fc_ldc2_w {z : Int} {ix : Nat} (C : fc_C X own cc nL d nc ns nm) (dg : decode cc pc = .ok (.ldc2_w ix, 3)) (hw : Cond.constantLong own ix (Int64.ofInt z) ∈ fc_tbl)
    (k : fc_W X cs sl n h (pc + 3) (ls) (vL z :: st)) : fc_W X cs sl n h (pc) (ls) (st) := by
  obtain ⟨p, l, e, R, s, m, args, below, meth, c, D, cy, B, Q⟩ := X
  obtain ⟨hx, hb, hml, hown, hts, hK, hnm, hR1, hR2, hR3, hR4⟩ := C
  intro H locs lsA hH hL hl
  exact lv_ldc2 hx hb hown (hts _ hw) dg (k H locs lsA hH hL hl)
theorem fc_iload_n {f : Fin 4} {i : Nat} {x : Int} (C : fc_C X own cc nL d nc ns nm) (dg : decode cc pc = .ok (.iload_n f, 1)) (hi : (f : Nat) = i) (hv : fc_get ls i = some (vI x))
    (k : fc_W X cs sl n h (pc + 1) (ls) (vI x :: st)) : fc_W X cs sl n h (pc) (ls) (st) := by
  obtain ⟨p, l, e, R, s, m, args, below, meth, c, D, cy, B, Q⟩ := X
  obtain ⟨hx, hb, hml, hown, hts, hK, hnm, hR1, hR2, hR3, hR4⟩ := C
  intro H locs lsA hH hL hl
  exact lv_iload_n hx hb dg hi (hl.2.2 _ _ hv) (k H locs lsA hH hL hl)
theorem fc_iload {i : Nat} {x : Int} (C : fc_C X own cc nL d nc ns nm) (dg : decode cc pc = .ok (.iload i, 2)) (hv : fc_get ls i = some (vI x))
    (k : fc_W X cs sl n h (pc + 2) (ls) (vI x :: st)) : fc_W X cs sl n h (pc) (ls) (st) := by
  obtain ⟨p, l, e, R, s, m, args, below, meth, c, D, cy, B, Q⟩ := X
  obtain ⟨hx, hb, hml, hown, hts, hK, hnm, hR1, hR2, hR3, hR4⟩ := C
  intro H locs lsA hH hL hl
  exact lv_iload hx hb dg (hl.2.2 _ _ hv) (k H locs lsA hH hL hl)
theorem fc_lload_n {f : Fin 4} {i : Nat} {x : Int} (C : fc_C X own cc nL d nc ns nm) (dg : decode cc pc = .ok (.lload_n f, 1)) (hi : (f : Nat) = i) (hv : fc_get ls i = some (vL x))
    (k : fc_W X cs sl n h (pc + 1) (ls) (vL x :: st)) : fc_W X cs sl n h (pc) (ls) (st) := by
  obtain ⟨p, l, e, R, s, m, args, below, meth, c, D, cy, B, Q⟩ := X
  obtain ⟨hx, hb, hml, hown, hts, hK, hnm, hR1, hR2, hR3, hR4⟩ := C
  intro H locs lsA hH hL hl
  exact lv_lload_n hx hb dg hi (hl.2.2 _ _ hv) (k H locs lsA hH hL hl)
theorem fc_lload {i : Nat} {x : Int} (C : fc_C X own cc nL d nc ns nm) (dg : decode cc pc = .ok (.lload i, 2)) (hv : fc_get ls i = some (vL x))
    (k : fc_W X cs sl n h (pc + 2) (ls) (vL x :: st)) : fc_W X cs sl n h (pc) (ls) (st) := by
  obtain ⟨p, l, e, R, s, m, args, below, meth, c, D, cy, B, Q⟩ := X
  obtain ⟨hx, hb, hml, hown, hts, hK, hnm, hR1, hR2, hR3, hR4⟩ := C
  intro H locs lsA hH hL hl
  exact lv_lload hx hb dg (hl.2.2 _ _ hv) (k H locs lsA hH hL hl)
theorem fc_aload_n {f : Fin 4} {i : Nat} {x : Nat} (C : fc_C X own cc nL d nc ns nm) (dg : decode cc pc = .ok (.aload_n f, 1)) (hi : (f : Nat) = i) (hv : fc_get ls i = some (vR x))
    (k : fc_W X cs sl n h (pc + 1) (ls) (vR x :: st)) : fc_W X cs sl n h (pc) (ls) (st) := by
  obtain ⟨p, l, e, R, s, m, args, below, meth, c, D, cy, B, Q⟩ := X
  obtain ⟨hx, hb, hml, hown, hts, hK, hnm, hR1, hR2, hR3, hR4⟩ := C
  intro H locs lsA hH hL hl
  exact lv_aload_n hx hb dg hi (hl.2.2 _ _ hv) (k H locs lsA hH hL hl)
theorem fc_aload {i : Nat} {x : Nat} (C : fc_C X own cc nL d nc ns nm) (dg : decode cc pc = .ok (.aload i, 2)) (hv : fc_get ls i = some (vR x))
    (k : fc_W X cs sl n h (pc + 2) (ls) (vR x :: st)) : fc_W X cs sl n h (pc) (ls) (st) := by
  obtain ⟨p, l, e, R, s, m, args, below, meth, c, D, cy, B, Q⟩ := X
  obtain ⟨hx, hb, hml, hown, hts, hK, hnm, hR1, hR2, hR3, hR4⟩ := C
  intro H locs lsA hH hL hl
  exact lv_aload hx hb dg (hl.2.2 _ _ hv) (k H locs lsA hH hL hl)
theorem fc_istore_n {f : Fin 4} {i : Nat} {x : Int} (C : fc_C X own cc nL d nc ns nm) (dg : decode cc pc = .ok (.istore_n f, 1)) (hi : (f : Nat) = i) (hn : i < nL)
    (k : fc_W X cs sl n h (pc + 1) (fc_sto ls i (vI x)) (st)) : fc_W X cs sl n h (pc) (ls) (vI x :: st) := by
  obtain ⟨p, l, e, R, s, m, args, below, meth, c, D, cy, B, Q⟩ := X
  obtain ⟨hx, hb, hml, hown, hts, hK, hnm, hR1, hR2, hR3, hR4⟩ := C
  intro H locs lsA hH hL hl
  exact lv_istore_n hx hb dg hi hl.as (by rw [hml]; exact hn) rfl (fun ls' hl' => k H locs ls' hH hL (fc_ls.sto1 (v := vI x) hl'))
theorem fc_istore {i : Nat} {x : Int} (C : fc_C X own cc nL d nc ns nm) (dg : decode cc pc = .ok (.istore i, 2)) (hn : i < nL)
    (k : fc_W X cs sl n h (pc + 2) (fc_sto ls i (vI x)) (st)) : fc_W X cs sl n h (pc) (ls) (vI x :: st) := by
  obtain ⟨p, l, e, R, s, m, args, below, meth, c, D, cy, B, Q⟩ := X
  obtain ⟨hx, hb, hml, hown, hts, hK, hnm, hR1, hR2, hR3, hR4⟩ := C
  intro H locs lsA hH hL hl
  exact lv_istore hx hb dg hl.as (by rw [hml]; exact hn) rfl (fun ls' hl' => k H locs ls' hH hL (fc_ls.sto1 (v := vI x) hl'))
theorem fc_lstore_n {f : Fin 4} {i : Nat} {x : Int} (C : fc_C X own cc nL d nc ns nm) (dg : decode cc pc = .ok (.lstore_n f, 1)) (hi : (f : Nat) = i) (hn : i + 1 < nL)
    (k : fc_W X cs sl n h (pc + 1) (fc_st2 ls i (vL x)) (st)) : fc_W X cs sl n h (pc) (ls) (vL x :: st) := by
  obtain ⟨p, l, e, R, s, m, args, below, meth, c, D, cy, B, Q⟩ := X
  obtain ⟨hx, hb, hml, hown, hts, hK, hnm, hR1, hR2, hR3, hR4⟩ := C
  intro H locs lsA hH hL hl
  exact lv_lstore_n hx hb dg hi hl.as (by rw [hml]; exact hn) rfl (fun ls' hl' => k H locs ls' hH hL (fc_ls.sto2 (v := vL x) hl'))
theorem fc_lstore {i : Nat} {x : Int} (C : fc_C X own cc nL d nc ns nm) (dg : decode cc pc = .ok (.lstore i, 2)) (hn : i + 1 < nL)
    (k : fc_W X cs sl n h (pc + 2) (fc_st2 ls i (vL x)) (st)) : fc_W X cs sl n h (pc) (ls) (vL x :: st) := by
  obtain ⟨p, l, e, R, s, m, args, below, meth, c, D, cy, B, Q⟩ := X
  obtain ⟨hx, hb, hml, hown, hts, hK, hnm, hR1, hR2, hR3, hR4⟩ := C
  intro H locs lsA hH hL hl
  exact lv_lstore hx hb dg hl.as (by rw [hml]; exact hn) rfl (fun ls' hl' => k H locs ls' hH hL (fc_ls.sto2 (v := vL x) hl'))
theorem fc_astore_n {f : Fin 4} {i : Nat} {x : Nat} (C : fc_C X own cc nL d nc ns nm) (dg : decode cc pc = .ok (.astore_n f, 1)) (hi : (f : Nat) = i) (hn : i < nL)
    (k : fc_W X cs sl n h (pc + 1) (fc_sto ls i (vR x)) (st)) : fc_W X cs sl n h (pc) (ls) (vR x :: st) := by
  obtain ⟨p, l, e, R, s, m, args, below, meth, c, D, cy, B, Q⟩ := X
  obtain ⟨hx, hb, hml, hown, hts, hK, hnm, hR1, hR2, hR3, hR4⟩ := C
  intro H locs lsA hH hL hl
  exact lv_astore_n hx hb dg hi hl.as (by rw [hml]; exact hn) rfl (fun ls' hl' => k H locs ls' hH hL (fc_ls.sto1 (v := vR x) hl'))
theorem fc_astore {i : Nat} {x : Nat} (C : fc_C X own cc nL d nc ns nm) (dg : decode cc pc = .ok (.astore i, 2)) (hn : i < nL)
    (k : fc_W X cs sl n h (pc + 2) (fc_sto ls i (vR x)) (st)) : fc_W X cs sl n h (pc) (ls) (vR x :: st) := by
  obtain ⟨p, l, e, R, s, m, args, below, meth, c, D, cy, B, Q⟩ := X
  obtain ⟨hx, hb, hml, hown, hts, hK, hnm, hR1, hR2, hR3, hR4⟩ := C
  intro H locs lsA hH hL hl
  exact lv_astore hx hb dg hl.as (by rw [hml]; exact hn) rfl (fun ls' hl' => k H locs ls' hH hL (fc_ls.sto1 (v := vR x) hl'))
theorem fc_iinc {i : Nat} {x z : Int} (C : fc_C X own cc nL d nc ns nm) (dg : decode cc pc = .ok (.iinc i z, 3)) (hv : fc_get ls i = some (vI x)) (hn : i < nL)
    (k : fc_W X cs sl n h (pc + 3) (fc_sto ls i (vI (x + z))) (st)) : fc_W X cs sl n h (pc) (ls) (st) := by
  obtain ⟨p, l, e, R, s, m, args, below, meth, c, D, cy, B, Q⟩ := X
  obtain ⟨hx, hb, hml, hown, hts, hK, hnm, hR1, hR2, hR3, hR4⟩ := C
  intro H locs lsA hH hL hl
  obtain ⟨k9, hk9⟩ := List.getElem?_of_mem (fc_as_mem (b := B.size) hv)
  exact lv_iinc hx hb dg hl.as hk9 (v := Int32.ofInt (x + z)) (by rw [Int32.ofInt_add]) (by rw [hml]; exact hn) rfl (fun ls' hl' => k H locs ls' hH hL (fc_ls.sto1 (v := vI (x + z)) hl'))
theorem fc_iadd {x y : Int} (C : fc_C X own cc nL d nc ns nm) (dg : decode cc pc = .ok (.iadd, 1))
    (k : fc_W X cs sl n h (pc + 1) (ls) (vI (x + y) :: st)) : fc_W X cs sl n h (pc) (ls) (vI y :: vI x :: st) := by
  obtain ⟨p, l, e, R, s, m, args, below, meth, c, D, cy, B, Q⟩ := X
  obtain ⟨hx, hb, hml, hown, hts, hK, hnm, hR1, hR2, hR3, hR4⟩ := C
  intro H locs lsA hH hL hl
  refine lv_iadd hx hb dg ?_
  rw [← Int32.ofInt_add]
  exact k H locs lsA hH hL hl
theorem fc_ladd {x y : Int} (C : fc_C X own cc nL d nc ns nm) (dg : decode cc pc = .ok (.ladd, 1))
    (k : fc_W X cs sl n h (pc + 1) (ls) (vL (x + y) :: st)) : fc_W X cs sl n h (pc) (ls) (vL y :: vL x :: st) := by
  obtain ⟨p, l, e, R, s, m, args, below, meth, c, D, cy, B, Q⟩ := X
  obtain ⟨hx, hb, hml, hown, hts, hK, hnm, hR1, hR2, hR3, hR4⟩ := C
  intro H locs lsA hH hL hl
  refine lv_ladd hx hb dg ?_
  rw [← Int64.ofInt_add]
  exact k H locs lsA hH hL hl
theorem fc_isub {x y : Int} (C : fc_C X own cc nL d nc ns nm) (dg : decode cc pc = .ok (.isub, 1))
    (k : fc_W X cs sl n h (pc + 1) (ls) (vI (x - y) :: st)) : fc_W X cs sl n h (pc) (ls) (vI y :: vI x :: st) := by
  obtain ⟨p, l, e, R, s, m, args, below, meth, c, D, cy, B, Q⟩ := X
  obtain ⟨hx, hb, hml, hown, hts, hK, hnm, hR1, hR2, hR3, hR4⟩ := C
  intro H locs lsA hH hL hl
  refine lv_isub hx hb dg ?_
  rw [← Int32.ofInt_sub]
  exact k H locs lsA hH hL hl
theorem fc_lsub {x y : Int} (C : fc_C X own cc nL d nc ns nm) (dg : decode cc pc = .ok (.lsub, 1))
    (k : fc_W X cs sl n h (pc + 1) (ls) (vL (x - y) :: st)) : fc_W X cs sl n h (pc) (ls) (vL y :: vL x :: st) := by
  obtain ⟨p, l, e, R, s, m, args, below, meth, c, D, cy, B, Q⟩ := X
  obtain ⟨hx, hb, hml, hown, hts, hK, hnm, hR1, hR2, hR3, hR4⟩ := C
  intro H locs lsA hH hL hl
  refine lv_lsub hx hb dg ?_
  rw [← Int64.ofInt_sub]
  exact k H locs lsA hH hL hl
theorem fc_imul {x y : Int} (C : fc_C X own cc nL d nc ns nm) (dg : decode cc pc = .ok (.imul, 1))
    (k : fc_W X cs sl n h (pc + 1) (ls) (vI (x * y) :: st)) : fc_W X cs sl n h (pc) (ls) (vI y :: vI x :: st) := by
  obtain ⟨p, l, e, R, s, m, args, below, meth, c, D, cy, B, Q⟩ := X
  obtain ⟨hx, hb, hml, hown, hts, hK, hnm, hR1, hR2, hR3, hR4⟩ := C
  intro H locs lsA hH hL hl
  refine lv_imul hx hb dg ?_
  rw [← Int32.ofInt_mul]
  exact k H locs lsA hH hL hl
theorem fc_lmul {x y : Int} (C : fc_C X own cc nL d nc ns nm) (dg : decode cc pc = .ok (.lmul, 1))
    (k : fc_W X cs sl n h (pc + 1) (ls) (vL (x * y) :: st)) : fc_W X cs sl n h (pc) (ls) (vL y :: vL x :: st) := by
  obtain ⟨p, l, e, R, s, m, args, below, meth, c, D, cy, B, Q⟩ := X
  obtain ⟨hx, hb, hml, hown, hts, hK, hnm, hR1, hR2, hR3, hR4⟩ := C
  intro H locs lsA hH hL hl
  refine lv_lmul hx hb dg ?_
  rw [← Int64.ofInt_mul]
  exact k H locs lsA hH hL hl
theorem fc_ineg {x : Int} (C : fc_C X own cc nL d nc ns nm) (dg : decode cc pc = .ok (.ineg, 1))
    (k : fc_W X cs sl n h (pc + 1) (ls) (vI (-x) :: st)) : fc_W X cs sl n h (pc) (ls) (vI x :: st) := by
  obtain ⟨p, l, e, R, s, m, args, below, meth, c, D, cy, B, Q⟩ := X
  obtain ⟨hx, hb, hml, hown, hts, hK, hnm, hR1, hR2, hR3, hR4⟩ := C
  intro H locs lsA hH hL hl
  refine lv_ineg hx hb dg ?_
  rw [← Int32.ofInt_neg]
  exact k H locs lsA hH hL hl
theorem fc_idiv {x y : Int} (C : fc_C X own cc nL d nc ns nm) (dg : decode cc pc = .ok (.idiv, 1)) (hx1 : fc_R x) (hy : fc_R y) (h0 : y ≠ 0)
    (k : fc_W X cs sl n h (pc + 1) (ls) (vI (x.tdiv y) :: st)) : fc_W X cs sl n h (pc) (ls) (vI y :: vI x :: st) := by
  obtain ⟨p, l, e, R, s, m, args, below, meth, c, D, cy, B, Q⟩ := X
  obtain ⟨hx, hb, hml, hown, hts, hK, hnm, hR1, hR2, hR3, hR4⟩ := C
  intro H locs lsA hH hL hl
  have hne : ¬ Int32.ofInt y = 0 := fun q => h0 (by have q1 := congrArg Int32.toInt q; rw [fc_to hy] at q1; simpa using q1)
  have e1 : Int32.ofInt x / Int32.ofInt y = Int32.ofInt (x.tdiv y) := (Int32.ofInt_tdiv hx1.1 (show x ≤ 2147483647 by have := hx1.2; omega) hy.1 (show y ≤ 2147483647 by have := hy.2; omega)).symm
  refine lv_idiv hx hb dg hne ?_
  rw [e1]
  exact k H locs lsA hH hL hl
theorem fc_irem {x y : Int} (C : fc_C X own cc nL d nc ns nm) (dg : decode cc pc = .ok (.irem, 1)) (hx1 : fc_R x) (hy : fc_R y) (h0 : y ≠ 0)
    (k : fc_W X cs sl n h (pc + 1) (ls) (vI (x.tmod y) :: st)) : fc_W X cs sl n h (pc) (ls) (vI y :: vI x :: st) := by
  obtain ⟨p, l, e, R, s, m, args, below, meth, c, D, cy, B, Q⟩ := X
  obtain ⟨hx, hb, hml, hown, hts, hK, hnm, hR1, hR2, hR3, hR4⟩ := C
  intro H locs lsA hH hL hl
  have hne : ¬ Int32.ofInt y = 0 := fun q => h0 (by have q1 := congrArg Int32.toInt q; rw [fc_to hy] at q1; simpa using q1)
  have e1 : Int32.ofInt x / Int32.ofInt y = Int32.ofInt (x.tdiv y) := (Int32.ofInt_tdiv hx1.1 (show x ≤ 2147483647 by have := hx1.2; omega) hy.1 (show y ≤ 2147483647 by have := hy.2; omega)).symm
  refine lv_irem hx hb dg hne ?_
  rw [e1, ← Int32.ofInt_mul, ← Int32.ofInt_sub, show x - x.tdiv y * y = x.tmod y by have := Int.mul_tdiv_add_tmod x y; rw [Int.mul_comm] at this; omega]
  exact k H locs lsA hH hL hl
theorem fc_lneg {x : Int} (C : fc_C X own cc nL d nc ns nm) (dg : decode cc pc = .ok (.lneg, 1))
    (k : fc_W X cs sl n h (pc + 1) (ls) (vL (-x) :: st)) : fc_W X cs sl n h (pc) (ls) (vL x :: st) := by
  obtain ⟨p, l, e, R, s, m, args, below, meth, c, D, cy, B, Q⟩ := X
  obtain ⟨hx, hb, hml, hown, hts, hK, hnm, hR1, hR2, hR3, hR4⟩ := C
  intro H locs lsA hH hL hl
  refine lv_lneg hx hb dg ?_
  rw [← Int64.ofInt_neg]
  exact k H locs lsA hH hL hl
theorem fc_ldiv {x y : Int} (C : fc_C X own cc nL d nc ns nm) (dg : decode cc pc = .ok (.ldiv, 1)) (hx1 : fc_RL x) (hy : fc_RL y) (h0 : y ≠ 0)
    (k : fc_W X cs sl n h (pc + 1) (ls) (vL (x.tdiv y) :: st)) : fc_W X cs sl n h (pc) (ls) (vL y :: vL x :: st) := by
  obtain ⟨p, l, e, R, s, m, args, below, meth, c, D, cy, B, Q⟩ := X
  obtain ⟨hx, hb, hml, hown, hts, hK, hnm, hR1, hR2, hR3, hR4⟩ := C
  intro H locs lsA hH hL hl
  have hne : ¬ Int64.ofInt y = 0 := fun q => h0 (by have q1 := congrArg Int64.toInt q; rw [fc_toL hy] at q1; simpa using q1)
  have e1 : Int64.ofInt x / Int64.ofInt y = Int64.ofInt (x.tdiv y) := (Int64.ofInt_tdiv hx1.1 (show x ≤ 9223372036854775807 by have := hx1.2; omega) hy.1 (show y ≤ 9223372036854775807 by have := hy.2; omega)).symm
  refine lv_ldiv hx hb dg hne ?_
  rw [e1]
  exact k H locs lsA hH hL hl
theorem fc_lrem {x y : Int} (C : fc_C X own cc nL d nc ns nm) (dg : decode cc pc = .ok (.lrem, 1)) (hx1 : fc_RL x) (hy : fc_RL y) (h0 : y ≠ 0)
    (k : fc_W X cs sl n h (pc + 1) (ls) (vL (x.tmod y) :: st)) : fc_W X cs sl n h (pc) (ls) (vL y :: vL x :: st) := by
  obtain ⟨p, l, e, R, s, m, args, below, meth, c, D, cy, B, Q⟩ := X
  obtain ⟨hx, hb, hml, hown, hts, hK, hnm, hR1, hR2, hR3, hR4⟩ := C
  intro H locs lsA hH hL hl
  have hne : ¬ Int64.ofInt y = 0 := fun q => h0 (by have q1 := congrArg Int64.toInt q; rw [fc_toL hy] at q1; simpa using q1)
  have e1 : Int64.ofInt x / Int64.ofInt y = Int64.ofInt (x.tdiv y) := (Int64.ofInt_tdiv hx1.1 (show x ≤ 9223372036854775807 by have := hx1.2; omega) hy.1 (show y ≤ 9223372036854775807 by have := hy.2; omega)).symm
  refine lv_lrem hx hb dg hne ?_
  rw [e1, ← Int64.ofInt_mul, ← Int64.ofInt_sub, show x - x.tdiv y * y = x.tmod y by have := Int.mul_tdiv_add_tmod x y; rw [Int.mul_comm] at this; omega]
  exact k H locs lsA hH hL hl
def fc_shl (x y : Int) : Int := (Int32.ofInt x <<< (Int32.ofInt y &&& 31)).toInt
def fc_shr (x y : Int) : Int := (Int32.ofInt x >>> (Int32.ofInt y &&& 31)).toInt
def fc_and (x y : Int) : Int := (Int32.ofInt x &&& Int32.ofInt y).toInt
def fc_or (x y : Int) : Int := (Int32.ofInt x ||| Int32.ofInt y).toInt
def fc_xor (x y : Int) : Int := (Int32.ofInt x ^^^ Int32.ofInt y).toInt
def fc_lxor (x y : Int) : Int := (Int64.ofInt x ^^^ Int64.ofInt y).toInt
def fc_ushr (x y : Int) : Int := ((Int32.ofInt x).toUInt32 >>> ((Int32.ofInt y).toUInt32 &&& Int32.toUInt32 31)).toInt32.toInt
def fc_cmp (x y : Int) : Int := if y < x then 1 else if x = y then 0 else -1
theorem fc_ishl {x y : Int} (C : fc_C X own cc nL d nc ns nm) (dg : decode cc pc = .ok (.ishl, 1))
    (k : fc_W X cs sl n h (pc + 1) (ls) (vI (fc_shl x y) :: st)) : fc_W X cs sl n h (pc) (ls) (vI y :: vI x :: st) := by
  obtain ⟨p, l, e, R, s, m, args, below, meth, c, D, cy, B, Q⟩ := X
  obtain ⟨hx, hb, hml, hown, hts, hK, hnm, hR1, hR2, hR3, hR4⟩ := C
  intro H locs lsA hH hL hl
  refine lv_ishl hx hb dg ?_
  have k1 := k H locs lsA hH hL hl
  have e : fc_v B.size (vI (fc_shl x y)) = .int _ := congrArg Value.int (Int32.ofInt_toInt _)
  rw [List.map_cons, e] at k1
  exact k1
theorem fc_ishr {x y : Int} (C : fc_C X own cc nL d nc ns nm) (dg : decode cc pc = .ok (.ishr, 1))
    (k : fc_W X cs sl n h (pc + 1) (ls) (vI (fc_shr x y) :: st)) : fc_W X cs sl n h (pc) (ls) (vI y :: vI x :: st) := by
  obtain ⟨p, l, e, R, s, m, args, below, meth, c, D, cy, B, Q⟩ := X
  obtain ⟨hx, hb, hml, hown, hts, hK, hnm, hR1, hR2, hR3, hR4⟩ := C
  intro H locs lsA hH hL hl
  refine lv_ishr hx hb dg ?_
  have k1 := k H locs lsA hH hL hl
  have e : fc_v B.size (vI (fc_shr x y)) = .int _ := congrArg Value.int (Int32.ofInt_toInt _)
  rw [List.map_cons, e] at k1
  exact k1
theorem fc_iand {x y : Int} (C : fc_C X own cc nL d nc ns nm) (dg : decode cc pc = .ok (.iand, 1))
    (k : fc_W X cs sl n h (pc + 1) (ls) (vI (fc_and x y) :: st)) : fc_W X cs sl n h (pc) (ls) (vI y :: vI x :: st) := by
  obtain ⟨p, l, e, R, s, m, args, below, meth, c, D, cy, B, Q⟩ := X
  obtain ⟨hx, hb, hml, hown, hts, hK, hnm, hR1, hR2, hR3, hR4⟩ := C
  intro H locs lsA hH hL hl
  refine lv_iand hx hb dg ?_
  have k1 := k H locs lsA hH hL hl
  have e : fc_v B.size (vI (fc_and x y)) = .int _ := congrArg Value.int (Int32.ofInt_toInt _)
  rw [List.map_cons, e] at k1
  exact k1
theorem fc_ior {x y : Int} (C : fc_C X own cc nL d nc ns nm) (dg : decode cc pc = .ok (.ior, 1))
    (k : fc_W X cs sl n h (pc + 1) (ls) (vI (fc_or x y) :: st)) : fc_W X cs sl n h (pc) (ls) (vI y :: vI x :: st) := by
  obtain ⟨p, l, e, R, s, m, args, below, meth, c, D, cy, B, Q⟩ := X
  obtain ⟨hx, hb, hml, hown, hts, hK, hnm, hR1, hR2, hR3, hR4⟩ := C
  intro H locs lsA hH hL hl
  refine lv_ior hx hb dg ?_
  have k1 := k H locs lsA hH hL hl
  have e : fc_v B.size (vI (fc_or x y)) = .int _ := congrArg Value.int (Int32.ofInt_toInt _)
  rw [List.map_cons, e] at k1
  exact k1
theorem fc_ixor {x y : Int} (C : fc_C X own cc nL d nc ns nm) (dg : decode cc pc = .ok (.ixor, 1))
    (k : fc_W X cs sl n h (pc + 1) (ls) (vI (fc_xor x y) :: st)) : fc_W X cs sl n h (pc) (ls) (vI y :: vI x :: st) := by
  obtain ⟨p, l, e, R, s, m, args, below, meth, c, D, cy, B, Q⟩ := X
  obtain ⟨hx, hb, hml, hown, hts, hK, hnm, hR1, hR2, hR3, hR4⟩ := C
  intro H locs lsA hH hL hl
  refine lv_ixor hx hb dg ?_
  have k1 := k H locs lsA hH hL hl
  have e : fc_v B.size (vI (fc_xor x y)) = .int _ := congrArg Value.int (Int32.ofInt_toInt _)
  rw [List.map_cons, e] at k1
  exact k1
theorem fc_iushr {x y : Int} (C : fc_C X own cc nL d nc ns nm) (dg : decode cc pc = .ok (.iushr, 1))
    (k : fc_W X cs sl n h (pc + 1) (ls) (vI (fc_ushr x y) :: st)) : fc_W X cs sl n h (pc) (ls) (vI y :: vI x :: st) := by
  obtain ⟨p, l, e, R, s, m, args, below, meth, c, D, cy, B, Q⟩ := X
  obtain ⟨hx, hb, hml, hown, hts, hK, hnm, hR1, hR2, hR3, hR4⟩ := C
  intro H locs lsA hH hL hl
  refine lv_iushr hx hb dg rfl ?_
  rw [← Int32.ofInt_toInt (((Int32.ofInt x).toUInt32 >>> ((Int32.ofInt y).toUInt32 &&& Int32.toUInt32 31)).toInt32)]
  exact k H locs lsA hH hL hl
theorem fc_lxor_ {x y : Int} (C : fc_C X own cc nL d nc ns nm) (dg : decode cc pc = .ok (.lxor, 1))
    (k : fc_W X cs sl n h (pc + 1) (ls) (vL (fc_lxor x y) :: st)) : fc_W X cs sl n h (pc) (ls) (vL y :: vL x :: st) := by
  obtain ⟨p, l, e, R, s, m, args, below, meth, c, D, cy, B, Q⟩ := X
  obtain ⟨hx, hb, hml, hown, hts, hK, hnm, hR1, hR2, hR3, hR4⟩ := C
  intro H locs lsA hH hL hl
  refine lv_lxor hx hb dg ?_
  have k1 := k H locs lsA hH hL hl
  have e : fc_v B.size (vL (fc_lxor x y)) = .long _ := congrArg Value.long (Int64.ofInt_toInt _)
  rw [List.map_cons, e] at k1
  exact k1
theorem fc_i2l {x : Int} (C : fc_C X own cc nL d nc ns nm) (dg : decode cc pc = .ok (.i2l, 1)) (hx1 : fc_R x)
    (k : fc_W X cs sl n h (pc + 1) (ls) (vL x :: st)) : fc_W X cs sl n h (pc) (ls) (vI x :: st) := by
  obtain ⟨p, l, e, R, s, m, args, below, meth, c, D, cy, B, Q⟩ := X
  obtain ⟨hx, hb, hml, hown, hts, hK, hnm, hR1, hR2, hR3, hR4⟩ := C
  intro H locs lsA hH hL hl
  exact lv_i2l hx hb dg (Int32.toInt64_ofInt hx1.1 (show x ≤ 2147483647 by have := hx1.2; omega)) (k H locs lsA hH hL hl)
theorem fc_l2i {x : Int} (C : fc_C X own cc nL d nc ns nm) (dg : decode cc pc = .ok (.l2i, 1))
    (k : fc_W X cs sl n h (pc + 1) (ls) (vI x :: st)) : fc_W X cs sl n h (pc) (ls) (vL x :: st) := by
  obtain ⟨p, l, e, R, s, m, args, below, meth, c, D, cy, B, Q⟩ := X
  obtain ⟨hx, hb, hml, hown, hts, hK, hnm, hR1, hR2, hR3, hR4⟩ := C
  intro H locs lsA hH hL hl
  exact lv_l2i hx hb dg Int64.toInt32_ofInt (k H locs lsA hH hL hl)
theorem fc_lcmp {x y : Int} (C : fc_C X own cc nL d nc ns nm) (dg : decode cc pc = .ok (.lcmp, 1)) (hx1 : fc_RL x) (hy : fc_RL y)
    (k : fc_W X cs sl n h (pc + 1) (ls) (vI (fc_cmp x y) :: st)) : fc_W X cs sl n h (pc) (ls) (vL y :: vL x :: st) := by
  obtain ⟨p, l, e, R, s, m, args, below, meth, c, D, cy, B, Q⟩ := X
  obtain ⟨hx, hb, hml, hown, hts, hK, hnm, hR1, hR2, hR3, hR4⟩ := C
  intro H locs lsA hH hL hl
  have e1 : lg_cmp (Int64.ofInt x) (Int64.ofInt y) = Int32.ofInt (fc_cmp x y) := by
    unfold lg_cmp fc_cmp
    simp only [gt_iff_lt, Int64.lt_iff_toInt_lt, ← Int64.toInt_inj, fc_toL hx1, fc_toL hy]
    repeat' split
    all_goals rfl
  refine W.lcmp hx hb dg ?_
  rw [e1]
  exact k H locs lsA hH hL hl
theorem fc_dup {v : fc_AV} (C : fc_C X own cc nL d nc ns nm) (dg : decode cc pc = .ok (.dup, 1)) (hc : fc_cat v = 1)
    (k : fc_W X cs sl n h (pc + 1) (ls) (v :: v :: st)) : fc_W X cs sl n h (pc) (ls) (v :: st) := by
  obtain ⟨p, l, e, R, s, m, args, below, meth, c, D, cy, B, Q⟩ := X
  obtain ⟨hx, hb, hml, hown, hts, hK, hnm, hR1, hR2, hR3, hR4⟩ := C
  intro H locs lsA hH hL hl
  exact lv_dup hx hb dg ((fc_v_cat _ _).trans hc) (k H locs lsA hH hL hl)
theorem fc_dup2 {v w : fc_AV} (C : fc_C X own cc nL d nc ns nm) (dg : decode cc pc = .ok (.dup2, 1)) (hc : fc_cat v = 1) (hc2 : fc_cat w = 1)
    (k : fc_W X cs sl n h (pc + 1) (ls) (v :: w :: v :: w :: st)) : fc_W X cs sl n h (pc) (ls) (v :: w :: st) := by
  obtain ⟨p, l, e, R, s, m, args, below, meth, c, D, cy, B, Q⟩ := X
  obtain ⟨hx, hb, hml, hown, hts, hK, hnm, hR1, hR2, hR3, hR4⟩ := C
  intro H locs lsA hH hL hl
  exact lv_dup2_11 hx hb dg ((fc_v_cat _ _).trans hc) ((fc_v_cat _ _).trans hc2) (k H locs lsA hH hL hl)
theorem fc_iff_eq {x y : Int} (hx : fc_R x) (hy : fc_R y) : Int32.ofInt x = Int32.ofInt y ↔ x = y := by
  rw [← Int32.toInt_inj, fc_to hx, fc_to hy]
theorem fc_iff_lt {x y : Int} (hx : fc_R x) (hy : fc_R y) : Int32.ofInt x < Int32.ofInt y ↔ x < y := by
  rw [Int32.lt_iff_toInt_lt, fc_to hx, fc_to hy]
theorem fc_iff_le {x y : Int} (hx : fc_R x) (hy : fc_R y) : Int32.ofInt x ≤ Int32.ofInt y ↔ x ≤ y := by
  rw [Int32.le_iff_toInt_le, fc_to hx, fc_to hy]
theorem fc_R0 : fc_R 0 := ⟨by decide, by decide⟩
theorem fc_icmp_eq {x y off : Int} {tgt : Nat} (C : fc_C X own cc nL d nc ns nm) (dg : decode cc pc = .ok (.if_icmp .eq off, 3)) (ht : (pc : Int) + off = (tgt : Int)) (hx1 : fc_R x) (hy : fc_R y)
    (kt : x = y → fc_W X cs sl n h (tgt) (ls) (st)) (kf : x ≠ y → fc_W X cs sl n h (pc + 3) (ls) (st)) : fc_W X cs sl n h (pc) (ls) (vI y :: vI x :: st) := by
  obtain ⟨p, l, e, R, s, m, args, below, meth, c, D, cy, B, Q⟩ := X
  obtain ⟨hx, hb, hml, hown, hts, hK, hnm, hR1, hR2, hR3, hR4⟩ := C
  intro H locs lsA hH hL hl
  exact lv_icmp_eq hx hb dg ht (fun q => kt ((fc_iff_eq hx1 hy).mp q) H locs lsA hH hL hl) (fun q => kf (fun z => q ((fc_iff_eq hx1 hy).mpr z)) H locs lsA hH hL hl)
theorem fc_if_eq {x off : Int} {tgt : Nat} (C : fc_C X own cc nL d nc ns nm) (dg : decode cc pc = .ok (.ifCond .eq off, 3)) (ht : (pc : Int) + off = (tgt : Int)) (hx1 : fc_R x)
    (kt : x = 0 → fc_W X cs sl n h (tgt) (ls) (st)) (kf : x ≠ 0 → fc_W X cs sl n h (pc + 3) (ls) (st)) : fc_W X cs sl n h (pc) (ls) (vI x :: st) := by
  obtain ⟨p, l, e, R, s, m, args, below, meth, c, D, cy, B, Q⟩ := X
  obtain ⟨hx, hb, hml, hown, hts, hK, hnm, hR1, hR2, hR3, hR4⟩ := C
  intro H locs lsA hH hL hl
  exact lv_if_eq hx hb dg ht (fun q => kt ((fc_iff_eq hx1 fc_R0).mp q) H locs lsA hH hL hl) (fun q => kf (fun z => q ((fc_iff_eq hx1 fc_R0).mpr z)) H locs lsA hH hL hl)
theorem fc_icmp_ne {x y off : Int} {tgt : Nat} (C : fc_C X own cc nL d nc ns nm) (dg : decode cc pc = .ok (.if_icmp .ne off, 3)) (ht : (pc : Int) + off = (tgt : Int)) (hx1 : fc_R x) (hy : fc_R y)
    (kt : x ≠ y → fc_W X cs sl n h (tgt) (ls) (st)) (kf : x = y → fc_W X cs sl n h (pc + 3) (ls) (st)) : fc_W X cs sl n h (pc) (ls) (vI y :: vI x :: st) := by
  obtain ⟨p, l, e, R, s, m, args, below, meth, c, D, cy, B, Q⟩ := X
  obtain ⟨hx, hb, hml, hown, hts, hK, hnm, hR1, hR2, hR3, hR4⟩ := C
  intro H locs lsA hH hL hl
  exact lv_icmp_ne hx hb dg ht (fun q => kt ((not_congr (fc_iff_eq hx1 hy)).mp q) H locs lsA hH hL hl) (fun q => kf (((fc_iff_eq hx1 hy)).mp q) H locs lsA hH hL hl)
theorem fc_if_ne {x off : Int} {tgt : Nat} (C : fc_C X own cc nL d nc ns nm) (dg : decode cc pc = .ok (.ifCond .ne off, 3)) (ht : (pc : Int) + off = (tgt : Int)) (hx1 : fc_R x)
    (kt : x ≠ 0 → fc_W X cs sl n h (tgt) (ls) (st)) (kf : x = 0 → fc_W X cs sl n h (pc + 3) (ls) (st)) : fc_W X cs sl n h (pc) (ls) (vI x :: st) := by
  obtain ⟨p, l, e, R, s, m, args, below, meth, c, D, cy, B, Q⟩ := X
  obtain ⟨hx, hb, hml, hown, hts, hK, hnm, hR1, hR2, hR3, hR4⟩ := C
  intro H locs lsA hH hL hl
  exact lv_if_ne hx hb dg ht (fun q => kt ((not_congr (fc_iff_eq hx1 fc_R0)).mp q) H locs lsA hH hL hl) (fun q => kf (((fc_iff_eq hx1 fc_R0)).mp q) H locs lsA hH hL hl)
theorem fc_icmp_lt {x y off : Int} {tgt : Nat} (C : fc_C X own cc nL d nc ns nm) (dg : decode cc pc = .ok (.if_icmp .lt off, 3)) (ht : (pc : Int) + off = (tgt : Int)) (hx1 : fc_R x) (hy : fc_R y)
    (kt : x < y → fc_W X cs sl n h (tgt) (ls) (st)) (kf : y ≤ x → fc_W X cs sl n h (pc + 3) (ls) (st)) : fc_W X cs sl n h (pc) (ls) (vI y :: vI x :: st) := by
  obtain ⟨p, l, e, R, s, m, args, below, meth, c, D, cy, B, Q⟩ := X
  obtain ⟨hx, hb, hml, hown, hts, hK, hnm, hR1, hR2, hR3, hR4⟩ := C
  intro H locs lsA hH hL hl
  exact lv_icmp_lt hx hb dg ht (fun q => kt ((fc_iff_lt hx1 hy).mp q) H locs lsA hH hL hl) (fun q => kf (Int.not_lt.mp (fun z => q ((fc_iff_lt hx1 hy).mpr z))) H locs lsA hH hL hl)
theorem fc_if_lt {x off : Int} {tgt : Nat} (C : fc_C X own cc nL d nc ns nm) (dg : decode cc pc = .ok (.ifCond .lt off, 3)) (ht : (pc : Int) + off = (tgt : Int)) (hx1 : fc_R x)
    (kt : x < 0 → fc_W X cs sl n h (tgt) (ls) (st)) (kf : 0 ≤ x → fc_W X cs sl n h (pc + 3) (ls) (st)) : fc_W X cs sl n h (pc) (ls) (vI x :: st) := by
  obtain ⟨p, l, e, R, s, m, args, below, meth, c, D, cy, B, Q⟩ := X
  obtain ⟨hx, hb, hml, hown, hts, hK, hnm, hR1, hR2, hR3, hR4⟩ := C
  intro H locs lsA hH hL hl
  exact lv_if_lt hx hb dg ht (fun q => kt ((fc_iff_lt hx1 fc_R0).mp q) H locs lsA hH hL hl) (fun q => kf (Int.not_lt.mp (fun z => q ((fc_iff_lt hx1 fc_R0).mpr z))) H locs lsA hH hL hl)
theorem fc_icmp_ge {x y off : Int} {tgt : Nat} (C : fc_C X own cc nL d nc ns nm) (dg : decode cc pc = .ok (.if_icmp .ge off, 3)) (ht : (pc : Int) + off = (tgt : Int)) (hx1 : fc_R x) (hy : fc_R y)
    (kt : y ≤ x → fc_W X cs sl n h (tgt) (ls) (st)) (kf : x < y → fc_W X cs sl n h (pc + 3) (ls) (st)) : fc_W X cs sl n h (pc) (ls) (vI y :: vI x :: st) := by
  obtain ⟨p, l, e, R, s, m, args, below, meth, c, D, cy, B, Q⟩ := X
  obtain ⟨hx, hb, hml, hown, hts, hK, hnm, hR1, hR2, hR3, hR4⟩ := C
  intro H locs lsA hH hL hl
  exact lv_icmp_ge hx hb dg ht (fun q => kt ((fc_iff_le hy hx1).mp q) H locs lsA hH hL hl) (fun q => kf (Int.not_le.mp (fun z => q ((fc_iff_le hy hx1).mpr z))) H locs lsA hH hL hl)
theorem fc_if_ge {x off : Int} {tgt : Nat} (C : fc_C X own cc nL d nc ns nm) (dg : decode cc pc = .ok (.ifCond .ge off, 3)) (ht : (pc : Int) + off = (tgt : Int)) (hx1 : fc_R x)
    (kt : 0 ≤ x → fc_W X cs sl n h (tgt) (ls) (st)) (kf : x < 0 → fc_W X cs sl n h (pc + 3) (ls) (st)) : fc_W X cs sl n h (pc) (ls) (vI x :: st) := by
  obtain ⟨p, l, e, R, s, m, args, below, meth, c, D, cy, B, Q⟩ := X
  obtain ⟨hx, hb, hml, hown, hts, hK, hnm, hR1, hR2, hR3, hR4⟩ := C
  intro H locs lsA hH hL hl
  exact lv_if_ge hx hb dg ht (fun q => kt ((fc_iff_le fc_R0 hx1).mp q) H locs lsA hH hL hl) (fun q => kf (Int.not_le.mp (fun z => q ((fc_iff_le fc_R0 hx1).mpr z))) H locs lsA hH hL hl)
theorem fc_icmp_gt {x y off : Int} {tgt : Nat} (C : fc_C X own cc nL d nc ns nm) (dg : decode cc pc = .ok (.if_icmp .gt off, 3)) (ht : (pc : Int) + off = (tgt : Int)) (hx1 : fc_R x) (hy : fc_R y)
    (kt : y < x → fc_W X cs sl n h (tgt) (ls) (st)) (kf : x ≤ y → fc_W X cs sl n h (pc + 3) (ls) (st)) : fc_W X cs sl n h (pc) (ls) (vI y :: vI x :: st) := by
  obtain ⟨p, l, e, R, s, m, args, below, meth, c, D, cy, B, Q⟩ := X
  obtain ⟨hx, hb, hml, hown, hts, hK, hnm, hR1, hR2, hR3, hR4⟩ := C
  intro H locs lsA hH hL hl
  exact lv_icmp_gt hx hb dg ht (fun q => kt ((fc_iff_lt hy hx1).mp q) H locs lsA hH hL hl) (fun q => kf (Int.not_lt.mp (fun z => q ((fc_iff_lt hy hx1).mpr z))) H locs lsA hH hL hl)
theorem fc_if_gt {x off : Int} {tgt : Nat} (C : fc_C X own cc nL d nc ns nm) (dg : decode cc pc = .ok (.ifCond .gt off, 3)) (ht : (pc : Int) + off = (tgt : Int)) (hx1 : fc_R x)
    (kt : 0 < x → fc_W X cs sl n h (tgt) (ls) (st)) (kf : x ≤ 0 → fc_W X cs sl n h (pc + 3) (ls) (st)) : fc_W X cs sl n h (pc) (ls) (vI x :: st) := by
  obtain ⟨p, l, e, R, s, m, args, below, meth, c, D, cy, B, Q⟩ := X
  obtain ⟨hx, hb, hml, hown, hts, hK, hnm, hR1, hR2, hR3, hR4⟩ := C
  intro H locs lsA hH hL hl
  exact lv_if_gt hx hb dg ht (fun q => kt ((fc_iff_lt fc_R0 hx1).mp q) H locs lsA hH hL hl) (fun q => kf (Int.not_lt.mp (fun z => q ((fc_iff_lt fc_R0 hx1).mpr z))) H locs lsA hH hL hl)
theorem fc_icmp_le {x y off : Int} {tgt : Nat} (C : fc_C X own cc nL d nc ns nm) (dg : decode cc pc = .ok (.if_icmp .le off, 3)) (ht : (pc : Int) + off = (tgt : Int)) (hx1 : fc_R x) (hy : fc_R y)
    (kt : x ≤ y → fc_W X cs sl n h (tgt) (ls) (st)) (kf : y < x → fc_W X cs sl n h (pc + 3) (ls) (st)) : fc_W X cs sl n h (pc) (ls) (vI y :: vI x :: st) := by
  obtain ⟨p, l, e, R, s, m, args, below, meth, c, D, cy, B, Q⟩ := X
  obtain ⟨hx, hb, hml, hown, hts, hK, hnm, hR1, hR2, hR3, hR4⟩ := C
  intro H locs lsA hH hL hl
  exact lv_icmp_le hx hb dg ht (fun q => kt ((fc_iff_le hx1 hy).mp q) H locs lsA hH hL hl) (fun q => kf (Int.not_le.mp (fun z => q ((fc_iff_le hx1 hy).mpr z))) H locs lsA hH hL hl)
theorem fc_if_le {x off : Int} {tgt : Nat} (C : fc_C X own cc nL d nc ns nm) (dg : decode cc pc = .ok (.ifCond .le off, 3)) (ht : (pc : Int) + off = (tgt : Int)) (hx1 : fc_R x)
    (kt : x ≤ 0 → fc_W X cs sl n h (tgt) (ls) (st)) (kf : 0 < x → fc_W X cs sl n h (pc + 3) (ls) (st)) : fc_W X cs sl n h (pc) (ls) (vI x :: st) := by
  obtain ⟨p, l, e, R, s, m, args, below, meth, c, D, cy, B, Q⟩ := X
  obtain ⟨hx, hb, hml, hown, hts, hK, hnm, hR1, hR2, hR3, hR4⟩ := C
  intro H locs lsA hH hL hl
  exact lv_if_le hx hb dg ht (fun q => kt ((fc_iff_le hx1 fc_R0).mp q) H locs lsA hH hL hl) (fun q => kf (Int.not_le.mp (fun z => q ((fc_iff_le hx1 fc_R0).mpr z))) H locs lsA hH hL hl)
theorem fc_goto {off : Int} {tgt : Nat} (C : fc_C X own cc nL d nc ns nm) (dg : decode cc pc = .ok (.goto off, 3)) (ht : (pc : Int) + off = (tgt : Int))
    (k : fc_W X cs sl n h (tgt) (ls) (st)) : fc_W X cs sl n h (pc) (ls) (st) := by
  obtain ⟨p, l, e, R, s, m, args, below, meth, c, D, cy, B, Q⟩ := X
  obtain ⟨hx, hb, hml, hown, hts, hK, hnm, hR1, hR2, hR3, hR4⟩ := C
  intro H locs lsA hH hL hl
  exact lv_goto hx hb dg ht (k H locs lsA hH hL hl)
theorem fc_lookup {dflt : Int} {ps : Array (Int × Int)} {len : Nat} {x off : Int} {tgt : Nat} (C : fc_C X own cc nL d nc ns nm) (dg : decode cc pc = .ok (.lookupswitch dflt ps, len)) (hx1 : fc_R x) (hp : (ps.toList.zip (ps.toList.drop 1)).all (fun (a, next) => a.1 < next.1) = true) (ho : Op.lookupswitch.offset ps.toList dflt x = off) (ht : (pc : Int) + off = (tgt : Int))
    (k : fc_W X cs sl n h (tgt) (ls) (st)) : fc_W X cs sl n h (pc) (ls) (vI x :: st) := by
  obtain ⟨p, l, e, R, s, m, args, below, meth, c, D, cy, B, Q⟩ := X
  obtain ⟨hx, hb, hml, hown, hts, hK, hnm, hR1, hR2, hR3, hR4⟩ := C
  intro H locs lsA hH hL hl
  exact lv_lookup hx hb dg hp (by rw [fc_to hx1]; exact ho) ht (k H locs lsA hH hL hl)
theorem fc_tableOut {dflt lo hi : Int} {offs : Array Int} {len : Nat} {x : Int} {tgt : Nat} (C : fc_C X own cc nL d nc ns nm) (dg : decode cc pc = .ok (.tableswitch dflt lo hi offs, len)) (hx1 : fc_R x) (ho : x < lo ∨ hi < x) (ht : (pc : Int) + dflt = (tgt : Int))
    (k : fc_W X cs sl n h (tgt) (ls) (st)) : fc_W X cs sl n h (pc) (ls) (vI x :: st) := by
  obtain ⟨p, l, e, R, s, m, args, below, meth, c, D, cy, B, Q⟩ := X
  obtain ⟨hx, hb, hml, hown, hts, hK, hnm, hR1, hR2, hR3, hR4⟩ := C
  intro H locs lsA hH hL hl
  exact lv_tableOut hx hb dg (by rw [fc_to hx1]; exact ho) ht (k H locs lsA hH hL hl)
theorem fc_tableIn {dflt lo hi : Int} {offs : Array Int} {len : Nat} {x off : Int} {tgt : Nat} (C : fc_C X own cc nL d nc ns nm) (dg : decode cc pc = .ok (.tableswitch dflt lo hi offs, len)) (hx1 : fc_R x) (h1 : lo ≤ x) (h2 : x ≤ hi) (ho : offs[(x - lo).toNat]? = some off) (ht : (pc : Int) + off = (tgt : Int))
    (k : fc_W X cs sl n h (tgt) (ls) (st)) : fc_W X cs sl n h (pc) (ls) (vI x :: st) := by
  obtain ⟨p, l, e, R, s, m, args, below, meth, c, D, cy, B, Q⟩ := X
  obtain ⟨hx, hb, hml, hown, hts, hK, hnm, hR1, hR2, hR3, hR4⟩ := C
  intro H locs lsA hH hL hl
  exact lv_tableIn hx hb dg (by rw [fc_to hx1]; omega) (by rw [fc_to hx1]; omega) (by rw [fc_to hx1]; exact ho) ht (k H locs lsA hH hL hl)
end FCR
end
section
/-! the tables' words hold at every later state -/
def fc_AOA (t : FieldType) (U : State) : Prop := (Cond.arrayOver (.array t)).before #[] U = true
theorem fc_AOA.moved {t : FieldType} {u U : State} (hvm : u.vm.Alike U.vm) (h : fc_AOA t u) : fc_AOA t U := by
  obtain ⟨comp, c, k, h1, h2, h3, h4, h5⟩ := arrayOverA_spec h
  obtain ⟨k', hk', he⟩ := hvm.2.2 _ _ h3
  have hi : (U.vm.classes.findIdx? fun (x : Class) => match x.kind with | .array component _ => component == comp | _ => false) = some c := by
    rw [hvm.findIdx?_eq _ (fun _ => rfl)]; exact h2
  have hkind : k'.kind = .array comp (.array t) := by rw [he]; exact h4
  have f1 : U.vm.findClass (FieldType.array t).toString = some comp := by rw [hvm.findClass]; exact h1
  have f2 : U.vm.findClass ("[" ++ (FieldType.array t).toString) = some c := by rw [hvm.findClass]; exact h5
  unfold fc_AOA Cond.before Cond.holds
  simp only [Cond.value]
  rw [f1, Option.bind_some]
  refine (congrArg (fun o : Option Nat => (o.bind (fun c => (U.vm.classes[c]?).map fun (k : Class) => match k.kind with | .array _ ty => decide (ty = FieldType.array t) && decide (U.vm.findClass ("[" ++ (FieldType.array t).toString) = some c) | _ => false) == some true)) hi).trans ?_
  simp [hk', hkind, f2]
theorem fc_warm {w : Cond} (hw : fc_gw w = true) {args a' : Array Value} {s U : State} (hW : s.WarmedH U.vm) (h : w.before args s = true) : w.before a' U = true := by
  by_cases hg : goodWord w = true
  · exact word_at hW (good_of_word hg) h
  · have hg' : goodWord w = false := by simpa using hg
    unfold fc_gw at hw
    rw [hg', Bool.false_or] at hw
    split at hw
    · exact va_Nw.use rfl (va_Nw.warmF hW (va_tabs rfl rfl h))
    · exact va_Nw.use rfl (va_Nw.warmM hW (va_tabs rfl rfl h))
    · exact va_AO.use (va_AO.moved hW.alike (va_AO.of h))
    · exact fc_AOA.moved hW.alike h
    · cases hw
theorem fc_pay {args : Array Value} {s : State} (hts : ∀ w ∈ fc_tbl, w.before args s = true) : ∀ w ∈ fc_tbl, ∀ (a' : Array Value) (U : State), s.WarmedH U.vm → w.before a' U = true :=
  fun w hw a' U hW => fc_warm (List.mem_filter.mp hw).2 hW (hts w hw)

/-! fields, arrays, calls, returns -/
/-- field k of the class c, as the class own names it by its entry ix; ty its type, fin: final -/
def fc_FL (own : String) (ix c k : Nat) (ty : FieldType) (fin nest : Bool) : Prop :=
  ∃ (Cn : String) (T : u_T) (N : Nat) (ty0 : Nat → FieldType), fc_cl[c]? = some (Cn, T, N) ∧ (∀ w ∈ u_ws Cn T N, w ∈ fc_tbl) ∧ k < N ∧ (∀ k, k < N → parseFieldDescriptor (T k).2.2.1 = some (ty0 k)) ∧ (∀ a, a < N → ∀ b, b < N → a ≠ b → (T a).2.1 ≠ (T b).2.1) ∧ ty0 k = ty ∧ (T k).2.2.2 = fin ∧
    ((nest = false ∧ (T k).1 = own ∧ Cond.fieldLink own ix (T k).1 (T k).2.1 (T k).2.2.1 ∈ fc_tbl) ∨ (nest = true ∧ ∃ host : String, Cond.fieldLinkNest own ix (T k).1 (T k).2.1 (T k).2.2.1 host ∈ fc_tbl))
section FCM
variable {X : fc_X} {own : String} {cc : ByteArray} {nL d nc ns : Nat} {nm : String} {cs sl n : Nat} {h : Nat → fc_AC} {pc : Nat} {ls : List (Option fc_AV)} {st : List fc_AV}
theorem fc_map_get {b : Nat} {fs : List fc_AV} {k : Nat} {v : fc_AV} (hv : fs[k]? = some v) : vp_V (fs.map (fc_v b)) k = fc_v b v := by
  simp [vp_V, hv]
theorem fc_map_set {b : Nat} {fs : List fc_AV} {k : Nat} (v : fc_AV) (hk : k < fs.length) (j : Nat) : updV (vp_V (fs.map (fc_v b))) k (fc_v b v) j = vp_V ((fs.set k v).map (fc_v b)) j := by
  rw [vp_updV_set (by simpa using hk), List.map_set]
theorem fc_getf {i c k ix : Nat} {ty : FieldType} {fin nest : Bool} {fs : List fc_AV} {v : fc_AV} (C : fc_C X own cc nL d nc ns nm) (dg : decode cc pc = .ok (.getfield ix, 3)) (F : fc_FL own ix c k ty fin nest) (hi : i < n) (he : h i = cO c fs) (hv : fs[k]? = some v)
    (kk : fc_W X cs sl n h (pc + 3) ls (v :: st)) : fc_W X cs sl n h pc ls (vR i :: st) := by
  obtain ⟨p, l, e, R, s, m, args, below, meth, c9, D, cy, B, Q⟩ := X
  obtain ⟨hx, hb, hml, hown, hts, hK, hnm, hR1, hR2, hR3, hR4⟩ := C
  obtain ⟨Cn, T, N, ty0, hc, hin, hkN, hty, hnm2, hty2, hfin, hlink⟩ := F
  intro H locs lsA hH hL hl
  have hcell := hH.2.2 i hi
  rw [he] at hcell
  obtain ⟨r, hr, cell, q1, q2, q3, q4⟩ := hcell
  cases hc.symm.trans hr
  obtain ⟨hS, hfc, kC, hkC, hkind⟩ := hK.1 c _ hc
  obtain ⟨cf, kf, fi, f, hi9, hsl⟩ := hS k hkN
  have hst := (u_facts hfc hkC (u_lays hts hin hkN) hi9).1
  have hv9 : cell.slots[f.slot]? = some (fc_v B.size v) := by rw [hsl, q4 k hkN, fc_map_get hv]
  have kk9 := kk H locs lsA hH hL hl
  rcases hlink with ⟨-, -, hw⟩ | ⟨-, host, hw⟩
  · exact W.getf hx hb hown (hts _ hw) hi9 hst q1 (by rw [q3]; exact fun z => by cases z) hv9 rfl rfl dg kk9
  · exact va_Wgetf hx hb hown (hts _ hw) hi9 hst q1 (by rw [q3]; exact fun z => by cases z) hv9 rfl rfl dg kk9
def fc_fit (ty : FieldType) (v : fc_AV) : Prop := match v with
  | .inl _ => ty = .int
  | .inr (.inl _) => ty = .long
  | .inr (.inr _) => (∃ C, ty = .object C) ∨ ∃ t, ty = .array t
theorem fc_fit.ok {ty : FieldType} {v : fc_AV} (hf : fc_fit ty v) (b : Nat) : narrow ty (fc_v b v) = fc_v b v ∧ fits ty (fc_v b v) = true := by
  rcases v with z | z | o
  · cases hf; exact ⟨rfl, rfl⟩
  · cases hf; exact ⟨rfl, rfl⟩
  · rcases hf with ⟨C, rfl⟩ | ⟨t, rfl⟩ <;> cases o <;> exact ⟨rfl, rfl⟩
theorem fc_putf {i c k ix : Nat} {ty : FieldType} {fin nest : Bool} {fs : List fc_AV} {v : fc_AV} (C : fc_C X own cc nL d nc ns nm) (dg : decode cc pc = .ok (.putfield ix, 3)) (F : fc_FL own ix c k ty fin nest) (hi : i < n) (he : h i = cO c fs) (hk : k < fs.length) (hf : fc_fit ty v) (hfn : fin = false ∨ (fin = true ∧ nm = "<init>" ∧ nest = false))
    (kk : fc_W X cs sl n (fc_up h i (cO c (fs.set k v))) (pc + 3) ls st) : fc_W X cs sl n h pc ls (v :: vR i :: st) := by
  obtain ⟨p, l, e, R, s, m, args, below, meth, c9, D, cy, B, Q⟩ := X
  obtain ⟨hx, hb, hml, hown, hts, hK, hnm, hR1, hR2, hR3, hR4⟩ := C
  obtain ⟨Cn, T, N, ty0, hc, hin, hkN, hty, hnm2, hty2, hfin, hlink⟩ := F
  intro H locs lsA hH hL hl
  have hcell := hH.2.2 i hi
  rw [he] at hcell
  obtain ⟨r, hr, cell, q1, q2, q3, q4⟩ := hcell
  cases hc.symm.trans hr
  have hap := va_apart (own := own) hts hin ty0 hty hnm2 hK hc
  obtain ⟨hS, hfc, kC, hkC, hkind⟩ := hK.1 c _ hc
  obtain ⟨cf, kf, fi, f, hi9, hsl⟩ := hS k hkN
  have hst := (u_facts hfc hkC (u_lays hts hin hkN) hi9).1
  have hlay := hts _ (hin _ (u_in_lay hkN))
  obtain ⟨hn1, hn2⟩ := hf.ok B.size
  have hpd : parseFieldDescriptor (T k).2.2.1 = some ty := by rw [hty k hkN, hty2]
  have fin9 : ∀ H' : Heap, H'[B.size + i]? = some (cell.setSlot f.slot (fc_v B.size v)) → H'.size = H.size → (∀ q, q ≠ B.size + i → H'[q]? = H[q]?) → W p l e R s m args below meth c9 H' (locs ++ [⟨B.size + i, f.slot⟩]) cs sl Q (F0 m (pc + 3) lsA (st.map (fc_v B.size))) := by
    intro H' e1 e2 e3
    refine kk H' _ lsA (hH.put ⟨_, hc, ?_⟩ e2 e3) ?_ hl
    · rw [hsl] at e1
      exact t_OB.to (V := updV (vp_V (fs.map (fc_v B.size))) k (fc_v B.size v)) ⟨_, e1, q2, q3, t_set q4 hap hkN _⟩ (fun j _ => fc_map_set v hk j)
    · intro q hq
      rcases List.mem_append.mp hq with z | z
      · exact hL q z
      · simp at z; subst z; exact Nat.le_add_right _ _
  unfold u_lay at hlay
  rcases hfn with hf0 | ⟨hf1, hin2, hne⟩
  · rw [if_neg (by rw [hfin, hf0]; decide)] at hlay
    have h6 := u_store hfc hkC hkind hlay hi9 hpd hn1 hn2
    rcases hlink with ⟨-, -, hw⟩ | ⟨-, host, hw⟩
    · exact W.putK hx hb (f := f) ⟨hown, hts _ hw, ⟨_, _, _, hi9⟩, hst⟩ (by rw [q2]; exact h6) q1 q3 (by rw [hsl]; exact k2_hasslot (q4 k hkN)) rfl rfl dg fin9
    · exact va_WputK hx hb (f := f) hown (hts _ hw) hi9 hst (by rw [q2]; exact h6) q1 q3 (by rw [hsl]; exact k2_hasslot (q4 k hkN)) rfl rfl dg fin9
  · rw [if_pos (by rw [hfin, hf1])] at hlay
    have h6 := u_fits hfc hkC hkind (Or.inr hlay) hi9 hpd hn1 hn2
    rcases hlink with ⟨-, hdecl, hw⟩ | ⟨hne2, host, hw⟩
    · have hcf : m.cls = cf := by
        obtain ⟨_, _, c', _, _, _, -, -, hf', -, -, -, hown2, -⟩ := Cond.laysFinal_spec hlay
        have e1 : c' = cf := by have := hi9.symm.trans hf'; simp at this; exact this.1.symm
        rw [hdecl] at hown2
        rw [← e1]; exact Option.some.inj (hown.symm.trans hown2)
      exact W.putFinK hx hb hown (hts _ hw) hi9 hst hcf (hnm.trans hin2) (by rw [q2]; exact h6) q1 q3 (by rw [hsl]; exact k2_hasslot (q4 k hkN)) rfl rfl dg fin9
    · rw [hne] at hne2
      cases hne2

theorem fc_ix {i : Int} {N : Nat} (h0 : 0 ≤ i) (h1 : i < N) (hN : N < 2147483648) : ¬ (Int32.ofInt i < 0 ∨ N ≤ (Int32.ofInt i).toNatClampNeg) ∧ (Int32.ofInt i).toNatClampNeg = i.toNat ∧ i.toNat < N ∧ ((i.toNat : Nat) : Int) = i := by
  have hR : fc_R i := ⟨by omega, by omega⟩
  have e1 : (Int32.ofInt i).toNatClampNeg = i.toNat := by
    show (Int32.ofInt i).toInt.toNat = i.toNat
    rw [fc_to hR]
  refine ⟨?_, e1, by omega, by omega⟩
  rw [e1]
  rintro (q | q)
  · have : i < 0 := (fc_iff_lt hR fc_R0).mp q
    omega
  · omega
theorem fc_iaload {i : Nat} {j : Int} {N : Nat} {f : Int → Int} (C : fc_C X own cc nL d nc ns nm) (dg : decode cc pc = .ok (.iaload, 1)) (hi : i < n) (he : h i = cI N f) (h0 : 0 ≤ j) (h1 : j < N) (hN : N < 2147483648)
    (k : fc_W X cs sl n h (pc + 1) ls (vI (f j) :: st)) : fc_W X cs sl n h pc ls (vI j :: vR i :: st) := by
  obtain ⟨p, l, e, R, s, m, args, below, meth, c, D, cy, B, Q⟩ := X
  obtain ⟨hx, hb, hml, hown, hts, hK, hnm, hR1, hR2, hR3, hR4⟩ := C
  intro H locs lsA hH hL hl
  have hcell := hH.2.2 i hi
  rw [he] at hcell
  have hcell : H[B.size + i]? = some (arrV (cy 0) N (fun j => .int (Int32.ofInt (f j)))) := hcell
  obtain ⟨g1, g2, g3, g4⟩ := fc_ix h0 h1 hN
  refine W.iald (v := .int (Int32.ofInt (f j))) hx hb hcell ((hK.2 0 _ rfl).1 N _) (fun q => by cases q) (by rw [arrV_size]; exact g1) (by rw [g2, arrV_read _ _ g3, g4]) rfl rfl dg ?_
  exact k H locs lsA hH hL hl
theorem fc_laload {i : Nat} {j : Int} {N : Nat} {f : Int → Int} (C : fc_C X own cc nL d nc ns nm) (dg : decode cc pc = .ok (.laload, 1)) (hi : i < n) (he : h i = cJ N f) (h0 : 0 ≤ j) (h1 : j < N) (hN : N < 2147483648)
    (k : fc_W X cs sl n h (pc + 1) ls (vL (f j) :: st)) : fc_W X cs sl n h pc ls (vI j :: vR i :: st) := by
  obtain ⟨p, l, e, R, s, m, args, below, meth, c, D, cy, B, Q⟩ := X
  obtain ⟨hx, hb, hml, hown, hts, hK, hnm, hR1, hR2, hR3, hR4⟩ := C
  intro H locs lsA hH hL hl
  have hcell := hH.2.2 i hi
  rw [he] at hcell
  have hcell : H[B.size + i]? = some (arrV (cy 1) N (fun j => .long (Int64.ofInt (f j)))) := hcell
  obtain ⟨g1, g2, g3, g4⟩ := fc_ix h0 h1 hN
  refine W.lald (v := .long (Int64.ofInt (f j))) hx hb hcell ((hK.2 1 _ rfl).1 N _) (fun q => by cases q) (by rw [arrV_size]; exact g1) (by rw [g2, arrV_read _ _ g3, g4]) rfl rfl dg ?_
  exact k H locs lsA hH hL hl
theorem fc_aaload {i a kd : Nat} {j : Int} {N : Nat} {g : Int → Option Nat} (C : fc_C X own cc nL d nc ns nm) (dg : decode cc pc = .ok (.aaload, 1)) (hkd : kd = 2 ∨ kd = 3 ∨ kd = 4) (hi : i < n) (he : h i = cP kd N g) (h0 : 0 ≤ j) (h1 : j < N) (hN : N < 2147483648) (hg : g j = some a)
    (k : fc_W X cs sl n h (pc + 1) ls (vR a :: st)) : fc_W X cs sl n h pc ls (vI j :: vR i :: st) := by
  obtain ⟨p, l, e, R, s, m, args, below, meth, c, D, cy, B, Q⟩ := X
  obtain ⟨hx, hb, hml, hown, hts, hK, hnm, hR1, hR2, hR3, hR4⟩ := C
  intro H locs lsA hH hL hl
  have hcell := hH.2.2 i hi
  rw [he] at hcell
  have hcell : H[B.size + i]? = some (arrV (cy kd) N (fun j => va_rf ((g j).map (fun a => B.size + a)))) := hcell
  obtain ⟨g1, g2, g3, g4⟩ := fc_ix h0 h1 hN
  have harr : ∃ ty : FieldType, s.isArrayOf (arrV (cy kd) N (fun j => va_rf ((g j).map (fun a => B.size + a)))) ty ∧ ty.isReference = true := by
    rcases hkd with rfl | rfl | rfl
    · exact ⟨_, (hK.2 2 _ rfl).1 N _, rfl⟩
    · exact ⟨_, (hK.2 3 _ rfl).1 N _, rfl⟩
    · exact ⟨_, (hK.2 4 _ rfl).1 N _, rfl⟩
  obtain ⟨ty, a1, a2⟩ := harr
  refine W.aald (v := .ref (B.size + a)) hx hb hcell a1 a2 (fun q => by cases q) (by rw [arrV_size]; exact g1) (by rw [g2, arrV_read _ _ g3, g4, hg]; rfl) rfl rfl dg ?_
  exact k H locs lsA hH hL hl
def fc_set (f : Int → Int) (j v : Int) : Int → Int := fun i => if i = j then v else f i
theorem fc_iastore {i : Nat} {j v : Int} {N : Nat} {f : Int → Int} (C : fc_C X own cc nL d nc ns nm) (dg : decode cc pc = .ok (.iastore, 1)) (hi : i < n) (he : h i = cI N f) (h0 : 0 ≤ j) (h1 : j < N) (hN : N < 2147483648)
    (k : fc_W X cs sl n (fc_up h i (cI N (fc_set f j v))) (pc + 1) ls st) : fc_W X cs sl n h pc ls (vI v :: vI j :: vR i :: st) := by
  obtain ⟨p, l, e, R, s, m, args, below, meth, c, D, cy, B, Q⟩ := X
  obtain ⟨hx, hb, hml, hown, hts, hK, hnm, hR1, hR2, hR3, hR4⟩ := C
  intro H locs lsA hH hL hl
  have hcell := hH.2.2 i hi
  rw [he] at hcell
  have hcell : H[B.size + i]? = some (arrV (cy 0) N (fun j => .int (Int32.ofInt (f j)))) := hcell
  obtain ⟨g1, g2, g3, g4⟩ := fc_ix h0 h1 hN
  refine W.iast hx hb hcell ((hK.2 0 _ rfl).1 N _) (fun q => by cases q) (by rw [arrV_size]; exact g1) rfl rfl dg (fun H' e1 e2 e3 => ?_)
  refine k H' _ lsA (hH.put ?_ e2 e3) ?_ hl
  · show H'[B.size + i]? = some (arrV (cy 0) N (fun j9 => .int (Int32.ofInt (fc_set f j v j9))))
    rw [e1, g2, arrV_store]
    refine congrArg some (arrV_congr fun j9 _ => ?_)
    unfold updV fc_set
    by_cases q : j9 = j.toNat
    · rw [if_pos q, if_pos (by omega)]
    · rw [if_neg q, if_neg (by omega)]
  · intro q hq
    rcases List.mem_append.mp hq with z | z
    · exact hL q z
    · simp at z; subst z; exact Nat.le_add_right _ _
theorem fc_lastore {i : Nat} {j v : Int} {N : Nat} {f : Int → Int} (C : fc_C X own cc nL d nc ns nm) (dg : decode cc pc = .ok (.lastore, 1)) (hi : i < n) (he : h i = cJ N f) (h0 : 0 ≤ j) (h1 : j < N) (hN : N < 2147483648)
    (k : fc_W X cs sl n (fc_up h i (cJ N (fc_set f j v))) (pc + 1) ls st) : fc_W X cs sl n h pc ls (vL v :: vI j :: vR i :: st) := by
  obtain ⟨p, l, e, R, s, m, args, below, meth, c, D, cy, B, Q⟩ := X
  obtain ⟨hx, hb, hml, hown, hts, hK, hnm, hR1, hR2, hR3, hR4⟩ := C
  intro H locs lsA hH hL hl
  have hcell := hH.2.2 i hi
  rw [he] at hcell
  have hcell : H[B.size + i]? = some (arrV (cy 1) N (fun j => .long (Int64.ofInt (f j)))) := hcell
  obtain ⟨g1, g2, g3, g4⟩ := fc_ix h0 h1 hN
  refine W.last hx hb hcell ((hK.2 1 _ rfl).1 N _) (fun q => by cases q) (by rw [arrV_size]; exact g1) rfl rfl dg (fun H' e1 e2 e3 => ?_)
  refine k H' _ lsA (hH.put ?_ e2 e3) ?_ hl
  · show H'[B.size + i]? = some (arrV (cy 1) N (fun j9 => .long (Int64.ofInt (fc_set f j v j9))))
    rw [e1, g2, arrV_store]
    refine congrArg some (arrV_congr fun j9 _ => ?_)
    unfold updV fc_set
    by_cases q : j9 = j.toNat
    · rw [if_pos q, if_pos (by omega)]
    · rw [if_neg q, if_neg (by omega)]
  · intro q hq
    rcases List.mem_append.mp hq with z | z
    · exact hL q z
    · simp at z; subst z; exact Nat.le_add_right _ _
theorem fc_alenI {i : Nat} {N : Nat} {f : Int → Int} (C : fc_C X own cc nL d nc ns nm) (dg : decode cc pc = .ok (.arraylength, 1)) (hi : i < n) (he : h i = cI N f)
    (k : fc_W X cs sl n h (pc + 1) ls (vI (N : Int) :: st)) : fc_W X cs sl n h pc ls (vR i :: st) := by
  obtain ⟨p, l, e, R, s, m, args, below, meth, c, D, cy, B, Q⟩ := X
  obtain ⟨hx, hb, hml, hown, hts, hK, hnm, hR1, hR2, hR3, hR4⟩ := C
  intro H locs lsA hH hL hl
  have hcell := hH.2.2 i hi
  rw [he] at hcell
  have hcell : H[B.size + i]? = some (arrV (cy 0) N (fun j => .int (Int32.ofInt (f j)))) := hcell
  refine W.alen (n := Int32.ofInt (N : Int)) hx hb hcell ((hK.2 0 _ rfl).1 N _) (by rw [arrV_size]; rfl) rfl rfl dg ?_
  exact k H locs lsA hH hL hl
theorem fc_alenP {i kd : Nat} {N : Nat} {g : Int → Option Nat} (C : fc_C X own cc nL d nc ns nm) (dg : decode cc pc = .ok (.arraylength, 1)) (hkd : kd = 2 ∨ kd = 3 ∨ kd = 4) (hi : i < n) (he : h i = cP kd N g)
    (k : fc_W X cs sl n h (pc + 1) ls (vI (N : Int) :: st)) : fc_W X cs sl n h pc ls (vR i :: st) := by
  obtain ⟨p, l, e, R, s, m, args, below, meth, c, D, cy, B, Q⟩ := X
  obtain ⟨hx, hb, hml, hown, hts, hK, hnm, hR1, hR2, hR3, hR4⟩ := C
  intro H locs lsA hH hL hl
  have hcell := hH.2.2 i hi
  rw [he] at hcell
  have hcell : H[B.size + i]? = some (arrV (cy kd) N (fun j => va_rf ((g j).map (fun a => B.size + a)))) := hcell
  have harr : ∃ ty : FieldType, s.isArrayOf (arrV (cy kd) N (fun j => va_rf ((g j).map (fun a => B.size + a)))) ty := by
    rcases hkd with rfl | rfl | rfl
    · exact ⟨_, (hK.2 2 _ rfl).1 N _⟩
    · exact ⟨_, (hK.2 3 _ rfl).1 N _⟩
    · exact ⟨_, (hK.2 4 _ rfl).1 N _⟩
  obtain ⟨ty, a1⟩ := harr
  refine W.alen (n := Int32.ofInt (N : Int)) hx hb hcell a1 (by rw [arrV_size]; rfl) rfl rfl dg ?_
  exact k H locs lsA hH hL hl
/-! returns -/
variable {ret : Option FieldType} {r : Option fc_AV} {n' : Nat} {h' : Nat → fc_AC}
theorem fc_iret {v : Int} {ty : FieldType} (C : fc_C X own cc nL d nc ns nm) (T : fc_T X (some ty) r n' h' cs sl) (dg : decode cc pc = .ok (.ireturn, 1)) (hty : ty = .int ∨ (ty = .boolean ∧ (v = 0 ∨ v = 1))) (hr : r = some (vI v)) (hn : n = n') (hh : ∀ i : Nat, i < n → fc_ceq (h i) (h' i)) : fc_W X cs sl n h pc ls [vI v] := by
  obtain ⟨p, l, e, R, s, m, args, below, meth, c, D, cy, B, Q⟩ := X
  obtain ⟨hx, hb, hml, hown, hts, hK, hnm, hR1, hR2, hR3, hR4⟩ := C
  obtain ⟨hret, hlocks, hQ⟩ := T
  subst hn
  intro H locs lsA hH hL hl
  rw [hQ]
  rcases hty with rfl | ⟨rfl, hv⟩
  · exact W.iret (v := Int32.ofInt v) hx hb hret (fun t ht _ => ⟨by rw [hr]; rfl, by rw [ht]; exact hH.ceq hh⟩) hL dg
  · exact W.zret (v := Int32.ofInt v) (ty := .boolean) hx hb hret (by rcases hv with rfl | rfl <;> rfl) (fun t ht _ => ⟨by rw [hr]; rfl, by rw [ht]; exact hH.ceq hh⟩) hL dg
theorem fc_lret {v : Int} (C : fc_C X own cc nL d nc ns nm) (T : fc_T X (some .long) r n' h' cs sl) (dg : decode cc pc = .ok (.lreturn, 1)) (hr : r = some (vL v)) (hn : n = n') (hh : ∀ i : Nat, i < n → fc_ceq (h i) (h' i)) : fc_W X cs sl n h pc ls [vL v] := by
  obtain ⟨p, l, e, R, s, m, args, below, meth, c, D, cy, B, Q⟩ := X
  obtain ⟨hx, hb, hml, hown, hts, hK, hnm, hR1, hR2, hR3, hR4⟩ := C
  obtain ⟨hret, hlocks, hQ⟩ := T
  subst hn
  intro H locs lsA hH hL hl
  rw [hQ]
  exact W.lret (v := Int64.ofInt v) hx hb hret (fun t ht _ => ⟨by rw [hr]; rfl, by rw [ht]; exact hH.ceq hh⟩) hL dg
theorem fc_vret (C : fc_C X own cc nL d nc ns nm) (T : fc_T X none r n' h' cs sl) (dg : decode cc pc = .ok (.return_, 1)) (hr : r = none) (hn : n = n') (hh : ∀ i : Nat, i < n → fc_ceq (h i) (h' i)) : fc_W X cs sl n h pc ls [] := by
  obtain ⟨p, l, e, R, s, m, args, below, meth, c, D, cy, B, Q⟩ := X
  obtain ⟨hx, hb, hml, hown, hts, hK, hnm, hR1, hR2, hR3, hR4⟩ := C
  obtain ⟨hret, hlocks, hQ⟩ := T
  subst hn
  intro H locs lsA hH hL hl
  rw [hQ]
  exact W.vret hx hb hret (fun t ht _ => ⟨by rw [hr]; rfl, by rw [ht]; exact hH.ceq hh⟩) hL dg
theorem fc_aret {i : Nat} {Cn : String} (C : fc_C X own cc nL d nc ns nm) (T : fc_T X (some (.object Cn)) r n' h' cs sl) (dg : decode cc pc = .ok (.areturn, 1)) (hr : r = some (vR i)) (hn : n = n') (hh : ∀ i : Nat, i < n → fc_ceq (h i) (h' i)) : fc_W X cs sl n h pc ls [vR i] := by
  obtain ⟨p, l, e, R, s, m, args, below, meth, c, D, cy, B, Q⟩ := X
  obtain ⟨hx, hb, hml, hown, hts, hK, hnm, hR1, hR2, hR3, hR4⟩ := C
  obtain ⟨hret, hlocks, hQ⟩ := T
  subst hn
  intro H locs lsA hH hL hl
  rw [hQ]
  exact W.aret (v := .ref (B.size + i)) hx hb hret (Or.inl ⟨_, rfl⟩) (Or.inr ⟨_, rfl⟩) (fun t ht _ => ⟨by rw [hr]; rfl, by rw [ht]; exact hH.ceq hh⟩) hL dg
end FCM
end
section
/-! calls, and a method's contract out of its walk -/
def fc_MI (y : fc_Y) (np : Nat) : Prop := Cond.code y.1 y.2.1 y.2.2.1 y.2.2.2 ∈ fc_tbl ∧ Cond.initialized y.1.cls ∈ fc_tbl ∧ (y.1.cls ≠ "java/lang/invoke/MethodHandle" ∧ y.1.cls ≠ "java/lang/invoke/VarHandle") ∧ (parseMethodDescriptor y.1.desc).map (fun d => d.parameters.length) = some np ∧ y.2.2.1 ≤ 45 ∧ plainName y.1.cls = true
def fc_ML (own : String) (ix : Nat) (y : MethodName) : Prop := Cond.methodLink own ix y ∈ fc_tbl ∨ ∃ host : String, Cond.methodLinkNest own ix y host ∈ fc_tbl
def fc_en : List fc_AV → List (Option fc_AV)
  | [] => []
  | .inl z :: t => some (.inl z) :: fc_en t
  | .inr (.inl z) :: t => some (.inr (.inl z)) :: none :: fc_en t
  | .inr (.inr o) :: t => some (.inr (.inr o)) :: fc_en t
def fc_pd : Nat → List (Option fc_AV) → List (Option fc_AV)
  | 0, l => l
  | n + 1, [] => none :: fc_pd n []
  | n + 1, x :: t => x :: fc_pd n t
theorem fc_pd_get : ∀ {n : Nat} {l : List (Option fc_AV)} {k : Nat} {v : fc_AV}, fc_get (fc_pd n l) k = some v → fc_get l k = some v
  | 0, _, _, _, h => h
  | n + 1, [], 0, v, h => by cases h
  | n + 1, [], k + 1, v, h => by have := fc_pd_get (n := n) (l := []) (k := k) h; cases this
  | n + 1, x :: t, 0, v, h => h
  | n + 1, x :: t, k + 1, v, h => fc_pd_get (n := n) (l := t) (k := k) h
theorem fc_en_get (b : Nat) : ∀ (as : List fc_AV) (i k : Nat) (v : fc_AV), fc_get (fc_en as) k = some v → (i + k, fc_v b v) ∈ lv_args i (as.map (fc_v b))
  | [], _, _, _, h => by cases h
  | .inl z :: t, i, 0, v, h => by cases h; exact List.mem_cons_self
  | .inl z :: t, i, k + 1, v, h => by
    refine List.mem_cons_of_mem _ ?_
    have := fc_en_get b t (i + 1) k v h
    rw [show i + (k + 1) = i + 1 + k by omega]
    exact this
  | .inr (.inl z) :: t, i, 0, v, h => by cases h; exact List.mem_cons_self
  | .inr (.inl z) :: t, i, 1, v, h => by cases h
  | .inr (.inl z) :: t, i, k + 2, v, h => by
    refine List.mem_cons_of_mem _ ?_
    have := fc_en_get b t (i + 2) k v h
    rw [show i + (k + 2) = i + 2 + k by omega]
    exact this
  | .inr (.inr none) :: t, i, 0, v, h => by cases h; exact List.mem_cons_self
  | .inr (.inr none) :: t, i, k + 1, v, h => by
    refine List.mem_cons_of_mem _ ?_
    have := fc_en_get b t (i + 1) k v h
    rw [show i + (k + 1) = i + 1 + k by omega]
    exact this
  | .inr (.inr (some o)) :: t, i, 0, v, h => by cases h; exact List.mem_cons_self
  | .inr (.inr (some o)) :: t, i, k + 1, v, h => by
    refine List.mem_cons_of_mem _ ?_
    have := fc_en_get b t (i + 1) k v h
    rw [show i + (k + 1) = i + 1 + k by omega]
    exact this
def fc_len : List fc_AV → Nat
  | [] => 0
  | v :: t => fc_cat v + fc_len t
theorem fc_len_eq (b : Nat) : ∀ as : List fc_AV, (lg_sl (as.map (fc_v b))).length = fc_len as
  | [] => rfl
  | v :: t => by
    have ih := fc_len_eq b t
    unfold lg_sl at ih ⊢
    rw [List.map_cons, List.flatMap_cons, List.length_append, ih, fc_v_cat]
    rcases v with z | z | o <;> simp [fc_cat, fc_len]
theorem fc_M.of {y : fc_Y} {d nc ns np : Nat} {as : List fc_AV} {n : Nat} {h : Nat → fc_AC} {r : Option fc_AV} {n' : Nat} {h' : Nat → fc_AC} (mi : fc_MI y np) (hlen : fc_len as ≤ y.2.2.1)
    (body : ∀ X : fc_X, fc_C X y.1.cls y.2.1 y.2.2.1 d nc ns y.1.name → fc_T X y.2.2.2 r n' h' nc ns → fc_W X 0 0 n h 0 (fc_pd y.2.2.1 (fc_en as)) []) : fc_M y d nc ns as n h r n' h' := by
  intro l D cy B
  refine Met.ofW (cc := y.2.1) (maxL := y.2.2.1) (ret := y.2.2.2) mi.2.2.2.2.2 rfl ?_
  intro p e s m args below meth c s₁ Bd hml hv
  obtain ⟨rfl, hH, hK⟩ := hv
  have hts := atoms_spec (ws := Cond.code y.1 y.2.1 y.2.2.1 y.2.2.2 :: fc_tbl) Bd.pre
  have key := body (p, l, e, (headSpec (Cond.code y.1 y.2.1 y.2.2.1 y.2.2.2 :: fc_tbl) (fc_rm d nc ns)).room, s, m, (as.map (fc_v B.size)).toArray, below, meth, c, D, cy, B, MQ below (fun _ _ o t => o = .returned (r.map (fc_v B.size)) ∧ fc_HR D cy B n' h' t.heap) (as.map (fc_v B.size)).toArray s nc ns (fun q => B.size ≤ q)) ⟨Bd.exec, Bd.bytes, hml, findClass_of_methodNamed Bd.named, fun w hw => hts w (List.mem_cons_of_mem _ hw), hK, (name_of_methodNamed Bd.named Bd.method).1, Nat.le_refl _, Nat.le_refl _, Nat.le_refl _, Nat.le_refl _⟩ ⟨Bd.returns, Bd.notSynchronized, rfl⟩
  rw [lg_entry_eq]
  have hl := lv_entry (as.map (fc_v B.size)) (n := y.2.2.1) (by rw [fc_len_eq]; exact hlen)
  refine key s.heap [] _ hH (fun q hq => by cases hq) ⟨hl.1.trans hml.symm, hl.2.1, fun k v hk => ?_⟩
  have := fc_en_get B.size as 0 k v (fc_pd_get hk)
  rw [Nat.zero_add] at this
  exact hl.2.2 _ this
theorem fc_blind {as : List fc_AV} {n : Nat} {h : Nat → fc_AC} {D : va_G} {cy : Nat → ClassId} {B : Heap} : FrameBlind (fun a U => a = (as.map (fc_v B.size)).toArray ∧ fc_HR D cy B n h U.heap ∧ fc_K D cy U) := fun a U g mk q => ⟨q.1, q.2.1, fc_K.moved (u := U) (U := U.calling g mk a) (Vm.Alike.refl U.vm) q.2.2⟩
def fc_sum : List fc_AV → Nat
  | [] => 0
  | v :: t => fc_cat v + fc_sum t
theorem fc_sum_eq (b : Nat) : ∀ st : List fc_AV, ((st.map (fc_v b)).map fun v => v.category).sum = fc_sum st
  | [] => rfl
  | v :: t => by
    have ih := fc_sum_eq b t
    simp only [List.map_cons, List.sum_cons, fc_sum, fc_v_cat, ih]
section FCC
variable {X : fc_X} {own : String} {cc : ByteArray} {nL d nc ns : Nat} {nm : String} {cs sl n : Nat} {h : Nat → fc_AC} {pc : Nat} {ls : List (Option fc_AV)} {st st0 : List fc_AV}
variable {y : fc_Y} {np ix d' mc ms : Nat} {as : List fc_AV} {r : Option fc_AV} {n' : Nat} {h' : Nat → fc_AC}
/-- a method of an object -/
theorem fc_callV {i c : Nat} {fs : List fc_AV} (C : fc_C X own cc nL d nc ns nm) (dg : decode cc pc = .ok (.invokevirtual ix, 3)) (ml : fc_ML own ix y.1) (mi : fc_MI y np) (im : Cond.instanceMethod y.1 ∈ fc_tbl) (sel : Cond.selects y.1.cls y.1 y.1 ∈ fc_tbl)
    (hM : fc_M y d' mc ms (vR i :: as) n h r n' h') (hi : i < n) (he : h i = cO c fs) (hc : (fc_cl[c]?).map (fun q => q.1) = some y.1.cls) (hd : d' < d) (hnp : as.length = np) (hst : fc_sum st ≤ 8) (hs : st0 = as.reverse ++ vR i :: st) (hcs : cs + mc ≤ nc) (hsl : sl + ms ≤ ns)
    (k : fc_W X (cs + mc) (sl + ms) n' h' (pc + 3) ls (r.toList ++ st)) : fc_W X cs sl n h pc ls st0 := by
  subst hs
  obtain ⟨p, l, e, R, s, m, args, below, meth, c9, D, cy, B, Q⟩ := X
  obtain ⟨hx, hb, hml, hown, hts, hK, hnm, hR1, hR2, hR3, hR4⟩ := C
  obtain ⟨hcode, hini, hy, hpar, hmax, hpl⟩ := mi
  intro H locs lsA hH hL hl
  have hcell := hH.2.2 i hi
  rw [he] at hcell
  obtain ⟨q, hq, cell, q1, q2, q3, q4⟩ := hcell
  rw [hq] at hc
  have hcn : q.1 = y.1.cls := Option.some.inj hc
  have hfc : s.vm.findClass y.1.cls = some cell.cls := by rw [← hcn, q2]; exact (hK.1 c _ hq).2.1
  have hsig : ∀ sig, parseMethodDescriptor y.1.desc = some sig → np = sig.parameters.length := fun sig h9 => by rw [h9] at hpar; exact (Option.some.inj hpar).symm
  have hpay : ∀ w ∈ Cond.code y.1 y.2.1 y.2.2.1 y.2.2.2 :: fc_tbl, ∀ (a' : Array Value) (U : State), s.WarmedH U.vm → w.before a' U = true := fun w hw => by
    rcases List.mem_cons.mp hw with rfl | hw
    · exact fc_pay hts _ hcode
    · exact fc_pay hts w hw
  have hp : PreV s H y.1.cls (B.size + i) (fun a U => a = ((vR i :: as).map (fc_v B.size)).toArray ∧ fc_HR D cy B n h U.heap ∧ fc_K D cy U) (as.map (fc_v B.size)) := ⟨fc_blind, ⟨cell, q1, by rw [q3]; rfl, hfc⟩, fun U hU hW => ⟨rfl, by rw [hU]; exact hH, hK.moved hW.alike⟩⟩
  have hstk : (F0 m pc lsA ((as.reverse ++ vR i :: st).map (fc_v B.size))).stack = (as.map (fc_v B.size)).reverse ++ .ref (B.size + i) :: st.map (fc_v B.size) := by
    show (as.reverse ++ vR i :: st).map (fc_v B.size) = _
    rw [List.map_append, List.map_reverse]; rfl
  have hroom : 2 * (F0 m pc lsA ((as.reverse ++ vR i :: st).map (fc_v B.size))).monitorRoom + ((st.map (fc_v B.size)).map fun v => v.category).sum ≤ 8 := lv_room (by rw [fc_sum_eq]; exact hst)
  have hrm1 : (fc_rm d' mc ms).frames + 1 ≤ R.frames := by show d' + 1 ≤ _; omega
  have hrm2 : 8 + (y.2.2.1 + 11) + (fc_rm d' mc ms).locals ≤ R.locals := by show 8 + (y.2.2.1 + 11) + 64 * d' ≤ _; omega
  have run : va_Run p l e R s m args below meth c9 H locs cs sl mc ms (F0 m pc lsA ((as.reverse ++ vR i :: st).map (fc_v B.size))) (st.map (fc_v B.size)) ((fun _ _ o t => o = .returned (r.map (fc_v B.size)) ∧ fc_HR D cy B n' h' t.heap) (Value.ref (B.size + i) :: as.map (fc_v B.size)).toArray) (fun q => B.size ≤ q) := by
    rcases ml with hw | ⟨host, hw⟩
    · exact va_runV ⟨hx, hb, hml, hown, hts⟩ (hM l D cy B) ⟨⟨rfl, rfl, hrm1, hrm2, hpay, List.mem_cons_self, hts _ hcode, hts _ hini, hy, hsig, hts _ hw⟩, hts _ im, hts _ sel⟩ hp rfl (by rw [List.length_map]; exact hnp) (hl.1.trans hml) hstk hroom dg ⟨by omega, by omega⟩
    · exact va_runVN ⟨hx, hb, hml, hown, hts⟩ (hM l D cy B) ⟨⟨⟨rfl, rfl, hrm1, hrm2, hpay, List.mem_cons_self⟩, hts _ hcode, hts _ hini, hy, hsig, hts _ hw⟩, hts _ im, hts _ sel⟩ hp rfl (by rw [List.length_map]; exact hnp) (hl.1.trans hml) hstk hroom dg ⟨by omega, by omega⟩
  intro T hT XX
  obtain ⟨v, st₀, t, T', L, h0, X', hL2, e1, e2, ⟨hv, hH2⟩, stp⟩ := run T hT XX
  cases hv
  obtain ⟨t2, a1, b1⟩ := k T'.heap (locs ++ L) lsA (by rw [e1]; exact hH2) (fun q hq => (List.mem_append.mp hq).elim (hL q) (hL2 q)) hl T' rfl X'
  refine ⟨t2, stp t2 ?_, b1⟩
  cases r <;> exact a1
/-- a static method -/
theorem fc_callS (C : fc_C X own cc nL d nc ns nm) (dg : decode cc pc = .ok (.invokestatic ix, 3)) (ml : fc_ML own ix y.1) (mi : fc_MI y np) (im : Cond.static y.1 ∈ fc_tbl)
    (hM : fc_M y d' mc ms as n h r n' h') (hd : d' < d) (hnp : as.length = np) (hst : fc_sum st ≤ 8) (hs : st0 = as.reverse ++ st) (hcs : cs + mc ≤ nc) (hsl : sl + ms ≤ ns)
    (k : fc_W X (cs + mc) (sl + ms) n' h' (pc + 3) ls (r.toList ++ st)) : fc_W X cs sl n h pc ls st0 := by
  subst hs
  obtain ⟨p, l, e, R, s, m, args, below, meth, c9, D, cy, B, Q⟩ := X
  obtain ⟨hx, hb, hml, hown, hts, hK, hnm, hR1, hR2, hR3, hR4⟩ := C
  obtain ⟨hcode, hini, hy, hpar, hmax, hpl⟩ := mi
  intro H locs lsA hH hL hl
  have hsig : ∀ sig, parseMethodDescriptor y.1.desc = some sig → np = sig.parameters.length := fun sig h9 => by rw [h9] at hpar; exact (Option.some.inj hpar).symm
  have hpay : ∀ w ∈ Cond.code y.1 y.2.1 y.2.2.1 y.2.2.2 :: fc_tbl, ∀ (a' : Array Value) (U : State), s.WarmedH U.vm → w.before a' U = true := fun w hw => by
    rcases List.mem_cons.mp hw with rfl | hw
    · exact fc_pay hts _ hcode
    · exact fc_pay hts w hw
  have hp : PreS s H (fun a U => a = (as.map (fc_v B.size)).toArray ∧ fc_HR D cy B n h U.heap ∧ fc_K D cy U) (as.map (fc_v B.size)) := ⟨fc_blind, fun U hU hW => ⟨rfl, by rw [hU]; exact hH, hK.moved hW.alike⟩⟩
  have hstk : (F0 m pc lsA ((as.reverse ++ st).map (fc_v B.size))).stack = (as.map (fc_v B.size)).reverse ++ st.map (fc_v B.size) := by
    show (as.reverse ++ st).map (fc_v B.size) = _
    rw [List.map_append, List.map_reverse]
  have hroom : 2 * (F0 m pc lsA ((as.reverse ++ st).map (fc_v B.size))).monitorRoom + ((st.map (fc_v B.size)).map fun v => v.category).sum ≤ 8 := lv_room (by rw [fc_sum_eq]; exact hst)
  have hrm1 : (fc_rm d' mc ms).frames + 1 ≤ R.frames := by show d' + 1 ≤ _; omega
  have hrm2 : 8 + (y.2.2.1 + 11) + (fc_rm d' mc ms).locals ≤ R.locals := by show 8 + (y.2.2.1 + 11) + 64 * d' ≤ _; omega
  have run : va_Run p l e R s m args below meth c9 H locs cs sl mc ms (F0 m pc lsA ((as.reverse ++ st).map (fc_v B.size))) (st.map (fc_v B.size)) ((fun _ _ o t => o = .returned (r.map (fc_v B.size)) ∧ fc_HR D cy B n' h' t.heap) (as.map (fc_v B.size)).toArray) (fun q => B.size ≤ q) := by
    rcases ml with hw | ⟨host, hw⟩
    · exact va_runS ⟨hx, hb, hml, hown, hts⟩ (hM l D cy B) ⟨⟨rfl, rfl, hrm1, hrm2, hpay, List.mem_cons_self, hts _ hcode, hts _ hini, hy, hsig, hts _ hw⟩, hts _ im⟩ hp rfl (by rw [List.length_map]; exact hnp) (hl.1.trans hml) hstk hroom dg ⟨by omega, by omega⟩
    · exact va_runSN ⟨hx, hb, hml, hown, hts⟩ (hM l D cy B) ⟨⟨⟨rfl, rfl, hrm1, hrm2, hpay, List.mem_cons_self⟩, hts _ hcode, hts _ hini, hy, hsig, hts _ hw⟩, hts _ im, trivial⟩ hp rfl (by rw [List.length_map]; exact hnp) (hl.1.trans hml) hstk hroom dg ⟨by omega, by omega⟩
  intro T hT XX
  obtain ⟨v, st₀, t, T', L, h0, X', hL2, e1, e2, ⟨hv, hH2⟩, stp⟩ := run T hT XX
  cases hv
  obtain ⟨t2, a1, b1⟩ := k T'.heap (locs ++ L) lsA (by rw [e1]; exact hH2) (fun q hq => (List.mem_append.mp hq).elim (hL q) (hL2 q)) hl T' rfl X'
  refine ⟨t2, stp t2 ?_, b1⟩
  cases r <;> exact a1
/-- a constructor -/
theorem fc_callI {i : Nat} (C : fc_C X own cc nL d nc ns nm) (dg : decode cc pc = .ok (.invokespecial ix, 3)) (ml : fc_ML own ix y.1) (mi : fc_MI y np) (hrn : y.2.2.2 = none) (hnm9 : y.1.name = "<init>") (im : Cond.instanceMethod y.1 ∈ fc_tbl)
    (hM : fc_M y d' mc ms (vR i :: as) n h r n' h') (hd : d' < d) (hnp : as.length = np) (hst : fc_sum st ≤ 8) (hs : st0 = as.reverse ++ vR i :: st) (hcs : cs + mc ≤ nc) (hsl : sl + ms ≤ ns)
    (k : fc_W X (cs + mc) (sl + ms) n' h' (pc + 3) ls (r.toList ++ st)) : fc_W X cs sl n h pc ls st0 := by
  subst hs
  obtain ⟨p, l, e, R, s, m, args, below, meth, c9, D, cy, B, Q⟩ := X
  obtain ⟨hx, hb, hml, hown, hts, hK, hnm, hR1, hR2, hR3, hR4⟩ := C
  obtain ⟨hcode, hini, hy, hpar, hmax, hpl⟩ := mi
  obtain ⟨y1, y2, y3, y4⟩ := y
  have hrn : y4 = none := hrn
  subst hrn
  intro H locs lsA hH hL hl
  have hsig : ∀ sig, parseMethodDescriptor y1.desc = some sig → np = sig.parameters.length := fun sig h9 => by
    have hpar : (parseMethodDescriptor y1.desc).map (fun d => d.parameters.length) = some np := hpar
    rw [h9] at hpar; exact (Option.some.inj hpar).symm
  have hpay : ∀ w ∈ Cond.code y1 y2 y3 none :: fc_tbl, ∀ (a' : Array Value) (U : State), s.WarmedH U.vm → w.before a' U = true := fun w hw => by
    rcases List.mem_cons.mp hw with rfl | hw
    · exact fc_pay hts _ hcode
    · exact fc_pay hts w hw
  have hp : PreS s H (fun a U => a = ((vR i :: as).map (fc_v B.size)).toArray ∧ fc_HR D cy B n h U.heap ∧ fc_K D cy U) (.ref (B.size + i) :: as.map (fc_v B.size)) := ⟨fc_blind, fun U hU hW => ⟨rfl, by rw [hU]; exact hH, hK.moved hW.alike⟩⟩
  have hstk : (F0 m pc lsA ((as.reverse ++ vR i :: st).map (fc_v B.size))).stack = (as.map (fc_v B.size)).reverse ++ .ref (B.size + i) :: st.map (fc_v B.size) := by
    show (as.reverse ++ vR i :: st).map (fc_v B.size) = _
    rw [List.map_append, List.map_reverse]; rfl
  have hroom : 2 * (F0 m pc lsA ((as.reverse ++ vR i :: st).map (fc_v B.size))).monitorRoom + ((st.map (fc_v B.size)).map fun v => v.category).sum ≤ 8 := lv_room (by rw [fc_sum_eq]; exact hst)
  have hmax : y3 ≤ 45 := hmax
  have hrm1 : (fc_rm d' mc ms).frames + 1 ≤ R.frames := by show d' + 1 ≤ _; omega
  have hrm2 : 8 + (y3 + 11) + (fc_rm d' mc ms).locals ≤ R.locals := by show 8 + (y3 + 11) + 64 * d' ≤ _; omega
  have run : va_Run p l e R s m args below meth c9 H locs cs sl mc ms (F0 m pc lsA ((as.reverse ++ vR i :: st).map (fc_v B.size))) (st.map (fc_v B.size)) ((fun _ _ o t => o = .returned (r.map (fc_v B.size)) ∧ fc_HR D cy B n' h' t.heap) (Value.ref (B.size + i) :: as.map (fc_v B.size)).toArray) (fun q => B.size ≤ q) := by
    rcases ml with hw | ⟨host, hw⟩
    · exact va_runI ⟨hx, hb, hml, hown, hts⟩ (hM l D cy B) ⟨⟨rfl, rfl, hrm1, hrm2, hpay, List.mem_cons_self, hts _ hcode, hts _ hini, hy, hsig, hts _ hw⟩, hnm9, hts _ im⟩ hp rfl (by rw [List.length_map]; exact hnp) (hl.1.trans hml) hstk hroom dg ⟨by omega, by omega⟩
    · exact va_runIN ⟨hx, hb, hml, hown, hts⟩ (hM l D cy B) ⟨⟨⟨rfl, rfl, hrm1, hrm2, hpay, List.mem_cons_self⟩, hts _ hcode, hts _ hini, hy, hsig, hts _ hw⟩, hnm9, hts _ im⟩ hp rfl (by rw [List.length_map]; exact hnp) (hl.1.trans hml) hstk hroom dg ⟨by omega, by omega⟩
  intro T hT XX
  obtain ⟨v, st₀, t, T', L, h0, X', hL2, e1, e2, ⟨hv, hH2⟩, stp⟩ := run T hT XX
  cases hv
  obtain ⟨t2, a1, b1⟩ := k T'.heap (locs ++ L) lsA (by rw [e1]; exact hH2) (fun q hq => (List.mem_append.mp hq).elim (hL q) (hL2 q)) hl T' rfl X'
  refine ⟨t2, stp t2 ?_, b1⟩
  cases r <;> exact a1
/-- Object's own constructor -/
theorem fc_objInit {i : Nat} (C : fc_C X own cc nL d nc ns nm) (dg : decode cc pc = .ok (.invokespecial ix, 3)) (hw : Cond.methodLink own ix objectInit ∈ fc_tbl) (hw2 : Cond.instanceMethod objectInit ∈ fc_tbl) (hw3 : Cond.code objectInit ⟨#[0xb1]⟩ 1 none ∈ fc_tbl) (hd : 0 < d) (hst : fc_sum st ≤ 8)
    (k : fc_W X cs sl n h (pc + 3) ls st) : fc_W X cs sl n h pc ls (vR i :: st) := by
  obtain ⟨p, l, e, R, s, m, args, below, meth, c, D, cy, B, Q⟩ := X
  obtain ⟨hx, hb, hml, hown, hts, hK, hnm, hR1, hR2, hR3, hR4⟩ := C
  intro H locs lsA hH hL hl
  refine W.objInit hx hb hown (hts _ hw) (hts _ hw2) (hts _ hw3) rfl hl.1 rfl dg (by omega) ?_ ?_
  · have := lv_room (m := m) (pc := pc) (ls := lsA) (rest := (vR i :: st).map (fc_v B.size)) (st := st.map (fc_v B.size)) (by rw [fc_sum_eq]; exact hst)
    omega
  · exact k H locs lsA hH hL hl
end FCC
end

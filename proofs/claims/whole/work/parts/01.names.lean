-- ===== PART A: goes FIRST, ahead of the names: the tables' words, and 'selects' of the private methods out of them =====
/-- a private method of a class that the tables say can be made, by its rows of tables_1 -/
def lw_okq (q : MethodName × Nat) : Prop := (q.1.cls ≠ "java/lang/invoke/MethodHandle" ∧ q.1.cls ≠ "java/lang/invoke/VarHandle") ∧ Cond.instantiable q.1.cls q.2 ∈ tables_1 ∧ Cond.privateMethod q.1 ∈ tables_1 ∧ Cond.instanceMethod q.1 ∈ tables_1
theorem lw_p0 : lw_okq (⟨"GuessedPlace$Teller", "splitTape", "()V"⟩, 10) := ⟨⟨by decide +kernel, by decide +kernel⟩, List.mem_of_getElem? (i := 171) (by decide +kernel), List.mem_of_getElem? (i := 406) (by decide +kernel), List.mem_of_getElem? (i := 407) (by decide +kernel)⟩
theorem lw_p1 : lw_okq (⟨"GuessedPlace$Teller", "split", "(II)I"⟩, 10) := ⟨⟨by decide +kernel, by decide +kernel⟩, List.mem_of_getElem? (i := 171) (by decide +kernel), List.mem_of_getElem? (i := 410) (by decide +kernel), List.mem_of_getElem? (i := 411) (by decide +kernel)⟩
theorem lw_p2 : lw_okq (⟨"GuessedPlace$Teller", "isLetter", "(I)Z"⟩, 10) := ⟨⟨by decide +kernel, by decide +kernel⟩, List.mem_of_getElem? (i := 171) (by decide +kernel), List.mem_of_getElem? (i := 414) (by decide +kernel), List.mem_of_getElem? (i := 415) (by decide +kernel)⟩
theorem lw_p3 : lw_okq (⟨"GuessedPlace$Teller", "splitWord", "(II)I"⟩, 10) := ⟨⟨by decide +kernel, by decide +kernel⟩, List.mem_of_getElem? (i := 171) (by decide +kernel), List.mem_of_getElem? (i := 418) (by decide +kernel), List.mem_of_getElem? (i := 419) (by decide +kernel)⟩
theorem lw_p4 : lw_okq (⟨"GuessedPlace$Teller", "stands", "(Ljava/lang/String;II)Z"⟩, 10) := ⟨⟨by decide +kernel, by decide +kernel⟩, List.mem_of_getElem? (i := 171) (by decide +kernel), List.mem_of_getElem? (i := 432) (by decide +kernel), List.mem_of_getElem? (i := 433) (by decide +kernel)⟩
theorem lw_p5 : lw_okq (⟨"GuessedPlace$Teller", "isDigit", "(I)Z"⟩, 10) := ⟨⟨by decide +kernel, by decide +kernel⟩, List.mem_of_getElem? (i := 171) (by decide +kernel), List.mem_of_getElem? (i := 484) (by decide +kernel), List.mem_of_getElem? (i := 485) (by decide +kernel)⟩
theorem lw_p6 : lw_okq (⟨"GuessedPlace$Teller", "splitNumber", "(II)I"⟩, 10) := ⟨⟨by decide +kernel, by decide +kernel⟩, List.mem_of_getElem? (i := 171) (by decide +kernel), List.mem_of_getElem? (i := 488) (by decide +kernel), List.mem_of_getElem? (i := 489) (by decide +kernel)⟩
theorem lw_p7 : lw_okq (⟨"GuessedPlace$Teller", "fail", "(II)Z"⟩, 10) := ⟨⟨by decide +kernel, by decide +kernel⟩, List.mem_of_getElem? (i := 171) (by decide +kernel), List.mem_of_getElem? (i := 492) (by decide +kernel), List.mem_of_getElem? (i := 493) (by decide +kernel)⟩
theorem lw_p8 : lw_okq (⟨"GuessedPlace$Teller", "take", "(I)Z"⟩, 10) := ⟨⟨by decide +kernel, by decide +kernel⟩, List.mem_of_getElem? (i := 171) (by decide +kernel), List.mem_of_getElem? (i := 496) (by decide +kernel), List.mem_of_getElem? (i := 497) (by decide +kernel)⟩
theorem lw_p9 : lw_okq (⟨"GuessedPlace$Teller", "readStatement", "(I)Z"⟩, 10) := ⟨⟨by decide +kernel, by decide +kernel⟩, List.mem_of_getElem? (i := 171) (by decide +kernel), List.mem_of_getElem? (i := 500) (by decide +kernel), List.mem_of_getElem? (i := 501) (by decide +kernel)⟩
theorem lw_p10 : lw_okq (⟨"GuessedPlace$Teller", "readKey", "(I)Z"⟩, 10) := ⟨⟨by decide +kernel, by decide +kernel⟩, List.mem_of_getElem? (i := 171) (by decide +kernel), List.mem_of_getElem? (i := 504) (by decide +kernel), List.mem_of_getElem? (i := 505) (by decide +kernel)⟩
theorem lw_p11 : lw_okq (⟨"GuessedPlace$Teller", "takeNumber", "(II)Z"⟩, 10) := ⟨⟨by decide +kernel, by decide +kernel⟩, List.mem_of_getElem? (i := 171) (by decide +kernel), List.mem_of_getElem? (i := 510) (by decide +kernel), List.mem_of_getElem? (i := 511) (by decide +kernel)⟩
theorem lw_p12 : lw_okq (⟨"GuessedPlace$Keys", "makeWay", "(II)V"⟩, 3) := ⟨⟨by decide +kernel, by decide +kernel⟩, List.mem_of_getElem? (i := 36) (by decide +kernel), List.mem_of_getElem? (i := 533) (by decide +kernel), List.mem_of_getElem? (i := 534) (by decide +kernel)⟩
theorem lw_p13 : lw_okq (⟨"GuessedPlace$Keys", "closeUp", "(I)V"⟩, 3) := ⟨⟨by decide +kernel, by decide +kernel⟩, List.mem_of_getElem? (i := 36) (by decide +kernel), List.mem_of_getElem? (i := 537) (by decide +kernel), List.mem_of_getElem? (i := 538) (by decide +kernel)⟩
theorem lw_p14 : lw_okq (⟨"GuessedPlace$Teller", "readRun", "(I)Z"⟩, 10) := ⟨⟨by decide +kernel, by decide +kernel⟩, List.mem_of_getElem? (i := 171) (by decide +kernel), List.mem_of_getElem? (i := 541) (by decide +kernel), List.mem_of_getElem? (i := 542) (by decide +kernel)⟩
theorem lw_p15 : lw_okq (⟨"GuessedPlace$Teller", "readDrop", "()Z"⟩, 10) := ⟨⟨by decide +kernel, by decide +kernel⟩, List.mem_of_getElem? (i := 171) (by decide +kernel), List.mem_of_getElem? (i := 551) (by decide +kernel), List.mem_of_getElem? (i := 552) (by decide +kernel)⟩
def lw_privs_1 : List (MethodName × Nat) := [(⟨"GuessedPlace$Teller", "splitTape", "()V"⟩, 10), (⟨"GuessedPlace$Teller", "split", "(II)I"⟩, 10), (⟨"GuessedPlace$Teller", "isLetter", "(I)Z"⟩, 10), (⟨"GuessedPlace$Teller", "splitWord", "(II)I"⟩, 10), (⟨"GuessedPlace$Teller", "stands", "(Ljava/lang/String;II)Z"⟩, 10), (⟨"GuessedPlace$Teller", "isDigit", "(I)Z"⟩, 10), (⟨"GuessedPlace$Teller", "splitNumber", "(II)I"⟩, 10), (⟨"GuessedPlace$Teller", "fail", "(II)Z"⟩, 10), (⟨"GuessedPlace$Teller", "take", "(I)Z"⟩, 10), (⟨"GuessedPlace$Teller", "readStatement", "(I)Z"⟩, 10), (⟨"GuessedPlace$Teller", "readKey", "(I)Z"⟩, 10), (⟨"GuessedPlace$Teller", "takeNumber", "(II)Z"⟩, 10), (⟨"GuessedPlace$Keys", "makeWay", "(II)V"⟩, 3), (⟨"GuessedPlace$Keys", "closeUp", "(I)V"⟩, 3), (⟨"GuessedPlace$Teller", "readRun", "(I)Z"⟩, 10), (⟨"GuessedPlace$Teller", "readDrop", "()Z"⟩, 10)]
theorem lw_r1 : ∀ q ∈ lw_privs_1, lw_okq q := List.forall_mem_cons.mpr ⟨lw_p0, List.forall_mem_cons.mpr ⟨lw_p1, List.forall_mem_cons.mpr ⟨lw_p2, List.forall_mem_cons.mpr ⟨lw_p3, List.forall_mem_cons.mpr ⟨lw_p4, List.forall_mem_cons.mpr ⟨lw_p5, List.forall_mem_cons.mpr ⟨lw_p6, List.forall_mem_cons.mpr ⟨lw_p7, List.forall_mem_cons.mpr ⟨lw_p8, List.forall_mem_cons.mpr ⟨lw_p9, List.forall_mem_cons.mpr ⟨lw_p10, List.forall_mem_cons.mpr ⟨lw_p11, List.forall_mem_cons.mpr ⟨lw_p12, List.forall_mem_cons.mpr ⟨lw_p13, List.forall_mem_cons.mpr ⟨lw_p14, List.forall_mem_cons.mpr ⟨lw_p15, fun _ h => absurd h List.not_mem_nil⟩⟩⟩⟩⟩⟩⟩⟩⟩⟩⟩⟩⟩⟩⟩⟩
theorem lw_p16 : lw_okq (⟨"GuessedPlace$Teller", "readSetting", "(I)Z"⟩, 10) := ⟨⟨by decide +kernel, by decide +kernel⟩, List.mem_of_getElem? (i := 171) (by decide +kernel), List.mem_of_getElem? (i := 560) (by decide +kernel), List.mem_of_getElem? (i := 561) (by decide +kernel)⟩
theorem lw_p17 : lw_okq (⟨"GuessedPlace", "buildAll", "()V"⟩, 8) := ⟨⟨by decide +kernel, by decide +kernel⟩, List.mem_of_getElem? (i := 22) (by decide +kernel), List.mem_of_getElem? (i := 574) (by decide +kernel), List.mem_of_getElem? (i := 575) (by decide +kernel)⟩
theorem lw_p18 : lw_okq (⟨"GuessedPlace$Level", "setLine", "(IIJJ)V"⟩, 8) := ⟨⟨by decide +kernel, by decide +kernel⟩, List.mem_of_getElem? (i := 271) (by decide +kernel), List.mem_of_getElem? (i := 620) (by decide +kernel), List.mem_of_getElem? (i := 621) (by decide +kernel)⟩
theorem lw_p19 : lw_okq (⟨"GuessedPlace", "isPiece", "(II)Z"⟩, 8) := ⟨⟨by decide +kernel, by decide +kernel⟩, List.mem_of_getElem? (i := 22) (by decide +kernel), List.mem_of_getElem? (i := 717) (by decide +kernel), List.mem_of_getElem? (i := 718) (by decide +kernel)⟩
theorem lw_p20 : lw_okq (⟨"GuessedPlace$Cover", "halve", "([IIII)I"⟩, 4) := ⟨⟨by decide +kernel, by decide +kernel⟩, List.mem_of_getElem? (i := 216) (by decide +kernel), List.mem_of_getElem? (i := 749) (by decide +kernel), List.mem_of_getElem? (i := 750) (by decide +kernel)⟩
theorem lw_p21 : lw_okq (⟨"GuessedPlace", "treeHeight", "()I"⟩, 8) := ⟨⟨by decide +kernel, by decide +kernel⟩, List.mem_of_getElem? (i := 22) (by decide +kernel), List.mem_of_getElem? (i := 770) (by decide +kernel), List.mem_of_getElem? (i := 771) (by decide +kernel)⟩
theorem lw_p22 : lw_okq (⟨"GuessedPlace$Gaps", "push", "(III)I"⟩, 1) := ⟨⟨by decide +kernel, by decide +kernel⟩, List.mem_of_getElem? (i := 94) (by decide +kernel), List.mem_of_getElem? (i := 812) (by decide +kernel), List.mem_of_getElem? (i := 813) (by decide +kernel)⟩
theorem lw_p23 : lw_okq (⟨"GuessedPlace", "piecesWith", "(I)I"⟩, 8) := ⟨⟨by decide +kernel, by decide +kernel⟩, List.mem_of_getElem? (i := 22) (by decide +kernel), List.mem_of_getElem? (i := 825) (by decide +kernel), List.mem_of_getElem? (i := 826) (by decide +kernel)⟩
theorem lw_p24 : lw_okq (⟨"GuessedPlace$Sieve", "isInSpan", "(I)Z"⟩, 5) := ⟨⟨by decide +kernel, by decide +kernel⟩, List.mem_of_getElem? (i := 330) (by decide +kernel), List.mem_of_getElem? (i := 840) (by decide +kernel), List.mem_of_getElem? (i := 841) (by decide +kernel)⟩
theorem lw_p25 : lw_okq (⟨"GuessedPlace$Sieve", "isNearNext", "(I)Z"⟩, 5) := ⟨⟨by decide +kernel, by decide +kernel⟩, List.mem_of_getElem? (i := 330) (by decide +kernel), List.mem_of_getElem? (i := 844) (by decide +kernel), List.mem_of_getElem? (i := 845) (by decide +kernel)⟩
theorem lw_p26 : lw_okq (⟨"GuessedPlace$Sieve", "mark", "(I)V"⟩, 5) := ⟨⟨by decide +kernel, by decide +kernel⟩, List.mem_of_getElem? (i := 330) (by decide +kernel), List.mem_of_getElem? (i := 848) (by decide +kernel), List.mem_of_getElem? (i := 849) (by decide +kernel)⟩
theorem lw_p27 : lw_okq (⟨"GuessedPlace$Sieve", "hash", "(II)I"⟩, 5) := ⟨⟨by decide +kernel, by decide +kernel⟩, List.mem_of_getElem? (i := 330) (by decide +kernel), List.mem_of_getElem? (i := 852) (by decide +kernel), List.mem_of_getElem? (i := 853) (by decide +kernel)⟩
theorem lw_p28 : lw_okq (⟨"GuessedPlaceModel", "placeIn", "(III)I"⟩, 33) := ⟨⟨by decide +kernel, by decide +kernel⟩, List.mem_of_getElem? (i := 933) (by decide +kernel), List.mem_of_getElem? (i := 1047) (by decide +kernel), List.mem_of_getElem? (i := 1048) (by decide +kernel)⟩
theorem lw_p29 : lw_okq (⟨"GuessedPlaceModel", "isAt", "(IIII)Z"⟩, 33) := ⟨⟨by decide +kernel, by decide +kernel⟩, List.mem_of_getElem? (i := 933) (by decide +kernel), List.mem_of_getElem? (i := 1051) (by decide +kernel), List.mem_of_getElem? (i := 1052) (by decide +kernel)⟩
theorem lw_p30 : lw_okq (⟨"GuessedPlaceModel", "forgets", "()V"⟩, 33) := ⟨⟨by decide +kernel, by decide +kernel⟩, List.mem_of_getElem? (i := 933) (by decide +kernel), List.mem_of_getElem? (i := 1059) (by decide +kernel), List.mem_of_getElem? (i := 1060) (by decide +kernel)⟩
theorem lw_p31 : lw_okq (⟨"GuessedPlaceModel", "builds", "()I"⟩, 33) := ⟨⟨by decide +kernel, by decide +kernel⟩, List.mem_of_getElem? (i := 933) (by decide +kernel), List.mem_of_getElem? (i := 1063) (by decide +kernel), List.mem_of_getElem? (i := 1064) (by decide +kernel)⟩
def lw_privs_2 : List (MethodName × Nat) := [(⟨"GuessedPlace$Teller", "readSetting", "(I)Z"⟩, 10), (⟨"GuessedPlace", "buildAll", "()V"⟩, 8), (⟨"GuessedPlace$Level", "setLine", "(IIJJ)V"⟩, 8), (⟨"GuessedPlace", "isPiece", "(II)Z"⟩, 8), (⟨"GuessedPlace$Cover", "halve", "([IIII)I"⟩, 4), (⟨"GuessedPlace", "treeHeight", "()I"⟩, 8), (⟨"GuessedPlace$Gaps", "push", "(III)I"⟩, 1), (⟨"GuessedPlace", "piecesWith", "(I)I"⟩, 8), (⟨"GuessedPlace$Sieve", "isInSpan", "(I)Z"⟩, 5), (⟨"GuessedPlace$Sieve", "isNearNext", "(I)Z"⟩, 5), (⟨"GuessedPlace$Sieve", "mark", "(I)V"⟩, 5), (⟨"GuessedPlace$Sieve", "hash", "(II)I"⟩, 5), (⟨"GuessedPlaceModel", "placeIn", "(III)I"⟩, 33), (⟨"GuessedPlaceModel", "isAt", "(IIII)Z"⟩, 33), (⟨"GuessedPlaceModel", "forgets", "()V"⟩, 33), (⟨"GuessedPlaceModel", "builds", "()I"⟩, 33)]
theorem lw_r2 : ∀ q ∈ lw_privs_2, lw_okq q := List.forall_mem_cons.mpr ⟨lw_p16, List.forall_mem_cons.mpr ⟨lw_p17, List.forall_mem_cons.mpr ⟨lw_p18, List.forall_mem_cons.mpr ⟨lw_p19, List.forall_mem_cons.mpr ⟨lw_p20, List.forall_mem_cons.mpr ⟨lw_p21, List.forall_mem_cons.mpr ⟨lw_p22, List.forall_mem_cons.mpr ⟨lw_p23, List.forall_mem_cons.mpr ⟨lw_p24, List.forall_mem_cons.mpr ⟨lw_p25, List.forall_mem_cons.mpr ⟨lw_p26, List.forall_mem_cons.mpr ⟨lw_p27, List.forall_mem_cons.mpr ⟨lw_p28, List.forall_mem_cons.mpr ⟨lw_p29, List.forall_mem_cons.mpr ⟨lw_p30, List.forall_mem_cons.mpr ⟨lw_p31, fun _ h => absurd h List.not_mem_nil⟩⟩⟩⟩⟩⟩⟩⟩⟩⟩⟩⟩⟩⟩⟩⟩
theorem lw_p32 : lw_okq (⟨"GuessedPlaceModel", "laysAll", "()I"⟩, 33) := ⟨⟨by decide +kernel, by decide +kernel⟩, List.mem_of_getElem? (i := 933) (by decide +kernel), List.mem_of_getElem? (i := 1067) (by decide +kernel), List.mem_of_getElem? (i := 1068) (by decide +kernel)⟩
theorem lw_p33 : lw_okq (⟨"GuessedPlaceModel", "keys", "()I"⟩, 33) := ⟨⟨by decide +kernel, by decide +kernel⟩, List.mem_of_getElem? (i := 933) (by decide +kernel), List.mem_of_getElem? (i := 1090) (by decide +kernel), List.mem_of_getElem? (i := 1091) (by decide +kernel)⟩
theorem lw_p34 : lw_okq (⟨"GuessedPlaceModel", "gone", "()I"⟩, 33) := ⟨⟨by decide +kernel, by decide +kernel⟩, List.mem_of_getElem? (i := 933) (by decide +kernel), List.mem_of_getElem? (i := 1094) (by decide +kernel), List.mem_of_getElem? (i := 1095) (by decide +kernel)⟩
theorem lw_p35 : lw_okq (⟨"GuessedPlaceModel", "counts", "(II)V"⟩, 33) := ⟨⟨by decide +kernel, by decide +kernel⟩, List.mem_of_getElem? (i := 933) (by decide +kernel), List.mem_of_getElem? (i := 1098) (by decide +kernel), List.mem_of_getElem? (i := 1099) (by decide +kernel)⟩
theorem lw_p36 : lw_okq (⟨"GuessedPlaceModel", "acts", "(II)V"⟩, 33) := ⟨⟨by decide +kernel, by decide +kernel⟩, List.mem_of_getElem? (i := 933) (by decide +kernel), List.mem_of_getElem? (i := 1102) (by decide +kernel), List.mem_of_getElem? (i := 1103) (by decide +kernel)⟩
theorem lw_p37 : lw_okq (⟨"GuessedPlaceModel", "pushes", "(IIII)V"⟩, 33) := ⟨⟨by decide +kernel, by decide +kernel⟩, List.mem_of_getElem? (i := 933) (by decide +kernel), List.mem_of_getElem? (i := 1106) (by decide +kernel), List.mem_of_getElem? (i := 1107) (by decide +kernel)⟩
theorem lw_p38 : lw_okq (⟨"GuessedPlaceModel", "next0", "()V"⟩, 33) := ⟨⟨by decide +kernel, by decide +kernel⟩, List.mem_of_getElem? (i := 933) (by decide +kernel), List.mem_of_getElem? (i := 1144) (by decide +kernel), List.mem_of_getElem? (i := 1145) (by decide +kernel)⟩
theorem lw_p39 : lw_okq (⟨"GuessedPlaceModel", "see", "(I)I"⟩, 33) := ⟨⟨by decide +kernel, by decide +kernel⟩, List.mem_of_getElem? (i := 933) (by decide +kernel), List.mem_of_getElem? (i := 1148) (by decide +kernel), List.mem_of_getElem? (i := 1149) (by decide +kernel)⟩
theorem lw_p40 : lw_okq (⟨"GuessedPlaceModel", "word", "()I"⟩, 33) := ⟨⟨by decide +kernel, by decide +kernel⟩, List.mem_of_getElem? (i := 933) (by decide +kernel), List.mem_of_getElem? (i := 1155) (by decide +kernel), List.mem_of_getElem? (i := 1156) (by decide +kernel)⟩
theorem lw_p41 : lw_okq (⟨"GuessedPlaceModel", "is", "(Ljava/lang/String;)Z"⟩, 33) := ⟨⟨by decide +kernel, by decide +kernel⟩, List.mem_of_getElem? (i := 933) (by decide +kernel), List.mem_of_getElem? (i := 1160) (by decide +kernel), List.mem_of_getElem? (i := 1161) (by decide +kernel)⟩
theorem lw_p42 : lw_okq (⟨"GuessedPlaceModel", "statement", "(I)Z"⟩, 33) := ⟨⟨by decide +kernel, by decide +kernel⟩, List.mem_of_getElem? (i := 933) (by decide +kernel), List.mem_of_getElem? (i := 1174) (by decide +kernel), List.mem_of_getElem? (i := 1175) (by decide +kernel)⟩
theorem lw_p43 : lw_okq (⟨"GuessedPlaceModel", "bad", "(II)Z"⟩, 33) := ⟨⟨by decide +kernel, by decide +kernel⟩, List.mem_of_getElem? (i := 933) (by decide +kernel), List.mem_of_getElem? (i := 1178) (by decide +kernel), List.mem_of_getElem? (i := 1179) (by decide +kernel)⟩
theorem lw_p44 : lw_okq (⟨"GuessedPlaceModel", "aKey", "(I)Z"⟩, 33) := ⟨⟨by decide +kernel, by decide +kernel⟩, List.mem_of_getElem? (i := 933) (by decide +kernel), List.mem_of_getElem? (i := 1182) (by decide +kernel), List.mem_of_getElem? (i := 1183) (by decide +kernel)⟩
theorem lw_p45 : lw_okq (⟨"GuessedPlaceModel", "number", "(II)Z"⟩, 33) := ⟨⟨by decide +kernel, by decide +kernel⟩, List.mem_of_getElem? (i := 933) (by decide +kernel), List.mem_of_getElem? (i := 1186) (by decide +kernel), List.mem_of_getElem? (i := 1187) (by decide +kernel)⟩
theorem lw_p46 : lw_okq (⟨"GuessedPlaceModel", "comes", "(II)Z"⟩, 33) := ⟨⟨by decide +kernel, by decide +kernel⟩, List.mem_of_getElem? (i := 933) (by decide +kernel), List.mem_of_getElem? (i := 1190) (by decide +kernel), List.mem_of_getElem? (i := 1191) (by decide +kernel)⟩
theorem lw_p47 : lw_okq (⟨"GuessedPlaceModel", "aRun", "(I)Z"⟩, 33) := ⟨⟨by decide +kernel, by decide +kernel⟩, List.mem_of_getElem? (i := 933) (by decide +kernel), List.mem_of_getElem? (i := 1194) (by decide +kernel), List.mem_of_getElem? (i := 1195) (by decide +kernel)⟩
def lw_privs_3 : List (MethodName × Nat) := [(⟨"GuessedPlaceModel", "laysAll", "()I"⟩, 33), (⟨"GuessedPlaceModel", "keys", "()I"⟩, 33), (⟨"GuessedPlaceModel", "gone", "()I"⟩, 33), (⟨"GuessedPlaceModel", "counts", "(II)V"⟩, 33), (⟨"GuessedPlaceModel", "acts", "(II)V"⟩, 33), (⟨"GuessedPlaceModel", "pushes", "(IIII)V"⟩, 33), (⟨"GuessedPlaceModel", "next0", "()V"⟩, 33), (⟨"GuessedPlaceModel", "see", "(I)I"⟩, 33), (⟨"GuessedPlaceModel", "word", "()I"⟩, 33), (⟨"GuessedPlaceModel", "is", "(Ljava/lang/String;)Z"⟩, 33), (⟨"GuessedPlaceModel", "statement", "(I)Z"⟩, 33), (⟨"GuessedPlaceModel", "bad", "(II)Z"⟩, 33), (⟨"GuessedPlaceModel", "aKey", "(I)Z"⟩, 33), (⟨"GuessedPlaceModel", "number", "(II)Z"⟩, 33), (⟨"GuessedPlaceModel", "comes", "(II)Z"⟩, 33), (⟨"GuessedPlaceModel", "aRun", "(I)Z"⟩, 33)]
theorem lw_r3 : ∀ q ∈ lw_privs_3, lw_okq q := List.forall_mem_cons.mpr ⟨lw_p32, List.forall_mem_cons.mpr ⟨lw_p33, List.forall_mem_cons.mpr ⟨lw_p34, List.forall_mem_cons.mpr ⟨lw_p35, List.forall_mem_cons.mpr ⟨lw_p36, List.forall_mem_cons.mpr ⟨lw_p37, List.forall_mem_cons.mpr ⟨lw_p38, List.forall_mem_cons.mpr ⟨lw_p39, List.forall_mem_cons.mpr ⟨lw_p40, List.forall_mem_cons.mpr ⟨lw_p41, List.forall_mem_cons.mpr ⟨lw_p42, List.forall_mem_cons.mpr ⟨lw_p43, List.forall_mem_cons.mpr ⟨lw_p44, List.forall_mem_cons.mpr ⟨lw_p45, List.forall_mem_cons.mpr ⟨lw_p46, List.forall_mem_cons.mpr ⟨lw_p47, fun _ h => absurd h List.not_mem_nil⟩⟩⟩⟩⟩⟩⟩⟩⟩⟩⟩⟩⟩⟩⟩⟩
theorem lw_p48 : lw_okq (⟨"GuessedPlaceModel", "laysRow", "(I)V"⟩, 33) := ⟨⟨by decide +kernel, by decide +kernel⟩, List.mem_of_getElem? (i := 933) (by decide +kernel), List.mem_of_getElem? (i := 1207) (by decide +kernel), List.mem_of_getElem? (i := 1208) (by decide +kernel)⟩
theorem lw_p49 : lw_okq (⟨"GuessedPlaceModel", "laysLevels", "(II)V"⟩, 33) := ⟨⟨by decide +kernel, by decide +kernel⟩, List.mem_of_getElem? (i := 933) (by decide +kernel), List.mem_of_getElem? (i := 1211) (by decide +kernel), List.mem_of_getElem? (i := 1212) (by decide +kernel)⟩
theorem lw_p50 : lw_okq (⟨"GuessedPlaceModel", "covers", "(I)V"⟩, 33) := ⟨⟨by decide +kernel, by decide +kernel⟩, List.mem_of_getElem? (i := 933) (by decide +kernel), List.mem_of_getElem? (i := 1215) (by decide +kernel), List.mem_of_getElem? (i := 1216) (by decide +kernel)⟩
theorem lw_p51 : lw_okq (⟨"GuessedPlaceModel", "comesTo", "(III)Z"⟩, 33) := ⟨⟨by decide +kernel, by decide +kernel⟩, List.mem_of_getElem? (i := 933) (by decide +kernel), List.mem_of_getElem? (i := 1219) (by decide +kernel), List.mem_of_getElem? (i := 1220) (by decide +kernel)⟩
theorem lw_p52 : lw_okq (⟨"GuessedPlaceModel", "isPiece", "(II)Z"⟩, 33) := ⟨⟨by decide +kernel, by decide +kernel⟩, List.mem_of_getElem? (i := 933) (by decide +kernel), List.mem_of_getElem? (i := 1227) (by decide +kernel), List.mem_of_getElem? (i := 1228) (by decide +kernel)⟩
theorem lw_p53 : lw_okq (⟨"GuessedPlaceModel", "guessOf", "(III)I"⟩, 33) := ⟨⟨by decide +kernel, by decide +kernel⟩, List.mem_of_getElem? (i := 933) (by decide +kernel), List.mem_of_getElem? (i := 1235) (by decide +kernel), List.mem_of_getElem? (i := 1236) (by decide +kernel)⟩
theorem lw_p54 : lw_okq (⟨"GuessedPlaceModel", "seeks", "(I)I"⟩, 33) := ⟨⟨by decide +kernel, by decide +kernel⟩, List.mem_of_getElem? (i := 933) (by decide +kernel), List.mem_of_getElem? (i := 1247) (by decide +kernel), List.mem_of_getElem? (i := 1248) (by decide +kernel)⟩
theorem lw_p55 : lw_okq (⟨"GuessedPlaceModel", "halves", "(IIII)I"⟩, 33) := ⟨⟨by decide +kernel, by decide +kernel⟩, List.mem_of_getElem? (i := 933) (by decide +kernel), List.mem_of_getElem? (i := 1251) (by decide +kernel), List.mem_of_getElem? (i := 1252) (by decide +kernel)⟩
theorem lw_p56 : lw_okq (⟨"GuessedPlaceModel", "pieceOf", "(II)I"⟩, 33) := ⟨⟨by decide +kernel, by decide +kernel⟩, List.mem_of_getElem? (i := 933) (by decide +kernel), List.mem_of_getElem? (i := 1259) (by decide +kernel), List.mem_of_getElem? (i := 1260) (by decide +kernel)⟩
theorem lw_p57 : lw_okq (⟨"GuessedPlaceModel", "fills", "(II)V"⟩, 33) := ⟨⟨by decide +kernel, by decide +kernel⟩, List.mem_of_getElem? (i := 933) (by decide +kernel), List.mem_of_getElem? (i := 1275) (by decide +kernel), List.mem_of_getElem? (i := 1276) (by decide +kernel)⟩
theorem lw_p58 : lw_okq (⟨"GuessedPlaceModel", "isFull", "(I)Z"⟩, 33) := ⟨⟨by decide +kernel, by decide +kernel⟩, List.mem_of_getElem? (i := 933) (by decide +kernel), List.mem_of_getElem? (i := 1283) (by decide +kernel), List.mem_of_getElem? (i := 1284) (by decide +kernel)⟩
theorem lw_p59 : lw_okq (⟨"GuessedPlaceModel", "piecesWith", "(IIZ)I"⟩, 33) := ⟨⟨by decide +kernel, by decide +kernel⟩, List.mem_of_getElem? (i := 933) (by decide +kernel), List.mem_of_getElem? (i := 1295) (by decide +kernel), List.mem_of_getElem? (i := 1296) (by decide +kernel)⟩
theorem lw_p60 : lw_okq (⟨"GuessedPlaceModel", "setsBits", "(IZ)V"⟩, 33) := ⟨⟨by decide +kernel, by decide +kernel⟩, List.mem_of_getElem? (i := 933) (by decide +kernel), List.mem_of_getElem? (i := 1303) (by decide +kernel), List.mem_of_getElem? (i := 1304) (by decide +kernel)⟩
theorem lw_p61 : lw_okq (⟨"GuessedPlaceModel", "hash", "(II)I"⟩, 33) := ⟨⟨by decide +kernel, by decide +kernel⟩, List.mem_of_getElem? (i := 933) (by decide +kernel), List.mem_of_getElem? (i := 1307) (by decide +kernel), List.mem_of_getElem? (i := 1308) (by decide +kernel)⟩
theorem lw_p62 : lw_okq (⟨"GuessedPlaceModel", "isPassed", "(IIZ)Z"⟩, 33) := ⟨⟨by decide +kernel, by decide +kernel⟩, List.mem_of_getElem? (i := 933) (by decide +kernel), List.mem_of_getElem? (i := 1315) (by decide +kernel), List.mem_of_getElem? (i := 1316) (by decide +kernel)⟩
theorem lw_p63 : lw_okq (⟨"GuessedPlaceModel", "read", "(II)I"⟩, 33) := ⟨⟨by decide +kernel, by decide +kernel⟩, List.mem_of_getElem? (i := 933) (by decide +kernel), List.mem_of_getElem? (i := 1336) (by decide +kernel), List.mem_of_getElem? (i := 1337) (by decide +kernel)⟩
def lw_privs_4 : List (MethodName × Nat) := [(⟨"GuessedPlaceModel", "laysRow", "(I)V"⟩, 33), (⟨"GuessedPlaceModel", "laysLevels", "(II)V"⟩, 33), (⟨"GuessedPlaceModel", "covers", "(I)V"⟩, 33), (⟨"GuessedPlaceModel", "comesTo", "(III)Z"⟩, 33), (⟨"GuessedPlaceModel", "isPiece", "(II)Z"⟩, 33), (⟨"GuessedPlaceModel", "guessOf", "(III)I"⟩, 33), (⟨"GuessedPlaceModel", "seeks", "(I)I"⟩, 33), (⟨"GuessedPlaceModel", "halves", "(IIII)I"⟩, 33), (⟨"GuessedPlaceModel", "pieceOf", "(II)I"⟩, 33), (⟨"GuessedPlaceModel", "fills", "(II)V"⟩, 33), (⟨"GuessedPlaceModel", "isFull", "(I)Z"⟩, 33), (⟨"GuessedPlaceModel", "piecesWith", "(IIZ)I"⟩, 33), (⟨"GuessedPlaceModel", "setsBits", "(IZ)V"⟩, 33), (⟨"GuessedPlaceModel", "hash", "(II)I"⟩, 33), (⟨"GuessedPlaceModel", "isPassed", "(IIZ)Z"⟩, 33), (⟨"GuessedPlaceModel", "read", "(II)I"⟩, 33)]
theorem lw_r4 : ∀ q ∈ lw_privs_4, lw_okq q := List.forall_mem_cons.mpr ⟨lw_p48, List.forall_mem_cons.mpr ⟨lw_p49, List.forall_mem_cons.mpr ⟨lw_p50, List.forall_mem_cons.mpr ⟨lw_p51, List.forall_mem_cons.mpr ⟨lw_p52, List.forall_mem_cons.mpr ⟨lw_p53, List.forall_mem_cons.mpr ⟨lw_p54, List.forall_mem_cons.mpr ⟨lw_p55, List.forall_mem_cons.mpr ⟨lw_p56, List.forall_mem_cons.mpr ⟨lw_p57, List.forall_mem_cons.mpr ⟨lw_p58, List.forall_mem_cons.mpr ⟨lw_p59, List.forall_mem_cons.mpr ⟨lw_p60, List.forall_mem_cons.mpr ⟨lw_p61, List.forall_mem_cons.mpr ⟨lw_p62, List.forall_mem_cons.mpr ⟨lw_p63, fun _ h => absurd h List.not_mem_nil⟩⟩⟩⟩⟩⟩⟩⟩⟩⟩⟩⟩⟩⟩⟩⟩
def lw_privs : List (MethodName × Nat) := lw_privs_1 ++ (lw_privs_2 ++ (lw_privs_3 ++ (lw_privs_4)))
def lw_tbl : List Cond := k2_sels lw_privs ++ tables_1
theorem lw_privs_ok : ∀ q ∈ lw_privs, lw_okq q := by
  show ∀ q ∈ lw_privs_1 ++ (lw_privs_2 ++ (lw_privs_3 ++ (lw_privs_4))), lw_okq q
  exact List.forall_mem_append.mpr ⟨lw_r1, List.forall_mem_append.mpr ⟨lw_r2, List.forall_mem_append.mpr ⟨lw_r3, lw_r4⟩⟩⟩

def RX0 : String := "GuessedPlace$Acts"
def TX0 : u_T := fun k => match k with
  | 0 => ("GuessedPlace$Acts", "keys", "[I", true)
  | 1 => ("GuessedPlace$Acts", "changes", "[I", true)
  | 2 => ("GuessedPlace$Acts", "done", "I", false)
  | _ => ("GuessedPlace$Acts", "undone", "I", false)
def tyX0 : Nat → FieldType := fun k => match k with
  | 0 => .array .int
  | 1 => .array .int
  | 2 => .int
  | _ => .int
abbrev wsX00 : List Cond := u_ws RX0 TX0 4
theorem nmX0 : ∀ a, a < 4 → ∀ b, b < 4 → a ≠ b → (TX0 a).2.1 ≠ (TX0 b).2.1 := by decide +kernel
theorem tyX0_ok : ∀ k, k < 4 → parseFieldDescriptor (TX0 k).2.2.1 = some (tyX0 k) := by decide +kernel
abbrev cX0_init : ByteArray := prog_2_method_1_code
def yX0_init : MethodName := ⟨RX0, "<init>", "()V"⟩
abbrev cX0_copyFrom : ByteArray := prog_2_method_2_code
def yX0_copyFrom : MethodName := ⟨RX0, "copyFrom", "(LGuessedPlace$Acts;)V"⟩
abbrev cX0_forget : ByteArray := prog_2_method_3_code
def yX0_forget : MethodName := ⟨RX0, "forget", "()V"⟩
abbrev cX0_note : ByteArray := prog_2_method_4_code
def yX0_note : MethodName := ⟨RX0, "note", "(II)V"⟩
abbrev cX0_step : ByteArray := prog_2_method_5_code
def yX0_step : MethodName := ⟨RX0, "step", "(Z)I"⟩
def RX1 : String := "GuessedPlace$Cover"
def TX1 : u_T := fun k => match k with
  | 0 => ("GuessedPlace$Cover", "levels", "[LGuessedPlace$Level;", true)
  | 1 => ("GuessedPlace$Cover", "fit", "LGuessedPlace$Fit;", true)
  | 2 => ("GuessedPlace$Cover", "height", "I", false)
  | _ => ("GuessedPlace$Cover", "compared", "I", false)
def tyX1 : Nat → FieldType := fun k => match k with
  | 0 => .array (.object "GuessedPlace$Level")
  | 1 => .object "GuessedPlace$Fit"
  | 2 => .int
  | _ => .int
abbrev wsX10 : List Cond := u_ws RX1 TX1 4
theorem nmX1 : ∀ a, a < 4 → ∀ b, b < 4 → a ≠ b → (TX1 a).2.1 ≠ (TX1 b).2.1 := by decide +kernel
theorem tyX1_ok : ∀ k, k < 4 → parseFieldDescriptor (TX1 k).2.2.1 = some (tyX1 k) := by decide +kernel
abbrev cX1_init : ByteArray := prog_3_method_1_code
def yX1_init : MethodName := ⟨RX1, "<init>", "()V"⟩
abbrev cX1_over : ByteArray := prog_3_method_2_code
def yX1_over : MethodName := ⟨RX1, "over", "([IIII)V"⟩
abbrev cX1_find : ByteArray := prog_3_method_3_code
def yX1_find : MethodName := ⟨RX1, "find", "(I)I"⟩
abbrev cX1_findPlainly : ByteArray := prog_3_method_4_code
def yX1_findPlainly : MethodName := ⟨RX1, "findPlainly", "(I)I"⟩
abbrev cX1_halve : ByteArray := prog_3_method_5_code
def yX1_halve : MethodName := ⟨RX1, "halve", "([IIII)I"⟩
abbrev cX1_comparedOfAll : ByteArray := prog_3_method_6_code
def yX1_comparedOfAll : MethodName := ⟨RX1, "comparedOfAll", "()I"⟩
abbrev cX1_piecesOfAll : ByteArray := prog_3_method_7_code
def yX1_piecesOfAll : MethodName := ⟨RX1, "piecesOfAll", "()I"⟩
abbrev cX1_pagesOfAll : ByteArray := prog_3_method_8_code
def yX1_pagesOfAll : MethodName := ⟨RX1, "pagesOfAll", "(I)I"⟩
def RX2 : String := "GuessedPlace$Fit"
def TX2 : u_T := fun k => match k with
  | 0 => ("GuessedPlace$Fit", "low", "LGuessedPlace$Side;", true)
  | 1 => ("GuessedPlace$Fit", "high", "LGuessedPlace$Side;", true)
  | 2 => ("GuessedPlace$Fit", "p", "J", false)
  | _ => ("GuessedPlace$Fit", "q", "J", false)
def tyX2 : Nat → FieldType := fun k => match k with
  | 0 => .object "GuessedPlace$Side"
  | 1 => .object "GuessedPlace$Side"
  | 2 => .long
  | _ => .long
abbrev wsX20 : List Cond := u_ws RX2 TX2 4
theorem nmX2 : ∀ a, a < 4 → ∀ b, b < 4 → a ≠ b → (TX2 a).2.1 ≠ (TX2 b).2.1 := by decide +kernel
theorem tyX2_ok : ∀ k, k < 4 → parseFieldDescriptor (TX2 k).2.2.1 = some (tyX2 k) := by decide +kernel
abbrev cX2_init : ByteArray := prog_4_method_1_code
def yX2_init : MethodName := ⟨RX2, "<init>", "()V"⟩
abbrev cX2_reach : ByteArray := prog_4_method_2_code
def yX2_reach : MethodName := ⟨RX2, "reach", "([IIII)I"⟩
def RX3 : String := "GuessedPlace$Gaps"
def TX3 : u_T := fun k => match k with
  | _ => ("GuessedPlace$Gaps", "cells", "[I", true)
def tyX3 : Nat → FieldType := fun k => match k with
  | _ => .array .int
abbrev wsX30 : List Cond := u_ws RX3 TX3 1
theorem nmX3 : ∀ a, a < 1 → ∀ b, b < 1 → a ≠ b → (TX3 a).2.1 ≠ (TX3 b).2.1 := by decide +kernel
theorem tyX3_ok : ∀ k, k < 1 → parseFieldDescriptor (TX3 k).2.2.1 = some (tyX3 k) := by decide +kernel
abbrev cX3_init : ByteArray := prog_5_method_1_code
def yX3_init : MethodName := ⟨RX3, "<init>", "()V"⟩
abbrev cX3_fillEvenly : ByteArray := prog_5_method_2_code
def yX3_fillEvenly : MethodName := ⟨RX3, "fillEvenly", "(LGuessedPlace$Keys;)I"⟩
abbrev cX3_squeezeIn : ByteArray := prog_5_method_3_code
def yX3_squeezeIn : MethodName := ⟨RX3, "squeezeIn", "(I)I"⟩
abbrev cX3_push : ByteArray := prog_5_method_4_code
def yX3_push : MethodName := ⟨RX3, "push", "(III)I"⟩
def RX4 : String := "GuessedPlace$Keys"
def TX4 : u_T := fun k => match k with
  | 0 => ("GuessedPlace$Keys", "keys", "[I", true)
  | 1 => ("GuessedPlace$Keys", "counts", "[I", true)
  | _ => ("GuessedPlace$Keys", "size", "I", false)
def tyX4 : Nat → FieldType := fun k => match k with
  | 0 => .array .int
  | 1 => .array .int
  | _ => .int
abbrev wsX40 : List Cond := u_ws RX4 TX4 3
theorem nmX4 : ∀ a, a < 3 → ∀ b, b < 3 → a ≠ b → (TX4 a).2.1 ≠ (TX4 b).2.1 := by decide +kernel
theorem tyX4_ok : ∀ k, k < 3 → parseFieldDescriptor (TX4 k).2.2.1 = some (tyX4 k) := by decide +kernel
abbrev cX4_init : ByteArray := prog_6_method_1_code
def yX4_init : MethodName := ⟨RX4, "<init>", "()V"⟩
abbrev cX4_copyFrom : ByteArray := prog_6_method_2_code
def yX4_copyFrom : MethodName := ⟨RX4, "copyFrom", "(LGuessedPlace$Keys;)V"⟩
abbrev cX4_below : ByteArray := prog_6_method_3_code
def yX4_below : MethodName := ⟨RX4, "below", "(I)I"⟩
abbrev cX4_countOf : ByteArray := prog_6_method_4_code
def yX4_countOf : MethodName := ⟨RX4, "countOf", "(I)I"⟩
abbrev cX4_has : ByteArray := prog_6_method_5_code
def yX4_has : MethodName := ⟨RX4, "has", "(I)Z"⟩
abbrev cX4_canTake : ByteArray := prog_6_method_6_code
def yX4_canTake : MethodName := ⟨RX4, "canTake", "(II)Z"⟩
abbrev cX4_change : ByteArray := prog_6_method_7_code
def yX4_change : MethodName := ⟨RX4, "change", "(II)V"⟩
abbrev cX4_makeWay : ByteArray := prog_6_method_8_code
def yX4_makeWay : MethodName := ⟨RX4, "makeWay", "(II)V"⟩
abbrev cX4_closeUp : ByteArray := prog_6_method_9_code
def yX4_closeUp : MethodName := ⟨RX4, "closeUp", "(I)V"⟩
def RX5 : String := "GuessedPlace$Level"
def TX5 : u_T := fun k => match k with
  | 0 => ("GuessedPlace$Level", "row", "[I", true)
  | 1 => ("GuessedPlace$Level", "size", "I", false)
  | 2 => ("GuessedPlace$Level", "slack", "I", false)
  | 3 => ("GuessedPlace$Level", "pieces", "I", false)
  | 4 => ("GuessedPlace$Level", "first", "[I", true)
  | 5 => ("GuessedPlace$Level", "slopeP", "[I", true)
  | 6 => ("GuessedPlace$Level", "slopeQ", "[I", true)
  | _ => ("GuessedPlace$Level", "lines", "[J", true)
def tyX5 : Nat → FieldType := fun k => match k with
  | 0 => .array .int
  | 1 => .int
  | 2 => .int
  | 3 => .int
  | 4 => .array .int
  | 5 => .array .int
  | 6 => .array .int
  | _ => .array .long
abbrev wsX50 : List Cond := u_ws RX5 TX5 8
theorem nmX5 : ∀ a, a < 8 → ∀ b, b < 8 → a ≠ b → (TX5 a).2.1 ≠ (TX5 b).2.1 := by decide +kernel
theorem tyX5_ok : ∀ k, k < 8 → parseFieldDescriptor (TX5 k).2.2.1 = some (tyX5 k) := by decide +kernel
abbrev cX5_init : ByteArray := prog_7_method_1_code
def yX5_init : MethodName := ⟨RX5, "<init>", "(I)V"⟩
abbrev cX5_takeRow : ByteArray := prog_7_method_2_code
def yX5_takeRow : MethodName := ⟨RX5, "takeRow", "([II)V"⟩
abbrev cX5_takeFirstKeys : ByteArray := prog_7_method_3_code
def yX5_takeFirstKeys : MethodName := ⟨RX5, "takeFirstKeys", "(LGuessedPlace$Level;)V"⟩
abbrev cX5_coverBy : ByteArray := prog_7_method_4_code
def yX5_coverBy : MethodName := ⟨RX5, "coverBy", "(LGuessedPlace$Fit;I)V"⟩
abbrev cX5_setLine : ByteArray := prog_7_method_5_code
def yX5_setLine : MethodName := ⟨RX5, "setLine", "(IIJJ)V"⟩
abbrev cX5_divisor : ByteArray := prog_7_method_6_code
def yX5_divisor : MethodName := ⟨RX5, "divisor", "(JJ)J"⟩
abbrev cX5_lastOf : ByteArray := prog_7_method_7_code
def yX5_lastOf : MethodName := ⟨RX5, "lastOf", "(I)I"⟩
abbrev cX5_firstKeyOf : ByteArray := prog_7_method_8_code
def yX5_firstKeyOf : MethodName := ⟨RX5, "firstKeyOf", "(I)I"⟩
abbrev cX5_guessed : ByteArray := prog_7_method_9_code
def yX5_guessed : MethodName := ⟨RX5, "guessed", "(II)I"⟩
def RX6 : String := "GuessedPlace$Plane"
def TX6 : u_T := fun k => match k with
  | 0 => ("GuessedPlace$Plane", "xs", "[I", true)
  | 1 => ("GuessedPlace$Plane", "ys", "[I", true)
  | 2 => ("GuessedPlace$Plane", "points", "I", false)
  | 3 => ("GuessedPlace$Plane", "boxes", "[I", true)
  | _ => ("GuessedPlace$Plane", "boxCount", "I", false)
def tyX6 : Nat → FieldType := fun k => match k with
  | 0 => .array .int
  | 1 => .array .int
  | 2 => .int
  | 3 => .array .int
  | _ => .int
abbrev wsX60 : List Cond := u_ws RX6 TX6 5
theorem nmX6 : ∀ a, a < 5 → ∀ b, b < 5 → a ≠ b → (TX6 a).2.1 ≠ (TX6 b).2.1 := by decide +kernel
theorem tyX6_ok : ∀ k, k < 5 → parseFieldDescriptor (TX6 k).2.2.1 = some (tyX6 k) := by decide +kernel
abbrev cX6_init : ByteArray := prog_8_method_1_code
def yX6_init : MethodName := ⟨RX6, "<init>", "()V"⟩
abbrev cX6_copyFrom : ByteArray := prog_8_method_2_code
def yX6_copyFrom : MethodName := ⟨RX6, "copyFrom", "(LGuessedPlace$Plane;)V"⟩
abbrev cX6_addPoint : ByteArray := prog_8_method_3_code
def yX6_addPoint : MethodName := ⟨RX6, "addPoint", "(II)I"⟩
abbrev cX6_addBox : ByteArray := prog_8_method_4_code
def yX6_addBox : MethodName := ⟨RX6, "addBox", "(IIII)I"⟩
abbrev cX6_inside : ByteArray := prog_8_method_5_code
def yX6_inside : MethodName := ⟨RX6, "inside", "(I)I"⟩
abbrev cX6_readBy : ByteArray := prog_8_method_6_code
def yX6_readBy : MethodName := ⟨RX6, "readBy", "(II)I"⟩
abbrev cX6_isOn : ByteArray := prog_8_method_7_code
def yX6_isOn : MethodName := ⟨RX6, "isOn", "(I)Z"⟩
abbrev cX6_number : ByteArray := prog_8_method_8_code
def yX6_number : MethodName := ⟨RX6, "number", "(III)I"⟩
def RX7 : String := "GuessedPlace$Side"
def TX7 : u_T := fun k => match k with
  | 0 => ("GuessedPlace$Side", "xs", "[I", true)
  | 1 => ("GuessedPlace$Side", "tops", "[I", true)
  | 2 => ("GuessedPlace$Side", "start", "I", false)
  | 3 => ("GuessedPlace$Side", "size", "I", false)
  | 4 => ("GuessedPlace$Side", "p", "J", false)
  | _ => ("GuessedPlace$Side", "q", "J", false)
def tyX7 : Nat → FieldType := fun k => match k with
  | 0 => .array .int
  | 1 => .array .int
  | 2 => .int
  | 3 => .int
  | 4 => .long
  | _ => .long
abbrev wsX70 : List Cond := u_ws RX7 TX7 6
theorem nmX7 : ∀ a, a < 6 → ∀ b, b < 6 → a ≠ b → (TX7 a).2.1 ≠ (TX7 b).2.1 := by decide +kernel
theorem tyX7_ok : ∀ k, k < 6 → parseFieldDescriptor (TX7 k).2.2.1 = some (tyX7 k) := by decide +kernel
abbrev cX7_init : ByteArray := prog_9_method_1_code
def yX7_init : MethodName := ⟨RX7, "<init>", "()V"⟩
abbrev cX7_begin : ByteArray := prog_9_method_2_code
def yX7_begin : MethodName := ⟨RX7, "begin", "(JJ)V"⟩
abbrev cX7_addBottom : ByteArray := prog_9_method_3_code
def yX7_addBottom : MethodName := ⟨RX7, "addBottom", "(II)V"⟩
abbrev cX7_addTop : ByteArray := prog_9_method_4_code
def yX7_addTop : MethodName := ⟨RX7, "addTop", "(II)V"⟩
def RX8 : String := "GuessedPlace$Sieve"
def TX8 : u_T := fun k => match k with
  | 0 => ("GuessedPlace$Sieve", "marks", "[Z", true)
  | 1 => ("GuessedPlace$Sieve", "bits", "I", false)
  | 2 => ("GuessedPlace$Sieve", "hashes", "I", false)
  | 3 => ("GuessedPlace$Sieve", "all", "LGuessedPlace$Keys;", false)
  | _ => ("GuessedPlace$Sieve", "width", "I", false)
def tyX8 : Nat → FieldType := fun k => match k with
  | 0 => .array .boolean
  | 1 => .int
  | 2 => .int
  | 3 => .object "GuessedPlace$Keys"
  | _ => .int
abbrev wsX80 : List Cond := u_ws RX8 TX8 5
theorem nmX8 : ∀ a, a < 5 → ∀ b, b < 5 → a ≠ b → (TX8 a).2.1 ≠ (TX8 b).2.1 := by decide +kernel
theorem tyX8_ok : ∀ k, k < 5 → parseFieldDescriptor (TX8 k).2.2.1 = some (tyX8 k) := by decide +kernel
abbrev cX8_init : ByteArray := prog_10_method_1_code
def yX8_init : MethodName := ⟨RX8, "<init>", "()V"⟩
abbrev cX8_ready : ByteArray := prog_10_method_2_code
def yX8_ready : MethodName := ⟨RX8, "ready", "(LGuessedPlace$State;Z)V"⟩
abbrev cX8_lets : ByteArray := prog_10_method_3_code
def yX8_lets : MethodName := ⟨RX8, "lets", "(I)Z"⟩
abbrev cX8_isInSpan : ByteArray := prog_10_method_4_code
def yX8_isInSpan : MethodName := ⟨RX8, "isInSpan", "(I)Z"⟩
abbrev cX8_isNearNext : ByteArray := prog_10_method_5_code
def yX8_isNearNext : MethodName := ⟨RX8, "isNearNext", "(I)Z"⟩
abbrev cX8_mark : ByteArray := prog_10_method_6_code
def yX8_mark : MethodName := ⟨RX8, "mark", "(I)V"⟩
abbrev cX8_hash : ByteArray := prog_10_method_7_code
def yX8_hash : MethodName := ⟨RX8, "hash", "(II)I"⟩
def RX9 : String := "GuessedPlace$State"
def TX9 : u_T := fun k => match k with
  | 0 => ("GuessedPlace$State", "keys", "LGuessedPlace$Keys;", true)
  | 1 => ("GuessedPlace$State", "row", "[I", true)
  | 2 => ("GuessedPlace$State", "rowSize", "I", false)
  | 3 => ("GuessedPlace$State", "told", "[I", true)
  | 4 => ("GuessedPlace$State", "cost", "I", false)
  | 5 => ("GuessedPlace$State", "acts", "LGuessedPlace$Acts;", true)
  | 6 => ("GuessedPlace$State", "gaps", "LGuessedPlace$Gaps;", true)
  | _ => ("GuessedPlace$State", "plane", "LGuessedPlace$Plane;", true)
def tyX9 : Nat → FieldType := fun k => match k with
  | 0 => .object "GuessedPlace$Keys"
  | 1 => .array .int
  | 2 => .int
  | 3 => .array .int
  | 4 => .int
  | 5 => .object "GuessedPlace$Acts"
  | 6 => .object "GuessedPlace$Gaps"
  | _ => .object "GuessedPlace$Plane"
abbrev wsX90 : List Cond := u_ws RX9 TX9 8
theorem nmX9 : ∀ a, a < 8 → ∀ b, b < 8 → a ≠ b → (TX9 a).2.1 ≠ (TX9 b).2.1 := by decide +kernel
theorem tyX9_ok : ∀ k, k < 8 → parseFieldDescriptor (TX9 k).2.2.1 = some (tyX9 k) := by decide +kernel
abbrev cX9_init : ByteArray := prog_11_method_1_code
def yX9_init : MethodName := ⟨RX9, "<init>", "()V"⟩
abbrev cX9_copyFrom : ByteArray := prog_11_method_2_code
def yX9_copyFrom : MethodName := ⟨RX9, "copyFrom", "(LGuessedPlace$State;)V"⟩
abbrev cX9_standAll : ByteArray := prog_11_method_3_code
def yX9_standAll : MethodName := ⟨RX9, "standAll", "()V"⟩
abbrev cX9_stands : ByteArray := prog_11_method_4_code
def yX9_stands : MethodName := ⟨RX9, "stands", "(I)Z"⟩
abbrev cX9_standing : ByteArray := prog_11_method_5_code
def yX9_standing : MethodName := ⟨RX9, "standing", "()I"⟩
abbrev cX9_waiting : ByteArray := prog_11_method_6_code
def yX9_waiting : MethodName := ⟨RX9, "waiting", "()I"⟩
def RX10 : String := "GuessedPlace$Teller"
def TX10 : u_T := fun k => match k with
  | 0 => ("GuessedPlace$Teller", "tape", "[B", true)
  | 1 => ("GuessedPlace$Teller", "length", "I", false)
  | 2 => ("GuessedPlace$Teller", "keys", "LGuessedPlace$Keys;", true)
  | 3 => ("GuessedPlace$Teller", "told", "[I", true)
  | 4 => ("GuessedPlace$Teller", "faultKind", "I", false)
  | 5 => ("GuessedPlace$Teller", "faultPlace", "I", false)
  | 6 => ("GuessedPlace$Teller", "kinds", "[I", true)
  | 7 => ("GuessedPlace$Teller", "places", "[I", true)
  | 8 => ("GuessedPlace$Teller", "values", "[I", true)
  | _ => ("GuessedPlace$Teller", "next", "I", false)
def tyX10 : Nat → FieldType := fun k => match k with
  | 0 => .array .byte
  | 1 => .int
  | 2 => .object "GuessedPlace$Keys"
  | 3 => .array .int
  | 4 => .int
  | 5 => .int
  | 6 => .array .int
  | 7 => .array .int
  | 8 => .array .int
  | _ => .int
abbrev wsX100 : List Cond := u_ws RX10 TX10 10
theorem nmX10 : ∀ a, a < 10 → ∀ b, b < 10 → a ≠ b → (TX10 a).2.1 ≠ (TX10 b).2.1 := by decide +kernel
theorem tyX10_ok : ∀ k, k < 10 → parseFieldDescriptor (TX10 k).2.2.1 = some (tyX10 k) := by decide +kernel
abbrev cX10_init : ByteArray := prog_12_method_1_code
def yX10_init : MethodName := ⟨RX10, "<init>", "()V"⟩
abbrev cX10_addFour : ByteArray := prog_12_method_2_code
def yX10_addFour : MethodName := ⟨RX10, "addFour", "(I)V"⟩
abbrev cX10_readAll : ByteArray := prog_12_method_3_code
def yX10_readAll : MethodName := ⟨RX10, "readAll", "(LGuessedPlace$State;)V"⟩
abbrev cX10_fail : ByteArray := prog_12_method_4_code
def yX10_fail : MethodName := ⟨RX10, "fail", "(II)Z"⟩
abbrev cX10_take : ByteArray := prog_12_method_5_code
def yX10_take : MethodName := ⟨RX10, "take", "(I)Z"⟩
abbrev cX10_takeNumber : ByteArray := prog_12_method_6_code
def yX10_takeNumber : MethodName := ⟨RX10, "takeNumber", "(II)Z"⟩
abbrev cX10_readStatement : ByteArray := prog_12_method_7_code
def yX10_readStatement : MethodName := ⟨RX10, "readStatement", "(I)Z"⟩
abbrev cX10_readKey : ByteArray := prog_12_method_8_code
def yX10_readKey : MethodName := ⟨RX10, "readKey", "(I)Z"⟩
abbrev cX10_readRun : ByteArray := prog_12_method_9_code
def yX10_readRun : MethodName := ⟨RX10, "readRun", "(I)Z"⟩
abbrev cX10_readDrop : ByteArray := prog_12_method_10_code
def yX10_readDrop : MethodName := ⟨RX10, "readDrop", "()Z"⟩
abbrev cX10_readSetting : ByteArray := prog_12_method_11_code
def yX10_readSetting : MethodName := ⟨RX10, "readSetting", "(I)Z"⟩
abbrev cX10_splitTape : ByteArray := prog_12_method_12_code
def yX10_splitTape : MethodName := ⟨RX10, "splitTape", "()V"⟩
abbrev cX10_split : ByteArray := prog_12_method_13_code
def yX10_split : MethodName := ⟨RX10, "split", "(II)I"⟩
abbrev cX10_splitWord : ByteArray := prog_12_method_14_code
def yX10_splitWord : MethodName := ⟨RX10, "splitWord", "(II)I"⟩
abbrev cX10_splitNumber : ByteArray := prog_12_method_15_code
def yX10_splitNumber : MethodName := ⟨RX10, "splitNumber", "(II)I"⟩
abbrev cX10_stands : ByteArray := prog_12_method_16_code
def yX10_stands : MethodName := ⟨RX10, "stands", "(Ljava/lang/String;II)Z"⟩
abbrev cX10_isLetter : ByteArray := prog_12_method_17_code
def yX10_isLetter : MethodName := ⟨RX10, "isLetter", "(I)Z"⟩
abbrev cX10_isDigit : ByteArray := prog_12_method_18_code
def yX10_isDigit : MethodName := ⟨RX10, "isDigit", "(I)Z"⟩
abbrev cX10_keyword : ByteArray := prog_12_method_19_code
def yX10_keyword : MethodName := ⟨RX10, "keyword", "(I)Ljava/lang/String;"⟩
def RX11 : String := "GuessedPlace"
def TX11 : u_T := fun k => match k with
  | 0 => ("GuessedPlace", "now", "LGuessedPlace$State;", true)
  | 1 => ("GuessedPlace", "kept", "LGuessedPlace$State;", true)
  | 2 => ("GuessedPlace", "isKept", "Z", false)
  | 3 => ("GuessedPlace", "teller", "LGuessedPlace$Teller;", true)
  | 4 => ("GuessedPlace", "cover", "LGuessedPlace$Cover;", true)
  | 5 => ("GuessedPlace", "trial", "LGuessedPlace$Cover;", true)
  | 6 => ("GuessedPlace", "sieve", "LGuessedPlace$Sieve;", true)
  | _ => ("GuessedPlace", "spoilt", "[I", true)
def tyX11 : Nat → FieldType := fun k => match k with
  | 0 => .object "GuessedPlace$State"
  | 1 => .object "GuessedPlace$State"
  | 2 => .boolean
  | 3 => .object "GuessedPlace$Teller"
  | 4 => .object "GuessedPlace$Cover"
  | 5 => .object "GuessedPlace$Cover"
  | 6 => .object "GuessedPlace$Sieve"
  | _ => .array .int
abbrev wsX110 : List Cond := u_ws RX11 TX11 8
theorem nmX11 : ∀ a, a < 8 → ∀ b, b < 8 → a ≠ b → (TX11 a).2.1 ≠ (TX11 b).2.1 := by decide +kernel
theorem tyX11_ok : ∀ k, k < 8 → parseFieldDescriptor (TX11 k).2.2.1 = some (tyX11 k) := by decide +kernel
abbrev cX11_init : ByteArray := prog_1_method_1_code
def yX11_init : MethodName := ⟨RX11, "<init>", "()V"⟩
abbrev cX11_feed : ByteArray := prog_1_method_2_code
def yX11_feed : MethodName := ⟨RX11, "feed", "(IIIII)I"⟩
abbrev cX11_end : ByteArray := prog_1_method_3_code
def yX11_end : MethodName := ⟨RX11, "end", "(I)Z"⟩
abbrev cX11_text : ByteArray := prog_1_method_4_code
def yX11_text : MethodName := ⟨RX11, "text", "()I"⟩
abbrev cX11_fault : ByteArray := prog_1_method_5_code
def yX11_fault : MethodName := ⟨RX11, "fault", "(I)I"⟩
abbrev cX11_set : ByteArray := prog_1_method_6_code
def yX11_set : MethodName := ⟨RX11, "set", "(II)Z"⟩
abbrev cX11_insert : ByteArray := prog_1_method_7_code
def yX11_insert : MethodName := ⟨RX11, "insert", "(I)I"⟩
abbrev cX11_remove : ByteArray := prog_1_method_8_code
def yX11_remove : MethodName := ⟨RX11, "remove", "(I)I"⟩
abbrev cX11_undo : ByteArray := prog_1_method_9_code
def yX11_undo : MethodName := ⟨RX11, "undo", "(Z)I"⟩
abbrev cX11_build : ByteArray := prog_1_method_10_code
def yX11_build : MethodName := ⟨RX11, "build", "()I"⟩
abbrev cX11_count : ByteArray := prog_1_method_11_code
def yX11_count : MethodName := ⟨RX11, "count", "(I)I"⟩
abbrev cX11_key : ByteArray := prog_1_method_12_code
def yX11_key : MethodName := ⟨RX11, "key", "(I)I"⟩
abbrev cX11_rank : ByteArray := prog_1_method_13_code
def yX11_rank : MethodName := ⟨RX11, "rank", "(I)I"⟩
abbrev cX11_range : ByteArray := prog_1_method_14_code
def yX11_range : MethodName := ⟨RX11, "range", "(III)J"⟩
abbrev cX11_piece : ByteArray := prog_1_method_15_code
def yX11_piece : MethodName := ⟨RX11, "piece", "(III)I"⟩
abbrev cX11_guess : ByteArray := prog_1_method_16_code
def yX11_guess : MethodName := ⟨RX11, "guess", "(III)I"⟩
abbrev cX11_seek : ByteArray := prog_1_method_17_code
def yX11_seek : MethodName := ⟨RX11, "seek", "(II)I"⟩
abbrev cX11_pages : ByteArray := prog_1_method_18_code
def yX11_pages : MethodName := ⟨RX11, "pages", "(I)I"⟩
abbrev cX11_errors : ByteArray := prog_1_method_19_code
def yX11_errors : MethodName := ⟨RX11, "errors", "(II)I"⟩
abbrev cX11_bestSlack : ByteArray := prog_1_method_20_code
def yX11_bestSlack : MethodName := ⟨RX11, "bestSlack", "(I)I"⟩
abbrev cX11_lay : ByteArray := prog_1_method_21_code
def yX11_lay : MethodName := ⟨RX11, "lay", "()I"⟩
abbrev cX11_put : ByteArray := prog_1_method_22_code
def yX11_put : MethodName := ⟨RX11, "put", "(I)I"⟩
abbrev cX11_cell : ByteArray := prog_1_method_23_code
def yX11_cell : MethodName := ⟨RX11, "cell", "(I)I"⟩
abbrev cX11_poison : ByteArray := prog_1_method_24_code
def yX11_poison : MethodName := ⟨RX11, "poison", "(I)I"⟩
abbrev cX11_passes : ByteArray := prog_1_method_25_code
def yX11_passes : MethodName := ⟨RX11, "passes", "(IZ)Z"⟩
abbrev cX11_falses : ByteArray := prog_1_method_26_code
def yX11_falses : MethodName := ⟨RX11, "falses", "(IIZ)I"⟩
abbrev cX11_point : ByteArray := prog_1_method_27_code
def yX11_point : MethodName := ⟨RX11, "point", "(II)I"⟩
abbrev cX11_box : ByteArray := prog_1_method_28_code
def yX11_box : MethodName := ⟨RX11, "box", "(IIII)I"⟩
abbrev cX11_boxed : ByteArray := prog_1_method_29_code
def yX11_boxed : MethodName := ⟨RX11, "boxed", "(II)I"⟩
abbrev cX11_bestOrder : ByteArray := prog_1_method_30_code
def yX11_bestOrder : MethodName := ⟨RX11, "bestOrder", "()I"⟩
abbrev cX11_image : ByteArray := prog_1_method_31_code
def yX11_image : MethodName := ⟨RX11, "image", "(Z)Z"⟩
abbrev cX11_look : ByteArray := prog_1_method_32_code
def yX11_look : MethodName := ⟨RX11, "look", "(I)I"⟩
abbrev cX11_buildAll : ByteArray := prog_1_method_33_code
def yX11_buildAll : MethodName := ⟨RX11, "buildAll", "()V"⟩
abbrev cX11_isPiece : ByteArray := prog_1_method_34_code
def yX11_isPiece : MethodName := ⟨RX11, "isPiece", "(II)Z"⟩
abbrev cX11_treeHeight : ByteArray := prog_1_method_35_code
def yX11_treeHeight : MethodName := ⟨RX11, "treeHeight", "()I"⟩
abbrev cX11_piecesWith : ByteArray := prog_1_method_36_code
def yX11_piecesWith : MethodName := ⟨RX11, "piecesWith", "(I)I"⟩
abbrev cX11_canBeKey : ByteArray := prog_1_method_37_code
def yX11_canBeKey : MethodName := ⟨RX11, "canBeKey", "(I)Z"⟩
abbrev cX11_canBeTold : ByteArray := prog_1_method_38_code
def yX11_canBeTold : MethodName := ⟨RX11, "canBeTold", "(II)Z"⟩
abbrev cX11_lessThan : ByteArray := prog_1_method_39_code
def yX11_lessThan : MethodName := ⟨RX11, "lessThan", "([III)I"⟩
def RX12 : String := "GuessedPlaceModel"
def TX12 : u_T := fun k => match k with
  | 0 => ("GuessedPlaceModel", "w", "[I", true)
  | 1 => ("GuessedPlaceModel", "kept", "[I", true)
  | 2 => ("GuessedPlaceModel", "before", "[I", true)
  | 3 => ("GuessedPlaceModel", "hasImage", "Z", false)
  | 4 => ("GuessedPlaceModel", "all", "[I", true)
  | 5 => ("GuessedPlaceModel", "allCount", "[I", true)
  | 6 => ("GuessedPlaceModel", "tape", "[I", true)
  | 7 => ("GuessedPlaceModel", "taped", "I", false)
  | 8 => ("GuessedPlaceModel", "at", "I", false)
  | 9 => ("GuessedPlaceModel", "token", "I", false)
  | 10 => ("GuessedPlaceModel", "tokenAt", "I", false)
  | 11 => ("GuessedPlaceModel", "value", "I", false)
  | 12 => ("GuessedPlaceModel", "wrong", "I", false)
  | 13 => ("GuessedPlaceModel", "wrongAt", "I", false)
  | 14 => ("GuessedPlaceModel", "faultKind", "I", false)
  | 15 => ("GuessedPlaceModel", "faultPlace", "I", false)
  | 16 => ("GuessedPlaceModel", "got", "I", false)
  | 17 => ("GuessedPlaceModel", "levelKey", "[[I", true)
  | 18 => ("GuessedPlaceModel", "firstOf", "[[I", true)
  | 19 => ("GuessedPlaceModel", "lastOf", "[[I", true)
  | 20 => ("GuessedPlaceModel", "slopeUp", "[[J", true)
  | 21 => ("GuessedPlaceModel", "slopeDown", "[[J", true)
  | 22 => ("GuessedPlaceModel", "keysAt", "[I", true)
  | 23 => ("GuessedPlaceModel", "piecesAt", "[I", true)
  | 24 => ("GuessedPlaceModel", "slackAt", "[I", true)
  | 25 => ("GuessedPlaceModel", "levels", "I", false)
  | 26 => ("GuessedPlaceModel", "needUp", "J", false)
  | 27 => ("GuessedPlaceModel", "needDown", "J", false)
  | 28 => ("GuessedPlaceModel", "mayUp", "J", false)
  | 29 => ("GuessedPlaceModel", "mayDown", "J", false)
  | 30 => ("GuessedPlaceModel", "compared", "I", false)
  | 31 => ("GuessedPlaceModel", "bit", "[Z", true)
  | _ => ("GuessedPlaceModel", "isOther", "[Z", true)
def tyX12 : Nat → FieldType := fun k => match k with
  | 0 => .array .int
  | 1 => .array .int
  | 2 => .array .int
  | 3 => .boolean
  | 4 => .array .int
  | 5 => .array .int
  | 6 => .array .int
  | 7 => .int
  | 8 => .int
  | 9 => .int
  | 10 => .int
  | 11 => .int
  | 12 => .int
  | 13 => .int
  | 14 => .int
  | 15 => .int
  | 16 => .int
  | 17 => .array (.array .int)
  | 18 => .array (.array .int)
  | 19 => .array (.array .int)
  | 20 => .array (.array .long)
  | 21 => .array (.array .long)
  | 22 => .array .int
  | 23 => .array .int
  | 24 => .array .int
  | 25 => .int
  | 26 => .long
  | 27 => .long
  | 28 => .long
  | 29 => .long
  | 30 => .int
  | 31 => .array .boolean
  | _ => .array .boolean
abbrev wsX120 : List Cond := u_ws RX12 TX12 33
theorem nmX12 : ∀ a, a < 33 → ∀ b, b < 33 → a ≠ b → (TX12 a).2.1 ≠ (TX12 b).2.1 := by decide +kernel
theorem tyX12_ok : ∀ k, k < 33 → parseFieldDescriptor (TX12 k).2.2.1 = some (tyX12 k) := by decide +kernel
abbrev cX12_init : ByteArray := prog_14_method_1_code
def yX12_init : MethodName := ⟨RX12, "<init>", "()V"⟩
abbrev cX12_isIn : ByteArray := prog_14_method_2_code
def yX12_isIn : MethodName := ⟨RX12, "isIn", "(III)Z"⟩
abbrev cX12_isNumber : ByteArray := prog_14_method_3_code
def yX12_isNumber : MethodName := ⟨RX12, "isNumber", "(I)Z"⟩
abbrev cX12_placeIn : ByteArray := prog_14_method_4_code
def yX12_placeIn : MethodName := ⟨RX12, "placeIn", "(III)I"⟩
abbrev cX12_isAt : ByteArray := prog_14_method_5_code
def yX12_isAt : MethodName := ⟨RX12, "isAt", "(IIII)Z"⟩
abbrev cX12_count : ByteArray := prog_14_method_6_code
def yX12_count : MethodName := ⟨RX12, "count", "(I)I"⟩
abbrev cX12_gone : ByteArray := prog_14_method_7_code
def yX12_gone : MethodName := ⟨RX12, "gone", "()I"⟩
abbrev cX12_keys : ByteArray := prog_14_method_8_code
def yX12_keys : MethodName := ⟨RX12, "keys", "()I"⟩
abbrev cX12_counts : ByteArray := prog_14_method_9_code
def yX12_counts : MethodName := ⟨RX12, "counts", "(II)V"⟩
abbrev cX12_laysAll : ByteArray := prog_14_method_10_code
def yX12_laysAll : MethodName := ⟨RX12, "laysAll", "()I"⟩
abbrev cX12_builds : ByteArray := prog_14_method_11_code
def yX12_builds : MethodName := ⟨RX12, "builds", "()I"⟩
abbrev cX12_forgets : ByteArray := prog_14_method_12_code
def yX12_forgets : MethodName := ⟨RX12, "forgets", "()V"⟩
abbrev cX12_build : ByteArray := prog_14_method_13_code
def yX12_build : MethodName := ⟨RX12, "build", "()I"⟩
abbrev cX12_set : ByteArray := prog_14_method_14_code
def yX12_set : MethodName := ⟨RX12, "set", "(II)Z"⟩
abbrev cX12_pushes : ByteArray := prog_14_method_15_code
def yX12_pushes : MethodName := ⟨RX12, "pushes", "(IIII)V"⟩
abbrev cX12_acts : ByteArray := prog_14_method_16_code
def yX12_acts : MethodName := ⟨RX12, "acts", "(II)V"⟩
abbrev cX12_insert : ByteArray := prog_14_method_17_code
def yX12_insert : MethodName := ⟨RX12, "insert", "(I)I"⟩
abbrev cX12_remove : ByteArray := prog_14_method_18_code
def yX12_remove : MethodName := ⟨RX12, "remove", "(I)I"⟩
abbrev cX12_undo : ByteArray := prog_14_method_19_code
def yX12_undo : MethodName := ⟨RX12, "undo", "(Z)I"⟩
abbrev cX12_key : ByteArray := prog_14_method_20_code
def yX12_key : MethodName := ⟨RX12, "key", "(I)I"⟩
abbrev cX12_rank : ByteArray := prog_14_method_21_code
def yX12_rank : MethodName := ⟨RX12, "rank", "(I)I"⟩
abbrev cX12_range : ByteArray := prog_14_method_22_code
def yX12_range : MethodName := ⟨RX12, "range", "(III)J"⟩
abbrev cX12_feed : ByteArray := prog_14_method_23_code
def yX12_feed : MethodName := ⟨RX12, "feed", "(IIIII)I"⟩
abbrev cX12_end : ByteArray := prog_14_method_24_code
def yX12_end : MethodName := ⟨RX12, "end", "(I)Z"⟩
abbrev cX12_see : ByteArray := prog_14_method_25_code
def yX12_see : MethodName := ⟨RX12, "see", "(I)I"⟩
abbrev cX12_isLetter : ByteArray := prog_14_method_26_code
def yX12_isLetter : MethodName := ⟨RX12, "isLetter", "(I)Z"⟩
abbrev cX12_isDigit : ByteArray := prog_14_method_27_code
def yX12_isDigit : MethodName := ⟨RX12, "isDigit", "(I)Z"⟩
abbrev cX12_is : ByteArray := prog_14_method_28_code
def yX12_is : MethodName := ⟨RX12, "is", "(Ljava/lang/String;)Z"⟩
abbrev cX12_word : ByteArray := prog_14_method_29_code
def yX12_word : MethodName := ⟨RX12, "word", "()I"⟩
abbrev cX12_next0 : ByteArray := prog_14_method_30_code
def yX12_next0 : MethodName := ⟨RX12, "next0", "()V"⟩
abbrev cX12_bad : ByteArray := prog_14_method_31_code
def yX12_bad : MethodName := ⟨RX12, "bad", "(II)Z"⟩
abbrev cX12_number : ByteArray := prog_14_method_32_code
def yX12_number : MethodName := ⟨RX12, "number", "(II)Z"⟩
abbrev cX12_comes : ByteArray := prog_14_method_33_code
def yX12_comes : MethodName := ⟨RX12, "comes", "(II)Z"⟩
abbrev cX12_aKey : ByteArray := prog_14_method_34_code
def yX12_aKey : MethodName := ⟨RX12, "aKey", "(I)Z"⟩
abbrev cX12_aRun : ByteArray := prog_14_method_35_code
def yX12_aRun : MethodName := ⟨RX12, "aRun", "(I)Z"⟩
abbrev cX12_statement : ByteArray := prog_14_method_36_code
def yX12_statement : MethodName := ⟨RX12, "statement", "(I)Z"⟩
abbrev cX12_text : ByteArray := prog_14_method_37_code
def yX12_text : MethodName := ⟨RX12, "text", "()I"⟩
abbrev cX12_fault : ByteArray := prog_14_method_38_code
def yX12_fault : MethodName := ⟨RX12, "fault", "(I)I"⟩
abbrev cX12_common : ByteArray := prog_14_method_39_code
def yX12_common : MethodName := ⟨RX12, "common", "(JJ)J"⟩
abbrev cX12_comesTo : ByteArray := prog_14_method_40_code
def yX12_comesTo : MethodName := ⟨RX12, "comesTo", "(III)Z"⟩
abbrev cX12_covers : ByteArray := prog_14_method_41_code
def yX12_covers : MethodName := ⟨RX12, "covers", "(I)V"⟩
abbrev cX12_laysLevels : ByteArray := prog_14_method_42_code
def yX12_laysLevels : MethodName := ⟨RX12, "laysLevels", "(II)V"⟩
abbrev cX12_laysRow : ByteArray := prog_14_method_43_code
def yX12_laysRow : MethodName := ⟨RX12, "laysRow", "(I)V"⟩
abbrev cX12_downwards : ByteArray := prog_14_method_44_code
def yX12_downwards : MethodName := ⟨RX12, "downwards", "(JJ)J"⟩
abbrev cX12_guessOf : ByteArray := prog_14_method_45_code
def yX12_guessOf : MethodName := ⟨RX12, "guessOf", "(III)I"⟩
abbrev cX12_isPiece : ByteArray := prog_14_method_46_code
def yX12_isPiece : MethodName := ⟨RX12, "isPiece", "(II)Z"⟩
abbrev cX12_piece : ByteArray := prog_14_method_47_code
def yX12_piece : MethodName := ⟨RX12, "piece", "(III)I"⟩
abbrev cX12_guess : ByteArray := prog_14_method_48_code
def yX12_guess : MethodName := ⟨RX12, "guess", "(III)I"⟩
abbrev cX12_halves : ByteArray := prog_14_method_49_code
def yX12_halves : MethodName := ⟨RX12, "halves", "(IIII)I"⟩
abbrev cX12_seeks : ByteArray := prog_14_method_50_code
def yX12_seeks : MethodName := ⟨RX12, "seeks", "(I)I"⟩
abbrev cX12_seek : ByteArray := prog_14_method_51_code
def yX12_seek : MethodName := ⟨RX12, "seek", "(II)I"⟩
abbrev cX12_pieceOf : ByteArray := prog_14_method_52_code
def yX12_pieceOf : MethodName := ⟨RX12, "pieceOf", "(II)I"⟩
abbrev cX12_pages : ByteArray := prog_14_method_53_code
def yX12_pages : MethodName := ⟨RX12, "pages", "(I)I"⟩
abbrev cX12_errors : ByteArray := prog_14_method_54_code
def yX12_errors : MethodName := ⟨RX12, "errors", "(II)I"⟩
abbrev cX12_bestSlack : ByteArray := prog_14_method_55_code
def yX12_bestSlack : MethodName := ⟨RX12, "bestSlack", "(I)I"⟩
abbrev cX12_lay : ByteArray := prog_14_method_56_code
def yX12_lay : MethodName := ⟨RX12, "lay", "()I"⟩
abbrev cX12_fills : ByteArray := prog_14_method_57_code
def yX12_fills : MethodName := ⟨RX12, "fills", "(II)V"⟩
abbrev cX12_isFull : ByteArray := prog_14_method_58_code
def yX12_isFull : MethodName := ⟨RX12, "isFull", "(I)Z"⟩
abbrev cX12_put : ByteArray := prog_14_method_59_code
def yX12_put : MethodName := ⟨RX12, "put", "(I)I"⟩
abbrev cX12_cell : ByteArray := prog_14_method_60_code
def yX12_cell : MethodName := ⟨RX12, "cell", "(I)I"⟩
abbrev cX12_piecesWith : ByteArray := prog_14_method_61_code
def yX12_piecesWith : MethodName := ⟨RX12, "piecesWith", "(IIZ)I"⟩
abbrev cX12_poison : ByteArray := prog_14_method_62_code
def yX12_poison : MethodName := ⟨RX12, "poison", "(I)I"⟩
abbrev cX12_hash : ByteArray := prog_14_method_63_code
def yX12_hash : MethodName := ⟨RX12, "hash", "(II)I"⟩
abbrev cX12_setsBits : ByteArray := prog_14_method_64_code
def yX12_setsBits : MethodName := ⟨RX12, "setsBits", "(IZ)V"⟩
abbrev cX12_isPassed : ByteArray := prog_14_method_65_code
def yX12_isPassed : MethodName := ⟨RX12, "isPassed", "(IIZ)Z"⟩
abbrev cX12_passes : ByteArray := prog_14_method_66_code
def yX12_passes : MethodName := ⟨RX12, "passes", "(IZ)Z"⟩
abbrev cX12_falses : ByteArray := prog_14_method_67_code
def yX12_falses : MethodName := ⟨RX12, "falses", "(IIZ)I"⟩
abbrev cX12_point : ByteArray := prog_14_method_68_code
def yX12_point : MethodName := ⟨RX12, "point", "(II)I"⟩
abbrev cX12_box : ByteArray := prog_14_method_69_code
def yX12_box : MethodName := ⟨RX12, "box", "(IIII)I"⟩
abbrev cX12_numberBy : ByteArray := prog_14_method_70_code
def yX12_numberBy : MethodName := ⟨RX12, "numberBy", "(III)I"⟩
abbrev cX12_read : ByteArray := prog_14_method_71_code
def yX12_read : MethodName := ⟨RX12, "read", "(II)I"⟩
abbrev cX12_boxed : ByteArray := prog_14_method_72_code
def yX12_boxed : MethodName := ⟨RX12, "boxed", "(II)I"⟩
abbrev cX12_bestOrder : ByteArray := prog_14_method_73_code
def yX12_bestOrder : MethodName := ⟨RX12, "bestOrder", "()I"⟩
abbrev cX12_image : ByteArray := prog_14_method_74_code
def yX12_image : MethodName := ⟨RX12, "image", "(Z)Z"⟩
abbrev cX12_look : ByteArray := prog_14_method_75_code
def yX12_look : MethodName := ⟨RX12, "look", "(I)I"⟩
def RJx145de : String := "java/io/Serializable"
def TJx145de : u_T := fun k => match k with
  | _ => ("", "", "", false)
def tyJx145de : Nat → FieldType := fun k => match k with
  | _ => .int
def RJx9f9b0 : String := "java/lang/CharSequence"
def TJx9f9b0 : u_T := fun k => match k with
  | _ => ("", "", "", false)
def tyJx9f9b0 : Nat → FieldType := fun k => match k with
  | _ => .int
def RJx8e188 : String := "java/lang/Cloneable"
def TJx8e188 : u_T := fun k => match k with
  | _ => ("", "", "", false)
def tyJx8e188 : Nat → FieldType := fun k => match k with
  | _ => .int
def RJxb160c : String := "java/lang/Comparable"
def TJxb160c : u_T := fun k => match k with
  | _ => ("", "", "", false)
def tyJxb160c : Nat → FieldType := fun k => match k with
  | _ => .int
def RJ9 : String := "java/lang/Math"
def TJ9 : u_T := fun k => match k with
  | _ => ("", "", "", false)
def tyJ9 : Nat → FieldType := fun k => match k with
  | _ => .int
abbrev cJ9_floorDiv_f86c9 : ByteArray := prog_16_method_49_code
def yJ9_floorDiv_f86c9 : MethodName := ⟨RJ9, "floorDiv", "(JJ)J"⟩
abbrev cJ9_abs_0f7a4 : ByteArray := prog_16_method_59_code
def yJ9_abs_0f7a4 : MethodName := ⟨RJ9, "abs", "(I)I"⟩
abbrev cJ9_max_7cf53 : ByteArray := prog_16_method_65_code
def yJ9_max_7cf53 : MethodName := ⟨RJ9, "max", "(II)I"⟩
abbrev cJ9_max_f86c9 : ByteArray := prog_16_method_66_code
def yJ9_max_f86c9 : MethodName := ⟨RJ9, "max", "(JJ)J"⟩
abbrev cJ9_min_7cf53 : ByteArray := prog_16_method_69_code
def yJ9_min_7cf53 : MethodName := ⟨RJ9, "min", "(II)I"⟩
abbrev cJ9_min_f86c9 : ByteArray := prog_16_method_70_code
def yJ9_min_f86c9 : MethodName := ⟨RJ9, "min", "(JJ)J"⟩
def RJ0 : String := "java/lang/String"
def TJ0 : u_T := fun k => match k with
  | _ => ("", "", "", false)
def tyJ0 : Nat → FieldType := fun k => match k with
  | _ => .int
abbrev cJ0_length_8abf5 : ByteArray := prog_17_method_54_code
def yJ0_length_8abf5 : MethodName := ⟨RJ0, "length", "()I"⟩
abbrev cJ0_charAt_5068e : ByteArray := prog_17_method_56_code
def yJ0_charAt_5068e : MethodName := ⟨RJ0, "charAt", "(I)C"⟩
abbrev cJ0_coder_7d493 : ByteArray := prog_17_method_152_code
def yJ0_coder_7d493 : MethodName := ⟨RJ0, "coder", "()B"⟩
abbrev cJ0_isLatin1_aae02 : ByteArray := prog_17_method_154_code
def yJ0_isLatin1_aae02 : MethodName := ⟨RJ0, "isLatin1", "()Z"⟩
abbrev cJ0_checkIndex_df160 : ByteArray := prog_17_method_155_code
def yJ0_checkIndex_df160 : MethodName := ⟨RJ0, "checkIndex", "(II)V"⟩
def RJ1 : String := "java/lang/StringLatin1"
def TJ1 : u_T := fun k => match k with
  | _ => ("", "", "", false)
def tyJ1 : Nat → FieldType := fun k => match k with
  | _ => .int
abbrev cJ1_charAt_3b067 : ByteArray := prog_18_method_2_code
def yJ1_charAt_3b067 : MethodName := ⟨RJ1, "charAt", "([BI)C"⟩
def RJ2 : String := "java/lang/StringUTF16"
def TJ2 : u_T := fun k => match k with
  | _ => ("", "", "", false)
def tyJ2 : Nat → FieldType := fun k => match k with
  | _ => .int
abbrev cJ2_getChar_3b067 : ByteArray := prog_19_method_5_code
def yJ2_getChar_3b067 : MethodName := ⟨RJ2, "getChar", "([BI)C"⟩
abbrev cJ2_length_9d52b : ByteArray := prog_19_method_6_code
def yJ2_length_9d52b : MethodName := ⟨RJ2, "length", "([B)I"⟩
abbrev cJ2_charAt_3b067 : ByteArray := prog_19_method_83_code
def yJ2_charAt_3b067 : MethodName := ⟨RJ2, "charAt", "([BI)C"⟩
abbrev cJ2_checkIndex_2214a : ByteArray := prog_19_method_91_code
def yJ2_checkIndex_2214a : MethodName := ⟨RJ2, "checkIndex", "(I[B)V"⟩
def RJ10 : String := "java/lang/System"
def TJ10 : u_T := fun k => match k with
  | _ => ("", "", "", false)
def tyJ10 : Nat → FieldType := fun k => match k with
  | _ => .int
def RJxfd54e : String := "java/lang/constant/Constable"
def TJxfd54e : u_T := fun k => match k with
  | _ => ("", "", "", false)
def tyJxfd54e : Nat → FieldType := fun k => match k with
  | _ => .int
def RJx3cf43 : String := "java/lang/constant/ConstantDesc"
def TJx3cf43 : u_T := fun k => match k with
  | _ => ("", "", "", false)
def tyJx3cf43 : Nat → FieldType := fun k => match k with
  | _ => .int
def RJ7 : String := "java/util/Arrays"
def TJ7 : u_T := fun k => match k with
  | _ => ("", "", "", false)
def tyJ7 : Nat → FieldType := fun k => match k with
  | _ => .int
abbrev cJ7_fill_53178 : ByteArray := prog_21_method_103_code
def yJ7_fill_53178 : MethodName := ⟨RJ7, "fill", "([II)V"⟩
def RJ3 : String := "jdk/internal/util/Preconditions"
def TJ3 : u_T := fun k => match k with
  | _ => ("", "", "", false)
def tyJ3 : Nat → FieldType := fun k => match k with
  | _ => .int
abbrev cJ3_checkIndex_8e157 : ByteArray := prog_22_method_11_code
def yJ3_checkIndex_8e157 : MethodName := ⟨RJ3, "checkIndex", "(IILjava/util/function/BiFunction;)I"⟩
def RL : String := "GuessedPlaceLaw"
abbrev cL_law : ByteArray := code
def yL_law : MethodName := ⟨RL, "law", "([I)Z"⟩
abbrev vwCl : List vw_C := [(RX0, TX0, 4), (RX1, TX1, 4), (RX2, TX2, 4), (RX3, TX3, 1), (RX4, TX4, 3), (RX5, TX5, 8), (RX6, TX6, 5), (RX7, TX7, 6), (RX8, TX8, 5), (RX9, TX9, 8), (RX10, TX10, 10), (RX11, TX11, 8), (RX12, TX12, 33)]
